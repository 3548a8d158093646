/-! the reference's traps and marks -/
def liI : Option Nat → Int
  | none => -1
  | some i => (i : Int)
section MOJ
variable {N t : Int} {s : Sg} {M : Nat → Nat} {μ : Mem} {c p : Int} {A : Nat → Int → Int} {tr : List Trp}
theorem c_latestTrap (w : Wd) (a k : Int) (ha : inA a) (hk : okK k) (hTr : mTr A tr) (hT : okT N c tr) (hN : N ≤ 512) (hm : mS μ M t c p (tr.length : Int) A) : cM w yX6_latestTrap cX6_latestTrap 5 (some .int) 1 0 0 [.ref (M 0), .int (J a), .int (J (k11 k))] μ (fun r μ' => r = some (.int (J (liI (lst tr a k tr.length)))) ∧ μ' = μ) (fun _ _ => False) := by
  obtain ⟨a1, a2⟩ := ha
  have hki := k11_in hk
  have hlen := hT.1
  refine cM_of (fun x C => ?_)
  have loop : ∀ (m i : Nat), i + m = tr.length → Z w x (zQ w x (fun r μ' => r = some (.int (J (liI (lst tr a k tr.length)))) ∧ μ' = μ) (fun _ _ => False) 0 0) 5 5 [(0, .ref (M 0)), (1, .int (J a)), (2, .int (J (k11 k))), (3, .int (J (liI (lst tr a k i)))), (4, .int (J (i : Int)))] [] μ 0 0 := by
    intro m
    induction m with
    | zero =>
      intro i hi
      refine z_iload C dX6_latestTrap_5 rfl ?_
      refine z_aload_n C dX6_latestTrap_7 rfl ?_
      refine z_mg18 C hm qF_X6_107 dX6_latestTrap_8 ?_
      refine z_icmp_ge (tgt := 49) C dX6_latestTrap_11 (by decide) (by omega) (fun g => ?_) (fun g => ?_)
      · refine z_iload_n C dX6_latestTrap_49 rfl ?_
        exact z_iret C dX6_latestTrap_50 ⟨by rw [show i = tr.length by omega], rfl⟩
      · omega
    | succ m ih =>
      intro i hi
      obtain ⟨y, hy⟩ : ∃ y, tr[i]? = some y := ⟨_, List.getElem?_eq_getElem (by omega)⟩
      obtain ⟨y1, y2, y3, y4⟩ := hTr.1 i y hy
      obtain ⟨⟨z1, z2⟩, z3, z4, z5⟩ := hT.2 y (List.mem_of_getElem? hy)
      have z6 := k11_in z3
      have hs : lst tr a k (i + 1) = if y.1 = a ∧ y.2.1 = k then some i else lst tr a k i := by
        rw [lst, hy]
      have go : ∀ z : Int, z = liI (lst tr a k (i + 1)) → ∀ ls, zsub ls [(0, .ref (M 0)), (1, .int (J a)), (2, .int (J (k11 k))), (4, .int (J (i : Int)))] → Z w x (zQ w x (fun r μ' => r = some (.int (J (liI (lst tr a k tr.length)))) ∧ μ' = μ) (fun _ _ => False) 0 0) 5 42 ls [.int (J z)] μ 0 0 := by
        intro z hz ls hls
        subst hz
        refine z_ls _ hls ?_
        refine z_istore_n C dX6_latestTrap_42 ?_
        refine z_iinc C dX6_latestTrap_43 rfl ?_
        refine z_goto (tgt := 5) C dX6_latestTrap_46 (by decide) ?_
        exact z_ls _ (by exact ⟨rfl, rfl, rfl, rfl, rfl, trivial⟩) (ih (i + 1) (by omega))
      refine z_iload C dX6_latestTrap_5 rfl ?_
      refine z_aload_n C dX6_latestTrap_7 rfl ?_
      refine z_mg18 C hm qF_X6_107 dX6_latestTrap_8 ?_
      refine z_icmp_ge (tgt := 49) C dX6_latestTrap_11 (by decide) (by omega) (fun g => ?_) (fun g => ?_)
      · omega
      · refine z_aload_n C dX6_latestTrap_14 rfl ?_
        refine z_mgf C hm qF_X6_56 dX6_latestTrap_15 ?_
        refine z_iload C dX6_latestTrap_18 rfl ?_
        refine z_mld C hm dX6_latestTrap_20 (by simp only [mln]; omega) ?_
        rw [y1]
        refine z_iload_n C dX6_latestTrap_21 rfl ?_
        refine z_icmp_ne (tgt := 41) C dX6_latestTrap_22 (by decide) (by omega) (fun g2 => ?_) (fun g2 => ?_)
        · refine z_iload_n C dX6_latestTrap_41 rfl ?_
          exact go _ (by rw [hs, if_neg (fun e => g2 e.1)]) _ (by exact ⟨rfl, rfl, rfl, rfl, trivial⟩)
        · refine z_aload_n C dX6_latestTrap_25 rfl ?_
          refine z_mgf C hm qF_X6_59 dX6_latestTrap_26 ?_
          refine z_iload C dX6_latestTrap_29 rfl ?_
          refine z_mld C hm dX6_latestTrap_31 (by simp only [mln]; omega) ?_
          rw [y2]
          refine z_iload_n C dX6_latestTrap_32 rfl ?_
          refine z_icmp_ne (tgt := 41) C dX6_latestTrap_33 (by decide) (by omega) (fun g3 => ?_) (fun g3 => ?_)
          · refine z_iload_n C dX6_latestTrap_41 rfl ?_
            exact go _ (by rw [hs, if_neg (fun e => g3 (by rw [e.2]))]) _ (by exact ⟨rfl, rfl, rfl, rfl, trivial⟩)
          · refine z_iload C dX6_latestTrap_36 rfl ?_
            refine z_goto (tgt := 42) C dX6_latestTrap_38 (by decide) ?_
            exact go _ (by rw [hs, if_pos ⟨g2, (k11_inj z3 hk).mp g3⟩]; rfl) _ (by exact ⟨rfl, rfl, rfl, rfl, trivial⟩)
  refine z_iconst C dX6_latestTrap_0 ?_
  refine z_istore_n C dX6_latestTrap_1 ?_
  refine z_iconst C dX6_latestTrap_2 ?_
  refine z_istore C dX6_latestTrap_3 ?_
  exact z_ls _ (by exact ⟨rfl, rfl, rfl, rfl, rfl, trivial⟩) (loop tr.length 0 (by omega))
theorem lst_lt {tr : List Trp} {a k : Int} : ∀ {n i : Nat}, lst tr a k n = some i → i < n ∧ ∃ x, tr[i]? = some x
  | 0, _, h => by cases h
  | n + 1, i, h => by
    rw [lst] at h
    cases hx : tr[n]? with
    | none =>
      rw [hx] at h
      have h' := lst_lt (n := n) h
      exact ⟨by omega, h'.2⟩
    | some x =>
      rw [hx] at h
      have h' : (if x.1 = a ∧ x.2.1 = k then some n else lst tr a k n) = some i := h
      split at h'
      · cases h'
        exact ⟨by omega, x, hx⟩
      · have h2 := lst_lt h'
        exact ⟨by omega, h2.2⟩
/-- arrays other than the traps' are as they were -/
def noT (A A' : Nat → Int → Int) : Prop := ∀ k, k ≠ 19 → k ≠ 20 → k ≠ 21 → k ≠ 22 → A' k = A k
theorem u2_k {A : Nat → Int → Int} {k k' : Nat} {i v : Int} (h : k' ≠ k) : u2 A k i v k' = A k' := u2_af _ _ _ h
theorem c_sends (w : Wd) (a k : Int) (ha : inA a) (hk : okK k) (hTr : mTr A tr) (hT : okT N c tr) (hN : N + 1 ≤ 512) (hc : 0 ≤ c ∧ c ≤ 100000) (hm : mS μ M t c p (tr.length : Int) A) : cM w yX6_sends cX6_sends 4 none 2 0 0 [.ref (M 0), .int (J a), .int (J (k11 k))] μ (fun r μ' => r = none ∧ Fm μ μ' M ∧ ∃ A', mS μ' M t c p ((sndT c a k tr).length : Int) A' ∧ mTr A' (sndT c a k tr) ∧ noT A A') (fun _ _ => False) := by
  have hF := Fm_rf μ M
  have hlen := hT.1
  obtain ⟨P, hP⟩ : ∃ P, P = fun (r : Option Value) (μ' : Mem) => r = none ∧ Fm μ μ' M ∧ ∃ A', mS μ' M t c p ((sndT c a k tr).length : Int) A' ∧ mTr A' (sndT c a k tr) ∧ noT A A' := ⟨_, rfl⟩
  rw [← hP]
  refine cM_of (fun x C => ?_)
  refine z_aload_n C dX6_sends_0 rfl ?_
  refine z_iload_n C dX6_sends_1 rfl ?_
  refine z_iload_n C dX6_sends_2 rfl ?_
  refine z_callV C (c_latestTrap w a k ha hk hTr hT (by omega) hm) qM_X6_110 dX6_sends_3 rfl (zRc_o hm.1.1) (fun _ _ h => h.elim) ?_
  rintro v μ2 ⟨rfl, rfl⟩
  have app : sndT c a k tr = tr ++ [(a, k, c, 0)] → ∀ ls, zsub ls [(0, .ref (M 0)), (1, .int (J a)), (2, .int (J (k11 k)))] → Z w x (zQ w x P (fun _ _ => False) 0 0) 4 39 ls [] μ2 0 0 := by
    intro he ls hls
    refine z_ls _ hls ?_
    refine z_aload_n C dX6_sends_39 rfl ?_
    refine z_mgf C hm qF_X6_56 dX6_sends_40 ?_
    refine z_aload_n C dX6_sends_43 rfl ?_
    refine z_mg18 C hm qF_X6_107 dX6_sends_44 ?_
    refine z_iload_n C dX6_sends_47 rfl ?_
    refine z_mst C hm hF dX6_sends_48 (by simp only [mln]; omega) (fun μ hm hF => ?_)
    refine z_aload_n C dX6_sends_49 rfl ?_
    refine z_mgf C hm qF_X6_59 dX6_sends_50 ?_
    refine z_aload_n C dX6_sends_53 rfl ?_
    refine z_mg18 C hm qF_X6_107 dX6_sends_54 ?_
    refine z_iload_n C dX6_sends_57 rfl ?_
    refine z_mst C hm hF dX6_sends_58 (by simp only [mln]; omega) (fun μ hm hF => ?_)
    refine z_aload_n C dX6_sends_59 rfl ?_
    refine z_mgf C hm qF_X6_62 dX6_sends_60 ?_
    refine z_aload_n C dX6_sends_63 rfl ?_
    refine z_mg18 C hm qF_X6_107 dX6_sends_64 ?_
    refine z_aload_n C dX6_sends_67 rfl ?_
    refine z_mg1 C hm qF_X6_113 dX6_sends_68 ?_
    refine z_mst C hm hF dX6_sends_71 (by simp only [mln]; omega) (fun μ hm hF => ?_)
    refine z_aload_n C dX6_sends_72 rfl ?_
    refine z_dup C dX6_sends_73 ?_
    refine z_mg18 C hm qF_X6_107 dX6_sends_74 ?_
    refine z_iconst C dX6_sends_77 ?_
    refine z_iadd C dX6_sends_78 ?_
    refine z_mp18 C hm hF qF_X6_107 dX6_sends_79 (fun μ hm hF => ?_)
    refine z_vret C dX6_sends_82 ?_
    rw [hP, he]
    refine ⟨rfl, hF, _, by rw [List.length_append]; exact hm, ⟨fun i x hx => ?_, fun i hi => ?_⟩, fun k h1 h2 h3 h4 => ?_⟩
    · by_cases hil : i < tr.length
      · rw [List.getElem?_append_left hil] at hx
        obtain ⟨y1, y2, y3, y4⟩ := hTr.1 i x hx
        refine ⟨?_, ?_, ?_, ?_⟩
        · rw [u2_k (by decide), u2_k (by decide), u2_i _ _ _ _ (by omega)]
          exact y1
        · rw [u2_k (by decide), u2_i _ _ _ _ (by omega), u2_k (by decide)]
          exact y2
        · rw [u2_i _ _ _ _ (by omega), u2_k (by decide), u2_k (by decide)]
          exact y3
        · rw [u2_k (by decide), u2_k (by decide), u2_k (by decide)]
          exact y4
      · rw [List.getElem?_append_right (by omega)] at hx
        have hi0 : i = tr.length := by
          have := (List.getElem?_eq_some_iff.mp hx).1
          simp at this
          omega
        subst hi0
        rw [Nat.sub_self] at hx
        cases hx
        refine ⟨?_, ?_, ?_, ?_⟩
        · rw [u2_k (by decide), u2_k (by decide), u2_s]
        · rw [u2_k (by decide), u2_s]
        · rw [u2_s]
        · rw [u2_k (by decide), u2_k (by decide), u2_k (by decide)]
          exact hTr.2 _ (Nat.le_refl _)
    · rw [List.length_append] at hi
      rw [u2_k (by decide), u2_k (by decide), u2_k (by decide)]
      exact hTr.2 i (by omega)
    · rw [u2_k h3, u2_k h2, u2_k h1]
  cases hl : lst tr a k tr.length with
  | none =>
    refine z_istore_n C dX6_sends_6 ?_
    refine z_iload_n C dX6_sends_7 rfl ?_
    refine z_iconst C dX6_sends_8 ?_
    rw [show liI none = -1 from rfl]
    refine z_icmp_eq (tgt := 39) C dX6_sends_9 (by decide) (by omega) (fun g => ?_) (fun g => ?_)
    · refine app ?_ _ (by exact ⟨rfl, rfl, rfl, trivial⟩)
      unfold sndT
      rw [hl]
    · exact absurd rfl g
  | some i =>
    obtain ⟨l1, x0, hx⟩ := lst_lt hl
    obtain ⟨y1, y2, y3, y4⟩ := hTr.1 i x0 hx
    obtain ⟨z1, z2, z3, z4⟩ := hT.2 x0 (List.mem_of_getElem? hx)
    have hsn : sndT c a k tr = if c - x0.2.2.1 < 10 then tr.set i (x0.1, x0.2.1, x0.2.2.1, x0.2.2.2 + 1) else tr ++ [(a, k, c, 0)] := by
      unfold sndT
      rw [hl]
      show (match tr[i]? with | none => tr | some x => _) = _
      rw [hx]
    rw [show liI (some i) = (i : Int) from rfl]
    refine z_istore_n C dX6_sends_6 ?_
    refine z_iload_n C dX6_sends_7 rfl ?_
    refine z_iconst C dX6_sends_8 ?_
    refine z_icmp_eq (tgt := 39) C dX6_sends_9 (by decide) (by omega) (fun g => ?_) (fun g => ?_)
    · omega
    · refine z_aload_n C dX6_sends_12 rfl ?_
      refine z_mg1 C hm qF_X6_113 dX6_sends_13 ?_
      refine z_aload_n C dX6_sends_16 rfl ?_
      refine z_mgf C hm qF_X6_62 dX6_sends_17 ?_
      refine z_iload_n C dX6_sends_20 rfl ?_
      refine z_mld C hm dX6_sends_21 (by simp only [mln]; omega) ?_
      rw [y3]
      refine z_isub C dX6_sends_22 ?_
      refine z_bipush C dX6_sends_23 ?_
      refine z_icmp_ge (tgt := 39) C dX6_sends_25 (by decide) (by omega) (fun g2 => ?_) (fun g2 => ?_)
      · exact app (by rw [hsn, if_neg (by omega)]) _ (by exact ⟨rfl, rfl, rfl, trivial⟩)
      · refine z_aload_n C dX6_sends_28 rfl ?_
        refine z_mgf C hm qF_X6_65 dX6_sends_29 ?_
        refine z_iload_n C dX6_sends_32 rfl ?_
        refine z_dup2 C dX6_sends_33 ?_
        refine z_mld C hm dX6_sends_34 (by simp only [mln]; omega) ?_
        refine z_iconst C dX6_sends_35 ?_
        refine z_iadd C dX6_sends_36 ?_
        refine z_mst C hm hF dX6_sends_37 (by simp only [mln]; omega) (fun μ hm hF => ?_)
        refine z_vret C dX6_sends_38 ?_
        rw [hP, hsn, if_pos (by omega)]
        refine ⟨rfl, hF, _, by rw [List.length_set]; exact hm, ⟨fun i' x' hx' => ?_, fun i' hi' => ?_⟩, fun k h1 h2 h3 h4 => u2_k h4⟩
        · by_cases hii : i' = i
          · subst hii
            rw [List.getElem?_set, if_pos rfl, if_pos l1] at hx'
            cases hx'
            refine ⟨?_, ?_, ?_, ?_⟩
            · rw [u2_k (by decide)]; exact y1
            · rw [u2_k (by decide)]; exact y2
            · rw [u2_k (by decide)]; exact y3
            · rw [u2_s, y4]
          · rw [List.getElem?_set, if_neg (fun e => hii e.symm)] at hx'
            obtain ⟨v1, v2, v3, v4⟩ := hTr.1 i' x' hx'
            refine ⟨?_, ?_, ?_, ?_⟩
            · rw [u2_k (by decide)]; exact v1
            · rw [u2_k (by decide)]; exact v2
            · rw [u2_k (by decide)]; exact v3
            · rw [u2_i _ _ _ _ (by omega)]; exact v4
        · rw [List.length_set] at hi'
          rw [u2_i _ _ _ _ (by omega)]
          exact hTr.2 i' hi'
/-- a slot has a value now -/
theorem c_has (w : Wd) (j : Nat) (z v : Int) (k : Int) (o : Ob) (hj : j < 4) (hz : 0 ≤ z ∧ z < 80) (hv : 0 ≤ v ∧ v ≤ 999) (hk : okK k) (h4 : A 4 z = k11 k) (ho : mO A z o) (hok : okO N c o) (h9 : ∀ c, A 9 c = 0 ∨ A 9 c = 1) (hTr : mTr A tr) (hT : okT N c tr) (hN : N + 1 ≤ 512) (hc : 0 ≤ c ∧ c ≤ 100000) (hm : mS μ M t c p (tr.length : Int) A) : cM w yX6_has cX6_has 4 none 3 0 0 [.ref (M 0), .int (J (j : Int)), .int (J z), .int (J v)] μ (fun r μ' => r = none ∧ Fm μ μ' M ∧ ∃ A', mS μ' M t c p ((if frs o v = true then sndT c (j : Int) k tr else tr).length : Int) A' ∧ mTr A' (if frs o v = true then sndT c (j : Int) k tr else tr) ∧ mO A' z (hasO o v) ∧ (∀ c, A' 9 c = 0 ∨ A' 9 c = 1) ∧ (∀ i, i ≠ z → A' 6 i = A 6 i ∧ A' 9 i = A 9 i) ∧ ∀ k, k ≠ 6 → k ≠ 9 → k < 19 ∨ 22 < k → A' k = A k) (fun _ _ => False) := by
  have hF := Fm_rf μ M
  obtain ⟨o1, o2, o3, o4, o5, o6, o7⟩ := ho
  obtain ⟨P, hP⟩ : ∃ P, P = fun (r : Option Value) (μ' : Mem) => r = none ∧ Fm μ μ' M ∧ ∃ A', mS μ' M t c p ((if frs o v = true then sndT c (j : Int) k tr else tr).length : Int) A' ∧ mTr A' (if frs o v = true then sndT c (j : Int) k tr else tr) ∧ mO A' z (hasO o v) ∧ (∀ c, A' 9 c = 0 ∨ A' 9 c = 1) ∧ (∀ i, i ≠ z → A' 6 i = A 6 i ∧ A' 9 i = A 9 i) ∧ ∀ k, k ≠ 6 → k ≠ 9 → k < 19 ∨ 22 < k → A' k = A k := ⟨_, rfl⟩
  rw [← hP]
  -- the object's cells when the marks' state is ar2
  have mo : ∀ (B : Nat → Int → Int) (ar2 : Int), (∀ k, k ≠ 6 → k ≠ 9 → k < 19 ∨ 22 < k → B k = A k) → B 6 z = v → (∀ lo hi ar, o.2.2.1 = some (lo, hi, ar) → B 9 z = (if frs o v = true then 0 else if v ≤ lo then 1 else ar)) → mO B z (hasO o v) := by
    intro B ar2 hB h6 h9'
    refine ⟨?_, ?_, ?_, ?_, ?_, ?_, ?_⟩
    · rw [hB 5 (by decide) (by decide) (by decide)]; exact o1
    · exact h6
    · intro hn
      rw [hB 8 (by decide) (by decide) (by decide)]
      refine o3 ?_
      unfold hasO at hn
      cases h : o.2.2.1 with
      | none => rfl
      | some x => rw [h] at hn; cases hn
    · intro lo hi ar hh
      unfold hasO at hh
      cases h : o.2.2.1 with
      | none => rw [h] at hh; cases hh
      | some x =>
        obtain ⟨lo', hi', ar'⟩ := x
        rw [h] at hh
        cases hh
        obtain ⟨q1, q2, q3⟩ := o4 _ _ _ h
        exact ⟨by rw [hB 7 (by decide) (by decide) (by decide)]; exact q1, by rw [hB 8 (by decide) (by decide) (by decide)]; exact q2, h9' _ _ _ h⟩
    · rw [hB 10 (by decide) (by decide) (by decide)]; exact o5
    · intro e he
      rw [hB 11 (by decide) (by decide) (by decide), hB 12 (by decide) (by decide) (by decide), hB 13 (by decide) (by decide) (by decide)]
      exact o6 e he
    · intro e he
      rw [hB 11 (by decide) (by decide) (by decide), hB 12 (by decide) (by decide) (by decide), hB 13 (by decide) (by decide) (by decide)]
      exact o7 e he
  have trk : ∀ B : Nat → Int → Int, (∀ k, k ≠ 6 → k ≠ 9 → B k = A k) → mTr B tr := fun B hB => by
    refine ⟨fun i x hx => ?_, fun i hi => ?_⟩
    · rw [hB 19 (by decide) (by decide), hB 20 (by decide) (by decide), hB 21 (by decide) (by decide), hB 22 (by decide) (by decide)]
      exact hTr.1 i x hx
    · rw [hB 22 (by decide) (by decide)]
      exact hTr.2 i hi
  refine cM_of (fun x C => ?_)
  refine z_aload_n C dX6_has_0 rfl ?_
  refine z_mgf C hm qF_X6_19 dX6_has_1 ?_
  refine z_iload_n C dX6_has_4 rfl ?_
  refine z_iload_n C dX6_has_5 rfl ?_
  refine z_mst C hm hF dX6_has_6 (by simp only [mln]; omega) (fun μ hm hF => ?_)
  obtain ⟨A1, hA1⟩ : ∃ A1, A1 = u2 A 6 z v := ⟨_, rfl⟩
  rw [← hA1] at hm
  have k1 : ∀ k, k ≠ 6 → A1 k = A k := fun k hk => by rw [hA1]; exact u2_k hk
  have k2 : A1 6 z = v := by rw [hA1]; exact u2_s _ _ _ _
  have k3 : ∀ i, i ≠ z → A1 6 i = A 6 i := fun i hi => by rw [hA1]; exact u2_i _ _ _ _ hi
  have e8 : A1 8 z = A 8 z := by rw [k1 8 (by decide)]
  have e9 : A1 9 z = A 9 z := by rw [k1 9 (by decide)]
  have e7 : A1 7 z = A 7 z := by rw [k1 7 (by decide)]
  have h9z := h9 z
  -- the end without a trap, the marks' state being that of A1 or set
  have stay : frs o v = false → (∀ lo hi ar, o.2.2.1 = some (lo, hi, ar) → A 9 z = (if v ≤ lo then 1 else ar)) → ∀ ls, Z w x (zQ w x P (fun _ _ => False) 0 0) 4 91 ls [] μ 0 0 := by
    intro hf hh ls
    refine z_vret C dX6_has_91 ?_
    rw [hP, hf, if_neg (by decide)]
    refine ⟨rfl, hF, A1, hm, trk A1 (fun k a _ => k1 k a), mo A1 0 (fun k a _ _ => k1 k a) k2 (fun lo hi ar h => ?_), fun i => by rw [k1 9 (by decide)]; exact h9 i, fun i hi => ⟨k3 i hi, by rw [k1 9 (by decide)]⟩, fun k a _ _ => k1 k a⟩
    rw [e9, hf, if_neg (by decide)]
    exact hh lo hi ar h
  -- the second test, from 56 on
  have second : frs o v = false → ∀ ls, zsub ls [(0, .ref (M 0)), (2, .int (J z)), (3, .int (J v))] → Z w x (zQ w x P (fun _ _ => False) 0 0) 4 56 ls [] μ 0 0 := by
    intro hf ls hls
    refine z_ls _ hls ?_
    cases hmk : o.2.2.1 with
    | none =>
      have h8 := o3 hmk
      refine z_aload_n C dX6_has_56 rfl ?_
      refine z_mgf C hm qF_X6_25 dX6_has_57 ?_
      refine z_iload_n C dX6_has_60 rfl ?_
      refine z_mld C hm dX6_has_61 (by simp only [mln]; omega) ?_
      rw [e8, h8]
      refine z_if_le (tgt := 91) C dX6_has_62 (by decide) (by omega) (fun g => ?_) (fun g => ?_)
      · exact stay hf (fun lo hi ar h => by rw [hmk] at h; cases h) _
      · omega
    | some x0 =>
      obtain ⟨lo, hi, ar⟩ := x0
      obtain ⟨q1, q2, q3⟩ := o4 _ _ _ hmk
      have hb := hok.2.2.1 _ _ _ hmk
      refine z_aload_n C dX6_has_56 rfl ?_
      refine z_mgf C hm qF_X6_25 dX6_has_57 ?_
      refine z_iload_n C dX6_has_60 rfl ?_
      refine z_mld C hm dX6_has_61 (by simp only [mln]; omega) ?_
      rw [e8, q2]
      refine z_if_le (tgt := 91) C dX6_has_62 (by decide) (by omega) (fun g => ?_) (fun g => ?_)
      · omega
      · refine z_aload_n C dX6_has_65 rfl ?_
        refine z_mgf C hm qF_X6_28 dX6_has_66 ?_
        refine z_iload_n C dX6_has_69 rfl ?_
        refine z_mldb C hm dX6_has_70 (by simp only [mln]; omega) ?_
        rw [e9, q3]
        refine z_if_ne (tgt := 91) C dX6_has_71 (by decide) (by omega) (fun g2 => ?_) (fun g2 => ?_)
        · refine stay hf (fun lo' hi' ar' h => ?_) _
          rw [hmk] at h
          cases h
          rw [q3]
          split <;> omega
        · refine z_iload_n C dX6_has_74 rfl ?_
          refine z_aload_n C dX6_has_75 rfl ?_
          refine z_mgf C hm qF_X6_22 dX6_has_76 ?_
          refine z_iload_n C dX6_has_79 rfl ?_
          refine z_mld C hm dX6_has_80 (by simp only [mln]; omega) ?_
          rw [e7, q1]
          refine z_icmp_gt (tgt := 91) C dX6_has_81 (by decide) (by omega) (fun g3 => ?_) (fun g3 => ?_)
          · refine stay hf (fun lo' hi' ar' h => ?_) _
            rw [hmk] at h
            cases h
            rw [q3, if_neg (by omega)]
          · refine z_aload_n C dX6_has_84 rfl ?_
            refine z_mgf C hm qF_X6_28 dX6_has_85 ?_
            refine z_iload_n C dX6_has_88 rfl ?_
            refine z_iconst C dX6_has_89 ?_
            refine z_mstb C hm hF dX6_has_90 (by omega) (by simp only [mln]; omega) (fun μ hm hF => ?_)
            refine z_vret C dX6_has_91 ?_
            rw [hP, hf, if_neg (by decide)]
            refine ⟨rfl, hF, _, hm, trk _ (fun k a b => by rw [u2_k b]; exact k1 k a), mo _ 1 (fun k a b _ => by rw [u2_k b]; exact k1 k a) (by rw [u2_k (by decide)]; exact k2) (fun lo' hi' ar' h => ?_), fun i => ?_, fun i hi => ⟨by rw [u2_k (by decide)]; exact k3 i hi, by rw [u2_i _ _ _ _ hi, k1 9 (by decide)]⟩, fun k a b _ => by rw [u2_k b]; exact k1 k a⟩
            · rw [hmk] at h
              cases h
              rw [u2_s, hf, if_neg (by decide), if_pos g3]
            · by_cases hi : i = z
              · subst hi
                rw [u2_s]
                exact Or.inr rfl
              · rw [u2_i _ _ _ _ hi, k1 9 (by decide)]
                exact h9 i
  cases hmk : o.2.2.1 with
  | none =>
    have h8 := o3 hmk
    have hf : frs o v = false := by unfold frs; rw [hmk]
    refine z_aload_n C dX6_has_7 rfl ?_
    refine z_mgf C hm qF_X6_25 dX6_has_8 ?_
    refine z_iload_n C dX6_has_11 rfl ?_
    refine z_mld C hm dX6_has_12 (by simp only [mln]; omega) ?_
    rw [e8, h8]
    refine z_if_le (tgt := 56) C dX6_has_13 (by decide) (by omega) (fun g => ?_) (fun g => ?_)
    · exact second hf _ (by exact ⟨rfl, rfl, rfl, trivial⟩)
    · omega
  | some x0 =>
    obtain ⟨lo, hi, ar⟩ := x0
    obtain ⟨q1, q2, q3⟩ := o4 _ _ _ hmk
    have hb := hok.2.2.1 _ _ _ hmk
    have hf : frs o v = decide (ar ≠ 0 ∧ hi ≤ v) := by unfold frs; rw [hmk]
    refine z_aload_n C dX6_has_7 rfl ?_
    refine z_mgf C hm qF_X6_25 dX6_has_8 ?_
    refine z_iload_n C dX6_has_11 rfl ?_
    refine z_mld C hm dX6_has_12 (by simp only [mln]; omega) ?_
    rw [e8, q2]
    refine z_if_le (tgt := 56) C dX6_has_13 (by decide) (by omega) (fun g => ?_) (fun g => ?_)
    · omega
    · refine z_aload_n C dX6_has_16 rfl ?_
      refine z_mgf C hm qF_X6_28 dX6_has_17 ?_
      refine z_iload_n C dX6_has_20 rfl ?_
      refine z_mldb C hm dX6_has_21 (by simp only [mln]; omega) ?_
      rw [e9, q3]
      refine z_if_eq (tgt := 56) C dX6_has_22 (by decide) (by omega) (fun g2 => ?_) (fun g2 => ?_)
      · exact second (by rw [hf]; exact decide_eq_false (by omega)) _ (by exact ⟨rfl, rfl, rfl, trivial⟩)
      · refine z_iload_n C dX6_has_25 rfl ?_
        refine z_aload_n C dX6_has_26 rfl ?_
        refine z_mgf C hm qF_X6_25 dX6_has_27 ?_
        refine z_iload_n C dX6_has_30 rfl ?_
        refine z_mld C hm dX6_has_31 (by simp only [mln]; omega) ?_
        rw [e8, q2]
        refine z_icmp_lt (tgt := 56) C dX6_has_32 (by decide) (by omega) (fun g3 => ?_) (fun g3 => ?_)
        · exact second (by rw [hf]; exact decide_eq_false (by omega)) _ (by exact ⟨rfl, rfl, rfl, trivial⟩)
        · have hft : frs o v = true := by rw [hf]; exact decide_eq_true ⟨g2, g3⟩
          refine z_aload_n C dX6_has_35 rfl ?_
          refine z_mgf C hm qF_X6_28 dX6_has_36 ?_
          refine z_iload_n C dX6_has_39 rfl ?_
          refine z_iconst C dX6_has_40 ?_
          refine z_mstb C hm hF dX6_has_41 (by omega) (by simp only [mln]; omega) (fun μ hm hF => ?_)
          refine z_aload_n C dX6_has_42 rfl ?_
          refine z_iload_n C dX6_has_43 rfl ?_
          refine z_aload_n C dX6_has_44 rfl ?_
          refine z_mgf C hm qF_X6_13 dX6_has_45 ?_
          refine z_iload_n C dX6_has_48 rfl ?_
          refine z_mld C hm dX6_has_49 (by simp only [mln]; omega) ?_
          rw [u2_k (show (4 : Nat) ≠ 9 by decide), k1 4 (by decide), h4]
          have hT2 : mTr (u2 A1 9 z 0) tr := trk _ (fun k a b => by rw [u2_k b]; exact k1 k a)
          refine z_callV C (c_sends w (j : Int) k ⟨by omega, by omega⟩ hk hT2 hT hN hc hm) qM_X6_116 dX6_has_50 rfl (zRc_o hm.1.1) (fun _ _ h => h.elim) ?_
          rintro _ μ5 ⟨rfl, hF5, A5, hm5, hT5, hn5⟩
          refine z_goto (tgt := 91) C dX6_has_53 (by decide) ?_
          refine z_vret C dX6_has_91 ?_
          rw [hP, hft, if_pos rfl]
          have n5 : ∀ k, k < 19 ∨ 22 < k → A5 k = u2 A1 9 z 0 k := fun k hk => hn5 k (by omega) (by omega) (by omega) (by omega)
          refine ⟨rfl, Fm_tr hF hF5, A5, hm5, hT5, mo A5 0 (fun k a b h => by rw [n5 k h, u2_k b]; exact k1 k a) (by rw [n5 6 (by decide), u2_k (by decide)]; exact k2) (fun lo' hi' ar' h => ?_), fun i => ?_, fun i hi => ⟨by rw [n5 6 (by decide), u2_k (by decide)]; exact k3 i hi, by rw [n5 9 (by decide), u2_i _ _ _ _ hi, k1 9 (by decide)]⟩, fun k a b h => by rw [n5 k h, u2_k b]; exact k1 k a⟩
          · rw [n5 9 (by decide), u2_s, hft, if_pos rfl]
          · rw [n5 9 (by decide)]
            by_cases hi : i = z
            · subst hi
              rw [u2_s]
              exact Or.inl rfl
            · rw [u2_i _ _ _ _ hi, k1 9 (by decide)]
              exact h9 i
end MOJ
