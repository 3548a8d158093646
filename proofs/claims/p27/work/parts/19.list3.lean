/-! lists that grow and shrink -/
theorem oY_growY {S : Nat} {w : Wd} {μ μo : Mem} {a ed cap q N : Nat} {l : List Nat} (h : oY w μ μo a l ed cap) (hc : cap = l.length) (hq : μo.1 q = none) (hN : cap < N ∧ N ≤ S ∧ S ≤ 1600) : oY w μ (sR (nG μo q N (uC (μo.2.2.2.2.1 ed) (fun _ => none) 0 0 cap)) 7 1 a (some q)) a l q N := by
  obtain ⟨g1, g2, g3, g4, g5, g6, g7, g8, g9, g10⟩ := h
  have hqa : a ≠ q := fun e => by rw [e, hq] at g2; cases g2
  have hag : ag μ (nG μo q N (uC (μo.2.2.2.2.1 ed) (fun _ => none) 0 0 cap)) a := fun b kb hb hT => by
    obtain ⟨h1, h2, h3, h4, h5, h6⟩ := g1 b kb hb hT
    have hbe : b ≠ q := fun e => by rw [e, hq] at h1; cases h1
    exact ⟨by show u1 μo.1 q _ b = _; rw [u1_n _ _ hbe]; exact h1, fun c k => by show u0 μo.2.1 q 0 c k b = _; rw [u0_n _ _ _ _ hbe]; exact h2 c k, fun c k => by show u0 μo.2.2.1 q none c k b = _; rw [u0_n _ _ _ _ hbe]; exact h3 c k, by show u1 μo.2.2.2.1 q _ b = _; rw [u1_n _ _ hbe]; exact h4, by show u1 μo.2.2.2.2.1 q _ b = _; rw [u1_n _ _ hbe]; exact h5, h6⟩
  refine ⟨ag_R hag, ?_, ?_, u3_s (u0 μo.2.2.1 q none) 7 1 a (some q), u1_s _ _ _, ag_none g1 g2 hq, by omega, by omega, by omega, fun i hi => ?_⟩
  · show u1 μo.1 q _ a = _
    rw [u1_n _ _ hqa]
    exact g2
  · show u0 μo.2.1 q 0 7 2 a = _
    rw [u0_n _ _ _ _ hqa]
    exact g3
  · show u1 μo.2.2.2.2.1 q _ q (i : Int) = _
    rw [u1_s]
    unfold uC
    rw [if_pos (by omega), Int.sub_zero, Int.zero_add]
    exact g10 i hi
theorem oZ_grow {w : Wd} {μ μo : Mem} {a q : Nat} {l : List Nat} (h : oZ w μ μo a l) (hq : μo.1 q = none) : oY w μ (sR (sN μo q (25, 10)) 7 1 a (some q)) a l q 10 := by
  obtain ⟨g1, g2, g3, g4, rfl⟩ := h
  have hqa : a ≠ q := fun e => by rw [e, hq] at g2; cases g2
  refine ⟨ag_R (ag_N g1 hq), ?_, ?_, u3_s (u0 μo.2.2.1 q none) 7 1 a (some q), u1_s _ _ _, ag_none g1 g2 hq, by decide, by decide, by decide, fun i hi => absurd hi (Nat.not_lt_zero _)⟩
  · show u1 μo.1 q _ a = _
    rw [u1_n _ _ hqa]
    exact g2
  · show u0 μo.2.1 q 0 7 2 a = _
    rw [u0_n _ _ _ _ hqa]
    exact g3
theorem oY_app {w : Wd} {μ μo : Mem} {a ed cap v : Nat} {l : List Nat} (h : oY w μ μo a l ed cap) (hc : l.length < cap) : oY w μ (sI (sQ μo ed (l.length : Int) (some v)) 7 2 a ((l.length : Int) + 1)) a (l ++ [v]) ed cap := by
  obtain ⟨g1, g2, g3, g4, g5, g6, g7, g8, g9, g10⟩ := h
  refine ⟨ag_I (ag_Q g1 g6), g2, ?_, g4, g5, g6, by simp; omega, g8, g9, fun i hi => ?_⟩
  · show u3 μo.2.1 7 2 a _ 7 2 a = _
    rw [u3_s]
    simp
  · show u2 μo.2.2.2.2.1 ed (l.length : Int) (some v) ed (i : Int) = _
    by_cases e : i = l.length
    · subst e
      rw [u2_s]
      simp
    · rw [u2_i _ _ _ _ (by omega)]
      have hi2 : i < l.length := by simp at hi; omega
      rw [List.getElem?_append_left hi2]
      exact g10 i hi2
theorem oY_mod {w : Wd} {μ μo : Mem} {a ed cap : Nat} {l : List Nat} {v : Int} (h : oY w μ μo a l ed cap) : oY w μ (sI μo 7 0 a v) a l ed cap := by
  obtain ⟨g1, g2, g3, g4, g5, g6, g7⟩ := h
  refine ⟨ag_I g1, g2, ?_, g4, g5, g6, g7⟩
  show u3 μo.2.1 7 0 a v 7 2 a = _
  rw [u3_k _ _ _ _ _ _ _ (by decide)]
  exact g3
theorem oZ_mod {w : Wd} {μ μo : Mem} {a : Nat} {l : List Nat} {v : Int} (h : oZ w μ μo a l) : oZ w μ (sI μo 7 0 a v) a l := by
  obtain ⟨g1, g2, g3, g4, g5⟩ := h
  refine ⟨ag_I g1, g2, ?_, g4, g5⟩
  show u3 μo.2.1 7 0 a v 7 2 a = _
  rw [u3_k _ _ _ _ _ _ _ (by decide)]
  exact g3
/-- the elements' class -/
def zAll (μ : Mem) (ci : Nat) (l : List Nat) : Prop := ∀ y ∈ l, ∃ n0, μ.1 y = some (ci, n0)
theorem zAll_o {μ μo : Mem} {a ci n0 : Nat} {l : List Nat} (h : zAll μ ci l) (hag : ag μ μo a) (hT : μ.1 a = some (24, n0)) (he : zEl ci) : zAll μo ci l := fun y hy => by
  obtain ⟨m, hm⟩ := h y hy
  refine ⟨m, (hag y _ (fun e => ?_) hm).1⟩
  rw [e, hT] at hm
  cases hm
  rcases he with h | h <;> cases h
theorem oY_el {w : Wd} {μ μo : Mem} {a ed cap ci n0 : Nat} {l : List Nat} (h : oY w μ μo a l ed cap) (hA : zAll μ ci l) (hT : μ.1 a = some (24, n0)) (he : zEl ci) : ∀ j : Int, 0 ≤ j → j < (l.length : Int) → ∀ y, μo.2.2.2.2.1 ed j = some y → ∃ n0, μo.1 y = some (ci, n0) := fun j h1 h2 y hy => by
  obtain ⟨k, rfl⟩ : ∃ k : Nat, j = (k : Int) := ⟨j.toNat, by omega⟩
  rw [h.2.2.2.2.2.2.2.2.2 k (by omega)] at hy
  exact zAll_o hA h.1 hT he y (List.mem_of_getElem? hy)
/-- grow() -/
theorem c_grow0Z (S : Nat) (hS : 10 ≤ S ∧ S ≤ 1600) (w : Wd) (μ : Mem) (a : Nat) (hT : μ.1 a = some (7, 0)) (hr : μ.2.2.1 7 1 a = some (wE w)) (hz : μ.2.1 7 2 a = 0) : cM w yJx4a65c_grow_d5877 cJx4a65c_grow_d5877 1 (some (.array (.object "java/lang/Object"))) 5 1 S [.ref a] μ (fun v μ' => ∃ q, μ.1 q = none ∧ wb w ≤ q ∧ v = some (.ref q) ∧ μ' = sR (sN μ q (25, 10)) 7 1 a (some q)) (fun _ _ => False) := by
  refine cM_of (fun x C => ?_)
  refine z_aload_n C dJx4a65c_grow_d5877_0 rfl ?_
  refine z_aload_n C dJx4a65c_grow_d5877_1 rfl ?_
  refine z_geti C qF_Jx4a65c_48 dJx4a65c_grow_d5877_2 (by assumption) ?_
  refine z_iconst C dJx4a65c_grow_d5877_5 ?_
  refine z_iadd C dJx4a65c_grow_d5877_6 ?_
  rw [show μ.2.1 7 2 a = _ from hz]
  refine z_callV C (c_growZ S (by omega) w μ a hT hr) qM_Jx4a65c_69 dJx4a65c_grow_d5877_7 rfl (zRc_o hT) (fun _ _ h => h.elim) ?_
  rintro v μ' ⟨q, hq, hb, rfl, rfl⟩
  exact z_aret C dJx4a65c_grow_d5877_10 ⟨q, hq, hb, rfl, rfl⟩
theorem c_grow0Y (S : Nat) (w : Wd) (μ : Mem) (a ed cap ci : Nat) (hT : μ.1 a = some (7, 0)) (hr : μ.2.2.1 7 1 a = some ed) (hT2 : μ.1 ed = some (25, cap)) (hz : μ.2.1 7 2 a = (cap : Int)) (hc : 1 ≤ cap ∧ cap + cap / 2 + 1 ≤ S ∧ S ≤ 1600) (he : zEl ci) (hel : ∀ j : Int, 0 ≤ j → j < (cap : Int) → ∀ y, μ.2.2.2.2.1 ed j = some y → ∃ n0, μ.1 y = some (ci, n0)) : cM w yJx4a65c_grow_d5877 cJx4a65c_grow_d5877 1 (some (.array (.object "java/lang/Object"))) 5 1 S [.ref a] μ (fun v μ' => ∃ q N, μ.1 q = none ∧ wb w ≤ q ∧ v = some (.ref q) ∧ cap < N ∧ N ≤ S ∧ μ' = sR (nG μ q N (uC (μ.2.2.2.2.1 ed) (fun _ => none) 0 0 cap)) 7 1 a (some q)) (fun _ _ => False) := by
  refine cM_of (fun x C => ?_)
  refine z_aload_n C dJx4a65c_grow_d5877_0 rfl ?_
  refine z_aload_n C dJx4a65c_grow_d5877_1 rfl ?_
  refine z_geti C qF_Jx4a65c_48 dJx4a65c_grow_d5877_2 (by assumption) ?_
  refine z_iconst C dJx4a65c_grow_d5877_5 ?_
  refine z_iadd C dJx4a65c_grow_d5877_6 ?_
  rw [show μ.2.1 7 2 a = _ from hz]
  refine z_callV C (c_growY S w μ a ed cap ci hT hr hT2 hc he hel) qM_Jx4a65c_69 dJx4a65c_grow_d5877_7 rfl (zRc_o hT) (fun _ _ h => h.elim) ?_
  rintro v μ' ⟨q, N, hq, hb, rfl, hN, hN2, rfl⟩
  exact z_aret C dJx4a65c_grow_d5877_10 ⟨q, N, hq, hb, rfl, hN, hN2, rfl⟩
/-- add(E, Object[], int): its end, room being there -/
theorem c_add3 (S : Nat) (w : Wd) (μ μo : Mem) (a v ci n0 n1 ed : Nat) (l : List Nat) (hT : μ.1 a = some (24, n0)) (hv : μ.1 v = some (ci, n1)) (he : zEl ci) (hA : zAll μ ci l) (hl : l.length + l.length / 2 + 10 ≤ S ∧ S ≤ 1600) (ho : (ed = wE w ∧ oZ w μ μo a l) ∨ ∃ cap, oY w μ μo a l ed cap) : cM w yJx4a65c_add_72be8 cJx4a65c_add_72be8 4 none 6 1 S [.ref a, .ref v, .ref ed, .int (J (l.length : Int))] μo (fun r μ' => r = none ∧ ∃ e2 c2, oY w μ μ' a (l ++ [v]) e2 c2) (fun _ _ => False) := by
  have hva : v ≠ a := fun e => by
    rw [e, hT] at hv
    cases hv
    rcases he with h | h <;> cases h
  refine cM_of (fun x C => ?_)
  have tail : ∀ (μ2 : Mem) (e2 c2 k n : Nat), oY w μ μ2 a l e2 c2 → l.length < c2 → k ≤ 1 → n ≤ S → Z w x (zQ w x (fun r μ' => r = none ∧ ∃ e2 c2, oY w μ μ' a (l ++ [v]) e2 c2) (fun _ _ => False) 1 S) 4 11 [(0, .ref a), (1, .ref v), (2, .ref e2), (3, .int (J (l.length : Int)))] [] μ2 k n := by
    intro μ2 e2 c2 k n h2 hc hk hn
    obtain ⟨g1, g2, g3, g4, g5, g6, g7, g8, g9, g10⟩ := id h2
    refine z_aload_n C dJx4a65c_add_72be8_11 rfl ?_
    refine z_iload_n C dJx4a65c_add_72be8_12 rfl ?_
    refine z_aload_n C dJx4a65c_add_72be8_13 rfl ?_
    refine z_aastore C dJx4a65c_add_72be8_14 g5 (by omega) he (g1 v _ hva hv).1 ?_
    have hT1 : (sQ μ2 e2 (l.length : Int) (some v)).1 a = some (7, 0) := g2
    refine z_aload_n C dJx4a65c_add_72be8_15 rfl ?_
    refine z_iload_n C dJx4a65c_add_72be8_16 rfl ?_
    refine z_iconst C dJx4a65c_add_72be8_17 ?_
    refine z_iadd C dJx4a65c_add_72be8_18 ?_
    refine z_puti C qF_Jx4a65c_48 qW_7_2 dJx4a65c_add_72be8_19 (by assumption) ?_
    exact z_vret C dJx4a65c_add_72be8_22 ⟨rfl, e2, c2, oY_app h2 hc⟩
  rcases ho with ⟨rfl, h⟩ | ⟨cap, h⟩
  · obtain ⟨g1, g2, g3, g4, g5⟩ := id h
    subst g5
    refine z_iload_n C dJx4a65c_add_72be8_0 rfl ?_
    refine z_aload_n C dJx4a65c_add_72be8_1 rfl ?_
    refine z_alenE C dJx4a65c_add_72be8_2 ?_
    refine z_icmp_ne (tgt := 11) C dJx4a65c_add_72be8_3 (by decide) (by omega) (fun g => ?_) (fun g => ?_)
    · exact absurd rfl g
    · refine z_aload_n C dJx4a65c_add_72be8_6 rfl ?_
      refine z_callV C (c_grow0Z S (by omega) w μo a g2 g4 g3) qM_Jx4a65c_129 dJx4a65c_add_72be8_7 rfl (zRc_o g2) (fun _ _ h => h.elim) ?_
      rintro r μ' ⟨q, hq, hb, rfl, rfl⟩
      refine z_astore_n C dJx4a65c_add_72be8_10 ?_
      exact tail _ q 10 _ _ (oZ_grow h hq) (by decide) (by decide) (by omega)
  · obtain ⟨g1, g2, g3, g4, g5, g6, g7, g8, g9, g10⟩ := id h
    refine z_iload_n C dJx4a65c_add_72be8_0 rfl ?_
    refine z_aload_n C dJx4a65c_add_72be8_1 rfl ?_
    refine z_alen C dJx4a65c_add_72be8_2 g5 (by omega) ?_
    refine z_icmp_ne (tgt := 11) C dJx4a65c_add_72be8_3 (by decide) (by omega) (fun g => ?_) (fun g => ?_)
    · exact tail μo ed cap 0 0 h (by omega) (by decide) (by omega)
    · have hc : cap = l.length := by omega
      refine z_aload_n C dJx4a65c_add_72be8_6 rfl ?_
      refine z_callV C (c_grow0Y S w μo a ed cap ci g2 g4 g5 (by rw [hc]; exact g3) (by omega) he (by rw [hc]; exact oY_el h hA hT he)) qM_Jx4a65c_129 dJx4a65c_add_72be8_7 rfl (zRc_o g2) (fun _ _ h => h.elim) ?_
      rintro r μ' ⟨q, N, hq, hb, rfl, hN, hN2, rfl⟩
      refine z_astore_n C dJx4a65c_add_72be8_10 ?_
      exact tail _ q N _ _ (oY_growY h hc hq ⟨hN, hN2, by omega⟩) (by omega) (by omega) (by omega)
theorem c_add (S : Nat) (w : Wd) (μ : Mem) (a v ci n0 n1 : Nat) (hT : μ.1 a = some (24, n0)) (hv : μ.1 v = some (ci, n1)) (he : zEl ci) (hA : zAll μ ci (μ.2.2.2.2.2 a)) (hl : (μ.2.2.2.2.2 a).length + (μ.2.2.2.2.2 a).length / 2 + 10 ≤ S ∧ S ≤ 1600) : cM w yJx4a65c_add_9ea2d cJx4a65c_add_9ea2d 2 (some .boolean) 7 1 S [.ref a, .ref v] μ (fun r μ' => r = some (.int (J 1)) ∧ μ' = sL μ a (μ.2.2.2.2.2 a ++ [v])) (fun _ _ => False) := by
  refine cM_of (fun x C => ?_)
  refine z_aload_n C dJx4a65c_add_9ea2d_0 rfl ?_
  refine z_dup C dJx4a65c_add_9ea2d_1 ?_
  refine z_openY hT (fun μo hl0 h => ?_) (fun μo ed cap h => ?_)
  · have hTa := h.2.1
    refine z_geti C qF_Jx4a65c_63 dJx4a65c_add_9ea2d_2 (by assumption) ?_
    refine z_iconst C dJx4a65c_add_9ea2d_5 ?_
    refine z_iadd C dJx4a65c_add_9ea2d_6 ?_
    refine z_puti C qF_Jx4a65c_63 qW_7_0 dJx4a65c_add_9ea2d_7 (by assumption) ?_
    obtain ⟨m, hm⟩ : ∃ m, m = μo.2.1 7 0 a + 1 := ⟨_, rfl⟩
    rw [← hm]
    have h2 := oZ_mod (v := m) h
    obtain ⟨μ2, hμ2⟩ : ∃ μ2, μ2 = sI μo 7 0 a m := ⟨_, rfl⟩
    rw [← hμ2] at h2 ⊢
    obtain ⟨g1, g2, g3, g4, g5⟩ := id h2
    refine z_aload_n C dJx4a65c_add_9ea2d_10 rfl ?_
    refine z_aload_n C dJx4a65c_add_9ea2d_11 rfl ?_
    refine z_aload_n C dJx4a65c_add_9ea2d_12 rfl ?_
    refine z_getr C _ qF_Jx4a65c_9 dJx4a65c_add_9ea2d_13 (by assumption) (by assumption) ?_
    refine z_aload_n C dJx4a65c_add_9ea2d_16 rfl ?_
    refine z_geti C qF_Jx4a65c_48 dJx4a65c_add_9ea2d_17 (by assumption) ?_
    rw [show μ2.2.1 7 2 a = _ from g3]
    refine z_callV C (c_add3 S w μ μ2 a v ci n0 n1 (wE w) [] hT hv he (by rw [hl0] at hA; exact hA) ⟨by simp; omega, by omega⟩ (Or.inl ⟨rfl, h2⟩)) qM_Jx4a65c_131 dJx4a65c_add_9ea2d_20 rfl (zRc_o g2) (fun _ _ h => h.elim) ?_
    rintro r μ' ⟨rfl, e2, c2, h3⟩
    refine z_iconst C dJx4a65c_add_9ea2d_23 ?_
    refine z_closeY C hT h3 ?_
    exact z_zret C dJx4a65c_add_9ea2d_24 (Or.inr rfl) ⟨rfl, by rw [hl0]⟩
  · have hTa := h.2.1
    refine z_geti C qF_Jx4a65c_63 dJx4a65c_add_9ea2d_2 (by assumption) ?_
    refine z_iconst C dJx4a65c_add_9ea2d_5 ?_
    refine z_iadd C dJx4a65c_add_9ea2d_6 ?_
    refine z_puti C qF_Jx4a65c_63 qW_7_0 dJx4a65c_add_9ea2d_7 (by assumption) ?_
    obtain ⟨m, hm⟩ : ∃ m, m = μo.2.1 7 0 a + 1 := ⟨_, rfl⟩
    rw [← hm]
    have h2 := oY_mod (v := m) h
    obtain ⟨μ2, hμ2⟩ : ∃ μ2, μ2 = sI μo 7 0 a m := ⟨_, rfl⟩
    rw [← hμ2] at h2 ⊢
    obtain ⟨g1, g2, g3, g4, g5, -⟩ := id h2
    refine z_aload_n C dJx4a65c_add_9ea2d_10 rfl ?_
    refine z_aload_n C dJx4a65c_add_9ea2d_11 rfl ?_
    refine z_aload_n C dJx4a65c_add_9ea2d_12 rfl ?_
    refine z_getr C _ qF_Jx4a65c_9 dJx4a65c_add_9ea2d_13 (by assumption) (by assumption) ?_
    refine z_aload_n C dJx4a65c_add_9ea2d_16 rfl ?_
    refine z_geti C qF_Jx4a65c_48 dJx4a65c_add_9ea2d_17 (by assumption) ?_
    rw [show μ2.2.1 7 2 a = _ from g3]
    refine z_callV C (c_add3 S w μ μ2 a v ci n0 n1 ed (μ.2.2.2.2.2 a) hT hv he hA hl (Or.inr ⟨cap, h2⟩)) qM_Jx4a65c_131 dJx4a65c_add_9ea2d_20 rfl (zRc_o g2) (fun _ _ h => h.elim) ?_
    rintro r μ' ⟨rfl, e2, c2, h3⟩
    refine z_iconst C dJx4a65c_add_9ea2d_23 ?_
    refine z_closeY C hT h3 ?_
    exact z_zret C dJx4a65c_add_9ea2d_24 (Or.inr rfl) ⟨rfl, rfl⟩
