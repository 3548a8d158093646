/-! THE LAW, FROM ITS ENTRY -/
def mu0 : Mem := (fun _ => none, fun _ _ _ => 0, fun _ _ _ => none, fun _ _ => 0, fun _ _ => none, fun _ => [])
theorem own_T {μ : Mem} {G : Nat → Nat} {s : Sg} {a : Nat} (h : Rc μ G s) (ha : own μ G a) : μ.1 a ≠ none := by
  obtain ⟨q, clk, dm, ob, ru, rn, rs, nb, tr⟩ := s
  rcases ha with ⟨m, hm, rfl⟩ | ⟨t, n, h1, -⟩
  · obtain ⟨t, n, h1, -⟩ := csS_T h.1 hm
    rw [h1]
    intro e
    cases e
  · rw [h1]
    intro e
    cases e
theorem Rc_keep {μ μ' : Mem} {G : Nat → Nat} {s : Sg} (h : Rc μ G s) (e : ∀ a, μ.1 a ≠ none → sm μ μ' a) : Rc μ' G s := Rc_sm h (fun a ha => e a (own_T h ha))
theorem Rc_T {μ : Mem} {G : Nat → Nat} {s : Sg} (h : Rc μ G s) {m : Nat} (hm : m < 24) : μ.1 (G m) ≠ none := own_T h (Or.inl ⟨m, hm, rfl⟩)
theorem ne_T {μ : Mem} {a q : Nat} (h : μ.1 a ≠ none) (hq : μ.1 q = none) : a ≠ q := fun e => h (by rw [e]; exact hq)
theorem law_start {w : Wd} {x : Zc} {rt : Option FieldType} {nm : String} {Q : State → Prop} {b L : Nat} {xs : Nat → Int32} (C : Cx w x cL_law 7 RL rt room_1 nm) (S : cS w x b L xs) (fin : ∀ (μ : Mem) (k n : Nat) (ls : List (Nat × Value)), k ≤ 601024 → n ≤ 7293034 → Z w x Q 7 1457 ls [] μ k n) : Z w x Q 7 0 [(0, .ref b)] [] mu0 0 0 := by
  refine z_new C 5 tyX5 dL_law_0 rfl rfl i5 tyX5_ok qC_L_8 qN_5 qI_5 (by decide) (by decide) (by decide) (fun g hg hgb => ?_)
  refine z_dup C dL_law_3 ?_
  refine z_lawI C (c_X5_init w _ g (u1_s _ _ _)) qM_L_82 dL_law_4 rfl (fun v μ1 h => ?_) (by decide) (by decide)
  obtain ⟨rfl, G, hnew⟩ := h
  obtain ⟨nb, hnb, hR, hO⟩ := Rc_new hnew
  have hG0 : G 0 = g := hnew.1
  subst hG0
  refine z_astore_n C dL_law_7 ?_
  refine z_new C 6 tyX6 dL_law_8 rfl rfl i6 tyX6_ok qC_L_83 qN_6 qI_6 (by decide) (by decide) (by decide) (fun gm hgm hgmb => ?_)
  refine z_dup C dL_law_11 ?_
  have hR1 : Rc (sN μ1 gm (6, 0)) G (s0 nb) := Rc_keep hR (fun a ha => sm_N (ne_T ha hgm))
  refine z_lawI C (c_X6_init w _ gm nb (u1_s _ _ _) (fun c => ?_) hnb) qM_L_85 dL_law_12 rfl (fun v μ2 h => ?_) (by decide) (by decide)
  · simp [sN, u0]
  obtain ⟨rfl, M, hM0, hRm, hsm, hMn⟩ := h
  subst hM0
  have hGm : ∀ m, m < 24 → G m ≠ M 0 := fun m hm => ne_T (Rc_T hR hm) hgm
  have hR2 : Rc μ2 G (s0 nb) := Rc_sm hR1 (fun a ha => hsm a (own_T hR1 ha) (fun e => ?_))
  · have hap : apart G M := fun m hm => ⟨hGm m hm, fun k hk => ne_T (Rc_T hR1 hm) (hMn k hk)⟩
    refine z_astore_n C dL_law_15 ?_
    refine z_iconst C dL_law_16 ?_
    refine z_newL C 1 dL_law_17 rfl (by decide) qA_long (by decide) (by decide) (fun o ho hob => ?_)
    refine z_astore_n C dL_law_19 ?_
    refine z_iconst C dL_law_20 ?_
    refine z_istore C dL_law_21 ?_
    have hmd := Rm_md hRm
    have hR3 : Rc (sN μ2 o (22, 1)) G (s0 nb) := Rc_keep hR2 (fun a ha => sm_N (ne_T ha ho))
    have hRm3 : Rm (sN μ2 o (22, 1)) M 0 (s0 nb) := Rm_Fc hRm hap (fun a ha => sm_N (ne_T (by obtain ⟨⟨t, n, h1, -⟩, -⟩ := ha; rw [h1]; intro e; cases e) ho))
    have hI : lI (sN μ2 o (22, 1)) G M o 0 ((0 : Nat) : Int) (s0 nb) := ⟨hR3, hRm3, hO, hap, ⟨u1_s _ _ _, fun m hm e => Rc_T hR2 hm (by rw [← e]; exact ho)⟩, ⟨(fun e => by rw [e, hmd.1] at ho; cases ho), (fun k hk e => by rw [e, (hmd.2.1 k hk).1] at ho; cases ho)⟩⟩
    exact z_ls _ (zsub_lc rfl rfl rfl rfl rfl) (z_widen (by decide) (by decide) (law_loop C S fin 513 0 _ 0 _ rfl (Or.inl rfl) hI))
  · rcases ha with ⟨m, hm, h1⟩ | ⟨t, n, h1, h2, h3⟩
    · exact hGm m hm (h1.symm.trans e)
    · rw [e] at h1
      have h4 : (sN μ1 (M 0) (6, 0)).1 (M 0) = some (6, 0) := u1_s _ _ _
      rw [h4] at h1
      cases h1
      omega
theorem law_fin {w : Wd} {p : Program} {e : Env} {s : State} {m : MethodId} {below : List Frame} {meth : Method} {c : Code} {b : Nat} {nm : String} (C : Cx w (p, e, room_1, s, m, #[Value.ref b], below, meth, c) cL_law 7 RL ret room_1 nm) (hwb : wb w = s.heap.size) (μ : Mem) (k n : Nat) (ls : List (Nat × Value)) (hk : k ≤ 601024) (hn : n ≤ 7293034) : Z w (p, e, room_1, s, m, #[Value.ref b], below, meth, c) (lw_Z below #[Value.ref b] s) 7 1457 ls [] μ k n := by
  refine z_iconst C dL_law_1457 ?_
  obtain ⟨hx, hb, hml, ho, hts, hlk, hw, hrt, hR, hnm, hsz, het⟩ := C
  intro H locs la hH hS hL hC
  refine va_forget (fun q hq => ?_) ?_
  · have h1 : wb w ≤ q.base := hS.2.2 q hq
    omega
  refine W.widen hk hn ?_
  exact lw_ret hx hb hrt hlk dL_law_1458
/-- from the entry, for every script of at most 2048 ints, the law comes to its end with true -/
theorem whole_start {p : Program} {e : Env} {s : State} {m : MethodId} {below : List Frame} {meth : Method} {c : Code} (l : Launch) (hflags : l.flags = flags0) {b L : Nat} {xs : Nat → Int32} (hL : L ≤ 2048) (C0 : lw_At p s m meth c b L xs) : W p l e room_1 s m #[Value.ref b] below meth c s.heap [] 0 0 (lw_Z below #[Value.ref b] s) (entryFrame m ([Value.ref b] : List Value).toArray 7) := by
  obtain ⟨hx, hb, hr, hml, hown, hts, hX, hbl, hlocks, hgv⟩ := id C0
  obtain ⟨w, hwl, hwb, hw⟩ := wd_of l hflags hts hgv
  have hnc : nC s := nC_of hgv
  subst hwl
  have C : Cx w (p, e, room_1, s, m, #[Value.ref b], below, meth, c) cL_law 7 RL ret room_1 meth.name := ⟨hx, hb, hml, hown, fun q hq => hts q (List.mem_filter.mp hq).1, hlocks, hw, hr, rfl, rfl, by rw [hwb]; exact Nat.le_refl _, fun h => absurd rfl h⟩
  have S : cS w (p, e, room_1, s, m, #[Value.ref b], below, meth, c) b L xs := ⟨hX, hbl, by rw [hwb]; exact hbl, hnc, hL⟩
  have hl := lv_entry ([.ref b]) (n := 7) (Nat.le_of_ble_eq_true rfl)
  rw [lg_entry_eq]
  have hH : hHp w mu0 s.heap := ⟨by rw [hwb]; exact Nat.le_refl _, fun _ => (0, 0, fun _ => none, 0), (fun a kd h => by cases h), (fun a b n m h => by cases h)⟩
  have K := law_start C S (fun μ k n ls hk hn => law_fin C hwb μ k n ls hk hn)
  exact K s.heap [] _ hH va_S.rf hl (by simp [Value.category])
