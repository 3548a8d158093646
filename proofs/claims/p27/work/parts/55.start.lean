/-! THE LAW, FROM ITS ENTRY -/
def mu0 : Mem := (fun _ => none, fun _ _ _ => 0, fun _ _ _ => none, fun _ _ => 0, fun _ _ => none, fun _ => [])
theorem own_T {μ : Mem} {G : Nat → Nat} {s : Sg} {a : Nat} (h : Rc μ G s) (ha : own μ G a) : μ.1 a ≠ none := by
  obtain ⟨q, clk, dm, ob, ru, rn, rs, nb, tr⟩ := s
  rcases ha with ⟨m, hm, rfl⟩ | ⟨t, n, h1, -⟩
  · obtain ⟨t, n, h1, -⟩ := csS_T h.1 hm
    rw [h1]
    intro e
    cases e
  · rw [h1]
    intro e
    cases e
theorem Rc_keep {μ μ' : Mem} {G : Nat → Nat} {s : Sg} (h : Rc μ G s) (e : ∀ a, μ.1 a ≠ none → sm μ μ' a) : Rc μ' G s := Rc_sm h (fun a ha => e a (own_T h ha))
theorem Rc_T {μ : Mem} {G : Nat → Nat} {s : Sg} (h : Rc μ G s) {m : Nat} (hm : m < 24) : μ.1 (G m) ≠ none := own_T h (Or.inl ⟨m, hm, rfl⟩)
theorem ne_T {μ : Mem} {a q : Nat} (h : μ.1 a ≠ none) (hq : μ.1 q = none) : a ≠ q := fun e => h (by rw [e]; exact hq)
theorem law_start {w : Wd} {x : Zc} {rt : Option FieldType} {nm : String} {Q : State → Prop} {b L : Nat} {xs : Nat → Int32} (C : Cx w x cL_law 14 RL rt room_1 nm) (S : cS w x b L xs) (fin : ∀ (μ : Mem) (k n : Nat) (ls : List (Nat × Value)), k ≤ 600130 → n ≤ 7301080 → Z w x Q 14 669 ls [] μ k n) : Z w x Q 14 0 [(0, .ref b)] [] mu0 0 0 := by
  refine z_new C 5 tyX5 dL_law_0 rfl rfl i5 tyX5_ok qC_L_9 qN_5 qI_5 (by decide) (by decide) (by decide) (fun g hg hgb => ?_)
  refine z_dup C dL_law_3 ?_
  refine z_lawI C (c_X5_init w _ g (u1_s _ _ _)) qM_L_52 dL_law_4 rfl (fun v μ1 h => ?_) (by decide) (by decide) (by decide)
  obtain ⟨rfl, G, hnew⟩ := h
  obtain ⟨nb, hnb, hR, hO⟩ := Rc_new hnew
  have hG0 : G 0 = g := hnew.1
  subst hG0
  refine z_astore_n C dL_law_7 ?_
  refine z_iconst C dL_law_8 ?_
  refine z_newI C 2 dL_law_9 rfl (by decide) qA_int (by decide) (by decide) (fun am ham hamb => ?_)
  refine z_astore_n C dL_law_11 ?_
  refine z_iconst C dL_law_12 ?_
  refine z_newI C 2 dL_law_13 rfl (by decide) qA_int (by decide) (by decide) (fun ar har harb => ?_)
  refine z_astore_n C dL_law_15 ?_
  refine z_iconst C dL_law_16 ?_
  refine z_istore C dL_law_17 ?_
  refine z_iconst C dL_law_19 ?_
  refine z_istore C dL_law_20 ?_
  have tam : (sN μ1 am (20, 2)).1 am = some (20, 2) := u1_s _ _ _
  have hne : am ≠ ar := ne_T (by rw [tam]; intro e; cases e) har
  have hR1 : Rc (sN μ1 am (20, 2)) G (s0 nb) := Rc_keep hR (fun a ha => sm_N (ne_T ha ham))
  have hR2 : Rc (sN (sN μ1 am (20, 2)) ar (20, 2)) G (s0 nb) := Rc_keep hR1 (fun a ha => sm_N (ne_T ha har))
  have hsm := sm_N (μ := sN μ1 am (20, 2)) (q := ar) (kd := (20, 2)) hne
  have hA : aS (sN (sN μ1 am (20, 2)) ar (20, 2)) G am ar (fun _ => 0) (fun _ => 0) := by
    refine ⟨⟨hsm.1.trans tam, fun m hm e => ?_⟩, ⟨u1_s _ _ _, fun m hm e => ?_⟩, hne, hsm.2.2.2.1.trans (u1_s _ _ _), u1_s _ _ _⟩
    · exact Rc_T hR hm (by rw [← e]; exact ham)
    · exact Rc_T hR1 hm (by rw [← e]; exact har)
  have hJ : lJ (fun _ => 0) (fun _ => 0) 0 ((0 : Nat) : Int) (s0 nb) := by
    refine ⟨hO, ⟨rfl, by decide⟩, fun j hj => ⟨⟨Int.le_refl _, (by decide : (0 : Int) ≤ 20), Int.le_refl _⟩, ⟨Int.le_refl _, (by decide : (0 : Int) ≤ 10), Int.le_refl _⟩⟩, fun j hj k hk => (List.not_mem_nil hk).elim, fun x hx => (List.not_mem_nil hx).elim⟩
  exact z_ls _ (by exact ⟨rfl, rfl, rfl, rfl, rfl, rfl, trivial⟩) (z_widen (by decide) (by decide) (law_loop C S fin 70 0 _ (s0 nb) _ _ 0 rfl hR2 hA hJ))
theorem law_fin {w : Wd} {p : Program} {e : Env} {s : State} {m : MethodId} {below : List Frame} {meth : Method} {c : Code} {b : Nat} {nm : String} (C : Cx w (p, e, room_1, s, m, #[Value.ref b], below, meth, c) cL_law 14 RL ret room_1 nm) (hwb : wb w = s.heap.size) (μ : Mem) (k n : Nat) (ls : List (Nat × Value)) (hk : k ≤ 600130) (hn : n ≤ 7301080) : Z w (p, e, room_1, s, m, #[Value.ref b], below, meth, c) (lw_Z below #[Value.ref b] s) 14 669 ls [] μ k n := by
  refine z_iconst C dL_law_669 ?_
  obtain ⟨hx, hb, hml, ho, hts, hlk, hw, hrt, hR, hnm, hsz, het⟩ := C
  intro H locs la hH hS hL hC
  refine va_forget (fun q hq => ?_) ?_
  · have h1 : wb w ≤ q.base := hS.2.2 q hq
    omega
  refine W.widen hk hn ?_
  exact lw_ret hx hb hrt hlk dL_law_670
/-- from the entry, for every script of at most 260 ints, the law comes to its end with true -/
theorem whole_start {p : Program} {e : Env} {s : State} {m : MethodId} {below : List Frame} {meth : Method} {c : Code} (l : Launch) (hflags : l.flags = flags0) {b L : Nat} {xs : Nat → Int32} (hL : L ≤ 260) (C0 : lw_At p s m meth c b L xs) : W p l e room_1 s m #[Value.ref b] below meth c s.heap [] 0 0 (lw_Z below #[Value.ref b] s) (entryFrame m ([Value.ref b] : List Value).toArray 14) := by
  obtain ⟨hx, hb, hr, hml, hown, hts, hX, hbl, hlocks, hgv⟩ := id C0
  obtain ⟨w, hwl, hwb, hw⟩ := wd_of l hflags hts hgv
  subst hwl
  have C : Cx w (p, e, room_1, s, m, #[Value.ref b], below, meth, c) cL_law 14 RL ret room_1 meth.name := ⟨hx, hb, hml, hown, fun q hq => hts q (List.mem_filter.mp hq).1, hlocks, hw, hr, rfl, rfl, by rw [hwb]; exact Nat.le_refl _, fun h => absurd rfl h⟩
  have S : cS w (p, e, room_1, s, m, #[Value.ref b], below, meth, c) b L xs := ⟨hX, hbl, by rw [hwb]; exact hbl, hL⟩
  have hl := lv_entry ([.ref b]) (n := 14) (Nat.le_of_ble_eq_true rfl)
  rw [lg_entry_eq]
  have hH : hHp w mu0 s.heap := ⟨by rw [hwb]; exact Nat.le_refl _, fun _ => (0, 0, fun _ => none, 0), (fun a kd h => by cases h), (fun a b n m h => by cases h)⟩
  have K := law_start C S (fun μ k n ls hk hn => law_fin C hwb μ k n ls hk hn)
  exact K s.heap [] _ hH va_S.rf hl (by simp [Value.category])
