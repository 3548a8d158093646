/-! constructors of an agent and of the object -/
theorem sR_s {μ : Mem} {c k a : Nat} {v : Option Nat} : (sR μ c k a v).2.2.1 c k a = v := by
  show u3 μ.2.2.1 c k a v c k a = v
  exact u3_s _ _ _ _ _
theorem sI_s {μ : Mem} {c k a : Nat} {v : Int} : (sI μ c k a v).2.1 c k a = v := by
  show u3 μ.2.1 c k a v c k a = v
  exact u3_s _ _ _ _ _
theorem sR_k {μ : Mem} {c k a : Nat} {v : Option Nat} (c' : Nat) {k' : Nat} (x : Nat) (h : k' ≠ k) : (sR μ c k a v).2.2.1 c' k' x = μ.2.2.1 c' k' x := by
  show u3 μ.2.2.1 c k a v c' k' x = _
  exact u3_k _ _ _ _ _ _ _ h
theorem sI_k {μ : Mem} {c k a : Nat} {v : Int} (c' : Nat) {k' : Nat} (x : Nat) (h : k' ≠ k) : (sI μ c k a v).2.1 c' k' x = μ.2.1 c' k' x := by
  show u3 μ.2.1 c k a v c' k' x = _
  exact u3_k _ _ _ _ _ _ _ h
theorem sR_c {μ : Mem} {c k a : Nat} {v : Option Nat} {c' : Nat} (k' x : Nat) (h : c' ≠ c) : (sR μ c k a v).2.2.1 c' k' x = μ.2.2.1 c' k' x := by
  show u3 μ.2.2.1 c k a v c' k' x = _
  exact u3_c _ _ _ _ _ _ _ h
theorem sI_c {μ : Mem} {c k a : Nat} {v : Int} {c' : Nat} (k' x : Nat) (h : c' ≠ c) : (sI μ c k a v).2.1 c' k' x = μ.2.1 c' k' x := by
  show u3 μ.2.1 c k a v c' k' x = _
  exact u3_c _ _ _ _ _ _ _ h
theorem mU_mU {μ : Mem} {a : Nat} {f g : Int → Int} : mU (mU μ a f) a g = mU μ a g := by
  show (_, _, _, u1 (u1 μ.2.2.2.1 a f) a g, _) = (_, _, _, _, _)
  rw [u1_u1]
theorem mU_s {μ : Mem} {a : Nat} {f : Int → Int} : (mU μ a f).2.2.2.1 a = f := by
  show u1 μ.2.2.2.1 a f a = f
  exact u1_s _ _ _
theorem sA_mU {μ : Mem} {a : Nat} {i v : Int} : sA μ a i v = mU μ a (uI (μ.2.2.2.1 a) i v) := by
  show (_, _, _, u2 μ.2.2.2.1 a i v, _) = (_, _, _, _, _)
  rw [show u2 μ.2.2.2.1 a i v = u1 μ.2.2.2.1 a (uI (μ.2.2.2.1 a) i v) by
    funext b
    by_cases hb : b = a
    · subst hb
      rw [u2_e, u1_s]
    · rw [u2_af _ _ _ hb, u1_n _ _ hb]]
theorem mU_self {μ : Mem} {a : Nat} : mU μ a (μ.2.2.2.1 a) = μ := by
  show (_, _, _, u1 μ.2.2.2.1 a (μ.2.2.2.1 a), _) = μ
  rw [show u1 μ.2.2.2.1 a (μ.2.2.2.1 a) = μ.2.2.2.1 by
    funext b
    by_cases hb : b = a
    · subst hb
      exact u1_s _ _ _
    · exact u1_n _ _ hb]
/-- at the address a nothing differs -/
def sm (μ μ' : Mem) (a : Nat) : Prop := μ'.1 a = μ.1 a ∧ (∀ c k, μ'.2.1 c k a = μ.2.1 c k a) ∧ (∀ c k, μ'.2.2.1 c k a = μ.2.2.1 c k a) ∧ μ'.2.2.2.1 a = μ.2.2.2.1 a ∧ μ'.2.2.2.2.1 a = μ.2.2.2.2.1 a ∧ μ'.2.2.2.2.2 a = μ.2.2.2.2.2 a
theorem sm_rf (μ : Mem) (a : Nat) : sm μ μ a := ⟨rfl, fun _ _ => rfl, fun _ _ => rfl, rfl, rfl, rfl⟩
theorem sm_tr {μ μ' μ2 : Mem} {a : Nat} (h : sm μ μ' a) (h2 : sm μ' μ2 a) : sm μ μ2 a := ⟨h2.1.trans h.1, fun c k => (h2.2.1 c k).trans (h.2.1 c k), fun c k => (h2.2.2.1 c k).trans (h.2.2.1 c k), h2.2.2.2.1.trans h.2.2.2.1, h2.2.2.2.2.1.trans h.2.2.2.2.1, h2.2.2.2.2.2.trans h.2.2.2.2.2⟩
theorem sm_N {μ : Mem} {q a : Nat} {kd : Nat × Nat} (h : a ≠ q) : sm μ (sN μ q kd) a := off_N a h
theorem sm_I {μ : Mem} {q c k a : Nat} {v : Int} (h : a ≠ q) : sm μ (sI μ c k q v) a := ⟨rfl, fun _ _ => u3_a _ _ _ _ _ h, fun _ _ => rfl, rfl, rfl, rfl⟩
theorem sm_R {μ : Mem} {q c k a : Nat} {v : Option Nat} (h : a ≠ q) : sm μ (sR μ c k q v) a := ⟨rfl, fun _ _ => rfl, fun _ _ => u3_a _ _ _ _ _ h, rfl, rfl, rfl⟩
theorem sm_A {μ : Mem} {q a : Nat} {i v : Int} (h : a ≠ q) : sm μ (sA μ q i v) a := ⟨rfl, fun _ _ => rfl, fun _ _ => rfl, u2_af _ _ _ h, rfl, rfl⟩
theorem sm_Q {μ : Mem} {q a : Nat} {i : Int} {v : Option Nat} (h : a ≠ q) : sm μ (sQ μ q i v) a := ⟨rfl, fun _ _ => rfl, fun _ _ => rfl, rfl, u2_af _ _ _ h, rfl⟩
theorem sm_L {μ : Mem} {q a : Nat} {l : List Nat} (h : a ≠ q) : sm μ (sL μ q l) a := ⟨rfl, fun _ _ => rfl, fun _ _ => rfl, rfl, rfl, u1_n _ _ h⟩
theorem sm_T {μ : Mem} {q a : Nat} {kd : Option (Nat × Nat)} (h : a ≠ q) : sm μ (sT μ q kd) a := ⟨u1_n _ _ h, fun _ _ => rfl, fun _ _ => rfl, rfl, rfl, rfl⟩
theorem sm_U {μ : Mem} {q a : Nat} {g : Int → Int} (h : a ≠ q) : sm μ (mU μ q g) a := ⟨rfl, fun _ _ => rfl, fun _ _ => rfl, u1_n _ _ h, rfl, rfl⟩
theorem ne_of_T {μ : Mem} {a q : Nat} {kd : Nat × Nat} (h : μ.1 a = some kd) (hq : μ.1 q = none) : a ≠ q := fun e => by rw [e, hq] at h; cases h
/-- a new list at q -/
abbrev nLs (μ : Mem) (q : Nat) : Mem := sT (sL (sN μ q (7, 0)) q []) q (some (24, 0))
theorem nLs_T (μ : Mem) (q : Nat) : (nLs μ q).1 q = some (24, 0) := u1_s _ _ _
theorem nLs_L (μ : Mem) (q : Nat) : (nLs μ q).2.2.2.2.2 q = [] := u1_s _ _ _
theorem sm_nLs {μ : Mem} {q a : Nat} (h : a ≠ q) : sm μ (nLs μ q) a := sm_tr (sm_N h) (sm_tr (sm_L h) (sm_T h))
/-- a new agent -/
def nwA (μ μ' : Mem) (A li rp ru ne : Nat) : Prop := agS μ' A li rp ru ne ∧ μ.1 li = none ∧ μ.1 rp = none ∧ μ.1 ru = none ∧ μ.1 ne = none ∧ li ≠ rp ∧ li ≠ ru ∧ li ≠ ne ∧ rp ≠ ru ∧ rp ≠ ne ∧ ru ≠ ne ∧ A ≠ li ∧ A ≠ rp ∧ A ≠ ru ∧ A ≠ ne ∧ (∀ a, a ≠ A → a ≠ li → a ≠ rp → a ≠ ru → a ≠ ne → sm μ μ' a) ∧ μ'.2.2.2.2.2 li = [] ∧ (∀ s, μ'.2.2.2.1 rp s = 0) ∧ (∀ s, μ'.2.2.2.1 ru s = 0) ∧ (∀ s, 0 ≤ s → s < 4 → μ'.2.2.2.1 ne s = -1) ∧ (∀ s, -1 ≤ μ'.2.2.2.1 ne s ∧ μ'.2.2.2.1 ne s ≤ 0) ∧ μ'.2.1 0 4 A = 0
theorem c_X0_init (w : Wd) (μ : Mem) (A : Nat) (hA : μ.1 A = some (0, 0)) : cM w yX0_init cX0_init 2 none 5 4 27 [.ref A] μ (fun v μ' => v = none ∧ ∃ li rp ru ne, nwA μ μ' A li rp ru ne) (fun _ _ => False) := by
  refine cM_of (fun x C => ?_)
  refine z_aload_n C dX0_init_0 rfl ?_
  refine z_objInit C qM_X0_3 qO_1 qO_2 dX0_init_1 ?_
  refine z_aload_n C dX0_init_4 rfl ?_
  refine z_new C 7 tyJx4a65c dX0_init_5 rfl rfl i7 tyJx4a65c_ok qC_X0_9 qN_7 qI_7 (by decide) (by decide) (by decide) (fun q hq hb => ?_)
  refine z_dup C dX0_init_8 ?_
  refine z_callI C (c_AL_init w (sN μ q (7, 0)) q (u1_s _ _ _) (u0_s _ _ _ _ _)) qM_X0_11 dX0_init_9 rfl ?_
  rintro v μ1 ⟨rfl, e1⟩
  have Aq := ne_of_T hA hq
  have T1 : μ1.1 A = some (0, 0) := by rw [e1, (sm_nLs Aq).1]; exact hA
  refine z_putq (v := some q) C qF_X0_12 qW_0_0 dX0_init_12 T1 ?_
  refine z_aload_n C dX0_init_15 rfl ?_
  refine z_bipush C dX0_init_16 ?_
  refine z_newI C 10 dX0_init_18 rfl (by decide) qA_int (by decide) (by decide) (fun r hr hb2 => ?_)
  have hr0 : μ1.1 r = none := hr
  have Ar := ne_of_T T1 hr0
  have T2 : (sN (sR μ1 0 0 A (some q)) r (20, 10)).1 A = some (0, 0) := by rw [(sm_N Ar).1]; exact T1
  refine z_putq (v := some r) C qF_X0_18 qW_0_1 dX0_init_20 T2 ?_
  refine z_aload_n C dX0_init_23 rfl ?_
  refine z_bipush C dX0_init_24 ?_
  refine z_newI C 10 dX0_init_26 rfl (by decide) qA_int (by decide) (by decide) (fun u hu hb3 => ?_)
  have hu0 : (sN (sR μ1 0 0 A (some q)) r (20, 10)).1 u = none := hu
  have Au := ne_of_T T2 hu0
  obtain ⟨μ2, e2⟩ : ∃ μ2, μ2 = sR (sN (sR μ1 0 0 A (some q)) r (20, 10)) 0 1 A (some r) := ⟨_, rfl⟩
  rw [← e2]
  have T3 : (sN μ2 u (20, 10)).1 A = some (0, 0) := by rw [(sm_N Au).1, e2]; exact T2
  refine z_putq (v := some u) C qF_X0_22 qW_0_2 dX0_init_28 T3 ?_
  refine z_aload_n C dX0_init_31 rfl ?_
  refine z_iconst C dX0_init_32 ?_
  refine z_newI C 4 dX0_init_33 rfl (by decide) qA_int (by decide) (by decide) (fun ne hn hb4 => ?_)
  have hn0 : (sN μ2 u (20, 10)).1 ne = none := hn
  have An := ne_of_T T3 hn0
  obtain ⟨μ3, e3⟩ : ∃ μ3, μ3 = sR (sN μ2 u (20, 10)) 0 2 A (some u) := ⟨_, rfl⟩
  rw [← e3]
  have T4 : (sN μ3 ne (20, 4)).1 A = some (0, 0) := by rw [(sm_N An).1, e3]; exact T3
  refine z_putq (v := some ne) C qF_X0_25 qW_0_3 dX0_init_35 T4 ?_
  obtain ⟨μ4, e4⟩ : ∃ μ4, μ4 = sR (sN μ3 ne (20, 4)) 0 3 A (some ne) := ⟨_, rfl⟩
  rw [← e4]
  have T5 : μ4.1 A = some (0, 0) := by rw [e4]; exact T4
  have N5 : μ4.1 ne = some (20, 4) := by rw [e4]; exact u1_s _ _ _
  have R5 : μ4.2.2.1 0 3 A = some ne := by rw [e4]; exact sR_s
  have q1 : μ1.1 q = some (24, 0) := by rw [e1]; exact nLs_T _ _
  have qr := ne_of_T q1 hr0
  have q2 : (sN (sR μ1 0 0 A (some q)) r (20, 10)).1 q = some (24, 0) := by rw [(sm_N qr).1]; exact q1
  have qu := ne_of_T q2 hu0
  have q3 : (sN μ2 u (20, 10)).1 q = some (24, 0) := by rw [(sm_N qu).1, e2]; exact q2
  have qn := ne_of_T q3 hn0
  have r2 : (sN (sR μ1 0 0 A (some q)) r (20, 10)).1 r = some (20, 10) := u1_s _ _ _
  have ru := ne_of_T r2 hu0
  have r3 : (sN μ2 u (20, 10)).1 r = some (20, 10) := by rw [(sm_N ru).1, e2]; exact r2
  have rn := ne_of_T r3 hn0
  have u3' : (sN μ2 u (20, 10)).1 u = some (20, 10) := u1_s _ _ _
  have un := ne_of_T u3' hn0
  have fr : ∀ b, b ≠ A → b ≠ q → b ≠ r → b ≠ u → b ≠ ne → sm μ μ4 b := by
    intro b bA bq br bu bn
    rw [e4]
    refine sm_tr (sm_tr ?_ (sm_N bn)) (sm_R bA)
    rw [e3]
    refine sm_tr (sm_tr ?_ (sm_N bu)) (sm_R bA)
    rw [e2]
    refine sm_tr (sm_tr (sm_tr ?_ (sm_R bA)) (sm_N br)) (sm_R bA)
    rw [e1]
    exact sm_nLs bq
  -- each new cell after all
  have sq : sm μ1 μ4 q := by
    rw [e4]
    refine sm_tr (sm_tr ?_ (sm_N qn)) (sm_R Aq.symm)
    rw [e3]
    refine sm_tr (sm_tr ?_ (sm_N qu)) (sm_R Aq.symm)
    rw [e2]
    exact sm_tr (sm_tr (sm_R Aq.symm) (sm_N qr)) (sm_R Aq.symm)
  have sr : sm (sN (sR μ1 0 0 A (some q)) r (20, 10)) μ4 r := by
    rw [e4]
    refine sm_tr (sm_tr ?_ (sm_N rn)) (sm_R Ar.symm)
    rw [e3]
    refine sm_tr (sm_tr ?_ (sm_N ru)) (sm_R Ar.symm)
    rw [e2]
    exact sm_R Ar.symm
  have su : sm (sN μ2 u (20, 10)) μ4 u := by
    rw [e4]
    refine sm_tr (sm_tr ?_ (sm_N un)) (sm_R Au.symm)
    rw [e3]
    exact sm_R Au.symm
  have hR0 : μ4.2.2.1 0 0 A = some q := by
    rw [e4, sR_k 0 A (by decide), (sm_N An).2.2.1, e3, sR_k 0 A (by decide), (sm_N Au).2.2.1, e2, sR_k 0 A (by decide), (sm_N Ar).2.2.1, sR_s]
  have hR1 : μ4.2.2.1 0 1 A = some r := by
    rw [e4, sR_k 0 A (by decide), (sm_N An).2.2.1, e3, sR_k 0 A (by decide), (sm_N Au).2.2.1, e2, sR_s]
  have hR2 : μ4.2.2.1 0 2 A = some u := by
    rw [e4, sR_k 0 A (by decide), (sm_N An).2.2.1, e3, sR_s]
  have hz4 : μ4.2.2.2.1 ne = fun _ => 0 := by rw [e4]; exact u1_s _ _ _
  have loop : ∀ (m i : Nat) (f : Int → Int), i + m = 4 → (∀ s, 0 ≤ s → s < (i : Int) → f s = -1) → (∀ s, -1 ≤ f s ∧ f s ≤ 0) → Z w x (zQ w x (fun v μ' => v = none ∧ ∃ li rp ru ne, nwA μ μ' A li rp ru ne) (fun _ _ => False) 4 27) 2 40 [(0, .ref A), (1, .int (J (i : Int)))] [] (mU μ4 ne f) 4 27 := by
    intro m
    induction m with
    | zero =>
      intro i f hi h1 h2
      refine z_iload_n C dX0_init_40 rfl ?_
      refine z_iconst C dX0_init_41 ?_
      refine z_icmp_ge (tgt := 58) C dX0_init_42 (by decide) (by omega) (fun g => ?_) (fun g => ?_)
      · refine z_aload_n C dX0_init_58 rfl ?_
        refine z_iconst C dX0_init_59 ?_
        refine z_puti C qF_X0_28 qW_0_4 dX0_init_60 T5 ?_
        have fin : ∀ b, b ≠ A → b ≠ ne → sm μ4 (sI (mU μ4 ne f) 0 4 A 0) b := fun b bA bn => sm_tr (sm_U bn) (sm_I bA)
        refine z_vret C dX0_init_63 ⟨rfl, q, r, u, ne, ⟨T5, hR0, hR1, hR2, R5, ?_, ?_, ?_, N5⟩, hq, ?_, ?_, ?_, qr, qu, qn, ru, rn, un, Aq, Ar, Au, An, ?_, ?_, ?_, ?_, ?_, ?_, ?_⟩
        · rw [(fin q Aq.symm qn).1, sq.1]; exact q1
        · rw [(fin r Ar.symm rn).1, sr.1]; exact r2
        · rw [(fin u Au.symm un).1, su.1]; exact u3'
        · rw [← hr0, e1, (sm_nLs qr.symm).1]
        · have := hu0
          rw [(sm_N ru.symm).1] at this
          rw [← this]
          show μ.1 u = μ1.1 u
          rw [e1, (sm_nLs qu.symm).1]
        · have := hn0
          rw [(sm_N un.symm).1, e2] at this
          rw [← this]
          show μ.1 ne = (sN (sR μ1 0 0 A (some q)) r (20, 10)).1 ne
          rw [(sm_N rn.symm).1]
          show μ.1 ne = μ1.1 ne
          rw [e1, (sm_nLs qn.symm).1]
        · exact fun b bA bq br bu bn => sm_tr (fr b bA bq br bu bn) (fin b bA bn)
        · rw [(fin q Aq.symm qn).2.2.2.2.2, sq.2.2.2.2.2, e1]; exact nLs_L _ _
        · intro s
          rw [(fin r Ar.symm rn).2.2.2.1, sr.2.2.2.1]
          exact congrFun (u1_s _ _ _) s
        · intro s
          rw [(fin u Au.symm un).2.2.2.1, su.2.2.2.1]
          exact congrFun (u1_s _ _ _) s
        · intro s s1 s2
          show u1 _ ne f ne s = -1
          rw [u1_s]
          exact h1 s s1 (by omega)
        · intro s
          show -1 ≤ u1 _ ne f ne s ∧ u1 _ ne f ne s ≤ 0
          rw [u1_s]
          exact h2 s
        · exact sI_s
      · omega
    | succ m ih =>
      intro i f hi h1 h2
      refine z_iload_n C dX0_init_40 rfl ?_
      refine z_iconst C dX0_init_41 ?_
      refine z_icmp_ge (tgt := 58) C dX0_init_42 (by decide) (by omega) (fun g => ?_) (fun g => ?_)
      · omega
      · refine z_aload_n C dX0_init_45 rfl ?_
        refine z_getr C ne qF_X0_25 dX0_init_46 T5 R5 ?_
        refine z_iload_n C dX0_init_49 rfl ?_
        refine z_iconst C dX0_init_50 ?_
        refine z_iastore C dX0_init_51 N5 (by omega) ?_
        refine z_iinc C dX0_init_52 rfl ?_
        refine z_goto (tgt := 40) C dX0_init_55 (by decide) ?_
        have e5 : sA (mU μ4 ne f) ne (i : Int) (-1) = mU μ4 ne (uI f (i : Int) (-1)) := by rw [sA_mU, mU_s, mU_mU]
        rw [e5]
        refine z_ls _ (by exact ⟨rfl, rfl, trivial⟩) (ih (i + 1) _ (by omega) (fun s s1 s2 => ?_) (fun s => ?_))
        · by_cases hs : s = (i : Int)
          · subst hs
            exact uI_s _ _ _
          · rw [uI_n _ _ hs]
            exact h1 s s1 (by omega)
        · by_cases hs : s = (i : Int)
          · subst hs
            rw [uI_s]
            decide
          · rw [uI_n _ _ hs]
            exact h2 s
  refine z_iconst C dX0_init_38 ?_
  refine z_istore_n C dX0_init_39 ?_
  have K := loop 4 0 (fun _ => 0) rfl (fun s a b => by omega) (fun s => by decide)
  rw [← hz4, mU_self] at K
  exact K
