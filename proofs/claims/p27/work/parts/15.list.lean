/-! lists: opened (the ArrayList's own cell and its array lie in the memory) and closed -/
abbrev oA (w : Wd) (μ : Mem) (a : Nat) (m : Int) : Mem := (u1 μ.1 a (some (7, 0)), u3 (u3 μ.2.1 7 0 a m) 7 2 a 0, u3 μ.2.2.1 7 1 a (some (wE w)), μ.2.2.2)
abbrev oB (μ : Mem) (a ed cap : Nat) (g : Nat → Option Nat) (m l : Int) : Mem := (u1 (u1 μ.1 a (some (7, 0))) ed (some (25, cap)), u3 (u3 μ.2.1 7 0 a m) 7 2 a l, u3 μ.2.2.1 7 1 a (some ed), μ.2.2.2.1, u1 μ.2.2.2.2.1 ed (fun i => g i.toNat), μ.2.2.2.2.2)
theorem zfs7 (FI : Nat → Nat → Nat → Int) (FR : Nat → Nat → Nat → Option Nat) (a : Nat) : zfs FI FR 7 a = [.int (J (FI 7 0 a)), va_rf (FR 7 1 a), .int (J (FI 7 2 a))] := rfl
theorem hHp_openA {w : Wd} {μ : Mem} {H : Heap} {a n0 : Nat} (h : hHp w μ H) (hT : μ.1 a = some (24, n0)) : (μ.2.2.2.2.2 a = [] ∧ ∃ m, hHp w (oA w μ a m) H) ∨ ∃ (ed cap : Nat) (g : Nat → Option Nat) (m : Int), μ.1 ed = none ∧ ed ≠ a ∧ wb w ≤ ed ∧ (μ.2.2.2.2.2 a).length ≤ cap ∧ 1 ≤ cap ∧ cap ≤ 100000 ∧ (∀ i, i < (μ.2.2.2.2.2 a).length → g i = (μ.2.2.2.2.2 a)[i]?) ∧ hHp w (oB μ a ed cap g m ((μ.2.2.2.2.2 a).length : Int)) H := by
  obtain ⟨hb, hid, hA, hI⟩ := h
  obtain ⟨ha1, -, ha3⟩ := hA a _ hT
  obtain ⟨z1, z2⟩ := ha3 rfl
  have hother : ∀ b : Nat, b ≠ a → ∀ kb, μ.1 b = some kb → ∀ FI' FR' AR', (∀ c k, FI' c k b = μ.2.1 c k b) → (∀ c k, FR' c k b = μ.2.2.1 c k b) → AR' b = μ.2.2.2.2.1 b → ∀ T', zent w (T', FI', FR', μ.2.2.2.1, AR', μ.2.2.2.2.2) b kb = zent w μ b kb := fun b hba kb _ FI' FR' AR' e1 e2 e3 T' => zent_congr kb e1 e2 rfl e3
  rcases z2 with ⟨y1, y2⟩ | ⟨y1, y2, y3, y4, y5, y6, y7⟩
  · refine Or.inl ⟨y2, (hid a).2.2.2, hb, hid, fun b kb hTb => ?_, fun b c n m h1 h2 => ?_⟩
    · by_cases hba : b = a
      · subst hba
        have e : (oA w μ b (hid b).2.2.2).1 b = some (7, 0) := u1_s _ _ _
        cases hTb.symm.trans e
        refine ⟨ha1, fun _ => ?_, fun h24 => absurd h24 (by decide)⟩
        show va_at (wD w) zCl (b, .inr (7, zfs _ _ 7 b)) H
        rw [zfs7]
        dsimp only [oA]
        rw [u3_k _ _ _ _ _ _ _ (by decide : (0 : Nat) ≠ 2), u3_s, u3_s, u3_s]
        rw [y1, y2] at z1
        exact z1
      · have hTb' : μ.1 b = some kb := by rw [← u1_n μ.1 (some (7, 0)) hba]; exact hTb
        obtain ⟨g1, g2, g3⟩ := hA b kb hTb'
        refine ⟨g1, fun h24 => ?_, fun h24 => ?_⟩
        · have e := zent_congr (w := w) (μ := μ) (μ' := oA w μ a (hid a).2.2.2) (b := b) kb (fun c k => by show u3 (u3 μ.2.1 7 0 a _) 7 2 a 0 c k b = _; rw [u3_a _ _ _ _ _ hba, u3_a _ _ _ _ _ hba]) (fun c k => by show u3 μ.2.2.1 7 1 a _ c k b = _; rw [u3_a _ _ _ _ _ hba]) rfl rfl
          rw [e]
          exact g2 h24
        · obtain ⟨x1, x2⟩ := g3 h24
          refine ⟨x1, ?_⟩
          rcases x2 with x2 | ⟨v1, v2, v3⟩
          · exact Or.inl x2
          · refine Or.inr ⟨v1, ?_, v3⟩
            show u1 μ.1 a (some (7, 0)) (hid b).1 = none
            rw [u1_n _ _ (fun e => by rw [e, hT] at v2; cases v2)]
            exact v2
    · by_cases hba : b = a
      · subst hba
        rw [show (oA w μ b (hid b).2.2.2).1 b = some (7, 0) from u1_s _ _ _] at h1
        cases h1
      · by_cases hca : c = a
        · subst hca
          rw [show (oA w μ c (hid c).2.2.2).1 c = some (7, 0) from u1_s _ _ _] at h2
          cases h2
        · exact hI b c n m (by rw [← u1_n μ.1 (some (7, 0)) hba]; exact h1) (by rw [← u1_n μ.1 (some (7, 0)) hca]; exact h2)
  · have hea : (hid a).1 ≠ a := fun e => by rw [e, hT] at y2; cases y2
    have hTo : ∀ b : Nat, b ≠ a → b ≠ (hid a).1 → (oB μ a (hid a).1 (hid a).2.1 (hid a).2.2.1 (hid a).2.2.2 ((μ.2.2.2.2.2 a).length : Int)).1 b = μ.1 b := fun b h1 h2 => by
      show u1 (u1 μ.1 a (some (7, 0))) (hid a).1 _ b = μ.1 b
      rw [u1_n _ _ h2, u1_n _ _ h1]
    have hTa : (oB μ a (hid a).1 (hid a).2.1 (hid a).2.2.1 (hid a).2.2.2 ((μ.2.2.2.2.2 a).length : Int)).1 a = some (7, 0) := by
      show u1 (u1 μ.1 a (some (7, 0))) (hid a).1 _ a = _
      rw [u1_n _ _ (fun e => hea e.symm), u1_s]
    have hTe : (oB μ a (hid a).1 (hid a).2.1 (hid a).2.2.1 (hid a).2.2.2 ((μ.2.2.2.2.2 a).length : Int)).1 (hid a).1 = some (25, (hid a).2.1) := u1_s _ _ _
    refine Or.inr ⟨(hid a).1, (hid a).2.1, (hid a).2.2.1, (hid a).2.2.2, y2, hea, y1, y4, y5, y6, y7, hb, hid, fun b kb hTb => ?_, fun b c n m h1 h2 => ?_⟩
    · by_cases hba : b = a
      · subst hba
        cases hTb.symm.trans hTa
        refine ⟨ha1, fun _ => ?_, fun h24 => absurd h24 (by decide)⟩
        show va_at (wD w) zCl (b, .inr (7, zfs _ _ 7 b)) H
        rw [zfs7]
        dsimp only [oB]
        rw [u3_k _ _ _ _ _ _ _ (by decide : (0 : Nat) ≠ 2), u3_s, u3_s, u3_s]
        exact z1
      · by_cases hbe : b = (hid a).1
        · subst hbe
          cases hTb.symm.trans hTe
          refine ⟨y1, fun _ => ?_, fun h24 => ?_⟩
          · show va_at (wD w) zCl ((hid a).1, .inl (wA w 25, (hid a).2.1, zar _ _ 25 (hid a).1)) H
            rw [zar_q (Or.inr rfl)]
            dsimp only [oB]
            rw [u1_s]
            exact y3
          · cases h24
        · have hTb' : μ.1 b = some kb := by rw [← hTo b hba hbe]; exact hTb
          obtain ⟨g1, g2, g3⟩ := hA b kb hTb'
          refine ⟨g1, fun h24 => ?_, fun h24 => ?_⟩
          · have e := zent_congr (w := w) (μ := μ) (μ' := oB μ a (hid a).1 (hid a).2.1 (hid a).2.2.1 (hid a).2.2.2 ((μ.2.2.2.2.2 a).length : Int)) (b := b) kb (fun c k => by show u3 (u3 μ.2.1 7 0 a _) 7 2 a _ c k b = _; rw [u3_a _ _ _ _ _ hba, u3_a _ _ _ _ _ hba]) (fun c k => by show u3 μ.2.2.1 7 1 a _ c k b = _; rw [u3_a _ _ _ _ _ hba]) rfl (by show u1 μ.2.2.2.2.1 _ _ b = _; rw [u1_n _ _ hbe])
            rw [e]
            exact g2 h24
          · obtain ⟨kn, rfl⟩ : ∃ kn, kb = (24, kn) := ⟨kb.2, by rw [← h24]⟩
            obtain ⟨x1, x2⟩ := g3 rfl
            refine ⟨x1, ?_⟩
            rcases x2 with x2 | ⟨v1, v2, v3⟩
            · exact Or.inl x2
            · refine Or.inr ⟨v1, ?_, v3⟩
              rw [hTo _ (fun e => by rw [e, hT] at v2; cases v2) (fun e => hba (hI b a _ _ hTb' hT e v1))]
              exact v2
    · have hno : ∀ b n, (oB μ a (hid a).1 (hid a).2.1 (hid a).2.2.1 (hid a).2.2.2 ((μ.2.2.2.2.2 a).length : Int)).1 b = some (24, n) → μ.1 b = some (24, n) := fun b n h => by
        by_cases hba : b = a
        · subst hba
          rw [hTa] at h
          cases h
        · by_cases hbe : b = (hid a).1
          · subst hbe
            rw [hTe] at h
            cases h
          · rw [← hTo b hba hbe]
            exact h
      exact hI b c n m (hno b n h1) (hno c m h2)
/-- an opened list is closed again -/
theorem hHp_close {w : Wd} {μo μ : Mem} {H : Heap} {a ed cap n0 : Nat} (h : hHp w μo H) (hE : wE w < wb w) (hT : μ.1 a = some (24, n0)) (ha : μo.1 a = some (7, 0)) (hT1 : ∀ b kb, b ≠ a → μ.1 b = some kb → μo.1 b = some kb) (hr : μo.2.2.1 7 1 a = some ed) (hl : μo.2.1 7 2 a = ((μ.2.2.2.2.2 a).length : Int))
    (hc : (ed = wE w ∧ μ.2.2.2.2.2 a = []) ∨ (μo.1 ed = some (25, cap) ∧ μ.1 ed = none ∧ (μ.2.2.2.2.2 a).length ≤ cap ∧ 1 ≤ cap ∧ cap ≤ 100000 ∧ ∀ i : Nat, i < (μ.2.2.2.2.2 a).length → μo.2.2.2.2.1 ed (i : Int) = (μ.2.2.2.2.2 a)[i]?))
    (e1 : ∀ b kb, b ≠ a → μ.1 b = some kb → (∀ c k, μ.2.1 c k b = μo.2.1 c k b) ∧ (∀ c k, μ.2.2.1 c k b = μo.2.2.1 c k b) ∧ μ.2.2.2.1 b = μo.2.2.2.1 b ∧ μ.2.2.2.2.1 b = μo.2.2.2.2.1 b ∧ μ.2.2.2.2.2 b = μo.2.2.2.2.2 b) : hHp w μ H := by
  obtain ⟨hb, hid, hA, hI⟩ := h
  obtain ⟨ha1, ha2, -⟩ := hA a _ ha
  have hobj := ha2 (by decide)
  have hnone : ∀ b, μo.1 b = none → μ.1 b = none := fun b hb0 => by
    cases hq : μ.1 b with
    | none => rfl
    | some kb =>
      by_cases hba : b = a
      · subst hba
        rw [ha] at hb0
        cases hb0
      · rw [hT1 b kb hba hq] at hb0
        cases hb0
  refine ⟨hb, u1 hid a (ed, cap, fun i => μo.2.2.2.2.1 ed (i : Int), μo.2.1 7 0 a), fun b kb hTb => ?_, fun b c n m h1 h2 h3 h4 => ?_⟩
  · by_cases hba : b = a
    · subst hba
      cases hTb.symm.trans hT
      refine ⟨ha1, fun h24 => absurd rfl h24, fun _ => ?_⟩
      rw [u1_s]
      refine ⟨?_, ?_⟩
      · have h9 : va_at (wD w) zCl (b, .inr (7, zfs μo.2.1 μo.2.2.1 7 b)) H := hobj
        rw [zfs7, show μo.2.2.1 7 1 b = some ed from hr, show μo.2.1 7 2 b = _ from hl] at h9
        exact h9
      · rcases hc with hc | ⟨c1, c2, c3, c4, c5, c6⟩
        · exact Or.inl hc
        · obtain ⟨d1, d2, -⟩ := hA ed _ c1
          refine Or.inr ⟨d1, c2, ?_, c3, c4, c5, c6⟩
          have h9 : va_at (wD w) zCl (ed, .inl (wA w 25, cap, zar μo.2.2.2.1 μo.2.2.2.2.1 25 ed)) H := d2 (by show (25 : Nat) ≠ 24; decide)
          rw [zar_q (Or.inr rfl)] at h9
          exact h9
    · have hTo := hT1 b kb hba hTb
      obtain ⟨g1, g2, g3⟩ := hA b kb hTo
      obtain ⟨q1, q2, q3, q4, q5⟩ := e1 b kb hba hTb
      refine ⟨g1, fun h24 => ?_, fun h24 => ?_⟩
      · rw [zent_congr (μ := μo) kb q1 q2 q3 q4]
        exact g2 h24
      · rw [u1_n _ _ hba]
        obtain ⟨x1, x2⟩ := g3 h24
        rw [show μ.2.2.2.2.2 b = μo.2.2.2.2.2 b from q5]
        refine ⟨x1, ?_⟩
        rcases x2 with x2 | ⟨v1, v2, v3⟩
        · exact Or.inl x2
        · exact Or.inr ⟨v1, hnone _ v2, v3⟩
  · have key : ∀ b n, b ≠ a → μ.1 b = some (24, n) → (hid b).1 = ed → wb w ≤ ed → False := fun b n hba hTb he hw => by
      have hTo := hT1 b _ hba hTb
      obtain ⟨-, -, g3⟩ := hA b _ hTo
      obtain ⟨-, x2⟩ := g3 rfl
      rcases x2 with ⟨x2, -⟩ | ⟨v1, v2, -⟩
      · rw [he] at x2
        omega
      · rw [he] at v2
        rcases hc with ⟨hc, -⟩ | ⟨c1, -⟩
        · omega
        · rw [c1] at v2
          cases v2
    by_cases hba : b = a
    · by_cases hca : c = a
      · rw [hba, hca]
      · subst hba
        rw [u1_s, u1_n _ _ hca] at h3
        rw [u1_s] at h4
        exact (key c m hca h2 h3.symm h4).elim
    · by_cases hca : c = a
      · subst hca
        rw [u1_s, u1_n _ _ hba] at h3
        rw [u1_n _ _ hba] at h4
        exact (key b n hba h1 h3 (by rw [← show (hid b).1 = ed from h3]; exact h4)).elim
      · rw [u1_n _ _ hba, u1_n _ _ hca] at h3
        rw [u1_n _ _ hba] at h4
        exact hI b c n m (hT1 b _ hba h1) (hT1 c _ hca h2) h3 h4
section ZL
variable {w : Wd} {x : Zc} {Q : State → Prop} {cc : ByteArray} {nL pc : Nat} {own : String} {rt : Option FieldType} {rm : Room} {nm : String} {ls : List (Nat × Value)} {st : List Value} {μ : Mem} {k n : Nat}
theorem z_open {a n0 : Nat} (hT : μ.1 a = some (24, n0)) (kA : μ.2.2.2.2.2 a = [] → ∀ m, Z w x Q nL pc ls st (oA w μ a m) k n)
    (kB : ∀ (ed cap : Nat) (g : Nat → Option Nat) (m : Int), μ.1 ed = none → ed ≠ a → wb w ≤ ed → (μ.2.2.2.2.2 a).length ≤ cap → 1 ≤ cap → cap ≤ 100000 → (∀ i, i < (μ.2.2.2.2.2 a).length → g i = (μ.2.2.2.2.2 a)[i]?) → Z w x Q nL pc ls st (oB μ a ed cap g m ((μ.2.2.2.2.2 a).length : Int)) k n) : Z w x Q nL pc ls st μ k n := by
  obtain ⟨p, e, R, s, m, args, below, meth, c⟩ := x
  intro H locs la hH hS hL hC
  rcases hHp_openA hH hT with ⟨h1, m, h2⟩ | ⟨ed, cap, g, m, h1, h2, h3, h4, h5, h6, h7, h8⟩
  · exact kA h1 m H locs la h2 hS hL hC
  · exact kB ed cap g m h1 h2 h3 h4 h5 h6 h7 H locs la h8 hS hL hC
theorem z_close (C : Cx w x cc nL own rt rm nm) {a n0 : Nat} (μ' : Mem) (ed cap : Nat) (hT : μ'.1 a = some (24, n0)) (ha : μ.1 a = some (7, 0)) (hT1 : ∀ b kb, b ≠ a → μ'.1 b = some kb → μ.1 b = some kb) (hr : μ.2.2.1 7 1 a = some ed) (hl : μ.2.1 7 2 a = ((μ'.2.2.2.2.2 a).length : Int))
    (hc : (ed = wE w ∧ μ'.2.2.2.2.2 a = []) ∨ (μ.1 ed = some (25, cap) ∧ μ'.1 ed = none ∧ (μ'.2.2.2.2.2 a).length ≤ cap ∧ 1 ≤ cap ∧ cap ≤ 100000 ∧ ∀ i : Nat, i < (μ'.2.2.2.2.2 a).length → μ.2.2.2.2.1 ed (i : Int) = (μ'.2.2.2.2.2 a)[i]?))
    (e1 : ∀ b kb, b ≠ a → μ'.1 b = some kb → (∀ c k, μ'.2.1 c k b = μ.2.1 c k b) ∧ (∀ c k, μ'.2.2.1 c k b = μ.2.2.1 c k b) ∧ μ'.2.2.2.1 b = μ.2.2.2.1 b ∧ μ'.2.2.2.2.1 b = μ.2.2.2.2.1 b ∧ μ'.2.2.2.2.2 b = μ.2.2.2.2.2 b) (kk : Z w x Q nL pc ls st μ' k n) : Z w x Q nL pc ls st μ k n := by
  obtain ⟨p, e, R, s, m, args, below, meth, c⟩ := x
  obtain ⟨hx, hb, hml, ho, hts, hlk, hw, hrt, hR, hnm, hsz, het⟩ := C
  intro H locs la hH hS hL hC
  exact kk H locs la (hHp_close hH hw.2.2.2.2.2.2.1.2 hT ha hT1 hr hl hc e1) hS hL hC
end ZL
