/-! both side by side in one memory -/
/-- the class's cells at G and the reference's at M are apart -/
def apart (G M : Nat → Nat) : Prop := ∀ m, m < 24 → G m ≠ M 0 ∧ ∀ k, mA k = true → G m ≠ M k
theorem Rc_Fm {μ μ' : Mem} {G M : Nat → Nat} {s : Sg} (h : Rc μ G s) (hd : apart G M) (hm : mdS μ M) (hF : Fm μ μ' M) : Rc μ' G s := by
  refine Rc_sm h (fun a ha => hF.2 a ?_ (fun k hk => ?_))
  · rcases ha with ⟨m, h1, rfl⟩ | ⟨t, n, h1, h2, h3⟩
    · exact (hd m h1).1
    · intro e
      rw [e, hm.1] at h1
      cases h1
      omega
  · rcases ha with ⟨m, h1, rfl⟩ | ⟨t, n, h1, h2, h3⟩
    · exact (hd m h1).2 k hk
    · intro e
      rw [e, (hm.2.1 k hk).1] at h1
      have h6 := (Prod.mk.inj (Option.some.inj h1)).1
      split at h6 <;> omega
theorem Rm_md {μ : Mem} {M : Nat → Nat} {t : Int} {s : Sg} (h : Rm μ M t s) : mdS μ M := by
  obtain ⟨q, clk, dm, ob, ru, rn, rs, nb, tr⟩ := s
  obtain ⟨A, hm, -⟩ := h
  exact hm.1
theorem Rm_Fc {μ μ' : Mem} {G M : Nat → Nat} {t : Int} {s : Sg} (h : Rm μ M t s) (hd : apart G M) (hF : Fc μ μ' G) : Rm μ' M t s := by
  have hmd := Rm_md h
  have o0 : oth μ G (M 0) := ⟨⟨6, 0, hmd.1, by decide⟩, fun m hm e => (hd m hm).1 e.symm⟩
  have ok : ∀ k, mA k = true → oth μ G (M k) := fun k hk => ⟨⟨_, _, (hmd.2.1 k hk).1, by split <;> decide⟩, fun m hm e => (hd m hm).2 k hk e.symm⟩
  have s0' := hF _ o0
  have sk := fun k hk => hF _ (ok k hk)
  obtain ⟨q, clk, dm, ob, ru, rn, rs, nb, tr⟩ := s
  obtain ⟨A, ⟨h1, h2, h3, h4, h5, h6⟩, hr⟩ := h
  exact ⟨A, ⟨⟨s0'.1.trans h1.1, fun k hk => ⟨(sk k hk).1.trans (h1.2.1 k hk).1, (s0'.2.2.1 6 k).trans (h1.2.1 k hk).2⟩, h1.2.2⟩, (s0'.2.1 6 0).trans h2, (s0'.2.1 6 1).trans h3, (s0'.2.1 6 2).trans h4, (s0'.2.1 6 18).trans h5, fun k hk => (sk k hk).2.2.2.1.trans (h6 k hk)⟩, hr⟩
