/-! the law's loop -/
section LOOP
variable {w : Wd} {x : Zc} {rt : Option FieldType} {nm : String} {Q : State → Prop} {b L : Nat} {xs : Nat → Int32} {G M : Nat → Nat} {o : Nat}
theorem law_loop (C : Cx w x cL_law 7 RL rt room_1 nm) (S : cS w x b L xs) (fin : ∀ (μ : Mem) (k n : Nat) (ls : List (Nat × Value)), k ≤ 601024 → n ≤ 7293034 → Z w x Q 7 1457 ls [] μ k n) :
    ∀ (f j : Nat) (μ : Mem) (t : Int) (s : Sg), j + f = 513 → (j = 0 ∨ 4 * j ≤ L) → lI μ G M o t (j : Int) s → Z w x Q 7 23 (lc0 b (G 0) (M 0) o (4 * (j : Int))) [] μ (50 + 30 * j) (8000 + 1000 * j) := by
  have hL8 : L ≤ 2048 := by
    obtain ⟨p, e, R, s, m, args, below, meth, c⟩ := x
    exact S.2.2.2.2
  intro f
  induction f with
  | zero =>
    intro j μ t s hj hL hI
    omega
  | succ f ih =>
    intro j μ t s hj hL hI
    refine z_iload C dL_law_23 rfl ?_
    refine z_aload_n C dL_law_25 rfl ?_
    refine z_slen C S dL_law_26 ?_
    refine z_iconst C dL_law_27 ?_
    refine z_isub C dL_law_28 ?_
    refine z_icmp_gt (tgt := 1457) C dL_law_29 (by decide) ⟨⟨by omega, by omega⟩, by omega, by omega⟩ (fun _ => fin _ _ _ _ (by omega) (by omega)) (fun hle => ?_)
    have hi : 0 ≤ 4 * (j : Int) ∧ 4 * (j : Int) + 4 ≤ (L : Int) := ⟨by omega, by omega⟩
    have hN : (j : Int) + 1 ≤ 512 := by omega
    have hk : 50 + 30 * j + 30 ≤ 601024 := by omega
    have hn : 8000 + 1000 * j + 1000 ≤ 7293034 := by omega
    have next : ∀ μ' t' s', lI μ' G M o t' ((j : Int) + 1) s' → Z w x Q 7 1451 (lc0 b (G 0) (M 0) o (4 * (j : Int))) [] μ' (50 + 30 * j + 30) (8000 + 1000 * j + 1000) := by
      intro μ' t' s' hI'
      refine z_iinc C dL_law_1451 rfl ?_
      refine z_goto (tgt := 23) C dL_law_1454 (by decide) ?_
      have e1 : ((j + 1 : Nat) : Int) = (j : Int) + 1 := by omega
      have e2 : 4 * ((j : Int) + 1) = 4 * (j : Int) + 4 := by omega
      have K := ih (j + 1) μ' t' s' (by omega) (Or.inr (by omega)) (by rw [e1]; exact hI')
      rw [e1, e2, show 50 + 30 * (j + 1) = 50 + 30 * j + 30 from by omega, show 8000 + 1000 * (j + 1) = 8000 + 1000 * j + 1000 from by omega] at K
      exact z_ls _ (zsub_lc rfl rfl rfl rfl rfl) K
    refine z_aload_n C dL_law_32 rfl ?_
    refine z_iload C dL_law_33 rfl ?_
    refine z_sld C S dL_law_35 ⟨by omega, by omega⟩ ?_
    refine z_bipush C dL_law_36 ?_
    obtain ⟨c, hc⟩ : ∃ c : Int, c = sv xs (4 * (j : Int)) % ((2 ^ 5 : Nat) : Int) := ⟨_, rfl⟩
    refine z_iand C c (by rw [hc]; exact J_and _ 5 (by decide) (by decide)) dL_law_38 ?_
    have hc0 : 0 ≤ c ∧ c < 32 := by
      rw [hc]
      exact ⟨Int.emod_nonneg _ (by decide), Int.emod_lt_of_pos _ (by decide)⟩
    clear hc
    rcases (by omega : c = 0 ∨ c = 1 ∨ c = 2 ∨ c = 3 ∨ c = 4 ∨ c = 5 ∨ c = 6 ∨ c = 7 ∨ c = 8 ∨ c = 9 ∨ c = 10 ∨ c = 11 ∨ c = 12 ∨ c = 13 ∨ c = 14 ∨ c = 15 ∨ c = 16 ∨ c = 17 ∨ c = 18 ∨ c = 19 ∨ c = 20 ∨ c = 21 ∨ c = 22 ∨ c = 23 ∨ 23 < c) with rfl | rfl | rfl | rfl | rfl | rfl | rfl | rfl | rfl | rfl | rfl | rfl | rfl | rfl | rfl | rfl | rfl | rfl | rfl | rfl | rfl | rfl | rfl | rfl | h
    · exact z_tsIn (tgt := 148) C ⟨by omega, by omega⟩ dL_law_39 (by decide) (by decide) rfl (by decide) (l_write C S hI hi hN hk hn next)
    · exact z_tsIn (tgt := 204) C ⟨by omega, by omega⟩ dL_law_39 (by decide) (by decide) rfl (by decide) (l_wipe C S hI hi hN hk hn next)
    · exact z_tsIn (tgt := 217) C ⟨by omega, by omega⟩ dL_law_39 (by decide) (by decide) rfl (by decide) (l_numberAt C S hI hi hN hk hn next)
    · exact z_tsIn (tgt := 273) C ⟨by omega, by omega⟩ dL_law_39 (by decide) (by decide) rfl (by decide) (l_put C S hI hi hN hk hn next)
    · exact z_tsIn (tgt := 353) C ⟨by omega, by omega⟩ dL_law_39 (by decide) (by decide) rfl (by decide) (l_remove C S hI hi hN hk hn next)
    · exact z_tsIn (tgt := 409) C ⟨by omega, by omega⟩ dL_law_39 (by decide) (by decide) rfl (by decide) (l_change C S hI hi hN hk hn next)
    · exact z_tsIn (tgt := 477) C ⟨by omega, by omega⟩ dL_law_39 (by decide) (by decide) rfl (by decide) (l_get C S hI hi hN hk hn next)
    · exact z_tsIn (tgt := 533) C ⟨by omega, by omega⟩ dL_law_39 (by decide) (by decide) rfl (by decide) (l_next C S hI hi hN hk hn next)
    · exact z_tsIn (tgt := 589) C ⟨by omega, by omega⟩ dL_law_39 (by decide) (by decide) rfl (by decide) (l_bulk C S hI hi hN hk hn next)
    · exact z_tsIn (tgt := 657) C ⟨by omega, by omega⟩ dL_law_39 (by decide) (by decide) rfl (by decide) (l_nextBySorting C S hI hi hN hk hn next)
    · exact z_tsIn (tgt := 713) C ⟨by omega, by omega⟩ dL_law_39 (by decide) (by decide) rfl (by decide) (l_hide C S hI hi hN hk hn next)
    · exact z_tsIn (tgt := 781) C ⟨by omega, by omega⟩ dL_law_39 (by decide) (by decide) rfl (by decide) (l_seen C S hI hi hN hk hn next)
    · exact z_tsIn (tgt := 837) C ⟨by omega, by omega⟩ dL_law_39 (by decide) (by decide) rfl (by decide) (l_sample C S hI hi hN hk hn next)
    · exact z_tsIn (tgt := 893) C ⟨by omega, by omega⟩ dL_law_39 (by decide) (by decide) rfl (by decide) (l_rate C S hI hi hN hk hn next)
    · exact z_tsIn (tgt := 949) C ⟨by omega, by omega⟩ dL_law_39 (by decide) (by decide) rfl (by decide) (l_setMarks C S hI hi hN hk hn next)
    · exact z_tsIn (tgt := 1009) C ⟨by omega, by omega⟩ dL_law_39 (by decide) (by decide) rfl (by decide) (l_restart C S hI hi hN hk hn next)
    · exact z_tsIn (tgt := 1065) C ⟨by omega, by omega⟩ dL_law_39 (by decide) (by decide) rfl (by decide) (l_pass C S hI hi hN hk hn next)
    · exact z_tsIn (tgt := 1121) C ⟨by omega, by omega⟩ dL_law_39 (by decide) (by decide) rfl (by decide) (l_traps C S hI hi hN hk hn next)
    · exact z_tsIn (tgt := 1134) C ⟨by omega, by omega⟩ dL_law_39 (by decide) (by decide) rfl (by decide) (l_trapOf C S hI hi hN hk hn next)
    · exact z_tsIn (tgt := 1190) C ⟨by omega, by omega⟩ dL_law_39 (by decide) (by decide) rfl (by decide) (l_trapAt C S hI hi hN hk hn next)
    · exact z_tsIn (tgt := 1246) C ⟨by omega, by omega⟩ dL_law_39 (by decide) (by decide) rfl (by decide) (l_repeats C S hI hi hN hk hn next)
    · exact z_tsIn (tgt := 1302) C ⟨by omega, by omega⟩ dL_law_39 (by decide) (by decide) rfl (by decide) (l_setNeighbour C S hI hi hN hk hn next)
    · exact z_tsIn (tgt := 1382) C ⟨by omega, by omega⟩ dL_law_39 (by decide) (by decide) rfl (by decide) (l_reach C S hI hi hN hk hn next)
    · exact z_tsIn (tgt := 1438) C ⟨by omega, by omega⟩ dL_law_39 (by decide) (by decide) rfl (by decide) (l_halves C S hI hi hN hk hn next)
    · refine z_tsOut (tgt := 1451) C ⟨by omega, by omega⟩ dL_law_39 (Or.inr h) (by decide) ?_
      obtain ⟨h1, h2, h3, h4⟩ := hI
      exact z_widen (by omega) (by omega) (next _ _ _ ⟨h1, h2, okS_1 h3 hN, h4⟩)
end LOOP
