/-! the cases of the law -/
theorem l_bulk {w : Wd} {x : Zc} {rt : Option FieldType} {nm : String} {μ : Mem} {k n : Nat} {Q : State → Prop} {b L : Nat} {xs : Nat → Int32} {G M : Nat → Nat} {o : Nat} {t N i : Int} {s : Sg}
    (C : Cx w x cL_law 7 RL rt room_1 nm) (S : cS w x b L xs) (hI : lI μ G M o t N s) (hi : 0 ≤ i ∧ i + 4 ≤ (L : Int)) (hN : N + 1 ≤ 512) (hk : k + 30 ≤ 601024) (hn : n + 1000 ≤ 7293034)
    (next : ∀ μ' t' s', lI μ' G M o t' (N + 1) s' → Z w x Q 7 1451 (lc0 b (G 0) (M 0) o i) [] μ' (k + 30) (n + 1000)) : Z w x Q 7 589 (lc0 b (G 0) (M 0) o i) [] μ k n := by
  obtain ⟨r, hr⟩ : ∃ r, r = spBulk (sv xs (i + 1)) (sv xs (i + 2)) s := ⟨_, rfl⟩
  have KH := h_bulk w μ G N s o (sv xs (i + 1)) (sv xs (i + 2)) hI.1 hI.2.2.1 hI.2.2.2.2.1 (sv_in _ _) (sv_in _ _)
  rw [← hr] at KH
  refine z_aload_n C dL_law_589 rfl ?_
  refine z_aload_n C dL_law_590 rfl ?_
  refine z_iload C dL_law_591 rfl ?_
  refine z_iconst C dL_law_593 ?_
  refine z_iadd C dL_law_594 ?_
  refine z_sld C S dL_law_595 ⟨by omega, by omega⟩ ?_
  refine z_aload_n C dL_law_596 rfl ?_
  refine z_iload C dL_law_597 rfl ?_
  refine z_iconst C dL_law_599 ?_
  refine z_iadd C dL_law_600 ?_
  refine z_sld C S dL_law_601 ⟨by omega, by omega⟩ ?_
  refine z_aload_n C dL_law_602 rfl ?_
  refine z_lawH C S KH qH_bulk dL_law_603 rfl (fun v μ1 h => ?_) (by omega) (by omega)
  obtain ⟨rfl, hR1, hF1, ho1, hr3, hA⟩ := h
  have KK : okS N r.2.2 := by
    rw [hr]
    exact kk_bulk hI.2.2.1 _ _
  have hM1 := Rm_Fh hI.2.1 hI.2.2.2.1 hI.2.2.2.2.2 hF1
  have KM := m_bulk w (sv xs (i + 1)) (sv xs (i + 2)) hM1 hI.2.2.1 (sv_in _ _) (sv_in _ _)
  rw [← hr] at KM
  refine z_istore C dL_law_606 ?_
  refine z_aload_n C dL_law_608 rfl ?_
  refine z_aload_n C dL_law_609 rfl ?_
  refine z_iload C dL_law_610 rfl ?_
  refine z_iconst C dL_law_612 ?_
  refine z_iadd C dL_law_613 ?_
  refine z_sld C S dL_law_614 ⟨by omega, by omega⟩ ?_
  refine z_aload_n C dL_law_615 rfl ?_
  refine z_iload C dL_law_616 rfl ?_
  refine z_iconst C dL_law_618 ?_
  refine z_iadd C dL_law_619 ?_
  refine z_sld C S dL_law_620 ⟨by omega, by omega⟩ ?_
  refine z_lawV C KM qM_L_122 dL_law_621 rfl (zRc_o (Rm_g0 hM1)) (fun v μ2 h => ?_) (by omega) (by omega)
  obtain ⟨⟨z, rfl, hz⟩, hR2, hF2⟩ := h
  refine z_istore C dL_law_624 ?_
  obtain ⟨hI2, e2⟩ := lI_step hI hR1 hF1 ho1 hR2 hF2 (okS_1 KK hN)
  exact law_tail C hI2 hz (by rw [e2]; exact hA) hr3 dL_law_626 dL_law_627 dL_law_630 dL_law_632 dL_law_637 dL_law_639 dL_law_642 dL_law_643 dL_law_644 dL_law_645 dL_law_647 dL_law_648 dL_law_649 dL_law_654 (by decide) (by omega) (by omega) (next _ _ _ hI2)
theorem l_nextBySorting {w : Wd} {x : Zc} {rt : Option FieldType} {nm : String} {μ : Mem} {k n : Nat} {Q : State → Prop} {b L : Nat} {xs : Nat → Int32} {G M : Nat → Nat} {o : Nat} {t N i : Int} {s : Sg}
    (C : Cx w x cL_law 7 RL rt room_1 nm) (S : cS w x b L xs) (hI : lI μ G M o t N s) (hi : 0 ≤ i ∧ i + 4 ≤ (L : Int)) (hN : N + 1 ≤ 512) (hk : k + 30 ≤ 601024) (hn : n + 1000 ≤ 7293034)
    (next : ∀ μ' t' s', lI μ' G M o t' (N + 1) s' → Z w x Q 7 1451 (lc0 b (G 0) (M 0) o i) [] μ' (k + 30) (n + 1000)) : Z w x Q 7 657 (lc0 b (G 0) (M 0) o i) [] μ k n := by
  obtain ⟨r, hr⟩ : ∃ r, r = spSort (sv xs (i + 1)) s := ⟨_, rfl⟩
  have KH := h_nextBySorting w μ G N s o (sv xs (i + 1)) hI.1 hI.2.2.1 hI.2.2.2.2.1 (sv_in _ _)
  rw [← hr] at KH
  refine z_aload_n C dL_law_657 rfl ?_
  refine z_aload_n C dL_law_658 rfl ?_
  refine z_iload C dL_law_659 rfl ?_
  refine z_iconst C dL_law_661 ?_
  refine z_iadd C dL_law_662 ?_
  refine z_sld C S dL_law_663 ⟨by omega, by omega⟩ ?_
  refine z_aload_n C dL_law_664 rfl ?_
  refine z_lawH C S KH qH_nextBySorting dL_law_665 rfl (fun v μ1 h => ?_) (by omega) (by omega)
  obtain ⟨rfl, hR1, hF1, ho1, hr3, hA⟩ := h
  have KK : okS N r.2.2 := by
    rw [hr]
    exact kk_sort hI.2.2.1 _
  have hM1 := Rm_Fh hI.2.1 hI.2.2.2.1 hI.2.2.2.2.2 hF1
  have KM := m_sort w (sv xs (i + 1)) hM1 hI.2.2.1 (sv_in _ _)
  rw [← hr] at KM
  refine z_istore C dL_law_668 ?_
  refine z_aload_n C dL_law_670 rfl ?_
  refine z_aload_n C dL_law_671 rfl ?_
  refine z_iload C dL_law_672 rfl ?_
  refine z_iconst C dL_law_674 ?_
  refine z_iadd C dL_law_675 ?_
  refine z_sld C S dL_law_676 ⟨by omega, by omega⟩ ?_
  refine z_lawV C KM qM_L_125 dL_law_677 rfl (zRc_o (Rm_g0 hM1)) (fun v μ2 h => ?_) (by omega) (by omega)
  obtain ⟨⟨z, rfl, hz⟩, hR2, hF2⟩ := h
  refine z_istore C dL_law_680 ?_
  obtain ⟨hI2, e2⟩ := lI_step hI hR1 hF1 ho1 hR2 hF2 (okS_1 KK hN)
  exact law_tail C hI2 hz (by rw [e2]; exact hA) hr3 dL_law_682 dL_law_683 dL_law_686 dL_law_688 dL_law_693 dL_law_695 dL_law_698 dL_law_699 dL_law_700 dL_law_701 dL_law_703 dL_law_704 dL_law_705 dL_law_710 (by decide) (by omega) (by omega) (next _ _ _ hI2)
theorem l_hide {w : Wd} {x : Zc} {rt : Option FieldType} {nm : String} {μ : Mem} {k n : Nat} {Q : State → Prop} {b L : Nat} {xs : Nat → Int32} {G M : Nat → Nat} {o : Nat} {t N i : Int} {s : Sg}
    (C : Cx w x cL_law 7 RL rt room_1 nm) (S : cS w x b L xs) (hI : lI μ G M o t N s) (hi : 0 ≤ i ∧ i + 4 ≤ (L : Int)) (hN : N + 1 ≤ 512) (hk : k + 30 ≤ 601024) (hn : n + 1000 ≤ 7293034)
    (next : ∀ μ' t' s', lI μ' G M o t' (N + 1) s' → Z w x Q 7 1451 (lc0 b (G 0) (M 0) o i) [] μ' (k + 30) (n + 1000)) : Z w x Q 7 713 (lc0 b (G 0) (M 0) o i) [] μ k n := by
  obtain ⟨r, hr⟩ : ∃ r, r = spHide (sv xs (i + 1)) (sv xs (i + 2)) s := ⟨_, rfl⟩
  have KH := h_hide w μ G N s o (sv xs (i + 1)) (sv xs (i + 2)) hI.1 hI.2.2.1 hI.2.2.2.2.1 (sv_in _ _) (sv_in _ _)
  rw [← hr] at KH
  refine z_aload_n C dL_law_713 rfl ?_
  refine z_aload_n C dL_law_714 rfl ?_
  refine z_iload C dL_law_715 rfl ?_
  refine z_iconst C dL_law_717 ?_
  refine z_iadd C dL_law_718 ?_
  refine z_sld C S dL_law_719 ⟨by omega, by omega⟩ ?_
  refine z_aload_n C dL_law_720 rfl ?_
  refine z_iload C dL_law_721 rfl ?_
  refine z_iconst C dL_law_723 ?_
  refine z_iadd C dL_law_724 ?_
  refine z_sld C S dL_law_725 ⟨by omega, by omega⟩ ?_
  refine z_aload_n C dL_law_726 rfl ?_
  refine z_lawH C S KH qH_hide dL_law_727 rfl (fun v μ1 h => ?_) (by omega) (by omega)
  obtain ⟨rfl, hR1, hF1, ho1, hr3, hA⟩ := h
  have KK : okS N r.2.2 := by
    rw [hr]
    rw [hr] at hR1
    exact kk_hide hI.2.2.1 _ _ (Rc_rn hR1)
  have hM1 := Rm_Fh hI.2.1 hI.2.2.2.1 hI.2.2.2.2.2 hF1
  have KM := m_hide w (sv xs (i + 1)) (sv xs (i + 2)) hM1 hI.2.2.1 (sv_in _ _) (sv_in _ _)
  rw [← hr] at KM
  refine z_istore C dL_law_730 ?_
  refine z_aload_n C dL_law_732 rfl ?_
  refine z_aload_n C dL_law_733 rfl ?_
  refine z_iload C dL_law_734 rfl ?_
  refine z_iconst C dL_law_736 ?_
  refine z_iadd C dL_law_737 ?_
  refine z_sld C S dL_law_738 ⟨by omega, by omega⟩ ?_
  refine z_aload_n C dL_law_739 rfl ?_
  refine z_iload C dL_law_740 rfl ?_
  refine z_iconst C dL_law_742 ?_
  refine z_iadd C dL_law_743 ?_
  refine z_sld C S dL_law_744 ⟨by omega, by omega⟩ ?_
  refine z_lawV C KM qM_L_128 dL_law_745 rfl (zRc_o (Rm_g0 hM1)) (fun v μ2 h => ?_) (by omega) (by omega)
  obtain ⟨⟨z, rfl, hz⟩, hR2, hF2⟩ := h
  refine z_istore C dL_law_748 ?_
  obtain ⟨hI2, e2⟩ := lI_step hI hR1 hF1 ho1 hR2 hF2 (okS_1 KK hN)
  exact law_tail C hI2 hz (by rw [e2]; exact hA) hr3 dL_law_750 dL_law_751 dL_law_754 dL_law_756 dL_law_761 dL_law_763 dL_law_766 dL_law_767 dL_law_768 dL_law_769 dL_law_771 dL_law_772 dL_law_773 dL_law_778 (by decide) (by omega) (by omega) (next _ _ _ hI2)
theorem l_seen {w : Wd} {x : Zc} {rt : Option FieldType} {nm : String} {μ : Mem} {k n : Nat} {Q : State → Prop} {b L : Nat} {xs : Nat → Int32} {G M : Nat → Nat} {o : Nat} {t N i : Int} {s : Sg}
    (C : Cx w x cL_law 7 RL rt room_1 nm) (S : cS w x b L xs) (hI : lI μ G M o t N s) (hi : 0 ≤ i ∧ i + 4 ≤ (L : Int)) (hN : N + 1 ≤ 512) (hk : k + 30 ≤ 601024) (hn : n + 1000 ≤ 7293034)
    (next : ∀ μ' t' s', lI μ' G M o t' (N + 1) s' → Z w x Q 7 1451 (lc0 b (G 0) (M 0) o i) [] μ' (k + 30) (n + 1000)) : Z w x Q 7 781 (lc0 b (G 0) (M 0) o i) [] μ k n := by
  obtain ⟨r, hr⟩ : ∃ r, r = spSeen (sv xs (i + 1)) s := ⟨_, rfl⟩
  have KH := h_seen w μ G N s o (sv xs (i + 1)) hI.1 hI.2.2.1 hI.2.2.2.2.1 (sv_in _ _)
  rw [← hr] at KH
  refine z_aload_n C dL_law_781 rfl ?_
  refine z_aload_n C dL_law_782 rfl ?_
  refine z_iload C dL_law_783 rfl ?_
  refine z_iconst C dL_law_785 ?_
  refine z_iadd C dL_law_786 ?_
  refine z_sld C S dL_law_787 ⟨by omega, by omega⟩ ?_
  refine z_aload_n C dL_law_788 rfl ?_
  refine z_lawH C S KH qH_seen dL_law_789 rfl (fun v μ1 h => ?_) (by omega) (by omega)
  obtain ⟨rfl, hR1, hF1, ho1, hr3, hA⟩ := h
  have KK : okS N r.2.2 := by
    rw [hr]
    exact kk_seen hI.2.2.1 _
  have hM1 := Rm_Fh hI.2.1 hI.2.2.2.1 hI.2.2.2.2.2 hF1
  have KM := m_seen w (sv xs (i + 1)) hM1 hI.2.2.1 (sv_in _ _)
  rw [← hr] at KM
  refine z_istore C dL_law_792 ?_
  refine z_aload_n C dL_law_794 rfl ?_
  refine z_aload_n C dL_law_795 rfl ?_
  refine z_iload C dL_law_796 rfl ?_
  refine z_iconst C dL_law_798 ?_
  refine z_iadd C dL_law_799 ?_
  refine z_sld C S dL_law_800 ⟨by omega, by omega⟩ ?_
  refine z_lawV C KM qM_L_131 dL_law_801 rfl (zRc_o (Rm_g0 hM1)) (fun v μ2 h => ?_) (by omega) (by omega)
  obtain ⟨⟨z, rfl, hz⟩, hR2, hF2⟩ := h
  refine z_istore C dL_law_804 ?_
  obtain ⟨hI2, e2⟩ := lI_step hI hR1 hF1 ho1 hR2 hF2 (okS_1 KK hN)
  exact law_tail C hI2 hz (by rw [e2]; exact hA) hr3 dL_law_806 dL_law_807 dL_law_810 dL_law_812 dL_law_817 dL_law_819 dL_law_822 dL_law_823 dL_law_824 dL_law_825 dL_law_827 dL_law_828 dL_law_829 dL_law_834 (by decide) (by omega) (by omega) (next _ _ _ hI2)
theorem l_sample {w : Wd} {x : Zc} {rt : Option FieldType} {nm : String} {μ : Mem} {k n : Nat} {Q : State → Prop} {b L : Nat} {xs : Nat → Int32} {G M : Nat → Nat} {o : Nat} {t N i : Int} {s : Sg}
    (C : Cx w x cL_law 7 RL rt room_1 nm) (S : cS w x b L xs) (hI : lI μ G M o t N s) (hi : 0 ≤ i ∧ i + 4 ≤ (L : Int)) (hN : N + 1 ≤ 512) (hk : k + 30 ≤ 601024) (hn : n + 1000 ≤ 7293034)
    (next : ∀ μ' t' s', lI μ' G M o t' (N + 1) s' → Z w x Q 7 1451 (lc0 b (G 0) (M 0) o i) [] μ' (k + 30) (n + 1000)) : Z w x Q 7 837 (lc0 b (G 0) (M 0) o i) [] μ k n := by
  obtain ⟨r, hr⟩ : ∃ r, r = spSample (sv xs (i + 1)) s := ⟨_, rfl⟩
  have KH := h_sample w μ G N s o (sv xs (i + 1)) hI.1 hI.2.2.1 hI.2.2.2.2.1 (sv_in _ _)
  rw [← hr] at KH
  refine z_aload_n C dL_law_837 rfl ?_
  refine z_aload_n C dL_law_838 rfl ?_
  refine z_iload C dL_law_839 rfl ?_
  refine z_iconst C dL_law_841 ?_
  refine z_iadd C dL_law_842 ?_
  refine z_sld C S dL_law_843 ⟨by omega, by omega⟩ ?_
  refine z_aload_n C dL_law_844 rfl ?_
  refine z_lawH C S KH qH_sample dL_law_845 rfl (fun v μ1 h => ?_) (by omega) (by omega)
  obtain ⟨rfl, hR1, hF1, ho1, hr3, hA⟩ := h
  have KK : okS N r.2.2 := by
    rw [hr]
    exact kk_sample hI.2.2.1 _
  have hM1 := Rm_Fh hI.2.1 hI.2.2.2.1 hI.2.2.2.2.2 hF1
  have KM := m_sample w (sv xs (i + 1)) hM1 hI.2.2.1 (sv_in _ _)
  rw [← hr] at KM
  refine z_istore C dL_law_848 ?_
  refine z_aload_n C dL_law_850 rfl ?_
  refine z_aload_n C dL_law_851 rfl ?_
  refine z_iload C dL_law_852 rfl ?_
  refine z_iconst C dL_law_854 ?_
  refine z_iadd C dL_law_855 ?_
  refine z_sld C S dL_law_856 ⟨by omega, by omega⟩ ?_
  refine z_lawV C KM qM_L_134 dL_law_857 rfl (zRc_o (Rm_g0 hM1)) (fun v μ2 h => ?_) (by omega) (by omega)
  obtain ⟨⟨z, rfl, hz⟩, hR2, hF2⟩ := h
  refine z_istore C dL_law_860 ?_
  obtain ⟨hI2, e2⟩ := lI_step hI hR1 hF1 ho1 hR2 hF2 (okS_1 KK hN)
  exact law_tail C hI2 hz (by rw [e2]; exact hA) hr3 dL_law_862 dL_law_863 dL_law_866 dL_law_868 dL_law_873 dL_law_875 dL_law_878 dL_law_879 dL_law_880 dL_law_881 dL_law_883 dL_law_884 dL_law_885 dL_law_890 (by decide) (by omega) (by omega) (next _ _ _ hI2)
theorem l_rate {w : Wd} {x : Zc} {rt : Option FieldType} {nm : String} {μ : Mem} {k n : Nat} {Q : State → Prop} {b L : Nat} {xs : Nat → Int32} {G M : Nat → Nat} {o : Nat} {t N i : Int} {s : Sg}
    (C : Cx w x cL_law 7 RL rt room_1 nm) (S : cS w x b L xs) (hI : lI μ G M o t N s) (hi : 0 ≤ i ∧ i + 4 ≤ (L : Int)) (hN : N + 1 ≤ 512) (hk : k + 30 ≤ 601024) (hn : n + 1000 ≤ 7293034)
    (next : ∀ μ' t' s', lI μ' G M o t' (N + 1) s' → Z w x Q 7 1451 (lc0 b (G 0) (M 0) o i) [] μ' (k + 30) (n + 1000)) : Z w x Q 7 893 (lc0 b (G 0) (M 0) o i) [] μ k n := by
  obtain ⟨r, hr⟩ : ∃ r, r = spRate (sv xs (i + 1)) s := ⟨_, rfl⟩
  have KH := h_rate w μ G N s o (sv xs (i + 1)) hI.1 hI.2.2.1 hI.2.2.2.2.1 (sv_in _ _)
  rw [← hr] at KH
  refine z_aload_n C dL_law_893 rfl ?_
  refine z_aload_n C dL_law_894 rfl ?_
  refine z_iload C dL_law_895 rfl ?_
  refine z_iconst C dL_law_897 ?_
  refine z_iadd C dL_law_898 ?_
  refine z_sld C S dL_law_899 ⟨by omega, by omega⟩ ?_
  refine z_aload_n C dL_law_900 rfl ?_
  refine z_lawH C S KH qH_rate dL_law_901 rfl (fun v μ1 h => ?_) (by omega) (by omega)
  obtain ⟨rfl, hR1, hF1, ho1, hr3, hA⟩ := h
  have KK : okS N r.2.2 := by
    rw [hr]
    exact kk_rate hI.2.2.1 _
  have hM1 := Rm_Fh hI.2.1 hI.2.2.2.1 hI.2.2.2.2.2 hF1
  have KM := m_rate w (sv xs (i + 1)) hM1 hI.2.2.1 (sv_in _ _)
  rw [← hr] at KM
  refine z_istore C dL_law_904 ?_
  refine z_aload_n C dL_law_906 rfl ?_
  refine z_aload_n C dL_law_907 rfl ?_
  refine z_iload C dL_law_908 rfl ?_
  refine z_iconst C dL_law_910 ?_
  refine z_iadd C dL_law_911 ?_
  refine z_sld C S dL_law_912 ⟨by omega, by omega⟩ ?_
  refine z_lawV C KM qM_L_137 dL_law_913 rfl (zRc_o (Rm_g0 hM1)) (fun v μ2 h => ?_) (by omega) (by omega)
  obtain ⟨⟨z, rfl, hz⟩, hR2, hF2⟩ := h
  refine z_istore C dL_law_916 ?_
  obtain ⟨hI2, e2⟩ := lI_step hI hR1 hF1 ho1 hR2 hF2 (okS_1 KK hN)
  exact law_tail C hI2 hz (by rw [e2]; exact hA) hr3 dL_law_918 dL_law_919 dL_law_922 dL_law_924 dL_law_929 dL_law_931 dL_law_934 dL_law_935 dL_law_936 dL_law_937 dL_law_939 dL_law_940 dL_law_941 dL_law_946 (by decide) (by omega) (by omega) (next _ _ _ hI2)
theorem l_setMarks {w : Wd} {x : Zc} {rt : Option FieldType} {nm : String} {μ : Mem} {k n : Nat} {Q : State → Prop} {b L : Nat} {xs : Nat → Int32} {G M : Nat → Nat} {o : Nat} {t N i : Int} {s : Sg}
    (C : Cx w x cL_law 7 RL rt room_1 nm) (S : cS w x b L xs) (hI : lI μ G M o t N s) (hi : 0 ≤ i ∧ i + 4 ≤ (L : Int)) (hN : N + 1 ≤ 512) (hk : k + 30 ≤ 601024) (hn : n + 1000 ≤ 7293034)
    (next : ∀ μ' t' s', lI μ' G M o t' (N + 1) s' → Z w x Q 7 1451 (lc0 b (G 0) (M 0) o i) [] μ' (k + 30) (n + 1000)) : Z w x Q 7 949 (lc0 b (G 0) (M 0) o i) [] μ k n := by
  obtain ⟨r, hr⟩ : ∃ r, r = spMarks (sv xs (i + 1)) (sv xs (i + 2)) (sv xs (i + 3)) s := ⟨_, rfl⟩
  have KH := h_setMarks w μ G N s (sv xs (i + 1)) (sv xs (i + 2)) (sv xs (i + 3)) hI.1 hI.2.2.1 (sv_in _ _) (sv_in _ _) (sv_in _ _)
  rw [← hr] at KH
  refine z_aload_n C dL_law_949 rfl ?_
  refine z_aload_n C dL_law_950 rfl ?_
  refine z_iload C dL_law_951 rfl ?_
  refine z_iconst C dL_law_953 ?_
  refine z_iadd C dL_law_954 ?_
  refine z_sld C S dL_law_955 ⟨by omega, by omega⟩ ?_
  refine z_aload_n C dL_law_956 rfl ?_
  refine z_iload C dL_law_957 rfl ?_
  refine z_iconst C dL_law_959 ?_
  refine z_iadd C dL_law_960 ?_
  refine z_sld C S dL_law_961 ⟨by omega, by omega⟩ ?_
  refine z_aload_n C dL_law_962 rfl ?_
  refine z_iload C dL_law_963 rfl ?_
  refine z_iconst C dL_law_965 ?_
  refine z_iadd C dL_law_966 ?_
  refine z_sld C S dL_law_967 ⟨by omega, by omega⟩ ?_
  refine z_lawH C S KH qH_setMarks dL_law_968 rfl (fun v μ1 h => ?_) (by omega) (by omega)
  obtain ⟨rfl, hR1, hFc, hr3⟩ := h
  have hF1 : Fh μ μ1 G o := Fh_Fc hFc
  have ho1 := outS_Fc hI.2.2.2.2.1 hFc
  have KK : okS N r.2.2 := by
    rw [hr]
    exact kk_marks hI.2.2.1 _ _ _
  have hM1 := Rm_Fh hI.2.1 hI.2.2.2.1 hI.2.2.2.2.2 hF1
  have KM := m_setMarks w (sv xs (i + 1)) (sv xs (i + 2)) (sv xs (i + 3)) hM1 hI.2.2.1 (sv_in _ _) (sv_in _ _) (sv_in _ _)
  rw [← hr] at KM
  refine z_istore C dL_law_971 ?_
  refine z_aload_n C dL_law_973 rfl ?_
  refine z_aload_n C dL_law_974 rfl ?_
  refine z_iload C dL_law_975 rfl ?_
  refine z_iconst C dL_law_977 ?_
  refine z_iadd C dL_law_978 ?_
  refine z_sld C S dL_law_979 ⟨by omega, by omega⟩ ?_
  refine z_aload_n C dL_law_980 rfl ?_
  refine z_iload C dL_law_981 rfl ?_
  refine z_iconst C dL_law_983 ?_
  refine z_iadd C dL_law_984 ?_
  refine z_sld C S dL_law_985 ⟨by omega, by omega⟩ ?_
  refine z_aload_n C dL_law_986 rfl ?_
  refine z_iload C dL_law_987 rfl ?_
  refine z_iconst C dL_law_989 ?_
  refine z_iadd C dL_law_990 ?_
  refine z_sld C S dL_law_991 ⟨by omega, by omega⟩ ?_
  refine z_lawV C KM qM_L_141 dL_law_992 rfl (zRc_o (Rm_g0 hM1)) (fun v μ2 h => ?_) (by omega) (by omega)
  obtain ⟨rfl, hR2, hF2⟩ := h
  obtain ⟨hI2, e2⟩ := lI_step hI hR1 hF1 ho1 hR2 hF2 (okS_1 KK hN)
  refine z_aload_n C dL_law_995 rfl ?_
  refine z_lawV C (c_thrownR w hI2.2.1) qM_L_92 dL_law_996 rfl (zRc_o (Rm_g0 hI2.2.1)) (fun v μ3 h => ?_) (by omega) (by omega)
  obtain ⟨rfl, rfl⟩ := h
  refine z_iload C dL_law_999 rfl ?_
  refine z_icmp_eq (tgt := 1006) C dL_law_1001 (by decide) ⟨⟨by omega, by omega⟩, by omega, by omega⟩ (fun _ => ?_) (fun h => absurd rfl h)
  refine z_goto (tgt := 1451) C dL_law_1006 (by decide) ?_
  exact z_ls _ (zsub_lc rfl rfl rfl rfl rfl) (next _ _ _ hI2)
theorem l_restart {w : Wd} {x : Zc} {rt : Option FieldType} {nm : String} {μ : Mem} {k n : Nat} {Q : State → Prop} {b L : Nat} {xs : Nat → Int32} {G M : Nat → Nat} {o : Nat} {t N i : Int} {s : Sg}
    (C : Cx w x cL_law 7 RL rt room_1 nm) (S : cS w x b L xs) (hI : lI μ G M o t N s) (hi : 0 ≤ i ∧ i + 4 ≤ (L : Int)) (hN : N + 1 ≤ 512) (hk : k + 30 ≤ 601024) (hn : n + 1000 ≤ 7293034)
    (next : ∀ μ' t' s', lI μ' G M o t' (N + 1) s' → Z w x Q 7 1451 (lc0 b (G 0) (M 0) o i) [] μ' (k + 30) (n + 1000)) : Z w x Q 7 1009 (lc0 b (G 0) (M 0) o i) [] μ k n := by
  obtain ⟨r, hr⟩ : ∃ r, r = spRestart (sv xs (i + 1)) s := ⟨_, rfl⟩
  have KH := h_restart w μ G N s o (sv xs (i + 1)) hI.1 hI.2.2.1 hI.2.2.2.2.1 hN (sv_in _ _)
  rw [← hr] at KH
  refine z_aload_n C dL_law_1009 rfl ?_
  refine z_aload_n C dL_law_1010 rfl ?_
  refine z_iload C dL_law_1011 rfl ?_
  refine z_iconst C dL_law_1013 ?_
  refine z_iadd C dL_law_1014 ?_
  refine z_sld C S dL_law_1015 ⟨by omega, by omega⟩ ?_
  refine z_aload_n C dL_law_1016 rfl ?_
  refine z_lawH C S KH qH_restart dL_law_1017 rfl (fun v μ1 h => ?_) (by omega) (by omega)
  obtain ⟨rfl, hR1, hF1, ho1, hr3, hA⟩ := h
  have KK : okS (N + 1) r.2.2 := by
    rw [hr]
    exact kk_restart hI.2.2.1 hN _
  have hM1 := Rm_Fh hI.2.1 hI.2.2.2.1 hI.2.2.2.2.2 hF1
  have KM := m_restart w (sv xs (i + 1)) hM1 hI.2.2.1 hN (sv_in _ _)
  rw [← hr] at KM
  refine z_istore C dL_law_1020 ?_
  refine z_aload_n C dL_law_1022 rfl ?_
  refine z_aload_n C dL_law_1023 rfl ?_
  refine z_iload C dL_law_1024 rfl ?_
  refine z_iconst C dL_law_1026 ?_
  refine z_iadd C dL_law_1027 ?_
  refine z_sld C S dL_law_1028 ⟨by omega, by omega⟩ ?_
  refine z_lawV C KM qM_L_144 dL_law_1029 rfl (zRc_o (Rm_g0 hM1)) (fun v μ2 h => ?_) (by omega) (by omega)
  obtain ⟨⟨z, rfl, hz⟩, hR2, hF2⟩ := h
  refine z_istore C dL_law_1032 ?_
  obtain ⟨hI2, e2⟩ := lI_step hI hR1 hF1 ho1 hR2 hF2 KK
  exact law_tail C hI2 hz (by rw [e2]; exact hA) hr3 dL_law_1034 dL_law_1035 dL_law_1038 dL_law_1040 dL_law_1045 dL_law_1047 dL_law_1050 dL_law_1051 dL_law_1052 dL_law_1053 dL_law_1055 dL_law_1056 dL_law_1057 dL_law_1062 (by decide) (by omega) (by omega) (next _ _ _ hI2)
