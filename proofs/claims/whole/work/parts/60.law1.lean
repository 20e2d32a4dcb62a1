noncomputable def fK9 (sx : Nat → Int32) (L : Nat) (x m o : Nat) (i : Int32) (σ : St) : Option St :=
(sc sx L (i + 1)).bind fun v764 =>
(sc sx L (i + 2)).bind fun v770 =>
(sc sx L (i + 3)).bind fun v776 =>
(fL_step σ x v764 v770 v776 o).bind fun w778 =>
(sc sx L (i + 1)).bind fun v789 =>
(sc sx L (i + 2)).bind fun v795 =>
(sc sx L (i + 3)).bind fun v801 =>
(isO w778.2 m 11).bind fun _ =>
(fX12_step w778.2 m v789 v795 v801).bind fun w802 =>
(isO w802.2 m 11).bind fun _ =>
(fX12_thrown w802.2 m).bind fun w808 =>
if w808 = w778.1 then
(if w778.1 = 0 then
((aL w802.2 o 0).bind fun v825 =>
if (lg_cmp v825 w802.1.toInt64) = 0 then
(some w802.2)
else
(none))
else
(some w802.2))
else
(none)
set_option maxHeartbeats 4000000 in
set_option maxRecDepth 100000 in
theorem lK9 {X : xX} {adK adV : Nat → Nat} {b L : Nat} {sx : Nat → Int32} {x m o : Nat} {i : Int32} {σ σ' : St} {k : Nat × Nat} (C : Ok X code 7 RL room_1 (some .boolean)) (hst : (xl X).stackTraces = false) (Ev : xEnv adK adV (xA X) (xs X)) (S : Scr X b L sx) (hk : k.1 + 10 ≤ room_1.cells ∧ k.2 + 60 ≤ room_1.slots) (hf : fK9 sx L x m o i σ = some σ') (kk : ∀ k' : Nat × Nat, k'.1 ≤ k.1 + 10 ∧ k'.2 ≤ k.2 + 60 → Vz X k' σ' 2168 [(0, .ref (b)), (1, .ref (x)), (2, .ref (m)), (3, .ref (o)), (4, .int (i))] []) : Vz X k σ 758 [(0, .ref (b)), (1, .ref (x)), (2, .ref (m)), (3, .ref (o)), (4, .int (i))] [] := by
  unfold fK9 at hf
  refine z_aload_n C dL_law_758 759 rfl 1 rfl rfl ?_
  refine z_aload_n C dL_law_759 760 rfl 0 rfl rfl ?_
  refine z_iload C dL_law_760 762 rfl 4 rfl ?_
  refine z_iconst C dL_law_762 763 rfl 1 (by decide) ?_
  refine z_iadd C dL_law_763 764 rfl ?_
  obtain ⟨v764, hv764, hf⟩ := x_bind hf
  refine z_sld C S hv764 dL_law_764 765 rfl ?_
  refine z_aload_n C dL_law_765 766 rfl 0 rfl rfl ?_
  refine z_iload C dL_law_766 768 rfl 4 rfl ?_
  refine z_iconst C dL_law_768 769 rfl 2 (by decide) ?_
  refine z_iadd C dL_law_769 770 rfl ?_
  obtain ⟨v770, hv770, hf⟩ := x_bind hf
  refine z_sld C S hv770 dL_law_770 771 rfl ?_
  refine z_aload_n C dL_law_771 772 rfl 0 rfl rfl ?_
  refine z_iload C dL_law_772 774 rfl 4 rfl ?_
  refine z_iconst C dL_law_774 775 rfl 3 (by decide) ?_
  refine z_iadd C dL_law_775 776 rfl ?_
  obtain ⟨v776, hv776, hf⟩ := x_bind hf
  refine z_sld C S hv776 dL_law_776 777 rfl ?_
  refine z_aload_n C dL_law_777 778 rfl 3 rfl rfl ?_
  obtain ⟨w778, hw778, hf⟩ := x_bind hf
  refine e_cS C Ev dL_law_778 781 rfl (cL_stepc hst hw778) kwL_step w1203 ⟨rfl, rfl⟩ ⟨Nat.le_of_ble_eq_true rfl, Nat.le_of_ble_eq_true rfl⟩ (kle hk 4 24 rfl rfl) rfl rfl (Nat.le_of_ble_eq_true rfl) ?_
  refine z_istore C dL_law_781 783 rfl rfl [(5, .int (w778.1)), (0, .ref (b)), (1, .ref (x)), (2, .ref (m)), (3, .ref (o)), (4, .int (i))] rfl ?_
  refine z_aload_n C dL_law_783 784 rfl 3 rfl rfl ?_
  refine z_aload_n C dL_law_784 785 rfl 1 rfl rfl ?_
  refine z_iload C dL_law_785 787 rfl 5 rfl ?_
  refine z_iconst C dL_law_787 788 rfl 1 (by decide) ?_
  refine z_iadd C dL_law_788 789 rfl ?_
  obtain ⟨v789, hv789, hf⟩ := x_bind hf
  refine z_sld C S hv789 dL_law_789 790 rfl ?_
  refine z_aload_n C dL_law_790 791 rfl 1 rfl rfl ?_
  refine z_iload C dL_law_791 793 rfl 5 rfl ?_
  refine z_iconst C dL_law_793 794 rfl 2 (by decide) ?_
  refine z_iadd C dL_law_794 795 rfl ?_
  obtain ⟨v795, hv795, hf⟩ := x_bind hf
  refine z_sld C S hv795 dL_law_795 796 rfl ?_
  refine z_aload_n C dL_law_796 797 rfl 1 rfl rfl ?_
  refine z_iload C dL_law_797 799 rfl 5 rfl ?_
  refine z_iconst C dL_law_799 800 rfl 3 (by decide) ?_
  refine z_iadd C dL_law_800 801 rfl ?_
  obtain ⟨v801, hv801, hf⟩ := x_bind hf
  refine z_sld C S hv801 dL_law_801 802 rfl ?_
  obtain ⟨o802, ho802, hf⟩ := x_bind hf
  obtain ⟨w802, hw802, hf⟩ := x_bind hf
  refine z_callVi C dL_law_802 805 rfl ho802 cl11.1 rfl (cX12_stepc hw802) kX12_step kvX12_step w2030 ⟨rfl, rfl⟩ ⟨Nat.le_of_ble_eq_true rfl, Nat.le_of_ble_eq_true rfl⟩ (kle hk 4 24 rfl rfl) rfl rfl (Nat.le_of_ble_eq_true rfl) ?_
  refine z_istore C dL_law_805 807 rfl rfl [(6, .int (w802.1)), (5, .int (w778.1)), (0, .ref (b)), (1, .ref (x)), (2, .ref (m)), (3, .ref (o)), (4, .int (i))] rfl ?_
  refine z_aload_n C dL_law_807 808 rfl 4 rfl rfl ?_
  obtain ⟨o808, ho808, hf⟩ := x_bind hf
  obtain ⟨w808, hw808, hf⟩ := x_bind hf
  refine z_callVi C dL_law_808 811 rfl ho808 cl11.1 rfl (cX12_thrownc hw808) kX12_thrown kvX12_thrown w1430 ⟨rfl, rfl⟩ ⟨Nat.le_of_ble_eq_true rfl, Nat.le_of_ble_eq_true rfl⟩ (kle hk 4 24 rfl rfl) rfl rfl (Nat.le_of_ble_eq_true rfl) ?_
  refine z_iload C dL_law_811 813 rfl 1 rfl ?_
  refine z_icmp_eq C dL_law_813 818 (by decide) 816 rfl (fun hc => ?_) (fun hc => ?_)
  · have hf := (if_pos hc).symm.trans hf
    refine z_iload C dL_law_818 820 rfl 1 rfl ?_
    refine z_if_ne C dL_law_820 835 (by decide) 823 rfl (fun hc => ?_) (fun hc => ?_)
    · have hf := (if_neg hc).symm.trans hf
      refine z_goto C dL_law_835 2168 (by decide) ?_
      refine z_lv [2, 3, 4, 5, 6] (lv' := [(0, .ref (b)), (1, .ref (x)), (2, .ref (m)), (3, .ref (o)), (4, .int (i))]) rfl ?_
      have e9 := Option.some.inj hf
      subst e9
      exact kk (k.1 + 4, k.2 + 24) ⟨Nat.add_le_add_left (by decide) _, Nat.add_le_add_left (by decide) _⟩
    · have hf := (if_pos hc).symm.trans hf
      refine z_aload_n C dL_law_823 824 rfl 5 rfl rfl ?_
      refine z_iconst C dL_law_824 825 rfl 0 (by decide) ?_
      obtain ⟨v825, hv825, hf⟩ := x_bind hf
      refine z_laload C dL_law_825 826 rfl hv825 ?_
      refine z_iload C dL_law_826 828 rfl 0 rfl ?_
      refine z_i2l C dL_law_828 829 rfl ?_
      refine z_lcmp C dL_law_829 830 rfl ?_
      refine z_if_eq C dL_law_830 835 (by decide) 833 rfl (fun hc => ?_) (fun hc => ?_)
      · have hf := (if_pos hc).symm.trans hf
        refine z_goto C dL_law_835 2168 (by decide) ?_
        refine z_lv [2, 3, 4, 5, 6] (lv' := [(0, .ref (b)), (1, .ref (x)), (2, .ref (m)), (3, .ref (o)), (4, .int (i))]) rfl ?_
        have e9 := Option.some.inj hf
        subst e9
        exact kk (k.1 + 4, k.2 + 24) ⟨Nat.add_le_add_left (by decide) _, Nat.add_le_add_left (by decide) _⟩
      · have hf := (if_neg hc).symm.trans hf
        cases hf
  · have hf := (if_neg hc).symm.trans hf
    cases hf
noncomputable def fK10 (sx : Nat → Int32) (L : Nat) (x m o : Nat) (i : Int32) (σ : St) : Option St :=
(sc sx L (i + 1)).bind fun v844 =>
(sc sx L (i + 2)).bind fun v850 =>
(fL_make σ x v844 v850 o).bind fun w852 =>
(sc sx L (i + 1)).bind fun v863 =>
(sc sx L (i + 2)).bind fun v869 =>
(isO w852.2 m 11).bind fun _ =>
(fX12_make w852.2 m v863 v869).bind fun w870 =>
(isO w870.2 m 11).bind fun _ =>
(fX12_thrown w870.2 m).bind fun w876 =>
if w876 = w852.1 then
(if w852.1 = 0 then
((aL w870.2 o 0).bind fun v893 =>
if (lg_cmp v893 w870.1.toInt64) = 0 then
(some w870.2)
else
(none))
else
(some w870.2))
else
(none)
set_option maxHeartbeats 4000000 in
set_option maxRecDepth 100000 in
theorem lK10 {X : xX} {adK adV : Nat → Nat} {b L : Nat} {sx : Nat → Int32} {x m o : Nat} {i : Int32} {σ σ' : St} {k : Nat × Nat} (C : Ok X code 7 RL room_1 (some .boolean)) (hst : (xl X).stackTraces = false) (Ev : xEnv adK adV (xA X) (xs X)) (S : Scr X b L sx) (hk : k.1 + 10 ≤ room_1.cells ∧ k.2 + 60 ≤ room_1.slots) (hf : fK10 sx L x m o i σ = some σ') (kk : ∀ k' : Nat × Nat, k'.1 ≤ k.1 + 10 ∧ k'.2 ≤ k.2 + 60 → Vz X k' σ' 2168 [(0, .ref (b)), (1, .ref (x)), (2, .ref (m)), (3, .ref (o)), (4, .int (i))] []) : Vz X k σ 838 [(0, .ref (b)), (1, .ref (x)), (2, .ref (m)), (3, .ref (o)), (4, .int (i))] [] := by
  unfold fK10 at hf
  refine z_aload_n C dL_law_838 839 rfl 1 rfl rfl ?_
  refine z_aload_n C dL_law_839 840 rfl 0 rfl rfl ?_
  refine z_iload C dL_law_840 842 rfl 4 rfl ?_
  refine z_iconst C dL_law_842 843 rfl 1 (by decide) ?_
  refine z_iadd C dL_law_843 844 rfl ?_
  obtain ⟨v844, hv844, hf⟩ := x_bind hf
  refine z_sld C S hv844 dL_law_844 845 rfl ?_
  refine z_aload_n C dL_law_845 846 rfl 0 rfl rfl ?_
  refine z_iload C dL_law_846 848 rfl 4 rfl ?_
  refine z_iconst C dL_law_848 849 rfl 2 (by decide) ?_
  refine z_iadd C dL_law_849 850 rfl ?_
  obtain ⟨v850, hv850, hf⟩ := x_bind hf
  refine z_sld C S hv850 dL_law_850 851 rfl ?_
  refine z_aload_n C dL_law_851 852 rfl 3 rfl rfl ?_
  obtain ⟨w852, hw852, hf⟩ := x_bind hf
  refine e_cS C Ev dL_law_852 855 rfl (cL_makec hst hw852) kwL_make w1213 ⟨rfl, rfl⟩ ⟨Nat.le_of_ble_eq_true rfl, Nat.le_of_ble_eq_true rfl⟩ (kle hk 1 6 rfl rfl) rfl rfl (Nat.le_of_ble_eq_true rfl) ?_
  refine z_istore C dL_law_855 857 rfl rfl [(5, .int (w852.1)), (0, .ref (b)), (1, .ref (x)), (2, .ref (m)), (3, .ref (o)), (4, .int (i))] rfl ?_
  refine z_aload_n C dL_law_857 858 rfl 3 rfl rfl ?_
  refine z_aload_n C dL_law_858 859 rfl 1 rfl rfl ?_
  refine z_iload C dL_law_859 861 rfl 5 rfl ?_
  refine z_iconst C dL_law_861 862 rfl 1 (by decide) ?_
  refine z_iadd C dL_law_862 863 rfl ?_
  obtain ⟨v863, hv863, hf⟩ := x_bind hf
  refine z_sld C S hv863 dL_law_863 864 rfl ?_
  refine z_aload_n C dL_law_864 865 rfl 1 rfl rfl ?_
  refine z_iload C dL_law_865 867 rfl 5 rfl ?_
  refine z_iconst C dL_law_867 868 rfl 2 (by decide) ?_
  refine z_iadd C dL_law_868 869 rfl ?_
  obtain ⟨v869, hv869, hf⟩ := x_bind hf
  refine z_sld C S hv869 dL_law_869 870 rfl ?_
  obtain ⟨o870, ho870, hf⟩ := x_bind hf
  obtain ⟨w870, hw870, hf⟩ := x_bind hf
  refine z_callVi C dL_law_870 873 rfl ho870 cl11.1 rfl (cX12_makec hw870) kX12_make kvX12_make w2034 ⟨rfl, rfl⟩ ⟨Nat.le_of_ble_eq_true rfl, Nat.le_of_ble_eq_true rfl⟩ (kle hk 1 6 rfl rfl) rfl rfl (Nat.le_of_ble_eq_true rfl) ?_
  refine z_istore C dL_law_873 875 rfl rfl [(6, .int (w870.1)), (5, .int (w852.1)), (0, .ref (b)), (1, .ref (x)), (2, .ref (m)), (3, .ref (o)), (4, .int (i))] rfl ?_
  refine z_aload_n C dL_law_875 876 rfl 4 rfl rfl ?_
  obtain ⟨o876, ho876, hf⟩ := x_bind hf
  obtain ⟨w876, hw876, hf⟩ := x_bind hf
  refine z_callVi C dL_law_876 879 rfl ho876 cl11.1 rfl (cX12_thrownc hw876) kX12_thrown kvX12_thrown w1430 ⟨rfl, rfl⟩ ⟨Nat.le_of_ble_eq_true rfl, Nat.le_of_ble_eq_true rfl⟩ (kle hk 1 6 rfl rfl) rfl rfl (Nat.le_of_ble_eq_true rfl) ?_
  refine z_iload C dL_law_879 881 rfl 1 rfl ?_
  refine z_icmp_eq C dL_law_881 886 (by decide) 884 rfl (fun hc => ?_) (fun hc => ?_)
  · have hf := (if_pos hc).symm.trans hf
    refine z_iload C dL_law_886 888 rfl 1 rfl ?_
    refine z_if_ne C dL_law_888 903 (by decide) 891 rfl (fun hc => ?_) (fun hc => ?_)
    · have hf := (if_neg hc).symm.trans hf
      refine z_goto C dL_law_903 2168 (by decide) ?_
      refine z_lv [2, 3, 4, 5, 6] (lv' := [(0, .ref (b)), (1, .ref (x)), (2, .ref (m)), (3, .ref (o)), (4, .int (i))]) rfl ?_
      have e9 := Option.some.inj hf
      subst e9
      exact kk (k.1 + 1, k.2 + 6) ⟨Nat.add_le_add_left (by decide) _, Nat.add_le_add_left (by decide) _⟩
    · have hf := (if_pos hc).symm.trans hf
      refine z_aload_n C dL_law_891 892 rfl 5 rfl rfl ?_
      refine z_iconst C dL_law_892 893 rfl 0 (by decide) ?_
      obtain ⟨v893, hv893, hf⟩ := x_bind hf
      refine z_laload C dL_law_893 894 rfl hv893 ?_
      refine z_iload C dL_law_894 896 rfl 0 rfl ?_
      refine z_i2l C dL_law_896 897 rfl ?_
      refine z_lcmp C dL_law_897 898 rfl ?_
      refine z_if_eq C dL_law_898 903 (by decide) 901 rfl (fun hc => ?_) (fun hc => ?_)
      · have hf := (if_pos hc).symm.trans hf
        refine z_goto C dL_law_903 2168 (by decide) ?_
        refine z_lv [2, 3, 4, 5, 6] (lv' := [(0, .ref (b)), (1, .ref (x)), (2, .ref (m)), (3, .ref (o)), (4, .int (i))]) rfl ?_
        have e9 := Option.some.inj hf
        subst e9
        exact kk (k.1 + 1, k.2 + 6) ⟨Nat.add_le_add_left (by decide) _, Nat.add_le_add_left (by decide) _⟩
      · have hf := (if_neg hc).symm.trans hf
        cases hf
  · have hf := (if_neg hc).symm.trans hf
    cases hf
noncomputable def fK11 (sx : Nat → Int32) (L : Nat) (x m o : Nat) (i : Int32) (σ : St) : Option St :=
(sc sx L (i + 1)).bind fun v912 =>
(sc sx L (i + 2)).bind fun v918 =>
(sc sx L (i + 3)).bind fun v924 =>
(fL_run σ x v912 v918 v924 o).bind fun w926 =>
(sc sx L (i + 1)).bind fun v937 =>
(sc sx L (i + 2)).bind fun v943 =>
(sc sx L (i + 3)).bind fun v949 =>
(isO w926.2 m 11).bind fun _ =>
(fX12_run w926.2 m v937 v943 v949).bind fun w950 =>
(isO w950.2 m 11).bind fun _ =>
(fX12_thrown w950.2 m).bind fun w956 =>
if w956 = w926.1 then
(if w926.1 = 0 then
((aL w950.2 o 0).bind fun v973 =>
if (lg_cmp v973 w950.1.toInt64) = 0 then
(some w950.2)
else
(none))
else
(some w950.2))
else
(none)
set_option maxHeartbeats 4000000 in
set_option maxRecDepth 100000 in
theorem lK11 {X : xX} {adK adV : Nat → Nat} {b L : Nat} {sx : Nat → Int32} {x m o : Nat} {i : Int32} {σ σ' : St} {k : Nat × Nat} (C : Ok X code 7 RL room_1 (some .boolean)) (hst : (xl X).stackTraces = false) (Ev : xEnv adK adV (xA X) (xs X)) (S : Scr X b L sx) (hk : k.1 + 10 ≤ room_1.cells ∧ k.2 + 60 ≤ room_1.slots) (hf : fK11 sx L x m o i σ = some σ') (kk : ∀ k' : Nat × Nat, k'.1 ≤ k.1 + 10 ∧ k'.2 ≤ k.2 + 60 → Vz X k' σ' 2168 [(0, .ref (b)), (1, .ref (x)), (2, .ref (m)), (3, .ref (o)), (4, .int (i))] []) : Vz X k σ 906 [(0, .ref (b)), (1, .ref (x)), (2, .ref (m)), (3, .ref (o)), (4, .int (i))] [] := by
  unfold fK11 at hf
  refine z_aload_n C dL_law_906 907 rfl 1 rfl rfl ?_
  refine z_aload_n C dL_law_907 908 rfl 0 rfl rfl ?_
  refine z_iload C dL_law_908 910 rfl 4 rfl ?_
  refine z_iconst C dL_law_910 911 rfl 1 (by decide) ?_
  refine z_iadd C dL_law_911 912 rfl ?_
  obtain ⟨v912, hv912, hf⟩ := x_bind hf
  refine z_sld C S hv912 dL_law_912 913 rfl ?_
  refine z_aload_n C dL_law_913 914 rfl 0 rfl rfl ?_
  refine z_iload C dL_law_914 916 rfl 4 rfl ?_
  refine z_iconst C dL_law_916 917 rfl 2 (by decide) ?_
  refine z_iadd C dL_law_917 918 rfl ?_
  obtain ⟨v918, hv918, hf⟩ := x_bind hf
  refine z_sld C S hv918 dL_law_918 919 rfl ?_
  refine z_aload_n C dL_law_919 920 rfl 0 rfl rfl ?_
  refine z_iload C dL_law_920 922 rfl 4 rfl ?_
  refine z_iconst C dL_law_922 923 rfl 3 (by decide) ?_
  refine z_iadd C dL_law_923 924 rfl ?_
  obtain ⟨v924, hv924, hf⟩ := x_bind hf
  refine z_sld C S hv924 dL_law_924 925 rfl ?_
  refine z_aload_n C dL_law_925 926 rfl 3 rfl rfl ?_
  obtain ⟨w926, hw926, hf⟩ := x_bind hf
  refine e_cS C Ev dL_law_926 929 rfl (cL_runc hst hw926) kwL_run w1225 ⟨rfl, rfl⟩ ⟨Nat.le_of_ble_eq_true rfl, Nat.le_of_ble_eq_true rfl⟩ (kle hk 3 18 rfl rfl) rfl rfl (Nat.le_of_ble_eq_true rfl) ?_
  refine z_istore C dL_law_929 931 rfl rfl [(5, .int (w926.1)), (0, .ref (b)), (1, .ref (x)), (2, .ref (m)), (3, .ref (o)), (4, .int (i))] rfl ?_
  refine z_aload_n C dL_law_931 932 rfl 3 rfl rfl ?_
  refine z_aload_n C dL_law_932 933 rfl 1 rfl rfl ?_
  refine z_iload C dL_law_933 935 rfl 5 rfl ?_
  refine z_iconst C dL_law_935 936 rfl 1 (by decide) ?_
  refine z_iadd C dL_law_936 937 rfl ?_
  obtain ⟨v937, hv937, hf⟩ := x_bind hf
  refine z_sld C S hv937 dL_law_937 938 rfl ?_
  refine z_aload_n C dL_law_938 939 rfl 1 rfl rfl ?_
  refine z_iload C dL_law_939 941 rfl 5 rfl ?_
  refine z_iconst C dL_law_941 942 rfl 2 (by decide) ?_
  refine z_iadd C dL_law_942 943 rfl ?_
  obtain ⟨v943, hv943, hf⟩ := x_bind hf
  refine z_sld C S hv943 dL_law_943 944 rfl ?_
  refine z_aload_n C dL_law_944 945 rfl 1 rfl rfl ?_
  refine z_iload C dL_law_945 947 rfl 5 rfl ?_
  refine z_iconst C dL_law_947 948 rfl 3 (by decide) ?_
  refine z_iadd C dL_law_948 949 rfl ?_
  obtain ⟨v949, hv949, hf⟩ := x_bind hf
  refine z_sld C S hv949 dL_law_949 950 rfl ?_
  obtain ⟨o950, ho950, hf⟩ := x_bind hf
  obtain ⟨w950, hw950, hf⟩ := x_bind hf
  refine z_callVi C dL_law_950 953 rfl ho950 cl11.1 rfl (cX12_runc hw950) kX12_run kvX12_run w2042 ⟨rfl, rfl⟩ ⟨Nat.le_of_ble_eq_true rfl, Nat.le_of_ble_eq_true rfl⟩ (kle hk 3 18 rfl rfl) rfl rfl (Nat.le_of_ble_eq_true rfl) ?_
  refine z_istore C dL_law_953 955 rfl rfl [(6, .int (w950.1)), (5, .int (w926.1)), (0, .ref (b)), (1, .ref (x)), (2, .ref (m)), (3, .ref (o)), (4, .int (i))] rfl ?_
  refine z_aload_n C dL_law_955 956 rfl 4 rfl rfl ?_
  obtain ⟨o956, ho956, hf⟩ := x_bind hf
  obtain ⟨w956, hw956, hf⟩ := x_bind hf
  refine z_callVi C dL_law_956 959 rfl ho956 cl11.1 rfl (cX12_thrownc hw956) kX12_thrown kvX12_thrown w1430 ⟨rfl, rfl⟩ ⟨Nat.le_of_ble_eq_true rfl, Nat.le_of_ble_eq_true rfl⟩ (kle hk 3 18 rfl rfl) rfl rfl (Nat.le_of_ble_eq_true rfl) ?_
  refine z_iload C dL_law_959 961 rfl 1 rfl ?_
  refine z_icmp_eq C dL_law_961 966 (by decide) 964 rfl (fun hc => ?_) (fun hc => ?_)
  · have hf := (if_pos hc).symm.trans hf
    refine z_iload C dL_law_966 968 rfl 1 rfl ?_
    refine z_if_ne C dL_law_968 983 (by decide) 971 rfl (fun hc => ?_) (fun hc => ?_)
    · have hf := (if_neg hc).symm.trans hf
      refine z_goto C dL_law_983 2168 (by decide) ?_
      refine z_lv [2, 3, 4, 5, 6] (lv' := [(0, .ref (b)), (1, .ref (x)), (2, .ref (m)), (3, .ref (o)), (4, .int (i))]) rfl ?_
      have e9 := Option.some.inj hf
      subst e9
      exact kk (k.1 + 3, k.2 + 18) ⟨Nat.add_le_add_left (by decide) _, Nat.add_le_add_left (by decide) _⟩
    · have hf := (if_pos hc).symm.trans hf
      refine z_aload_n C dL_law_971 972 rfl 5 rfl rfl ?_
      refine z_iconst C dL_law_972 973 rfl 0 (by decide) ?_
      obtain ⟨v973, hv973, hf⟩ := x_bind hf
      refine z_laload C dL_law_973 974 rfl hv973 ?_
      refine z_iload C dL_law_974 976 rfl 0 rfl ?_
      refine z_i2l C dL_law_976 977 rfl ?_
      refine z_lcmp C dL_law_977 978 rfl ?_
      refine z_if_eq C dL_law_978 983 (by decide) 981 rfl (fun hc => ?_) (fun hc => ?_)
      · have hf := (if_pos hc).symm.trans hf
        refine z_goto C dL_law_983 2168 (by decide) ?_
        refine z_lv [2, 3, 4, 5, 6] (lv' := [(0, .ref (b)), (1, .ref (x)), (2, .ref (m)), (3, .ref (o)), (4, .int (i))]) rfl ?_
        have e9 := Option.some.inj hf
        subst e9
        exact kk (k.1 + 3, k.2 + 18) ⟨Nat.add_le_add_left (by decide) _, Nat.add_le_add_left (by decide) _⟩
      · have hf := (if_neg hc).symm.trans hf
        cases hf
  · have hf := (if_neg hc).symm.trans hf
    cases hf
noncomputable def fK12 (sx : Nat → Int32) (L : Nat) (x m o : Nat) (i : Int32) (σ : St) : Option St :=
(sc sx L (i + 1)).bind fun v992 =>
(sc sx L (i + 2)).bind fun v998 =>
(fL_go σ x v992 v998 o).bind fun w1000 =>
(sc sx L (i + 1)).bind fun v1011 =>
(sc sx L (i + 2)).bind fun v1017 =>
(isO w1000.2 m 11).bind fun _ =>
(fX12_go w1000.2 m v1011 v1017).bind fun w1018 =>
(isO w1018.2 m 11).bind fun _ =>
(fX12_thrown w1018.2 m).bind fun w1024 =>
if w1024 = w1000.1 then
(if w1000.1 = 0 then
((aL w1018.2 o 0).bind fun v1041 =>
if (lg_cmp v1041 w1018.1.toInt64) = 0 then
(some w1018.2)
else
(none))
else
(some w1018.2))
else
(none)
set_option maxHeartbeats 4000000 in
set_option maxRecDepth 100000 in
theorem lK12 {X : xX} {adK adV : Nat → Nat} {b L : Nat} {sx : Nat → Int32} {x m o : Nat} {i : Int32} {σ σ' : St} {k : Nat × Nat} (C : Ok X code 7 RL room_1 (some .boolean)) (hst : (xl X).stackTraces = false) (Ev : xEnv adK adV (xA X) (xs X)) (S : Scr X b L sx) (hk : k.1 + 10 ≤ room_1.cells ∧ k.2 + 60 ≤ room_1.slots) (hf : fK12 sx L x m o i σ = some σ') (kk : ∀ k' : Nat × Nat, k'.1 ≤ k.1 + 10 ∧ k'.2 ≤ k.2 + 60 → Vz X k' σ' 2168 [(0, .ref (b)), (1, .ref (x)), (2, .ref (m)), (3, .ref (o)), (4, .int (i))] []) : Vz X k σ 986 [(0, .ref (b)), (1, .ref (x)), (2, .ref (m)), (3, .ref (o)), (4, .int (i))] [] := by
  unfold fK12 at hf
  refine z_aload_n C dL_law_986 987 rfl 1 rfl rfl ?_
  refine z_aload_n C dL_law_987 988 rfl 0 rfl rfl ?_
  refine z_iload C dL_law_988 990 rfl 4 rfl ?_
  refine z_iconst C dL_law_990 991 rfl 1 (by decide) ?_
  refine z_iadd C dL_law_991 992 rfl ?_
  obtain ⟨v992, hv992, hf⟩ := x_bind hf
  refine z_sld C S hv992 dL_law_992 993 rfl ?_
  refine z_aload_n C dL_law_993 994 rfl 0 rfl rfl ?_
  refine z_iload C dL_law_994 996 rfl 4 rfl ?_
  refine z_iconst C dL_law_996 997 rfl 2 (by decide) ?_
  refine z_iadd C dL_law_997 998 rfl ?_
  obtain ⟨v998, hv998, hf⟩ := x_bind hf
  refine z_sld C S hv998 dL_law_998 999 rfl ?_
  refine z_aload_n C dL_law_999 1000 rfl 3 rfl rfl ?_
  obtain ⟨w1000, hw1000, hf⟩ := x_bind hf
  refine e_cS C Ev dL_law_1000 1003 rfl (cL_goc hst hw1000) kwL_go w1236 ⟨rfl, rfl⟩ ⟨Nat.le_of_ble_eq_true rfl, Nat.le_of_ble_eq_true rfl⟩ (kle hk 2 12 rfl rfl) rfl rfl (Nat.le_of_ble_eq_true rfl) ?_
  refine z_istore C dL_law_1003 1005 rfl rfl [(5, .int (w1000.1)), (0, .ref (b)), (1, .ref (x)), (2, .ref (m)), (3, .ref (o)), (4, .int (i))] rfl ?_
  refine z_aload_n C dL_law_1005 1006 rfl 3 rfl rfl ?_
  refine z_aload_n C dL_law_1006 1007 rfl 1 rfl rfl ?_
  refine z_iload C dL_law_1007 1009 rfl 5 rfl ?_
  refine z_iconst C dL_law_1009 1010 rfl 1 (by decide) ?_
  refine z_iadd C dL_law_1010 1011 rfl ?_
  obtain ⟨v1011, hv1011, hf⟩ := x_bind hf
  refine z_sld C S hv1011 dL_law_1011 1012 rfl ?_
  refine z_aload_n C dL_law_1012 1013 rfl 1 rfl rfl ?_
  refine z_iload C dL_law_1013 1015 rfl 5 rfl ?_
  refine z_iconst C dL_law_1015 1016 rfl 2 (by decide) ?_
  refine z_iadd C dL_law_1016 1017 rfl ?_
  obtain ⟨v1017, hv1017, hf⟩ := x_bind hf
  refine z_sld C S hv1017 dL_law_1017 1018 rfl ?_
  obtain ⟨o1018, ho1018, hf⟩ := x_bind hf
  obtain ⟨w1018, hw1018, hf⟩ := x_bind hf
  refine z_callVi C dL_law_1018 1021 rfl ho1018 cl11.1 rfl (cX12_goc hw1018) kX12_go kvX12_go w2049 ⟨rfl, rfl⟩ ⟨Nat.le_of_ble_eq_true rfl, Nat.le_of_ble_eq_true rfl⟩ (kle hk 2 12 rfl rfl) rfl rfl (Nat.le_of_ble_eq_true rfl) ?_
  refine z_istore C dL_law_1021 1023 rfl rfl [(6, .int (w1018.1)), (5, .int (w1000.1)), (0, .ref (b)), (1, .ref (x)), (2, .ref (m)), (3, .ref (o)), (4, .int (i))] rfl ?_
  refine z_aload_n C dL_law_1023 1024 rfl 4 rfl rfl ?_
  obtain ⟨o1024, ho1024, hf⟩ := x_bind hf
  obtain ⟨w1024, hw1024, hf⟩ := x_bind hf
  refine z_callVi C dL_law_1024 1027 rfl ho1024 cl11.1 rfl (cX12_thrownc hw1024) kX12_thrown kvX12_thrown w1430 ⟨rfl, rfl⟩ ⟨Nat.le_of_ble_eq_true rfl, Nat.le_of_ble_eq_true rfl⟩ (kle hk 2 12 rfl rfl) rfl rfl (Nat.le_of_ble_eq_true rfl) ?_
  refine z_iload C dL_law_1027 1029 rfl 1 rfl ?_
  refine z_icmp_eq C dL_law_1029 1034 (by decide) 1032 rfl (fun hc => ?_) (fun hc => ?_)
  · have hf := (if_pos hc).symm.trans hf
    refine z_iload C dL_law_1034 1036 rfl 1 rfl ?_
    refine z_if_ne C dL_law_1036 1051 (by decide) 1039 rfl (fun hc => ?_) (fun hc => ?_)
    · have hf := (if_neg hc).symm.trans hf
      refine z_goto C dL_law_1051 2168 (by decide) ?_
      refine z_lv [2, 3, 4, 5, 6] (lv' := [(0, .ref (b)), (1, .ref (x)), (2, .ref (m)), (3, .ref (o)), (4, .int (i))]) rfl ?_
      have e9 := Option.some.inj hf
      subst e9
      exact kk (k.1 + 2, k.2 + 12) ⟨Nat.add_le_add_left (by decide) _, Nat.add_le_add_left (by decide) _⟩
    · have hf := (if_pos hc).symm.trans hf
      refine z_aload_n C dL_law_1039 1040 rfl 5 rfl rfl ?_
      refine z_iconst C dL_law_1040 1041 rfl 0 (by decide) ?_
      obtain ⟨v1041, hv1041, hf⟩ := x_bind hf
      refine z_laload C dL_law_1041 1042 rfl hv1041 ?_
      refine z_iload C dL_law_1042 1044 rfl 0 rfl ?_
      refine z_i2l C dL_law_1044 1045 rfl ?_
      refine z_lcmp C dL_law_1045 1046 rfl ?_
      refine z_if_eq C dL_law_1046 1051 (by decide) 1049 rfl (fun hc => ?_) (fun hc => ?_)
      · have hf := (if_pos hc).symm.trans hf
        refine z_goto C dL_law_1051 2168 (by decide) ?_
        refine z_lv [2, 3, 4, 5, 6] (lv' := [(0, .ref (b)), (1, .ref (x)), (2, .ref (m)), (3, .ref (o)), (4, .int (i))]) rfl ?_
        have e9 := Option.some.inj hf
        subst e9
        exact kk (k.1 + 2, k.2 + 12) ⟨Nat.add_le_add_left (by decide) _, Nat.add_le_add_left (by decide) _⟩
      · have hf := (if_neg hc).symm.trans hf
        cases hf
  · have hf := (if_neg hc).symm.trans hf
    cases hf
noncomputable def fK13 (sx : Nat → Int32) (L : Nat) (x m o : Nat) (i : Int32) (σ : St) : Option St :=
(sc sx L (i + 1)).bind fun v1060 =>
(sc sx L (i + 2)).bind fun v1066 =>
(sc sx L (i + 3)).bind fun v1072 =>
(fL_take σ x v1060 v1066 v1072 o).bind fun w1074 =>
(sc sx L (i + 1)).bind fun v1085 =>
(sc sx L (i + 2)).bind fun v1091 =>
(sc sx L (i + 3)).bind fun v1097 =>
(isO w1074.2 m 11).bind fun _ =>
(fX12_take w1074.2 m v1085 v1091 v1097).bind fun w1098 =>
(isO w1098.2 m 11).bind fun _ =>
(fX12_thrown w1098.2 m).bind fun w1104 =>
if w1104 = w1074.1 then
(if w1074.1 = 0 then
((aL w1098.2 o 0).bind fun v1121 =>
if (lg_cmp v1121 w1098.1.toInt64) = 0 then
(some w1098.2)
else
(none))
else
(some w1098.2))
else
(none)
set_option maxHeartbeats 4000000 in
set_option maxRecDepth 100000 in
theorem lK13 {X : xX} {adK adV : Nat → Nat} {b L : Nat} {sx : Nat → Int32} {x m o : Nat} {i : Int32} {σ σ' : St} {k : Nat × Nat} (C : Ok X code 7 RL room_1 (some .boolean)) (hst : (xl X).stackTraces = false) (Ev : xEnv adK adV (xA X) (xs X)) (S : Scr X b L sx) (hk : k.1 + 10 ≤ room_1.cells ∧ k.2 + 60 ≤ room_1.slots) (hf : fK13 sx L x m o i σ = some σ') (kk : ∀ k' : Nat × Nat, k'.1 ≤ k.1 + 10 ∧ k'.2 ≤ k.2 + 60 → Vz X k' σ' 2168 [(0, .ref (b)), (1, .ref (x)), (2, .ref (m)), (3, .ref (o)), (4, .int (i))] []) : Vz X k σ 1054 [(0, .ref (b)), (1, .ref (x)), (2, .ref (m)), (3, .ref (o)), (4, .int (i))] [] := by
  unfold fK13 at hf
  refine z_aload_n C dL_law_1054 1055 rfl 1 rfl rfl ?_
  refine z_aload_n C dL_law_1055 1056 rfl 0 rfl rfl ?_
  refine z_iload C dL_law_1056 1058 rfl 4 rfl ?_
  refine z_iconst C dL_law_1058 1059 rfl 1 (by decide) ?_
  refine z_iadd C dL_law_1059 1060 rfl ?_
  obtain ⟨v1060, hv1060, hf⟩ := x_bind hf
  refine z_sld C S hv1060 dL_law_1060 1061 rfl ?_
  refine z_aload_n C dL_law_1061 1062 rfl 0 rfl rfl ?_
  refine z_iload C dL_law_1062 1064 rfl 4 rfl ?_
  refine z_iconst C dL_law_1064 1065 rfl 2 (by decide) ?_
  refine z_iadd C dL_law_1065 1066 rfl ?_
  obtain ⟨v1066, hv1066, hf⟩ := x_bind hf
  refine z_sld C S hv1066 dL_law_1066 1067 rfl ?_
  refine z_aload_n C dL_law_1067 1068 rfl 0 rfl rfl ?_
  refine z_iload C dL_law_1068 1070 rfl 4 rfl ?_
  refine z_iconst C dL_law_1070 1071 rfl 3 (by decide) ?_
  refine z_iadd C dL_law_1071 1072 rfl ?_
  obtain ⟨v1072, hv1072, hf⟩ := x_bind hf
  refine z_sld C S hv1072 dL_law_1072 1073 rfl ?_
  refine z_aload_n C dL_law_1073 1074 rfl 3 rfl rfl ?_
  obtain ⟨w1074, hw1074, hf⟩ := x_bind hf
  refine e_cS C Ev dL_law_1074 1077 rfl (cL_takec hst hw1074) kwL_take w1243 ⟨rfl, rfl⟩ ⟨Nat.le_of_ble_eq_true rfl, Nat.le_of_ble_eq_true rfl⟩ (kle hk 3 18 rfl rfl) rfl rfl (Nat.le_of_ble_eq_true rfl) ?_
  refine z_istore C dL_law_1077 1079 rfl rfl [(5, .int (w1074.1)), (0, .ref (b)), (1, .ref (x)), (2, .ref (m)), (3, .ref (o)), (4, .int (i))] rfl ?_
  refine z_aload_n C dL_law_1079 1080 rfl 3 rfl rfl ?_
  refine z_aload_n C dL_law_1080 1081 rfl 1 rfl rfl ?_
  refine z_iload C dL_law_1081 1083 rfl 5 rfl ?_
  refine z_iconst C dL_law_1083 1084 rfl 1 (by decide) ?_
  refine z_iadd C dL_law_1084 1085 rfl ?_
  obtain ⟨v1085, hv1085, hf⟩ := x_bind hf
  refine z_sld C S hv1085 dL_law_1085 1086 rfl ?_
  refine z_aload_n C dL_law_1086 1087 rfl 1 rfl rfl ?_
  refine z_iload C dL_law_1087 1089 rfl 5 rfl ?_
  refine z_iconst C dL_law_1089 1090 rfl 2 (by decide) ?_
  refine z_iadd C dL_law_1090 1091 rfl ?_
  obtain ⟨v1091, hv1091, hf⟩ := x_bind hf
  refine z_sld C S hv1091 dL_law_1091 1092 rfl ?_
  refine z_aload_n C dL_law_1092 1093 rfl 1 rfl rfl ?_
  refine z_iload C dL_law_1093 1095 rfl 5 rfl ?_
  refine z_iconst C dL_law_1095 1096 rfl 3 (by decide) ?_
  refine z_iadd C dL_law_1096 1097 rfl ?_
  obtain ⟨v1097, hv1097, hf⟩ := x_bind hf
  refine z_sld C S hv1097 dL_law_1097 1098 rfl ?_
  obtain ⟨o1098, ho1098, hf⟩ := x_bind hf
  obtain ⟨w1098, hw1098, hf⟩ := x_bind hf
  refine z_callVi C dL_law_1098 1101 rfl ho1098 cl11.1 rfl (cX12_takec hw1098) kX12_take kvX12_take w2053 ⟨rfl, rfl⟩ ⟨Nat.le_of_ble_eq_true rfl, Nat.le_of_ble_eq_true rfl⟩ (kle hk 3 18 rfl rfl) rfl rfl (Nat.le_of_ble_eq_true rfl) ?_
  refine z_istore C dL_law_1101 1103 rfl rfl [(6, .int (w1098.1)), (5, .int (w1074.1)), (0, .ref (b)), (1, .ref (x)), (2, .ref (m)), (3, .ref (o)), (4, .int (i))] rfl ?_
  refine z_aload_n C dL_law_1103 1104 rfl 4 rfl rfl ?_
  obtain ⟨o1104, ho1104, hf⟩ := x_bind hf
  obtain ⟨w1104, hw1104, hf⟩ := x_bind hf
  refine z_callVi C dL_law_1104 1107 rfl ho1104 cl11.1 rfl (cX12_thrownc hw1104) kX12_thrown kvX12_thrown w1430 ⟨rfl, rfl⟩ ⟨Nat.le_of_ble_eq_true rfl, Nat.le_of_ble_eq_true rfl⟩ (kle hk 3 18 rfl rfl) rfl rfl (Nat.le_of_ble_eq_true rfl) ?_
  refine z_iload C dL_law_1107 1109 rfl 1 rfl ?_
  refine z_icmp_eq C dL_law_1109 1114 (by decide) 1112 rfl (fun hc => ?_) (fun hc => ?_)
  · have hf := (if_pos hc).symm.trans hf
    refine z_iload C dL_law_1114 1116 rfl 1 rfl ?_
    refine z_if_ne C dL_law_1116 1131 (by decide) 1119 rfl (fun hc => ?_) (fun hc => ?_)
    · have hf := (if_neg hc).symm.trans hf
      refine z_goto C dL_law_1131 2168 (by decide) ?_
      refine z_lv [2, 3, 4, 5, 6] (lv' := [(0, .ref (b)), (1, .ref (x)), (2, .ref (m)), (3, .ref (o)), (4, .int (i))]) rfl ?_
      have e9 := Option.some.inj hf
      subst e9
      exact kk (k.1 + 3, k.2 + 18) ⟨Nat.add_le_add_left (by decide) _, Nat.add_le_add_left (by decide) _⟩
    · have hf := (if_pos hc).symm.trans hf
      refine z_aload_n C dL_law_1119 1120 rfl 5 rfl rfl ?_
      refine z_iconst C dL_law_1120 1121 rfl 0 (by decide) ?_
      obtain ⟨v1121, hv1121, hf⟩ := x_bind hf
      refine z_laload C dL_law_1121 1122 rfl hv1121 ?_
      refine z_iload C dL_law_1122 1124 rfl 0 rfl ?_
      refine z_i2l C dL_law_1124 1125 rfl ?_
      refine z_lcmp C dL_law_1125 1126 rfl ?_
      refine z_if_eq C dL_law_1126 1131 (by decide) 1129 rfl (fun hc => ?_) (fun hc => ?_)
      · have hf := (if_pos hc).symm.trans hf
        refine z_goto C dL_law_1131 2168 (by decide) ?_
        refine z_lv [2, 3, 4, 5, 6] (lv' := [(0, .ref (b)), (1, .ref (x)), (2, .ref (m)), (3, .ref (o)), (4, .int (i))]) rfl ?_
        have e9 := Option.some.inj hf
        subst e9
        exact kk (k.1 + 3, k.2 + 18) ⟨Nat.add_le_add_left (by decide) _, Nat.add_le_add_left (by decide) _⟩
      · have hf := (if_neg hc).symm.trans hf
        cases hf
  · have hf := (if_neg hc).symm.trans hf
    cases hf
noncomputable def fK14 (sx : Nat → Int32) (L : Nat) (x m o : Nat) (i : Int32) (σ : St) : Option St :=
(sc sx L (i + 1)).bind fun v1140 =>
(sc sx L (i + 2)).bind fun v1146 =>
(fL_came σ x v1140 v1146 o).bind fun w1148 =>
(sc sx L (i + 1)).bind fun v1159 =>
(sc sx L (i + 2)).bind fun v1165 =>
(isO w1148.2 m 11).bind fun _ =>
(fX12_came w1148.2 m v1159 v1165).bind fun w1166 =>
(isO w1166.2 m 11).bind fun _ =>
(fX12_thrown w1166.2 m).bind fun w1172 =>
if w1172 = w1148.1 then
(if w1148.1 = 0 then
((aL w1166.2 o 0).bind fun v1189 =>
if (lg_cmp v1189 w1166.1.toInt64) = 0 then
(some w1166.2)
else
(none))
else
(some w1166.2))
else
(none)
set_option maxHeartbeats 4000000 in
set_option maxRecDepth 100000 in
theorem lK14 {X : xX} {adK adV : Nat → Nat} {b L : Nat} {sx : Nat → Int32} {x m o : Nat} {i : Int32} {σ σ' : St} {k : Nat × Nat} (C : Ok X code 7 RL room_1 (some .boolean)) (hst : (xl X).stackTraces = false) (Ev : xEnv adK adV (xA X) (xs X)) (S : Scr X b L sx) (hk : k.1 + 10 ≤ room_1.cells ∧ k.2 + 60 ≤ room_1.slots) (hf : fK14 sx L x m o i σ = some σ') (kk : ∀ k' : Nat × Nat, k'.1 ≤ k.1 + 10 ∧ k'.2 ≤ k.2 + 60 → Vz X k' σ' 2168 [(0, .ref (b)), (1, .ref (x)), (2, .ref (m)), (3, .ref (o)), (4, .int (i))] []) : Vz X k σ 1134 [(0, .ref (b)), (1, .ref (x)), (2, .ref (m)), (3, .ref (o)), (4, .int (i))] [] := by
  unfold fK14 at hf
  refine z_aload_n C dL_law_1134 1135 rfl 1 rfl rfl ?_
  refine z_aload_n C dL_law_1135 1136 rfl 0 rfl rfl ?_
  refine z_iload C dL_law_1136 1138 rfl 4 rfl ?_
  refine z_iconst C dL_law_1138 1139 rfl 1 (by decide) ?_
  refine z_iadd C dL_law_1139 1140 rfl ?_
  obtain ⟨v1140, hv1140, hf⟩ := x_bind hf
  refine z_sld C S hv1140 dL_law_1140 1141 rfl ?_
  refine z_aload_n C dL_law_1141 1142 rfl 0 rfl rfl ?_
  refine z_iload C dL_law_1142 1144 rfl 4 rfl ?_
  refine z_iconst C dL_law_1144 1145 rfl 2 (by decide) ?_
  refine z_iadd C dL_law_1145 1146 rfl ?_
  obtain ⟨v1146, hv1146, hf⟩ := x_bind hf
  refine z_sld C S hv1146 dL_law_1146 1147 rfl ?_
  refine z_aload_n C dL_law_1147 1148 rfl 3 rfl rfl ?_
  obtain ⟨w1148, hw1148, hf⟩ := x_bind hf
  refine e_cS C Ev dL_law_1148 1151 rfl (cL_camec hst hw1148) kwL_came w1254 ⟨rfl, rfl⟩ ⟨Nat.le_of_ble_eq_true rfl, Nat.le_of_ble_eq_true rfl⟩ (kle hk 2 12 rfl rfl) rfl rfl (Nat.le_of_ble_eq_true rfl) ?_
  refine z_istore C dL_law_1151 1153 rfl rfl [(5, .int (w1148.1)), (0, .ref (b)), (1, .ref (x)), (2, .ref (m)), (3, .ref (o)), (4, .int (i))] rfl ?_
  refine z_aload_n C dL_law_1153 1154 rfl 3 rfl rfl ?_
  refine z_aload_n C dL_law_1154 1155 rfl 1 rfl rfl ?_
  refine z_iload C dL_law_1155 1157 rfl 5 rfl ?_
  refine z_iconst C dL_law_1157 1158 rfl 1 (by decide) ?_
  refine z_iadd C dL_law_1158 1159 rfl ?_
  obtain ⟨v1159, hv1159, hf⟩ := x_bind hf
  refine z_sld C S hv1159 dL_law_1159 1160 rfl ?_
  refine z_aload_n C dL_law_1160 1161 rfl 1 rfl rfl ?_
  refine z_iload C dL_law_1161 1163 rfl 5 rfl ?_
  refine z_iconst C dL_law_1163 1164 rfl 2 (by decide) ?_
  refine z_iadd C dL_law_1164 1165 rfl ?_
  obtain ⟨v1165, hv1165, hf⟩ := x_bind hf
  refine z_sld C S hv1165 dL_law_1165 1166 rfl ?_
  obtain ⟨o1166, ho1166, hf⟩ := x_bind hf
  obtain ⟨w1166, hw1166, hf⟩ := x_bind hf
  refine z_callVi C dL_law_1166 1169 rfl ho1166 cl11.1 rfl (cX12_camec hw1166) kX12_came kvX12_came w2061 ⟨rfl, rfl⟩ ⟨Nat.le_of_ble_eq_true rfl, Nat.le_of_ble_eq_true rfl⟩ (kle hk 2 12 rfl rfl) rfl rfl (Nat.le_of_ble_eq_true rfl) ?_
  refine z_istore C dL_law_1169 1171 rfl rfl [(6, .int (w1166.1)), (5, .int (w1148.1)), (0, .ref (b)), (1, .ref (x)), (2, .ref (m)), (3, .ref (o)), (4, .int (i))] rfl ?_
  refine z_aload_n C dL_law_1171 1172 rfl 4 rfl rfl ?_
  obtain ⟨o1172, ho1172, hf⟩ := x_bind hf
  obtain ⟨w1172, hw1172, hf⟩ := x_bind hf
  refine z_callVi C dL_law_1172 1175 rfl ho1172 cl11.1 rfl (cX12_thrownc hw1172) kX12_thrown kvX12_thrown w1430 ⟨rfl, rfl⟩ ⟨Nat.le_of_ble_eq_true rfl, Nat.le_of_ble_eq_true rfl⟩ (kle hk 2 12 rfl rfl) rfl rfl (Nat.le_of_ble_eq_true rfl) ?_
  refine z_iload C dL_law_1175 1177 rfl 1 rfl ?_
  refine z_icmp_eq C dL_law_1177 1182 (by decide) 1180 rfl (fun hc => ?_) (fun hc => ?_)
  · have hf := (if_pos hc).symm.trans hf
    refine z_iload C dL_law_1182 1184 rfl 1 rfl ?_
    refine z_if_ne C dL_law_1184 1199 (by decide) 1187 rfl (fun hc => ?_) (fun hc => ?_)
    · have hf := (if_neg hc).symm.trans hf
      refine z_goto C dL_law_1199 2168 (by decide) ?_
      refine z_lv [2, 3, 4, 5, 6] (lv' := [(0, .ref (b)), (1, .ref (x)), (2, .ref (m)), (3, .ref (o)), (4, .int (i))]) rfl ?_
      have e9 := Option.some.inj hf
      subst e9
      exact kk (k.1 + 2, k.2 + 12) ⟨Nat.add_le_add_left (by decide) _, Nat.add_le_add_left (by decide) _⟩
    · have hf := (if_pos hc).symm.trans hf
      refine z_aload_n C dL_law_1187 1188 rfl 5 rfl rfl ?_
      refine z_iconst C dL_law_1188 1189 rfl 0 (by decide) ?_
      obtain ⟨v1189, hv1189, hf⟩ := x_bind hf
      refine z_laload C dL_law_1189 1190 rfl hv1189 ?_
      refine z_iload C dL_law_1190 1192 rfl 0 rfl ?_
      refine z_i2l C dL_law_1192 1193 rfl ?_
      refine z_lcmp C dL_law_1193 1194 rfl ?_
      refine z_if_eq C dL_law_1194 1199 (by decide) 1197 rfl (fun hc => ?_) (fun hc => ?_)
      · have hf := (if_pos hc).symm.trans hf
        refine z_goto C dL_law_1199 2168 (by decide) ?_
        refine z_lv [2, 3, 4, 5, 6] (lv' := [(0, .ref (b)), (1, .ref (x)), (2, .ref (m)), (3, .ref (o)), (4, .int (i))]) rfl ?_
        have e9 := Option.some.inj hf
        subst e9
        exact kk (k.1 + 2, k.2 + 12) ⟨Nat.add_le_add_left (by decide) _, Nat.add_le_add_left (by decide) _⟩
      · have hf := (if_neg hc).symm.trans hf
        cases hf
  · have hf := (if_neg hc).symm.trans hf
    cases hf
noncomputable def fK15 (sx : Nat → Int32) (L : Nat) (x m o : Nat) (i : Int32) (σ : St) : Option St :=
(sc sx L (i + 1)).bind fun v1208 =>
(sc sx L (i + 2)).bind fun v1214 =>
(sc sx L (i + 3)).bind fun v1220 =>
(fL_meet σ x v1208 v1214 v1220 o).bind fun w1222 =>
(sc sx L (i + 1)).bind fun v1233 =>
(sc sx L (i + 2)).bind fun v1239 =>
(sc sx L (i + 3)).bind fun v1245 =>
(isO w1222.2 m 11).bind fun _ =>
(fX12_meet w1222.2 m v1233 v1239 v1245).bind fun w1246 =>
(isO w1246.2 m 11).bind fun _ =>
(fX12_thrown w1246.2 m).bind fun w1252 =>
if w1252 = w1222.1 then
(if w1222.1 = 0 then
((aL w1246.2 o 0).bind fun v1269 =>
if (lg_cmp v1269 w1246.1.toInt64) = 0 then
(some w1246.2)
else
(none))
else
(some w1246.2))
else
(none)
set_option maxHeartbeats 4000000 in
set_option maxRecDepth 100000 in
theorem lK15 {X : xX} {adK adV : Nat → Nat} {b L : Nat} {sx : Nat → Int32} {x m o : Nat} {i : Int32} {σ σ' : St} {k : Nat × Nat} (C : Ok X code 7 RL room_1 (some .boolean)) (hst : (xl X).stackTraces = false) (Ev : xEnv adK adV (xA X) (xs X)) (S : Scr X b L sx) (hk : k.1 + 10 ≤ room_1.cells ∧ k.2 + 60 ≤ room_1.slots) (hf : fK15 sx L x m o i σ = some σ') (kk : ∀ k' : Nat × Nat, k'.1 ≤ k.1 + 10 ∧ k'.2 ≤ k.2 + 60 → Vz X k' σ' 2168 [(0, .ref (b)), (1, .ref (x)), (2, .ref (m)), (3, .ref (o)), (4, .int (i))] []) : Vz X k σ 1202 [(0, .ref (b)), (1, .ref (x)), (2, .ref (m)), (3, .ref (o)), (4, .int (i))] [] := by
  unfold fK15 at hf
  refine z_aload_n C dL_law_1202 1203 rfl 1 rfl rfl ?_
  refine z_aload_n C dL_law_1203 1204 rfl 0 rfl rfl ?_
  refine z_iload C dL_law_1204 1206 rfl 4 rfl ?_
  refine z_iconst C dL_law_1206 1207 rfl 1 (by decide) ?_
  refine z_iadd C dL_law_1207 1208 rfl ?_
  obtain ⟨v1208, hv1208, hf⟩ := x_bind hf
  refine z_sld C S hv1208 dL_law_1208 1209 rfl ?_
  refine z_aload_n C dL_law_1209 1210 rfl 0 rfl rfl ?_
  refine z_iload C dL_law_1210 1212 rfl 4 rfl ?_
  refine z_iconst C dL_law_1212 1213 rfl 2 (by decide) ?_
  refine z_iadd C dL_law_1213 1214 rfl ?_
  obtain ⟨v1214, hv1214, hf⟩ := x_bind hf
  refine z_sld C S hv1214 dL_law_1214 1215 rfl ?_
  refine z_aload_n C dL_law_1215 1216 rfl 0 rfl rfl ?_
  refine z_iload C dL_law_1216 1218 rfl 4 rfl ?_
  refine z_iconst C dL_law_1218 1219 rfl 3 (by decide) ?_
  refine z_iadd C dL_law_1219 1220 rfl ?_
  obtain ⟨v1220, hv1220, hf⟩ := x_bind hf
  refine z_sld C S hv1220 dL_law_1220 1221 rfl ?_
  refine z_aload_n C dL_law_1221 1222 rfl 3 rfl rfl ?_
  obtain ⟨w1222, hw1222, hf⟩ := x_bind hf
  refine e_cS C Ev dL_law_1222 1225 rfl (cL_meetc hst hw1222) kwL_meet w1261 ⟨rfl, rfl⟩ ⟨Nat.le_of_ble_eq_true rfl, Nat.le_of_ble_eq_true rfl⟩ (kle hk 3 18 rfl rfl) rfl rfl (Nat.le_of_ble_eq_true rfl) ?_
  refine z_istore C dL_law_1225 1227 rfl rfl [(5, .int (w1222.1)), (0, .ref (b)), (1, .ref (x)), (2, .ref (m)), (3, .ref (o)), (4, .int (i))] rfl ?_
  refine z_aload_n C dL_law_1227 1228 rfl 3 rfl rfl ?_
  refine z_aload_n C dL_law_1228 1229 rfl 1 rfl rfl ?_
  refine z_iload C dL_law_1229 1231 rfl 5 rfl ?_
  refine z_iconst C dL_law_1231 1232 rfl 1 (by decide) ?_
  refine z_iadd C dL_law_1232 1233 rfl ?_
  obtain ⟨v1233, hv1233, hf⟩ := x_bind hf
  refine z_sld C S hv1233 dL_law_1233 1234 rfl ?_
  refine z_aload_n C dL_law_1234 1235 rfl 1 rfl rfl ?_
  refine z_iload C dL_law_1235 1237 rfl 5 rfl ?_
  refine z_iconst C dL_law_1237 1238 rfl 2 (by decide) ?_
  refine z_iadd C dL_law_1238 1239 rfl ?_
  obtain ⟨v1239, hv1239, hf⟩ := x_bind hf
  refine z_sld C S hv1239 dL_law_1239 1240 rfl ?_
  refine z_aload_n C dL_law_1240 1241 rfl 1 rfl rfl ?_
  refine z_iload C dL_law_1241 1243 rfl 5 rfl ?_
  refine z_iconst C dL_law_1243 1244 rfl 3 (by decide) ?_
  refine z_iadd C dL_law_1244 1245 rfl ?_
  obtain ⟨v1245, hv1245, hf⟩ := x_bind hf
  refine z_sld C S hv1245 dL_law_1245 1246 rfl ?_
  obtain ⟨o1246, ho1246, hf⟩ := x_bind hf
  obtain ⟨w1246, hw1246, hf⟩ := x_bind hf
  refine z_callVi C dL_law_1246 1249 rfl ho1246 cl11.1 rfl (cX12_meetc hw1246) kX12_meet kvX12_meet w2065 ⟨rfl, rfl⟩ ⟨Nat.le_of_ble_eq_true rfl, Nat.le_of_ble_eq_true rfl⟩ (kle hk 3 18 rfl rfl) rfl rfl (Nat.le_of_ble_eq_true rfl) ?_
  refine z_istore C dL_law_1249 1251 rfl rfl [(6, .int (w1246.1)), (5, .int (w1222.1)), (0, .ref (b)), (1, .ref (x)), (2, .ref (m)), (3, .ref (o)), (4, .int (i))] rfl ?_
  refine z_aload_n C dL_law_1251 1252 rfl 4 rfl rfl ?_
  obtain ⟨o1252, ho1252, hf⟩ := x_bind hf
  obtain ⟨w1252, hw1252, hf⟩ := x_bind hf
  refine z_callVi C dL_law_1252 1255 rfl ho1252 cl11.1 rfl (cX12_thrownc hw1252) kX12_thrown kvX12_thrown w1430 ⟨rfl, rfl⟩ ⟨Nat.le_of_ble_eq_true rfl, Nat.le_of_ble_eq_true rfl⟩ (kle hk 3 18 rfl rfl) rfl rfl (Nat.le_of_ble_eq_true rfl) ?_
  refine z_iload C dL_law_1255 1257 rfl 1 rfl ?_
  refine z_icmp_eq C dL_law_1257 1262 (by decide) 1260 rfl (fun hc => ?_) (fun hc => ?_)
  · have hf := (if_pos hc).symm.trans hf
    refine z_iload C dL_law_1262 1264 rfl 1 rfl ?_
    refine z_if_ne C dL_law_1264 1279 (by decide) 1267 rfl (fun hc => ?_) (fun hc => ?_)
    · have hf := (if_neg hc).symm.trans hf
      refine z_goto C dL_law_1279 2168 (by decide) ?_
      refine z_lv [2, 3, 4, 5, 6] (lv' := [(0, .ref (b)), (1, .ref (x)), (2, .ref (m)), (3, .ref (o)), (4, .int (i))]) rfl ?_
      have e9 := Option.some.inj hf
      subst e9
      exact kk (k.1 + 3, k.2 + 18) ⟨Nat.add_le_add_left (by decide) _, Nat.add_le_add_left (by decide) _⟩
    · have hf := (if_pos hc).symm.trans hf
      refine z_aload_n C dL_law_1267 1268 rfl 5 rfl rfl ?_
      refine z_iconst C dL_law_1268 1269 rfl 0 (by decide) ?_
      obtain ⟨v1269, hv1269, hf⟩ := x_bind hf
      refine z_laload C dL_law_1269 1270 rfl hv1269 ?_
      refine z_iload C dL_law_1270 1272 rfl 0 rfl ?_
      refine z_i2l C dL_law_1272 1273 rfl ?_
      refine z_lcmp C dL_law_1273 1274 rfl ?_
      refine z_if_eq C dL_law_1274 1279 (by decide) 1277 rfl (fun hc => ?_) (fun hc => ?_)
      · have hf := (if_pos hc).symm.trans hf
        refine z_goto C dL_law_1279 2168 (by decide) ?_
        refine z_lv [2, 3, 4, 5, 6] (lv' := [(0, .ref (b)), (1, .ref (x)), (2, .ref (m)), (3, .ref (o)), (4, .int (i))]) rfl ?_
        have e9 := Option.some.inj hf
        subst e9
        exact kk (k.1 + 3, k.2 + 18) ⟨Nat.add_le_add_left (by decide) _, Nat.add_le_add_left (by decide) _⟩
      · have hf := (if_neg hc).symm.trans hf
        cases hf
  · have hf := (if_neg hc).symm.trans hf
    cases hf
noncomputable def fK16 (sx : Nat → Int32) (L : Nat) (x m o : Nat) (i : Int32) (σ : St) : Option St :=
(sc sx L (i + 1)).bind fun v1288 =>
(sc sx L (i + 2)).bind fun v1294 =>
(fL_far σ x v1288 v1294 o).bind fun w1296 =>
(sc sx L (i + 1)).bind fun v1307 =>
(sc sx L (i + 2)).bind fun v1313 =>
(isO w1296.2 m 11).bind fun _ =>
(fX12_far w1296.2 m v1307 v1313).bind fun w1314 =>
(isO w1314.2 m 11).bind fun _ =>
(fX12_thrown w1314.2 m).bind fun w1320 =>
if w1320 = w1296.1 then
(if w1296.1 = 0 then
((aL w1314.2 o 0).bind fun v1337 =>
if (lg_cmp v1337 w1314.1.toInt64) = 0 then
(some w1314.2)
else
(none))
else
(some w1314.2))
else
(none)
set_option maxHeartbeats 4000000 in
set_option maxRecDepth 100000 in
theorem lK16 {X : xX} {adK adV : Nat → Nat} {b L : Nat} {sx : Nat → Int32} {x m o : Nat} {i : Int32} {σ σ' : St} {k : Nat × Nat} (C : Ok X code 7 RL room_1 (some .boolean)) (hst : (xl X).stackTraces = false) (Ev : xEnv adK adV (xA X) (xs X)) (S : Scr X b L sx) (hk : k.1 + 10 ≤ room_1.cells ∧ k.2 + 60 ≤ room_1.slots) (hf : fK16 sx L x m o i σ = some σ') (kk : ∀ k' : Nat × Nat, k'.1 ≤ k.1 + 10 ∧ k'.2 ≤ k.2 + 60 → Vz X k' σ' 2168 [(0, .ref (b)), (1, .ref (x)), (2, .ref (m)), (3, .ref (o)), (4, .int (i))] []) : Vz X k σ 1282 [(0, .ref (b)), (1, .ref (x)), (2, .ref (m)), (3, .ref (o)), (4, .int (i))] [] := by
  unfold fK16 at hf
  refine z_aload_n C dL_law_1282 1283 rfl 1 rfl rfl ?_
  refine z_aload_n C dL_law_1283 1284 rfl 0 rfl rfl ?_
  refine z_iload C dL_law_1284 1286 rfl 4 rfl ?_
  refine z_iconst C dL_law_1286 1287 rfl 1 (by decide) ?_
  refine z_iadd C dL_law_1287 1288 rfl ?_
  obtain ⟨v1288, hv1288, hf⟩ := x_bind hf
  refine z_sld C S hv1288 dL_law_1288 1289 rfl ?_
  refine z_aload_n C dL_law_1289 1290 rfl 0 rfl rfl ?_
  refine z_iload C dL_law_1290 1292 rfl 4 rfl ?_
  refine z_iconst C dL_law_1292 1293 rfl 2 (by decide) ?_
  refine z_iadd C dL_law_1293 1294 rfl ?_
  obtain ⟨v1294, hv1294, hf⟩ := x_bind hf
  refine z_sld C S hv1294 dL_law_1294 1295 rfl ?_
  refine z_aload_n C dL_law_1295 1296 rfl 3 rfl rfl ?_
  obtain ⟨w1296, hw1296, hf⟩ := x_bind hf
  refine e_cS C Ev dL_law_1296 1299 rfl (cL_farc hst hw1296) kwL_far w1272 ⟨rfl, rfl⟩ ⟨Nat.le_of_ble_eq_true rfl, Nat.le_of_ble_eq_true rfl⟩ (kle hk 2 12 rfl rfl) rfl rfl (Nat.le_of_ble_eq_true rfl) ?_
  refine z_istore C dL_law_1299 1301 rfl rfl [(5, .int (w1296.1)), (0, .ref (b)), (1, .ref (x)), (2, .ref (m)), (3, .ref (o)), (4, .int (i))] rfl ?_
  refine z_aload_n C dL_law_1301 1302 rfl 3 rfl rfl ?_
  refine z_aload_n C dL_law_1302 1303 rfl 1 rfl rfl ?_
  refine z_iload C dL_law_1303 1305 rfl 5 rfl ?_
  refine z_iconst C dL_law_1305 1306 rfl 1 (by decide) ?_
  refine z_iadd C dL_law_1306 1307 rfl ?_
  obtain ⟨v1307, hv1307, hf⟩ := x_bind hf
  refine z_sld C S hv1307 dL_law_1307 1308 rfl ?_
  refine z_aload_n C dL_law_1308 1309 rfl 1 rfl rfl ?_
  refine z_iload C dL_law_1309 1311 rfl 5 rfl ?_
  refine z_iconst C dL_law_1311 1312 rfl 2 (by decide) ?_
  refine z_iadd C dL_law_1312 1313 rfl ?_
  obtain ⟨v1313, hv1313, hf⟩ := x_bind hf
  refine z_sld C S hv1313 dL_law_1313 1314 rfl ?_
  obtain ⟨o1314, ho1314, hf⟩ := x_bind hf
  obtain ⟨w1314, hw1314, hf⟩ := x_bind hf
  refine z_callVi C dL_law_1314 1317 rfl ho1314 cl11.1 rfl (cX12_farc hw1314) kX12_far kvX12_far w2069 ⟨rfl, rfl⟩ ⟨Nat.le_of_ble_eq_true rfl, Nat.le_of_ble_eq_true rfl⟩ (kle hk 2 12 rfl rfl) rfl rfl (Nat.le_of_ble_eq_true rfl) ?_
  refine z_istore C dL_law_1317 1319 rfl rfl [(6, .int (w1314.1)), (5, .int (w1296.1)), (0, .ref (b)), (1, .ref (x)), (2, .ref (m)), (3, .ref (o)), (4, .int (i))] rfl ?_
  refine z_aload_n C dL_law_1319 1320 rfl 4 rfl rfl ?_
  obtain ⟨o1320, ho1320, hf⟩ := x_bind hf
  obtain ⟨w1320, hw1320, hf⟩ := x_bind hf
  refine z_callVi C dL_law_1320 1323 rfl ho1320 cl11.1 rfl (cX12_thrownc hw1320) kX12_thrown kvX12_thrown w1430 ⟨rfl, rfl⟩ ⟨Nat.le_of_ble_eq_true rfl, Nat.le_of_ble_eq_true rfl⟩ (kle hk 2 12 rfl rfl) rfl rfl (Nat.le_of_ble_eq_true rfl) ?_
  refine z_iload C dL_law_1323 1325 rfl 1 rfl ?_
  refine z_icmp_eq C dL_law_1325 1330 (by decide) 1328 rfl (fun hc => ?_) (fun hc => ?_)
  · have hf := (if_pos hc).symm.trans hf
    refine z_iload C dL_law_1330 1332 rfl 1 rfl ?_
    refine z_if_ne C dL_law_1332 1347 (by decide) 1335 rfl (fun hc => ?_) (fun hc => ?_)
    · have hf := (if_neg hc).symm.trans hf
      refine z_goto C dL_law_1347 2168 (by decide) ?_
      refine z_lv [2, 3, 4, 5, 6] (lv' := [(0, .ref (b)), (1, .ref (x)), (2, .ref (m)), (3, .ref (o)), (4, .int (i))]) rfl ?_
      have e9 := Option.some.inj hf
      subst e9
      exact kk (k.1 + 2, k.2 + 12) ⟨Nat.add_le_add_left (by decide) _, Nat.add_le_add_left (by decide) _⟩
    · have hf := (if_pos hc).symm.trans hf
      refine z_aload_n C dL_law_1335 1336 rfl 5 rfl rfl ?_
      refine z_iconst C dL_law_1336 1337 rfl 0 (by decide) ?_
      obtain ⟨v1337, hv1337, hf⟩ := x_bind hf
      refine z_laload C dL_law_1337 1338 rfl hv1337 ?_
      refine z_iload C dL_law_1338 1340 rfl 0 rfl ?_
      refine z_i2l C dL_law_1340 1341 rfl ?_
      refine z_lcmp C dL_law_1341 1342 rfl ?_
      refine z_if_eq C dL_law_1342 1347 (by decide) 1345 rfl (fun hc => ?_) (fun hc => ?_)
      · have hf := (if_pos hc).symm.trans hf
        refine z_goto C dL_law_1347 2168 (by decide) ?_
        refine z_lv [2, 3, 4, 5, 6] (lv' := [(0, .ref (b)), (1, .ref (x)), (2, .ref (m)), (3, .ref (o)), (4, .int (i))]) rfl ?_
        have e9 := Option.some.inj hf
        subst e9
        exact kk (k.1 + 2, k.2 + 12) ⟨Nat.add_le_add_left (by decide) _, Nat.add_le_add_left (by decide) _⟩
      · have hf := (if_neg hc).symm.trans hf
        cases hf
  · have hf := (if_neg hc).symm.trans hf
    cases hf
noncomputable def fK17 (sx : Nat → Int32) (L : Nat) (x m o : Nat) (i : Int32) (σ : St) : Option St :=
(sc sx L (i + 1)).bind fun v1356 =>
(sc sx L (i + 2)).bind fun v1362 =>
(fL_compare σ x v1356 v1362 o).bind fun w1364 =>
(sc sx L (i + 1)).bind fun v1375 =>
(sc sx L (i + 2)).bind fun v1381 =>
(isO w1364.2 m 11).bind fun _ =>
(fX12_compare w1364.2 m v1375 v1381).bind fun w1382 =>
(isO w1382.2 m 11).bind fun _ =>
(fX12_thrown w1382.2 m).bind fun w1388 =>
if w1388 = w1364.1 then
(if w1364.1 = 0 then
((aL w1382.2 o 0).bind fun v1405 =>
if (lg_cmp v1405 w1382.1.toInt64) = 0 then
(some w1382.2)
else
(none))
else
(some w1382.2))
else
(none)
set_option maxHeartbeats 4000000 in
set_option maxRecDepth 100000 in
theorem lK17 {X : xX} {adK adV : Nat → Nat} {b L : Nat} {sx : Nat → Int32} {x m o : Nat} {i : Int32} {σ σ' : St} {k : Nat × Nat} (C : Ok X code 7 RL room_1 (some .boolean)) (hst : (xl X).stackTraces = false) (Ev : xEnv adK adV (xA X) (xs X)) (S : Scr X b L sx) (hk : k.1 + 10 ≤ room_1.cells ∧ k.2 + 60 ≤ room_1.slots) (hf : fK17 sx L x m o i σ = some σ') (kk : ∀ k' : Nat × Nat, k'.1 ≤ k.1 + 10 ∧ k'.2 ≤ k.2 + 60 → Vz X k' σ' 2168 [(0, .ref (b)), (1, .ref (x)), (2, .ref (m)), (3, .ref (o)), (4, .int (i))] []) : Vz X k σ 1350 [(0, .ref (b)), (1, .ref (x)), (2, .ref (m)), (3, .ref (o)), (4, .int (i))] [] := by
  unfold fK17 at hf
  refine z_aload_n C dL_law_1350 1351 rfl 1 rfl rfl ?_
  refine z_aload_n C dL_law_1351 1352 rfl 0 rfl rfl ?_
  refine z_iload C dL_law_1352 1354 rfl 4 rfl ?_
  refine z_iconst C dL_law_1354 1355 rfl 1 (by decide) ?_
  refine z_iadd C dL_law_1355 1356 rfl ?_
  obtain ⟨v1356, hv1356, hf⟩ := x_bind hf
  refine z_sld C S hv1356 dL_law_1356 1357 rfl ?_
  refine z_aload_n C dL_law_1357 1358 rfl 0 rfl rfl ?_
  refine z_iload C dL_law_1358 1360 rfl 4 rfl ?_
  refine z_iconst C dL_law_1360 1361 rfl 2 (by decide) ?_
  refine z_iadd C dL_law_1361 1362 rfl ?_
  obtain ⟨v1362, hv1362, hf⟩ := x_bind hf
  refine z_sld C S hv1362 dL_law_1362 1363 rfl ?_
  refine z_aload_n C dL_law_1363 1364 rfl 3 rfl rfl ?_
  obtain ⟨w1364, hw1364, hf⟩ := x_bind hf
  refine e_cS C Ev dL_law_1364 1367 rfl (cL_comparec hst hw1364) kwL_compare w1279 ⟨rfl, rfl⟩ ⟨Nat.le_of_ble_eq_true rfl, Nat.le_of_ble_eq_true rfl⟩ (kle hk 2 12 rfl rfl) rfl rfl (Nat.le_of_ble_eq_true rfl) ?_
  refine z_istore C dL_law_1367 1369 rfl rfl [(5, .int (w1364.1)), (0, .ref (b)), (1, .ref (x)), (2, .ref (m)), (3, .ref (o)), (4, .int (i))] rfl ?_
  refine z_aload_n C dL_law_1369 1370 rfl 3 rfl rfl ?_
  refine z_aload_n C dL_law_1370 1371 rfl 1 rfl rfl ?_
  refine z_iload C dL_law_1371 1373 rfl 5 rfl ?_
  refine z_iconst C dL_law_1373 1374 rfl 1 (by decide) ?_
  refine z_iadd C dL_law_1374 1375 rfl ?_
  obtain ⟨v1375, hv1375, hf⟩ := x_bind hf
  refine z_sld C S hv1375 dL_law_1375 1376 rfl ?_
  refine z_aload_n C dL_law_1376 1377 rfl 1 rfl rfl ?_
  refine z_iload C dL_law_1377 1379 rfl 5 rfl ?_
  refine z_iconst C dL_law_1379 1380 rfl 2 (by decide) ?_
  refine z_iadd C dL_law_1380 1381 rfl ?_
  obtain ⟨v1381, hv1381, hf⟩ := x_bind hf
  refine z_sld C S hv1381 dL_law_1381 1382 rfl ?_
  obtain ⟨o1382, ho1382, hf⟩ := x_bind hf
  obtain ⟨w1382, hw1382, hf⟩ := x_bind hf
  refine z_callVi C dL_law_1382 1385 rfl ho1382 cl11.1 rfl (cX12_comparec hw1382) kX12_compare kvX12_compare w2077 ⟨rfl, rfl⟩ ⟨Nat.le_of_ble_eq_true rfl, Nat.le_of_ble_eq_true rfl⟩ (kle hk 2 12 rfl rfl) rfl rfl (Nat.le_of_ble_eq_true rfl) ?_
  refine z_istore C dL_law_1385 1387 rfl rfl [(6, .int (w1382.1)), (5, .int (w1364.1)), (0, .ref (b)), (1, .ref (x)), (2, .ref (m)), (3, .ref (o)), (4, .int (i))] rfl ?_
  refine z_aload_n C dL_law_1387 1388 rfl 4 rfl rfl ?_
  obtain ⟨o1388, ho1388, hf⟩ := x_bind hf
  obtain ⟨w1388, hw1388, hf⟩ := x_bind hf
  refine z_callVi C dL_law_1388 1391 rfl ho1388 cl11.1 rfl (cX12_thrownc hw1388) kX12_thrown kvX12_thrown w1430 ⟨rfl, rfl⟩ ⟨Nat.le_of_ble_eq_true rfl, Nat.le_of_ble_eq_true rfl⟩ (kle hk 2 12 rfl rfl) rfl rfl (Nat.le_of_ble_eq_true rfl) ?_
  refine z_iload C dL_law_1391 1393 rfl 1 rfl ?_
  refine z_icmp_eq C dL_law_1393 1398 (by decide) 1396 rfl (fun hc => ?_) (fun hc => ?_)
  · have hf := (if_pos hc).symm.trans hf
    refine z_iload C dL_law_1398 1400 rfl 1 rfl ?_
    refine z_if_ne C dL_law_1400 1415 (by decide) 1403 rfl (fun hc => ?_) (fun hc => ?_)
    · have hf := (if_neg hc).symm.trans hf
      refine z_goto C dL_law_1415 2168 (by decide) ?_
      refine z_lv [2, 3, 4, 5, 6] (lv' := [(0, .ref (b)), (1, .ref (x)), (2, .ref (m)), (3, .ref (o)), (4, .int (i))]) rfl ?_
      have e9 := Option.some.inj hf
      subst e9
      exact kk (k.1 + 2, k.2 + 12) ⟨Nat.add_le_add_left (by decide) _, Nat.add_le_add_left (by decide) _⟩
    · have hf := (if_pos hc).symm.trans hf
      refine z_aload_n C dL_law_1403 1404 rfl 5 rfl rfl ?_
      refine z_iconst C dL_law_1404 1405 rfl 0 (by decide) ?_
      obtain ⟨v1405, hv1405, hf⟩ := x_bind hf
      refine z_laload C dL_law_1405 1406 rfl hv1405 ?_
      refine z_iload C dL_law_1406 1408 rfl 0 rfl ?_
      refine z_i2l C dL_law_1408 1409 rfl ?_
      refine z_lcmp C dL_law_1409 1410 rfl ?_
      refine z_if_eq C dL_law_1410 1415 (by decide) 1413 rfl (fun hc => ?_) (fun hc => ?_)
      · have hf := (if_pos hc).symm.trans hf
        refine z_goto C dL_law_1415 2168 (by decide) ?_
        refine z_lv [2, 3, 4, 5, 6] (lv' := [(0, .ref (b)), (1, .ref (x)), (2, .ref (m)), (3, .ref (o)), (4, .int (i))]) rfl ?_
        have e9 := Option.some.inj hf
        subst e9
        exact kk (k.1 + 2, k.2 + 12) ⟨Nat.add_le_add_left (by decide) _, Nat.add_le_add_left (by decide) _⟩
      · have hf := (if_neg hc).symm.trans hf
        cases hf
  · have hf := (if_neg hc).symm.trans hf
    cases hf
