section
variable {Γ : LC} {base b N : Nat} {xs : Nat → Int32}
set_option maxHeartbeats 4000000 in
theorem cs_has (X : gLX Γ base b N xs) {n i : Nat} {y : Int32} (hy : y.toInt = i) (hi : i + 6 ≤ N) (hN : N ≤ 3072) (hn : n ≤ 512) {M : Mem} (h : LJ2 n M) (kk : ∀ M', LJ2 (n + 1) M' → GL Γ M' 1445 (LL b base y) []) : GL Γ M 800 (LL b base y) [] := by
  obtain ⟨⟨⟨hX, hM, hR, ht0, ht1⟩, hB⟩, hS, hG⟩ := h
  refine l_aload X 1 rfl dL_law_800 ?_
  refine l_arg X hy hi hN 1 ⟨by decide, by decide⟩ dL_law_801 dL_law_802 dL_law_803 dL_law_804 dL_law_805 ?_
  refine l_arg X hy hi hN 2 ⟨by decide, by decide⟩ dL_law_806 dL_law_807 dL_law_808 dL_law_809 dL_law_810 ?_
  refine l_arg X hy hi hN 3 ⟨by decide, by decide⟩ dL_law_811 dL_law_812 dL_law_813 dL_law_814 dL_law_815 ?_
  refine l_arg X hy hi hN 4 ⟨by decide, by decide⟩ dL_law_816 dL_law_817 dL_law_818 dL_law_819 dL_law_820 ?_
  refine l_callV X m_L_87 (c_X6_has (fun k => base + k) M (xs (i + 1)) rfl (xs (i + 2)) rfl (xs (i + 3)) rfl (xs (i + 4)) rfl hX.1) rfl (by decide) (Nat.le_of_ble_eq_true rfl) (S := []) rfl dL_law_821 (fun v M1 q1 => ?_)
  obtain ⟨r1, a1, rfl, e1, -, I1, F1⟩ := q1
  have F1 : Fr W_X6_has M M1 := F1
  have hX1 : LX M1 := gen_LX hX F1 I1 (by decide)
  have hM1 : LM M1 := LM_fr hM F1 (by decide)
  have tM1 : (M1.1 47 23).toInt = (M.1 47 23).toInt := by rw [F1.at 47 23 (by decide)]
  show GL Γ M1 824 (LL b base y) [.int r1]
  refine l_pop X dL_law_824 rfl ?_
  refine l_aload X 2 rfl dL_law_825 ?_
  refine l_arg X hy hi hN 1 ⟨by decide, by decide⟩ dL_law_826 dL_law_827 dL_law_828 dL_law_829 dL_law_830 ?_
  refine l_arg X hy hi hN 2 ⟨by decide, by decide⟩ dL_law_831 dL_law_832 dL_law_833 dL_law_834 dL_law_835 ?_
  refine l_arg X hy hi hN 3 ⟨by decide, by decide⟩ dL_law_836 dL_law_837 dL_law_838 dL_law_839 dL_law_840 ?_
  refine l_arg X hy hi hN 4 ⟨by decide, by decide⟩ dL_law_841 dL_law_842 dL_law_843 dL_law_844 dL_law_845 ?_
  refine l_callV X m_L_90 (c_X7_has (fun k => base + k) M1 (xs (i + 1)) rfl (xs (i + 2)) rfl (xs (i + 3)) rfl (xs (i + 4)) rfl hM1.1) rfl (by decide) (Nat.le_of_ble_eq_true rfl) (S := []) rfl dL_law_846 (fun v M2 q2 => ?_)
  obtain ⟨r2, a2, rfl, e2, -, q2⟩ := q2
  have F2 : Fr [] M1 M2 := by rw [← q2]; exact Fr.rf
  have I2 : Iv TM M2 := by rw [← q2]; exact hM1.1
  have F2 : Fr [] M1 M2 := F2
  have hX2 : LX M2 := LX_fr hX1 F2 (by decide)
  have hM2 : LM M2 := gen_LM hM1 F2 I2 (by decide)
  have tM2 : 0 ≤ (M2.1 47 23).toInt ∧ (M2.1 47 23).toInt ≤ n + 1 := by rw [F2.at 47 23 (by decide)]; omega
  have s0 : (M2.1 1 3).toInt = (M2.1 47 11).toInt := sc_keep hR.1.1 F1 F2 (by decide) (by decide) (by decide) (by decide)
  have s1 : (M2.1 1 12).toInt = (M2.1 47 12).toInt := sc_keep hR.1.2.1 F1 F2 (by decide) (by decide) (by decide) (by decide)
  have s2 : (M2.1 14 1).toInt = (M2.1 47 20).toInt := sc_keep hR.1.2.2.1 F1 F2 (by decide) (by decide) (by decide) (by decide)
  have s3 : (M2.1 14 12).toInt = (M2.1 47 24).toInt := sc_keep hR.1.2.2.2.1 F1 F2 (by decide) (by decide) (by decide) (by decide)
  have s4 : (M2.1 23 2).toInt = (M2.1 47 52).toInt := sc_keep hR.1.2.2.2.2.1 F1 F2 (by decide) (by decide) (by decide) (by decide)
  have s5 : (M2.1 23 7).toInt = (M2.1 47 53).toInt := sc_keep hR.1.2.2.2.2.2.1 F1 F2 (by decide) (by decide) (by decide) (by decide)
  have s6 : (M2.1 0 7).toInt = (M2.1 47 43).toInt := sc_keep hR.1.2.2.2.2.2.2 F1 F2 (by decide) (by decide) (by decide) (by decide)
  have t0 : ∀ j, j < 10 → M2.1 5 j = M2.1 51 j := row_keep hR.2.1 F1 F2 (by decide) (by decide) (by decide) (by decide)
  have t1 : ∀ j, j < 3 → M2.1 12 j = M2.1 58 j := row_keep hR.2.2.1 F1 F2 (by decide) (by decide) (by decide) (by decide)
  have t2 : ∀ j, j < 8 → M2.1 25 j = M2.1 80 j := row_keep hR.2.2.2 F1 F2 (by decide) (by decide) (by decide) (by decide)
  have hl2 : (M.1 1 12).toInt ≤ (M2.1 1 12).toInt := by rw [F2.at 1 12 (by decide), F1.at 1 12 (by decide)]; exact Int.le_refl _
  have bk2 : BK M2 := BK_keep hB F1 F2 (by decide) (by decide) hl2
  have sl2 : SL M2 := SL_keep hS F1 F2 (by decide) (by decide)
  have gr2 : GR M2 := row_keep hG F1 F2 (by decide) (by decide) (by decide) (by decide)
  show GL Γ M2 849 (LL b base y) [.int r2]
  refine l_pop X dL_law_849 rfl ?_
  refine l_goto X (tgt := 1445) dL_law_850 (by decide) ?_
  exact kk M2 ⟨⟨⟨hX2, hM2, ⟨⟨s0, s1, s2, s3, s4, s5, s6⟩, t0, t1, t2⟩, tM2⟩, bk2⟩, sl2, gr2⟩
set_option maxHeartbeats 4000000 in
theorem cs_stock (X : gLX Γ base b N xs) {n i : Nat} {y : Int32} (hy : y.toInt = i) (hi : i + 6 ≤ N) (hN : N ≤ 3072) (hn : n ≤ 512) {M : Mem} (h : LJ2 n M) (kk : ∀ M', LJ2 (n + 1) M' → GL Γ M' 1445 (LL b base y) []) : GL Γ M 853 (LL b base y) [] := by
  obtain ⟨⟨⟨hX, hM, hR, ht0, ht1⟩, hB⟩, hS, hG⟩ := h
  refine l_aload X 1 rfl dL_law_853 ?_
  refine l_arg X hy hi hN 1 ⟨by decide, by decide⟩ dL_law_854 dL_law_855 dL_law_856 dL_law_857 dL_law_858 ?_
  refine l_arg X hy hi hN 2 ⟨by decide, by decide⟩ dL_law_859 dL_law_860 dL_law_861 dL_law_862 dL_law_863 ?_
  refine l_arg X hy hi hN 3 ⟨by decide, by decide⟩ dL_law_864 dL_law_865 dL_law_866 dL_law_867 dL_law_868 ?_
  refine l_callV X m_L_91 (c_X6_stock (fun k => base + k) M (xs (i + 1)) rfl (xs (i + 2)) rfl (xs (i + 3)) rfl hX.1) rfl (by decide) (Nat.le_of_ble_eq_true rfl) (S := []) rfl dL_law_869 (fun v M1 q1 => ?_)
  obtain ⟨r1, a1, rfl, e1, -, I1, F1⟩ := q1
  have F1 : Fr W_X6_stock M M1 := F1
  have hX1 : LX M1 := gen_LX hX F1 I1 (by decide)
  have hM1 : LM M1 := LM_fr hM F1 (by decide)
  have tM1 : (M1.1 47 23).toInt = (M.1 47 23).toInt := by rw [F1.at 47 23 (by decide)]
  show GL Γ M1 872 (LL b base y) [.int r1]
  refine l_pop X dL_law_872 rfl ?_
  refine l_aload X 2 rfl dL_law_873 ?_
  refine l_arg X hy hi hN 1 ⟨by decide, by decide⟩ dL_law_874 dL_law_875 dL_law_876 dL_law_877 dL_law_878 ?_
  refine l_arg X hy hi hN 2 ⟨by decide, by decide⟩ dL_law_879 dL_law_880 dL_law_881 dL_law_882 dL_law_883 ?_
  refine l_arg X hy hi hN 3 ⟨by decide, by decide⟩ dL_law_884 dL_law_885 dL_law_886 dL_law_887 dL_law_888 ?_
  refine l_callV X m_L_94 (c_X7_stock (fun k => base + k) M1 (xs (i + 1)) rfl (xs (i + 2)) rfl (xs (i + 3)) rfl hM1.1) rfl (by decide) (Nat.le_of_ble_eq_true rfl) (S := []) rfl dL_law_889 (fun v M2 q2 => ?_)
  obtain ⟨r2, a2, rfl, e2, -, q2⟩ := q2
  have F2 : Fr [] M1 M2 := by rw [← q2]; exact Fr.rf
  have I2 : Iv TM M2 := by rw [← q2]; exact hM1.1
  have F2 : Fr [] M1 M2 := F2
  have hX2 : LX M2 := LX_fr hX1 F2 (by decide)
  have hM2 : LM M2 := gen_LM hM1 F2 I2 (by decide)
  have tM2 : 0 ≤ (M2.1 47 23).toInt ∧ (M2.1 47 23).toInt ≤ n + 1 := by rw [F2.at 47 23 (by decide)]; omega
  have s0 : (M2.1 1 3).toInt = (M2.1 47 11).toInt := sc_keep hR.1.1 F1 F2 (by decide) (by decide) (by decide) (by decide)
  have s1 : (M2.1 1 12).toInt = (M2.1 47 12).toInt := sc_keep hR.1.2.1 F1 F2 (by decide) (by decide) (by decide) (by decide)
  have s2 : (M2.1 14 1).toInt = (M2.1 47 20).toInt := sc_keep hR.1.2.2.1 F1 F2 (by decide) (by decide) (by decide) (by decide)
  have s3 : (M2.1 14 12).toInt = (M2.1 47 24).toInt := sc_keep hR.1.2.2.2.1 F1 F2 (by decide) (by decide) (by decide) (by decide)
  have s4 : (M2.1 23 2).toInt = (M2.1 47 52).toInt := sc_keep hR.1.2.2.2.2.1 F1 F2 (by decide) (by decide) (by decide) (by decide)
  have s5 : (M2.1 23 7).toInt = (M2.1 47 53).toInt := sc_keep hR.1.2.2.2.2.2.1 F1 F2 (by decide) (by decide) (by decide) (by decide)
  have s6 : (M2.1 0 7).toInt = (M2.1 47 43).toInt := sc_keep hR.1.2.2.2.2.2.2 F1 F2 (by decide) (by decide) (by decide) (by decide)
  have t0 : ∀ j, j < 10 → M2.1 5 j = M2.1 51 j := row_keep hR.2.1 F1 F2 (by decide) (by decide) (by decide) (by decide)
  have t1 : ∀ j, j < 3 → M2.1 12 j = M2.1 58 j := row_keep hR.2.2.1 F1 F2 (by decide) (by decide) (by decide) (by decide)
  have t2 : ∀ j, j < 8 → M2.1 25 j = M2.1 80 j := row_keep hR.2.2.2 F1 F2 (by decide) (by decide) (by decide) (by decide)
  have hl2 : (M.1 1 12).toInt ≤ (M2.1 1 12).toInt := by rw [F2.at 1 12 (by decide), F1.at 1 12 (by decide)]; exact Int.le_refl _
  have bk2 : BK M2 := BK_keep hB F1 F2 (by decide) (by decide) hl2
  have sl2 : SL M2 := SL_keep hS F1 F2 (by decide) (by decide)
  have gr2 : GR M2 := row_keep hG F1 F2 (by decide) (by decide) (by decide) (by decide)
  show GL Γ M2 892 (LL b base y) [.int r2]
  refine l_pop X dL_law_892 rfl ?_
  refine l_goto X (tgt := 1445) dL_law_893 (by decide) ?_
  exact kk M2 ⟨⟨⟨hX2, hM2, ⟨⟨s0, s1, s2, s3, s4, s5, s6⟩, t0, t1, t2⟩, tM2⟩, bk2⟩, sl2, gr2⟩
set_option maxHeartbeats 4000000 in
theorem cs_unlike (X : gLX Γ base b N xs) {n i : Nat} {y : Int32} (hy : y.toInt = i) (hi : i + 6 ≤ N) (hN : N ≤ 3072) (hn : n ≤ 512) {M : Mem} (h : LJ2 n M) (kk : ∀ M', LJ2 (n + 1) M' → GL Γ M' 1445 (LL b base y) []) : GL Γ M 896 (LL b base y) [] := by
  obtain ⟨⟨⟨hX, hM, hR, ht0, ht1⟩, hB⟩, hS, hG⟩ := h
  refine l_aload X 1 rfl dL_law_896 ?_
  refine l_arg X hy hi hN 1 ⟨by decide, by decide⟩ dL_law_897 dL_law_898 dL_law_899 dL_law_900 dL_law_901 ?_
  refine l_arg X hy hi hN 2 ⟨by decide, by decide⟩ dL_law_902 dL_law_903 dL_law_904 dL_law_905 dL_law_906 ?_
  refine l_arg X hy hi hN 3 ⟨by decide, by decide⟩ dL_law_907 dL_law_908 dL_law_909 dL_law_910 dL_law_911 ?_
  refine l_arg X hy hi hN 4 ⟨by decide, by decide⟩ dL_law_912 dL_law_913 dL_law_914 dL_law_915 dL_law_916 ?_
  refine l_callV X m_L_95 (c_X6_unlike (fun k => base + k) M (xs (i + 1)) rfl (xs (i + 2)) rfl (xs (i + 3)) rfl (xs (i + 4)) rfl hX.1) rfl (by decide) (Nat.le_of_ble_eq_true rfl) (S := []) rfl dL_law_917 (fun v M1 q1 => ?_)
  obtain ⟨r1, a1, rfl, e1, -, I1, F1⟩ := q1
  have F1 : Fr W_X6_unlike M M1 := F1
  have hX1 : LX M1 := gen_LX hX F1 I1 (by decide)
  have hM1 : LM M1 := LM_fr hM F1 (by decide)
  have tM1 : (M1.1 47 23).toInt = (M.1 47 23).toInt := by rw [F1.at 47 23 (by decide)]
  show GL Γ M1 920 (LL b base y) [.int r1]
  refine l_pop X dL_law_920 rfl ?_
  refine l_aload X 2 rfl dL_law_921 ?_
  refine l_arg X hy hi hN 1 ⟨by decide, by decide⟩ dL_law_922 dL_law_923 dL_law_924 dL_law_925 dL_law_926 ?_
  refine l_arg X hy hi hN 2 ⟨by decide, by decide⟩ dL_law_927 dL_law_928 dL_law_929 dL_law_930 dL_law_931 ?_
  refine l_arg X hy hi hN 3 ⟨by decide, by decide⟩ dL_law_932 dL_law_933 dL_law_934 dL_law_935 dL_law_936 ?_
  refine l_arg X hy hi hN 4 ⟨by decide, by decide⟩ dL_law_937 dL_law_938 dL_law_939 dL_law_940 dL_law_941 ?_
  refine l_callV X m_L_98 (c_X7_unlike (fun k => base + k) M1 (xs (i + 1)) rfl (xs (i + 2)) rfl (xs (i + 3)) rfl (xs (i + 4)) rfl hM1.1) rfl (by decide) (Nat.le_of_ble_eq_true rfl) (S := []) rfl dL_law_942 (fun v M2 q2 => ?_)
  obtain ⟨r2, a2, rfl, e2, -, q2⟩ := q2
  have F2 : Fr [] M1 M2 := by rw [← q2]; exact Fr.rf
  have I2 : Iv TM M2 := by rw [← q2]; exact hM1.1
  have F2 : Fr [] M1 M2 := F2
  have hX2 : LX M2 := LX_fr hX1 F2 (by decide)
  have hM2 : LM M2 := gen_LM hM1 F2 I2 (by decide)
  have tM2 : 0 ≤ (M2.1 47 23).toInt ∧ (M2.1 47 23).toInt ≤ n + 1 := by rw [F2.at 47 23 (by decide)]; omega
  have s0 : (M2.1 1 3).toInt = (M2.1 47 11).toInt := sc_keep hR.1.1 F1 F2 (by decide) (by decide) (by decide) (by decide)
  have s1 : (M2.1 1 12).toInt = (M2.1 47 12).toInt := sc_keep hR.1.2.1 F1 F2 (by decide) (by decide) (by decide) (by decide)
  have s2 : (M2.1 14 1).toInt = (M2.1 47 20).toInt := sc_keep hR.1.2.2.1 F1 F2 (by decide) (by decide) (by decide) (by decide)
  have s3 : (M2.1 14 12).toInt = (M2.1 47 24).toInt := sc_keep hR.1.2.2.2.1 F1 F2 (by decide) (by decide) (by decide) (by decide)
  have s4 : (M2.1 23 2).toInt = (M2.1 47 52).toInt := sc_keep hR.1.2.2.2.2.1 F1 F2 (by decide) (by decide) (by decide) (by decide)
  have s5 : (M2.1 23 7).toInt = (M2.1 47 53).toInt := sc_keep hR.1.2.2.2.2.2.1 F1 F2 (by decide) (by decide) (by decide) (by decide)
  have s6 : (M2.1 0 7).toInt = (M2.1 47 43).toInt := sc_keep hR.1.2.2.2.2.2.2 F1 F2 (by decide) (by decide) (by decide) (by decide)
  have t0 : ∀ j, j < 10 → M2.1 5 j = M2.1 51 j := row_keep hR.2.1 F1 F2 (by decide) (by decide) (by decide) (by decide)
  have t1 : ∀ j, j < 3 → M2.1 12 j = M2.1 58 j := row_keep hR.2.2.1 F1 F2 (by decide) (by decide) (by decide) (by decide)
  have t2 : ∀ j, j < 8 → M2.1 25 j = M2.1 80 j := row_keep hR.2.2.2 F1 F2 (by decide) (by decide) (by decide) (by decide)
  have hl2 : (M.1 1 12).toInt ≤ (M2.1 1 12).toInt := by rw [F2.at 1 12 (by decide), F1.at 1 12 (by decide)]; exact Int.le_refl _
  have bk2 : BK M2 := BK_keep hB F1 F2 (by decide) (by decide) hl2
  have sl2 : SL M2 := SL_keep hS F1 F2 (by decide) (by decide)
  have gr2 : GR M2 := row_keep hG F1 F2 (by decide) (by decide) (by decide) (by decide)
  show GL Γ M2 945 (LL b base y) [.int r2]
  refine l_pop X dL_law_945 rfl ?_
  refine l_goto X (tgt := 1445) dL_law_946 (by decide) ?_
  exact kk M2 ⟨⟨⟨hX2, hM2, ⟨⟨s0, s1, s2, s3, s4, s5, s6⟩, t0, t1, t2⟩, tM2⟩, bk2⟩, sl2, gr2⟩
set_option maxHeartbeats 4000000 in
theorem cs_master (X : gLX Γ base b N xs) {n i : Nat} {y : Int32} (hy : y.toInt = i) (hi : i + 6 ≤ N) (hN : N ≤ 3072) (hn : n ≤ 512) {M : Mem} (h : LJ2 n M) (kk : ∀ M', LJ2 (n + 1) M' → GL Γ M' 1445 (LL b base y) []) : GL Γ M 949 (LL b base y) [] := by
  obtain ⟨⟨⟨hX, hM, hR, ht0, ht1⟩, hB⟩, hS, hG⟩ := h
  refine l_aload X 1 rfl dL_law_949 ?_
  refine l_arg X hy hi hN 1 ⟨by decide, by decide⟩ dL_law_950 dL_law_951 dL_law_952 dL_law_953 dL_law_954 ?_
  refine l_arg X hy hi hN 2 ⟨by decide, by decide⟩ dL_law_955 dL_law_956 dL_law_957 dL_law_958 dL_law_959 ?_
  refine l_arg X hy hi hN 3 ⟨by decide, by decide⟩ dL_law_960 dL_law_961 dL_law_962 dL_law_963 dL_law_964 ?_
  refine l_callV X m_L_99 (c_X6_master (fun k => base + k) M (xs (i + 1)) rfl (xs (i + 2)) rfl (xs (i + 3)) rfl hX.1) rfl (by decide) (Nat.le_of_ble_eq_true rfl) (S := []) rfl dL_law_965 (fun v M1 q1 => ?_)
  obtain ⟨r1, a1, rfl, e1, -, I1, F1⟩ := q1
  have F1 : Fr W_X6_master M M1 := F1
  have hX1 : LX M1 := gen_LX hX F1 I1 (by decide)
  have hM1 : LM M1 := LM_fr hM F1 (by decide)
  have tM1 : (M1.1 47 23).toInt = (M.1 47 23).toInt := by rw [F1.at 47 23 (by decide)]
  show GL Γ M1 968 (LL b base y) [.int r1]
  refine l_pop X dL_law_968 rfl ?_
  refine l_aload X 2 rfl dL_law_969 ?_
  refine l_arg X hy hi hN 1 ⟨by decide, by decide⟩ dL_law_970 dL_law_971 dL_law_972 dL_law_973 dL_law_974 ?_
  refine l_arg X hy hi hN 2 ⟨by decide, by decide⟩ dL_law_975 dL_law_976 dL_law_977 dL_law_978 dL_law_979 ?_
  refine l_arg X hy hi hN 3 ⟨by decide, by decide⟩ dL_law_980 dL_law_981 dL_law_982 dL_law_983 dL_law_984 ?_
  refine l_callV X m_L_102 (c_X7_master (fun k => base + k) M1 (xs (i + 1)) rfl (xs (i + 2)) rfl (xs (i + 3)) rfl hM1.1) rfl (by decide) (Nat.le_of_ble_eq_true rfl) (S := []) rfl dL_law_985 (fun v M2 q2 => ?_)
  obtain ⟨r2, a2, rfl, e2, -, q2⟩ := q2
  have F2 : Fr [] M1 M2 := by rw [← q2]; exact Fr.rf
  have I2 : Iv TM M2 := by rw [← q2]; exact hM1.1
  have F2 : Fr [] M1 M2 := F2
  have hX2 : LX M2 := LX_fr hX1 F2 (by decide)
  have hM2 : LM M2 := gen_LM hM1 F2 I2 (by decide)
  have tM2 : 0 ≤ (M2.1 47 23).toInt ∧ (M2.1 47 23).toInt ≤ n + 1 := by rw [F2.at 47 23 (by decide)]; omega
  have s0 : (M2.1 1 3).toInt = (M2.1 47 11).toInt := sc_keep hR.1.1 F1 F2 (by decide) (by decide) (by decide) (by decide)
  have s1 : (M2.1 1 12).toInt = (M2.1 47 12).toInt := sc_keep hR.1.2.1 F1 F2 (by decide) (by decide) (by decide) (by decide)
  have s2 : (M2.1 14 1).toInt = (M2.1 47 20).toInt := sc_keep hR.1.2.2.1 F1 F2 (by decide) (by decide) (by decide) (by decide)
  have s3 : (M2.1 14 12).toInt = (M2.1 47 24).toInt := sc_keep hR.1.2.2.2.1 F1 F2 (by decide) (by decide) (by decide) (by decide)
  have s4 : (M2.1 23 2).toInt = (M2.1 47 52).toInt := sc_keep hR.1.2.2.2.2.1 F1 F2 (by decide) (by decide) (by decide) (by decide)
  have s5 : (M2.1 23 7).toInt = (M2.1 47 53).toInt := sc_keep hR.1.2.2.2.2.2.1 F1 F2 (by decide) (by decide) (by decide) (by decide)
  have s6 : (M2.1 0 7).toInt = (M2.1 47 43).toInt := sc_keep hR.1.2.2.2.2.2.2 F1 F2 (by decide) (by decide) (by decide) (by decide)
  have t0 : ∀ j, j < 10 → M2.1 5 j = M2.1 51 j := row_keep hR.2.1 F1 F2 (by decide) (by decide) (by decide) (by decide)
  have t1 : ∀ j, j < 3 → M2.1 12 j = M2.1 58 j := row_keep hR.2.2.1 F1 F2 (by decide) (by decide) (by decide) (by decide)
  have t2 : ∀ j, j < 8 → M2.1 25 j = M2.1 80 j := row_keep hR.2.2.2 F1 F2 (by decide) (by decide) (by decide) (by decide)
  have hl2 : (M.1 1 12).toInt ≤ (M2.1 1 12).toInt := by rw [F2.at 1 12 (by decide), F1.at 1 12 (by decide)]; exact Int.le_refl _
  have bk2 : BK M2 := BK_keep hB F1 F2 (by decide) (by decide) hl2
  have sl2 : SL M2 := SL_keep hS F1 F2 (by decide) (by decide)
  have gr2 : GR M2 := row_keep hG F1 F2 (by decide) (by decide) (by decide) (by decide)
  show GL Γ M2 988 (LL b base y) [.int r2]
  refine l_pop X dL_law_988 rfl ?_
  refine l_goto X (tgt := 1445) dL_law_989 (by decide) ?_
  exact kk M2 ⟨⟨⟨hX2, hM2, ⟨⟨s0, s1, s2, s3, s4, s5, s6⟩, t0, t1, t2⟩, tM2⟩, bk2⟩, sl2, gr2⟩
set_option maxHeartbeats 4000000 in
theorem cs_lineage (X : gLX Γ base b N xs) {n i : Nat} {y : Int32} (hy : y.toInt = i) (hi : i + 6 ≤ N) (hN : N ≤ 3072) (hn : n ≤ 512) {M : Mem} (h : LJ2 n M) (kk : ∀ M', LJ2 (n + 1) M' → GL Γ M' 1445 (LL b base y) []) : GL Γ M 992 (LL b base y) [] := by
  obtain ⟨⟨⟨hX, hM, hR, ht0, ht1⟩, hB⟩, hS, hG⟩ := h
  refine l_aload X 1 rfl dL_law_992 ?_
  refine l_arg X hy hi hN 1 ⟨by decide, by decide⟩ dL_law_993 dL_law_994 dL_law_995 dL_law_996 dL_law_997 ?_
  refine l_arg X hy hi hN 2 ⟨by decide, by decide⟩ dL_law_998 dL_law_999 dL_law_1000 dL_law_1001 dL_law_1002 ?_
  refine l_callV X m_L_103 (c_X6_lineage (fun k => base + k) M (xs (i + 1)) rfl (xs (i + 2)) rfl hX.1) rfl (by decide) (Nat.le_of_ble_eq_true rfl) (S := []) rfl dL_law_1003 (fun v M1 q1 => ?_)
  obtain ⟨r1, a1, rfl, e1, -, I1, F1⟩ := q1
  have F1 : Fr W_X6_lineage M M1 := F1
  have hX1 : LX M1 := gen_LX hX F1 I1 (by decide)
  have hM1 : LM M1 := LM_fr hM F1 (by decide)
  have tM1 : (M1.1 47 23).toInt = (M.1 47 23).toInt := by rw [F1.at 47 23 (by decide)]
  show GL Γ M1 1006 (LL b base y) [.int r1]
  refine l_pop X dL_law_1006 rfl ?_
  refine l_aload X 2 rfl dL_law_1007 ?_
  refine l_arg X hy hi hN 1 ⟨by decide, by decide⟩ dL_law_1008 dL_law_1009 dL_law_1010 dL_law_1011 dL_law_1012 ?_
  refine l_arg X hy hi hN 2 ⟨by decide, by decide⟩ dL_law_1013 dL_law_1014 dL_law_1015 dL_law_1016 dL_law_1017 ?_
  refine l_callV X m_L_106 (c_X7_lineage (fun k => base + k) M1 (xs (i + 1)) rfl (xs (i + 2)) rfl hM1.1) rfl (by decide) (Nat.le_of_ble_eq_true rfl) (S := []) rfl dL_law_1018 (fun v M2 q2 => ?_)
  obtain ⟨r2, a2, rfl, e2, -, q2⟩ := q2
  have F2 : Fr [] M1 M2 := by rw [← q2]; exact Fr.rf
  have I2 : Iv TM M2 := by rw [← q2]; exact hM1.1
  have F2 : Fr [] M1 M2 := F2
  have hX2 : LX M2 := LX_fr hX1 F2 (by decide)
  have hM2 : LM M2 := gen_LM hM1 F2 I2 (by decide)
  have tM2 : 0 ≤ (M2.1 47 23).toInt ∧ (M2.1 47 23).toInt ≤ n + 1 := by rw [F2.at 47 23 (by decide)]; omega
  have s0 : (M2.1 1 3).toInt = (M2.1 47 11).toInt := sc_keep hR.1.1 F1 F2 (by decide) (by decide) (by decide) (by decide)
  have s1 : (M2.1 1 12).toInt = (M2.1 47 12).toInt := sc_keep hR.1.2.1 F1 F2 (by decide) (by decide) (by decide) (by decide)
  have s2 : (M2.1 14 1).toInt = (M2.1 47 20).toInt := sc_keep hR.1.2.2.1 F1 F2 (by decide) (by decide) (by decide) (by decide)
  have s3 : (M2.1 14 12).toInt = (M2.1 47 24).toInt := sc_keep hR.1.2.2.2.1 F1 F2 (by decide) (by decide) (by decide) (by decide)
  have s4 : (M2.1 23 2).toInt = (M2.1 47 52).toInt := sc_keep hR.1.2.2.2.2.1 F1 F2 (by decide) (by decide) (by decide) (by decide)
  have s5 : (M2.1 23 7).toInt = (M2.1 47 53).toInt := sc_keep hR.1.2.2.2.2.2.1 F1 F2 (by decide) (by decide) (by decide) (by decide)
  have s6 : (M2.1 0 7).toInt = (M2.1 47 43).toInt := sc_keep hR.1.2.2.2.2.2.2 F1 F2 (by decide) (by decide) (by decide) (by decide)
  have t0 : ∀ j, j < 10 → M2.1 5 j = M2.1 51 j := row_keep hR.2.1 F1 F2 (by decide) (by decide) (by decide) (by decide)
  have t1 : ∀ j, j < 3 → M2.1 12 j = M2.1 58 j := row_keep hR.2.2.1 F1 F2 (by decide) (by decide) (by decide) (by decide)
  have t2 : ∀ j, j < 8 → M2.1 25 j = M2.1 80 j := row_keep hR.2.2.2 F1 F2 (by decide) (by decide) (by decide) (by decide)
  have hl2 : (M.1 1 12).toInt ≤ (M2.1 1 12).toInt := by rw [F2.at 1 12 (by decide), F1.at 1 12 (by decide)]; exact Int.le_refl _
  have bk2 : BK M2 := BK_keep hB F1 F2 (by decide) (by decide) hl2
  have sl2 : SL M2 := SL_keep hS F1 F2 (by decide) (by decide)
  have gr2 : GR M2 := row_keep hG F1 F2 (by decide) (by decide) (by decide) (by decide)
  show GL Γ M2 1021 (LL b base y) [.int r2]
  refine l_pop X dL_law_1021 rfl ?_
  refine l_goto X (tgt := 1445) dL_law_1022 (by decide) ?_
  exact kk M2 ⟨⟨⟨hX2, hM2, ⟨⟨s0, s1, s2, s3, s4, s5, s6⟩, t0, t1, t2⟩, tM2⟩, bk2⟩, sl2, gr2⟩
set_option maxHeartbeats 4000000 in
theorem cs_loan (X : gLX Γ base b N xs) {n i : Nat} {y : Int32} (hy : y.toInt = i) (hi : i + 6 ≤ N) (hN : N ≤ 3072) (hn : n ≤ 512) {M : Mem} (h : LJ2 n M) (kk : ∀ M', LJ2 (n + 1) M' → GL Γ M' 1445 (LL b base y) []) : GL Γ M 1025 (LL b base y) [] := by
  obtain ⟨⟨⟨hX, hM, hR, ht0, ht1⟩, hB⟩, hS, hG⟩ := h
  refine l_aload X 1 rfl dL_law_1025 ?_
  refine l_arg X hy hi hN 1 ⟨by decide, by decide⟩ dL_law_1026 dL_law_1027 dL_law_1028 dL_law_1029 dL_law_1030 ?_
  refine l_arg X hy hi hN 2 ⟨by decide, by decide⟩ dL_law_1031 dL_law_1032 dL_law_1033 dL_law_1034 dL_law_1035 ?_
  refine l_arg X hy hi hN 3 ⟨by decide, by decide⟩ dL_law_1036 dL_law_1037 dL_law_1038 dL_law_1039 dL_law_1040 ?_
  refine l_arg X hy hi hN 4 ⟨by decide, by decide⟩ dL_law_1041 dL_law_1042 dL_law_1043 dL_law_1044 dL_law_1045 ?_
  refine l_callV X m_L_107 (c_X6_loan (fun k => base + k) M (xs (i + 1)) rfl (xs (i + 2)) rfl (xs (i + 3)) rfl (xs (i + 4)) rfl hX.1) rfl (by decide) (Nat.le_of_ble_eq_true rfl) (S := []) rfl dL_law_1046 (fun v M1 q1 => ?_)
  obtain ⟨r1, a1, rfl, e1, -, I1, F1⟩ := q1
  have F1 : Fr W_X6_loan M M1 := F1
  have hX1 : LX M1 := gen_LX hX F1 I1 (by decide)
  have hM1 : LM M1 := LM_fr hM F1 (by decide)
  have tM1 : (M1.1 47 23).toInt = (M.1 47 23).toInt := by rw [F1.at 47 23 (by decide)]
  show GL Γ M1 1049 (LL b base y) [.int r1]
  refine l_pop X dL_law_1049 rfl ?_
  refine l_aload X 2 rfl dL_law_1050 ?_
  refine l_arg X hy hi hN 1 ⟨by decide, by decide⟩ dL_law_1051 dL_law_1052 dL_law_1053 dL_law_1054 dL_law_1055 ?_
  refine l_arg X hy hi hN 2 ⟨by decide, by decide⟩ dL_law_1056 dL_law_1057 dL_law_1058 dL_law_1059 dL_law_1060 ?_
  refine l_arg X hy hi hN 3 ⟨by decide, by decide⟩ dL_law_1061 dL_law_1062 dL_law_1063 dL_law_1064 dL_law_1065 ?_
  refine l_arg X hy hi hN 4 ⟨by decide, by decide⟩ dL_law_1066 dL_law_1067 dL_law_1068 dL_law_1069 dL_law_1070 ?_
  refine l_callV X m_L_110 (c_X7_loan (fun k => base + k) M1 (xs (i + 1)) rfl (xs (i + 2)) rfl (xs (i + 3)) rfl (xs (i + 4)) rfl hM1.1) rfl (by decide) (Nat.le_of_ble_eq_true rfl) (S := []) rfl dL_law_1071 (fun v M2 q2 => ?_)
  obtain ⟨r2, a2, rfl, e2, -, q2⟩ := q2
  have F2 : Fr [] M1 M2 := by rw [← q2]; exact Fr.rf
  have I2 : Iv TM M2 := by rw [← q2]; exact hM1.1
  have F2 : Fr [] M1 M2 := F2
  have hX2 : LX M2 := LX_fr hX1 F2 (by decide)
  have hM2 : LM M2 := gen_LM hM1 F2 I2 (by decide)
  have tM2 : 0 ≤ (M2.1 47 23).toInt ∧ (M2.1 47 23).toInt ≤ n + 1 := by rw [F2.at 47 23 (by decide)]; omega
  have s0 : (M2.1 1 3).toInt = (M2.1 47 11).toInt := sc_keep hR.1.1 F1 F2 (by decide) (by decide) (by decide) (by decide)
  have s1 : (M2.1 1 12).toInt = (M2.1 47 12).toInt := sc_keep hR.1.2.1 F1 F2 (by decide) (by decide) (by decide) (by decide)
  have s2 : (M2.1 14 1).toInt = (M2.1 47 20).toInt := sc_keep hR.1.2.2.1 F1 F2 (by decide) (by decide) (by decide) (by decide)
  have s3 : (M2.1 14 12).toInt = (M2.1 47 24).toInt := sc_keep hR.1.2.2.2.1 F1 F2 (by decide) (by decide) (by decide) (by decide)
  have s4 : (M2.1 23 2).toInt = (M2.1 47 52).toInt := sc_keep hR.1.2.2.2.2.1 F1 F2 (by decide) (by decide) (by decide) (by decide)
  have s5 : (M2.1 23 7).toInt = (M2.1 47 53).toInt := sc_keep hR.1.2.2.2.2.2.1 F1 F2 (by decide) (by decide) (by decide) (by decide)
  have s6 : (M2.1 0 7).toInt = (M2.1 47 43).toInt := sc_keep hR.1.2.2.2.2.2.2 F1 F2 (by decide) (by decide) (by decide) (by decide)
  have t0 : ∀ j, j < 10 → M2.1 5 j = M2.1 51 j := row_keep hR.2.1 F1 F2 (by decide) (by decide) (by decide) (by decide)
  have t1 : ∀ j, j < 3 → M2.1 12 j = M2.1 58 j := row_keep hR.2.2.1 F1 F2 (by decide) (by decide) (by decide) (by decide)
  have t2 : ∀ j, j < 8 → M2.1 25 j = M2.1 80 j := row_keep hR.2.2.2 F1 F2 (by decide) (by decide) (by decide) (by decide)
  have hl2 : (M.1 1 12).toInt ≤ (M2.1 1 12).toInt := by rw [F2.at 1 12 (by decide), F1.at 1 12 (by decide)]; exact Int.le_refl _
  have bk2 : BK M2 := BK_keep hB F1 F2 (by decide) (by decide) hl2
  have sl2 : SL M2 := SL_keep hS F1 F2 (by decide) (by decide)
  have gr2 : GR M2 := row_keep hG F1 F2 (by decide) (by decide) (by decide) (by decide)
  show GL Γ M2 1074 (LL b base y) [.int r2]
  refine l_pop X dL_law_1074 rfl ?_
  refine l_goto X (tgt := 1445) dL_law_1075 (by decide) ?_
  exact kk M2 ⟨⟨⟨hX2, hM2, ⟨⟨s0, s1, s2, s3, s4, s5, s6⟩, t0, t1, t2⟩, tM2⟩, bk2⟩, sl2, gr2⟩
set_option maxHeartbeats 4000000 in
theorem cs_core (X : gLX Γ base b N xs) {n i : Nat} {y : Int32} (hy : y.toInt = i) (hi : i + 6 ≤ N) (hN : N ≤ 3072) (hn : n ≤ 512) {M : Mem} (h : LJ2 n M) (kk : ∀ M', LJ2 (n + 1) M' → GL Γ M' 1445 (LL b base y) []) : GL Γ M 1078 (LL b base y) [] := by
  obtain ⟨⟨⟨hX, hM, hR, ht0, ht1⟩, hB⟩, hS, hG⟩ := h
  refine l_aload X 1 rfl dL_law_1078 ?_
  refine l_arg X hy hi hN 1 ⟨by decide, by decide⟩ dL_law_1079 dL_law_1080 dL_law_1081 dL_law_1082 dL_law_1083 ?_
  refine l_arg X hy hi hN 2 ⟨by decide, by decide⟩ dL_law_1084 dL_law_1085 dL_law_1086 dL_law_1087 dL_law_1088 ?_
  refine l_arg X hy hi hN 3 ⟨by decide, by decide⟩ dL_law_1089 dL_law_1090 dL_law_1091 dL_law_1092 dL_law_1093 ?_
  refine l_callV X m_L_111 (c_X6_core (fun k => base + k) M (xs (i + 1)) rfl (xs (i + 2)) rfl (xs (i + 3)) rfl hX.1) rfl (by decide) (Nat.le_of_ble_eq_true rfl) (S := []) rfl dL_law_1094 (fun v M1 q1 => ?_)
  obtain ⟨r1, a1, rfl, e1, -, I1, F1⟩ := q1
  have F1 : Fr W_X6_core M M1 := F1
  have hX1 : LX M1 := gen_LX hX F1 I1 (by decide)
  have hM1 : LM M1 := LM_fr hM F1 (by decide)
  have tM1 : (M1.1 47 23).toInt = (M.1 47 23).toInt := by rw [F1.at 47 23 (by decide)]
  show GL Γ M1 1097 (LL b base y) [.int r1]
  refine l_pop X dL_law_1097 rfl ?_
  refine l_aload X 2 rfl dL_law_1098 ?_
  refine l_arg X hy hi hN 1 ⟨by decide, by decide⟩ dL_law_1099 dL_law_1100 dL_law_1101 dL_law_1102 dL_law_1103 ?_
  refine l_arg X hy hi hN 2 ⟨by decide, by decide⟩ dL_law_1104 dL_law_1105 dL_law_1106 dL_law_1107 dL_law_1108 ?_
  refine l_arg X hy hi hN 3 ⟨by decide, by decide⟩ dL_law_1109 dL_law_1110 dL_law_1111 dL_law_1112 dL_law_1113 ?_
  refine l_callV X m_L_114 (c_X7_core (fun k => base + k) M1 (xs (i + 1)) rfl (xs (i + 2)) rfl (xs (i + 3)) rfl hM1.1) rfl (by decide) (Nat.le_of_ble_eq_true rfl) (S := []) rfl dL_law_1114 (fun v M2 q2 => ?_)
  obtain ⟨r2, a2, rfl, e2, -, q2⟩ := q2
  have F2 : Fr [] M1 M2 := by rw [← q2]; exact Fr.rf
  have I2 : Iv TM M2 := by rw [← q2]; exact hM1.1
  have F2 : Fr [] M1 M2 := F2
  have hX2 : LX M2 := LX_fr hX1 F2 (by decide)
  have hM2 : LM M2 := gen_LM hM1 F2 I2 (by decide)
  have tM2 : 0 ≤ (M2.1 47 23).toInt ∧ (M2.1 47 23).toInt ≤ n + 1 := by rw [F2.at 47 23 (by decide)]; omega
  have s0 : (M2.1 1 3).toInt = (M2.1 47 11).toInt := sc_keep hR.1.1 F1 F2 (by decide) (by decide) (by decide) (by decide)
  have s1 : (M2.1 1 12).toInt = (M2.1 47 12).toInt := sc_keep hR.1.2.1 F1 F2 (by decide) (by decide) (by decide) (by decide)
  have s2 : (M2.1 14 1).toInt = (M2.1 47 20).toInt := sc_keep hR.1.2.2.1 F1 F2 (by decide) (by decide) (by decide) (by decide)
  have s3 : (M2.1 14 12).toInt = (M2.1 47 24).toInt := sc_keep hR.1.2.2.2.1 F1 F2 (by decide) (by decide) (by decide) (by decide)
  have s4 : (M2.1 23 2).toInt = (M2.1 47 52).toInt := sc_keep hR.1.2.2.2.2.1 F1 F2 (by decide) (by decide) (by decide) (by decide)
  have s5 : (M2.1 23 7).toInt = (M2.1 47 53).toInt := sc_keep hR.1.2.2.2.2.2.1 F1 F2 (by decide) (by decide) (by decide) (by decide)
  have s6 : (M2.1 0 7).toInt = (M2.1 47 43).toInt := sc_keep hR.1.2.2.2.2.2.2 F1 F2 (by decide) (by decide) (by decide) (by decide)
  have t0 : ∀ j, j < 10 → M2.1 5 j = M2.1 51 j := row_keep hR.2.1 F1 F2 (by decide) (by decide) (by decide) (by decide)
  have t1 : ∀ j, j < 3 → M2.1 12 j = M2.1 58 j := row_keep hR.2.2.1 F1 F2 (by decide) (by decide) (by decide) (by decide)
  have t2 : ∀ j, j < 8 → M2.1 25 j = M2.1 80 j := row_keep hR.2.2.2 F1 F2 (by decide) (by decide) (by decide) (by decide)
  have hl2 : (M.1 1 12).toInt ≤ (M2.1 1 12).toInt := by rw [F2.at 1 12 (by decide), F1.at 1 12 (by decide)]; exact Int.le_refl _
  have bk2 : BK M2 := BK_keep hB F1 F2 (by decide) (by decide) hl2
  have sl2 : SL M2 := SL_keep hS F1 F2 (by decide) (by decide)
  have gr2 : GR M2 := row_keep hG F1 F2 (by decide) (by decide) (by decide) (by decide)
  show GL Γ M2 1117 (LL b base y) [.int r2]
  refine l_pop X dL_law_1117 rfl ?_
  refine l_goto X (tgt := 1445) dL_law_1118 (by decide) ?_
  exact kk M2 ⟨⟨⟨hX2, hM2, ⟨⟨s0, s1, s2, s3, s4, s5, s6⟩, t0, t1, t2⟩, tM2⟩, bk2⟩, sl2, gr2⟩
set_option maxHeartbeats 4000000 in
theorem cs_whose (X : gLX Γ base b N xs) {n i : Nat} {y : Int32} (hy : y.toInt = i) (hi : i + 6 ≤ N) (hN : N ≤ 3072) (hn : n ≤ 512) {M : Mem} (h : LJ2 n M) (kk : ∀ M', LJ2 (n + 1) M' → GL Γ M' 1445 (LL b base y) []) : GL Γ M 1121 (LL b base y) [] := by
  obtain ⟨⟨⟨hX, hM, hR, ht0, ht1⟩, hB⟩, hS, hG⟩ := h
  refine l_aload X 1 rfl dL_law_1121 ?_
  refine l_arg X hy hi hN 1 ⟨by decide, by decide⟩ dL_law_1122 dL_law_1123 dL_law_1124 dL_law_1125 dL_law_1126 ?_
  refine l_arg X hy hi hN 2 ⟨by decide, by decide⟩ dL_law_1127 dL_law_1128 dL_law_1129 dL_law_1130 dL_law_1131 ?_
  refine l_arg X hy hi hN 3 ⟨by decide, by decide⟩ dL_law_1132 dL_law_1133 dL_law_1134 dL_law_1135 dL_law_1136 ?_
  refine l_callV X m_L_115 (c_X6_whose (fun k => base + k) M (xs (i + 1)) rfl (xs (i + 2)) rfl (xs (i + 3)) rfl hX.1) rfl (by decide) (Nat.le_of_ble_eq_true rfl) (S := []) rfl dL_law_1137 (fun v M1 q1 => ?_)
  obtain ⟨r1, a1, rfl, e1, -, I1, F1⟩ := q1
  have F1 : Fr W_X6_whose M M1 := F1
  have hX1 : LX M1 := gen_LX hX F1 I1 (by decide)
  have hM1 : LM M1 := LM_fr hM F1 (by decide)
  have tM1 : (M1.1 47 23).toInt = (M.1 47 23).toInt := by rw [F1.at 47 23 (by decide)]
  show GL Γ M1 1140 (LL b base y) [.int r1]
  refine l_pop X dL_law_1140 rfl ?_
  refine l_aload X 2 rfl dL_law_1141 ?_
  refine l_arg X hy hi hN 1 ⟨by decide, by decide⟩ dL_law_1142 dL_law_1143 dL_law_1144 dL_law_1145 dL_law_1146 ?_
  refine l_arg X hy hi hN 2 ⟨by decide, by decide⟩ dL_law_1147 dL_law_1148 dL_law_1149 dL_law_1150 dL_law_1151 ?_
  refine l_arg X hy hi hN 3 ⟨by decide, by decide⟩ dL_law_1152 dL_law_1153 dL_law_1154 dL_law_1155 dL_law_1156 ?_
  refine l_callV X m_L_118 (c_X7_whose (fun k => base + k) M1 (xs (i + 1)) rfl (xs (i + 2)) rfl (xs (i + 3)) rfl hM1.1) rfl (by decide) (Nat.le_of_ble_eq_true rfl) (S := []) rfl dL_law_1157 (fun v M2 q2 => ?_)
  obtain ⟨r2, a2, rfl, e2, -, q2⟩ := q2
  have F2 : Fr [] M1 M2 := by rw [← q2]; exact Fr.rf
  have I2 : Iv TM M2 := by rw [← q2]; exact hM1.1
  have F2 : Fr [] M1 M2 := F2
  have hX2 : LX M2 := LX_fr hX1 F2 (by decide)
  have hM2 : LM M2 := gen_LM hM1 F2 I2 (by decide)
  have tM2 : 0 ≤ (M2.1 47 23).toInt ∧ (M2.1 47 23).toInt ≤ n + 1 := by rw [F2.at 47 23 (by decide)]; omega
  have s0 : (M2.1 1 3).toInt = (M2.1 47 11).toInt := sc_keep hR.1.1 F1 F2 (by decide) (by decide) (by decide) (by decide)
  have s1 : (M2.1 1 12).toInt = (M2.1 47 12).toInt := sc_keep hR.1.2.1 F1 F2 (by decide) (by decide) (by decide) (by decide)
  have s2 : (M2.1 14 1).toInt = (M2.1 47 20).toInt := sc_keep hR.1.2.2.1 F1 F2 (by decide) (by decide) (by decide) (by decide)
  have s3 : (M2.1 14 12).toInt = (M2.1 47 24).toInt := sc_keep hR.1.2.2.2.1 F1 F2 (by decide) (by decide) (by decide) (by decide)
  have s4 : (M2.1 23 2).toInt = (M2.1 47 52).toInt := sc_keep hR.1.2.2.2.2.1 F1 F2 (by decide) (by decide) (by decide) (by decide)
  have s5 : (M2.1 23 7).toInt = (M2.1 47 53).toInt := sc_keep hR.1.2.2.2.2.2.1 F1 F2 (by decide) (by decide) (by decide) (by decide)
  have s6 : (M2.1 0 7).toInt = (M2.1 47 43).toInt := sc_keep hR.1.2.2.2.2.2.2 F1 F2 (by decide) (by decide) (by decide) (by decide)
  have t0 : ∀ j, j < 10 → M2.1 5 j = M2.1 51 j := row_keep hR.2.1 F1 F2 (by decide) (by decide) (by decide) (by decide)
  have t1 : ∀ j, j < 3 → M2.1 12 j = M2.1 58 j := row_keep hR.2.2.1 F1 F2 (by decide) (by decide) (by decide) (by decide)
  have t2 : ∀ j, j < 8 → M2.1 25 j = M2.1 80 j := row_keep hR.2.2.2 F1 F2 (by decide) (by decide) (by decide) (by decide)
  have hl2 : (M.1 1 12).toInt ≤ (M2.1 1 12).toInt := by rw [F2.at 1 12 (by decide), F1.at 1 12 (by decide)]; exact Int.le_refl _
  have bk2 : BK M2 := BK_keep hB F1 F2 (by decide) (by decide) hl2
  have sl2 : SL M2 := SL_keep hS F1 F2 (by decide) (by decide)
  have gr2 : GR M2 := row_keep hG F1 F2 (by decide) (by decide) (by decide) (by decide)
  show GL Γ M2 1160 (LL b base y) [.int r2]
  refine l_pop X dL_law_1160 rfl ?_
  refine l_goto X (tgt := 1445) dL_law_1161 (by decide) ?_
  exact kk M2 ⟨⟨⟨hX2, hM2, ⟨⟨s0, s1, s2, s3, s4, s5, s6⟩, t0, t1, t2⟩, tM2⟩, bk2⟩, sl2, gr2⟩
set_option maxHeartbeats 4000000 in
theorem cs_put (X : gLX Γ base b N xs) {n i : Nat} {y : Int32} (hy : y.toInt = i) (hi : i + 6 ≤ N) (hN : N ≤ 3072) (hn : n ≤ 512) {M : Mem} (h : LJ2 n M) (kk : ∀ M', LJ2 (n + 1) M' → GL Γ M' 1445 (LL b base y) []) : GL Γ M 1164 (LL b base y) [] := by
  obtain ⟨⟨⟨hX, hM, hR, ht0, ht1⟩, hB⟩, hS, hG⟩ := h
  refine l_aload X 1 rfl dL_law_1164 ?_
  refine l_arg X hy hi hN 1 ⟨by decide, by decide⟩ dL_law_1165 dL_law_1166 dL_law_1167 dL_law_1168 dL_law_1169 ?_
  refine l_arg X hy hi hN 2 ⟨by decide, by decide⟩ dL_law_1170 dL_law_1171 dL_law_1172 dL_law_1173 dL_law_1174 ?_
  refine l_callV X m_L_119 (c_X6_put_E (fun k => base + k) M (xs (i + 1)) rfl (xs (i + 2)) rfl hX.1) rfl (by decide) (Nat.le_of_ble_eq_true rfl) (S := []) rfl dL_law_1175 (fun v M1 q1 => ?_)
  obtain ⟨r1, a1, rfl, e1, A1, E1, I1, F1⟩ := q1
  have F1 : Fr W_X6_put_E M M1 := F1
  have hX1 : LX M1 := gen_LX hX F1 I1 (by decide)
  have hM1 : LM M1 := LM_fr hM F1 (by decide)
  have tM1 : (M1.1 47 23).toInt = (M.1 47 23).toInt := by rw [F1.at 47 23 (by decide)]
  show GL Γ M1 1178 (LL b base y) [.int r1]
  refine l_pop X dL_law_1178 rfl ?_
  refine l_aload X 2 rfl dL_law_1179 ?_
  refine l_arg X hy hi hN 1 ⟨by decide, by decide⟩ dL_law_1180 dL_law_1181 dL_law_1182 dL_law_1183 dL_law_1184 ?_
  refine l_arg X hy hi hN 2 ⟨by decide, by decide⟩ dL_law_1185 dL_law_1186 dL_law_1187 dL_law_1188 dL_law_1189 ?_
  refine l_callV X m_L_122 (c_X7_put_E (fun k => base + k) M1 (xs (i + 1)) rfl (xs (i + 2)) rfl hM1.1) rfl (by decide) (Nat.le_of_ble_eq_true rfl) (S := []) rfl dL_law_1190 (fun v M2 q2 => ?_)
  obtain ⟨r2, a2, rfl, e2, A2, E2, I2, F2⟩ := q2
  have F2 : Fr W_X7_put_E M1 M2 := F2
  have hX2 : LX M2 := LX_fr hX1 F2 (by decide)
  have hM2 : LM M2 := gen_LM hM1 F2 I2 (by decide)
  have tM2 : 0 ≤ (M2.1 47 23).toInt ∧ (M2.1 47 23).toInt ≤ n + 1 := by rw [F2.at 47 23 (by decide)]; omega
  have g_47_12 : (M1.1 47 12).toInt = (M.1 1 12).toInt := by rw [F1.at 47 12 (by decide)]; exact hR.1.2.1.symm
  have g_47_43 : (M1.1 47 43).toInt = (M.1 0 7).toInt := by rw [F1.at 47 43 (by decide)]; exact hR.1.2.2.2.2.2.2.symm
  simp only [g_47_12, g_47_43] at A2 E2
  have s0 : (M2.1 1 3).toInt = (M2.1 47 11).toInt := sc_keep hR.1.1 F1 F2 (by decide) (by decide) (by decide) (by decide)
  have s1 : (M2.1 1 12).toInt = (M2.1 47 12).toInt := sc_keep hR.1.2.1 F1 F2 (by decide) (by decide) (by decide) (by decide)
  have s2 : (M2.1 14 1).toInt = (M2.1 47 20).toInt := sc_keep hR.1.2.2.1 F1 F2 (by decide) (by decide) (by decide) (by decide)
  have s3 : (M2.1 14 12).toInt = (M2.1 47 24).toInt := sc_keep hR.1.2.2.2.1 F1 F2 (by decide) (by decide) (by decide) (by decide)
  have s4 : (M2.1 23 2).toInt = (M2.1 47 52).toInt := sc_keep hR.1.2.2.2.2.1 F1 F2 (by decide) (by decide) (by decide) (by decide)
  have s5 : (M2.1 23 7).toInt = (M2.1 47 53).toInt := sc_keep hR.1.2.2.2.2.2.1 F1 F2 (by decide) (by decide) (by decide) (by decide)
  have s6 : (M2.1 0 7).toInt = (M2.1 47 43).toInt := by rw [F2.at 0 7 (by decide)]; exact ans2 E1.1 E2.1
  have t0 : ∀ j, j < 10 → M2.1 5 j = M2.1 51 j := row_keep hR.2.1 F1 F2 (by decide) (by decide) (by decide) (by decide)
  have t1 : ∀ j, j < 3 → M2.1 12 j = M2.1 58 j := row_keep hR.2.2.1 F1 F2 (by decide) (by decide) (by decide) (by decide)
  have t2 : ∀ j, j < 8 → M2.1 25 j = M2.1 80 j := row_keep hR.2.2.2 F1 F2 (by decide) (by decide) (by decide) (by decide)
  have ans : a1 = a2 := ans4 A1 A2
  have hl2 : (M.1 1 12).toInt ≤ (M2.1 1 12).toInt := by rw [F2.at 1 12 (by decide), F1.at 1 12 (by decide)]; exact Int.le_refl _
  have bk2 : BK M2 := BK_keep hB F1 F2 (by decide) (by decide) hl2
  have sl2 : SL M2 := SL_keep hS F1 F2 (by decide) (by decide)
  have gr2 : GR M2 := row_eq hG Iff.rfl E1.2 E2.2 F1 F2 (by decide) (by decide)
  show GL Γ M2 1193 (LL b base y) [.int r2]
  refine l_pop X dL_law_1193 rfl ?_
  refine l_goto X (tgt := 1445) dL_law_1194 (by decide) ?_
  exact kk M2 ⟨⟨⟨hX2, hM2, ⟨⟨s0, s1, s2, s3, s4, s5, s6⟩, t0, t1, t2⟩, tM2⟩, bk2⟩, sl2, gr2⟩
set_option maxHeartbeats 4000000 in
theorem cs_runs (X : gLX Γ base b N xs) {n i : Nat} {y : Int32} (hy : y.toInt = i) (hi : i + 6 ≤ N) (hN : N ≤ 3072) (hn : n ≤ 512) {M : Mem} (h : LJ2 n M) (kk : ∀ M', LJ2 (n + 1) M' → GL Γ M' 1445 (LL b base y) []) : GL Γ M 1197 (LL b base y) [] := by
  obtain ⟨⟨⟨hX, hM, hR, ht0, ht1⟩, hB⟩, hS, hG⟩ := h
  refine l_aload X 1 rfl dL_law_1197 ?_
  refine l_arg X hy hi hN 1 ⟨by decide, by decide⟩ dL_law_1198 dL_law_1199 dL_law_1200 dL_law_1201 dL_law_1202 ?_
  refine l_arg X hy hi hN 2 ⟨by decide, by decide⟩ dL_law_1203 dL_law_1204 dL_law_1205 dL_law_1206 dL_law_1207 ?_
  refine l_arg X hy hi hN 3 ⟨by decide, by decide⟩ dL_law_1208 dL_law_1209 dL_law_1210 dL_law_1211 dL_law_1212 ?_
  refine l_arg X hy hi hN 4 ⟨by decide, by decide⟩ dL_law_1213 dL_law_1214 dL_law_1215 dL_law_1216 dL_law_1217 ?_
  refine l_callV X m_L_123 (c_X6_runs (fun k => base + k) M (xs (i + 1)) rfl (xs (i + 2)) rfl (xs (i + 3)) rfl (xs (i + 4)) rfl hX.1) rfl (by decide) (Nat.le_of_ble_eq_true rfl) (S := []) rfl dL_law_1218 (fun v M1 q1 => ?_)
  obtain ⟨r1, a1, rfl, e1, -, I1, F1⟩ := q1
  have F1 : Fr W_X6_runs M M1 := F1
  have hX1 : LX M1 := gen_LX hX F1 I1 (by decide)
  have hM1 : LM M1 := LM_fr hM F1 (by decide)
  have tM1 : (M1.1 47 23).toInt = (M.1 47 23).toInt := by rw [F1.at 47 23 (by decide)]
  show GL Γ M1 1221 (LL b base y) [.int r1]
  refine l_pop X dL_law_1221 rfl ?_
  refine l_aload X 2 rfl dL_law_1222 ?_
  refine l_arg X hy hi hN 1 ⟨by decide, by decide⟩ dL_law_1223 dL_law_1224 dL_law_1225 dL_law_1226 dL_law_1227 ?_
  refine l_arg X hy hi hN 2 ⟨by decide, by decide⟩ dL_law_1228 dL_law_1229 dL_law_1230 dL_law_1231 dL_law_1232 ?_
  refine l_arg X hy hi hN 3 ⟨by decide, by decide⟩ dL_law_1233 dL_law_1234 dL_law_1235 dL_law_1236 dL_law_1237 ?_
  refine l_arg X hy hi hN 4 ⟨by decide, by decide⟩ dL_law_1238 dL_law_1239 dL_law_1240 dL_law_1241 dL_law_1242 ?_
  refine l_callV X m_L_126 (c_X7_runs (fun k => base + k) M1 (xs (i + 1)) rfl (xs (i + 2)) rfl (xs (i + 3)) rfl (xs (i + 4)) rfl hM1.1 ⟨by omega, by omega⟩ hM1.2.1) rfl (by decide) (Nat.le_of_ble_eq_true rfl) (S := []) rfl dL_law_1243 (fun v M2 q2 => ?_)
  obtain ⟨r2, a2, rfl, e2, -, I2, F2⟩ := q2
  have F2 : Fr W_X7_runs M1 M2 := F2
  have hX2 : LX M2 := LX_fr hX1 F2 (by decide)
  have hM2 : LM M2 := gen_LM hM1 F2 I2 (by decide)
  have tM2 : 0 ≤ (M2.1 47 23).toInt ∧ (M2.1 47 23).toInt ≤ n + 1 := by rw [F2.at 47 23 (by decide)]; omega
  have s0 : (M2.1 1 3).toInt = (M2.1 47 11).toInt := sc_keep hR.1.1 F1 F2 (by decide) (by decide) (by decide) (by decide)
  have s1 : (M2.1 1 12).toInt = (M2.1 47 12).toInt := sc_keep hR.1.2.1 F1 F2 (by decide) (by decide) (by decide) (by decide)
  have s2 : (M2.1 14 1).toInt = (M2.1 47 20).toInt := sc_keep hR.1.2.2.1 F1 F2 (by decide) (by decide) (by decide) (by decide)
  have s3 : (M2.1 14 12).toInt = (M2.1 47 24).toInt := sc_keep hR.1.2.2.2.1 F1 F2 (by decide) (by decide) (by decide) (by decide)
  have s4 : (M2.1 23 2).toInt = (M2.1 47 52).toInt := sc_keep hR.1.2.2.2.2.1 F1 F2 (by decide) (by decide) (by decide) (by decide)
  have s5 : (M2.1 23 7).toInt = (M2.1 47 53).toInt := sc_keep hR.1.2.2.2.2.2.1 F1 F2 (by decide) (by decide) (by decide) (by decide)
  have s6 : (M2.1 0 7).toInt = (M2.1 47 43).toInt := sc_keep hR.1.2.2.2.2.2.2 F1 F2 (by decide) (by decide) (by decide) (by decide)
  have t0 : ∀ j, j < 10 → M2.1 5 j = M2.1 51 j := row_keep hR.2.1 F1 F2 (by decide) (by decide) (by decide) (by decide)
  have t1 : ∀ j, j < 3 → M2.1 12 j = M2.1 58 j := row_keep hR.2.2.1 F1 F2 (by decide) (by decide) (by decide) (by decide)
  have t2 : ∀ j, j < 8 → M2.1 25 j = M2.1 80 j := row_keep hR.2.2.2 F1 F2 (by decide) (by decide) (by decide) (by decide)
  have hl2 : (M.1 1 12).toInt ≤ (M2.1 1 12).toInt := by rw [F2.at 1 12 (by decide), F1.at 1 12 (by decide)]; exact Int.le_refl _
  have bk2 : BK M2 := BK_keep hB F1 F2 (by decide) (by decide) hl2
  have sl2 : SL M2 := SL_keep hS F1 F2 (by decide) (by decide)
  have gr2 : GR M2 := row_keep hG F1 F2 (by decide) (by decide) (by decide) (by decide)
  show GL Γ M2 1246 (LL b base y) [.int r2]
  refine l_pop X dL_law_1246 rfl ?_
  refine l_goto X (tgt := 1445) dL_law_1247 (by decide) ?_
  exact kk M2 ⟨⟨⟨hX2, hM2, ⟨⟨s0, s1, s2, s3, s4, s5, s6⟩, t0, t1, t2⟩, tM2⟩, bk2⟩, sl2, gr2⟩
set_option maxHeartbeats 4000000 in
theorem cs_forged (X : gLX Γ base b N xs) {n i : Nat} {y : Int32} (hy : y.toInt = i) (hi : i + 6 ≤ N) (hN : N ≤ 3072) (hn : n ≤ 512) {M : Mem} (h : LJ2 n M) (kk : ∀ M', LJ2 (n + 1) M' → GL Γ M' 1445 (LL b base y) []) : GL Γ M 1250 (LL b base y) [] := by
  obtain ⟨⟨⟨hX, hM, hR, ht0, ht1⟩, hB⟩, hS, hG⟩ := h
  refine l_aload X 1 rfl dL_law_1250 ?_
  refine l_arg X hy hi hN 1 ⟨by decide, by decide⟩ dL_law_1251 dL_law_1252 dL_law_1253 dL_law_1254 dL_law_1255 ?_
  refine l_arg X hy hi hN 2 ⟨by decide, by decide⟩ dL_law_1256 dL_law_1257 dL_law_1258 dL_law_1259 dL_law_1260 ?_
  refine l_arg X hy hi hN 3 ⟨by decide, by decide⟩ dL_law_1261 dL_law_1262 dL_law_1263 dL_law_1264 dL_law_1265 ?_
  refine l_callV X m_L_127 (c_X6_forged_E (fun k => base + k) M (xs (i + 1)) rfl (xs (i + 2)) rfl (xs (i + 3)) rfl hX.1 hB.2.2.2.2.2.1 (fun j hj => by rw [hG j hj]; exact ig_77 hM.1 j hj)) rfl (by decide) (Nat.le_of_ble_eq_true rfl) (S := []) rfl dL_law_1266 (fun v M1 q1 => ?_)
  obtain ⟨r1, a1, rfl, e1, A1, I1, F1⟩ := q1
  have F1 : Fr W_X6_forged_E M M1 := F1
  have hX1 : LX M1 := gen_LX hX F1 I1 (by decide)
  have hM1 : LM M1 := LM_fr hM F1 (by decide)
  have tM1 : (M1.1 47 23).toInt = (M.1 47 23).toInt := by rw [F1.at 47 23 (by decide)]
  show GL Γ M1 1269 (LL b base y) [.int r1]
  refine l_aload X 2 rfl dL_law_1269 ?_
  refine l_arg X hy hi hN 1 ⟨by decide, by decide⟩ dL_law_1270 dL_law_1271 dL_law_1272 dL_law_1273 dL_law_1274 ?_
  refine l_arg X hy hi hN 2 ⟨by decide, by decide⟩ dL_law_1275 dL_law_1276 dL_law_1277 dL_law_1278 dL_law_1279 ?_
  refine l_arg X hy hi hN 3 ⟨by decide, by decide⟩ dL_law_1280 dL_law_1281 dL_law_1282 dL_law_1283 dL_law_1284 ?_
  refine l_callV X m_L_130 (c_X7_forged_E (fun k => base + k) M1 (xs (i + 1)) rfl (xs (i + 2)) rfl (xs (i + 3)) rfl hM1.1) rfl (by decide) (Nat.le_of_ble_eq_true rfl) (S := [.int r1]) rfl dL_law_1285 (fun v M2 q2 => ?_)
  obtain ⟨r2, a2, rfl, e2, A2, q2⟩ := q2
  have F2 : Fr [] M1 M2 := by rw [← q2]; exact Fr.rf
  have I2 : Iv TM M2 := by rw [← q2]; exact hM1.1
  have F2 : Fr [] M1 M2 := F2
  have hX2 : LX M2 := LX_fr hX1 F2 (by decide)
  have hM2 : LM M2 := gen_LM hM1 F2 I2 (by decide)
  have tM2 : 0 ≤ (M2.1 47 23).toInt ∧ (M2.1 47 23).toInt ≤ n + 1 := by rw [F2.at 47 23 (by decide)]; omega
  have s0 : (M2.1 1 3).toInt = (M2.1 47 11).toInt := sc_keep hR.1.1 F1 F2 (by decide) (by decide) (by decide) (by decide)
  have s1 : (M2.1 1 12).toInt = (M2.1 47 12).toInt := sc_keep hR.1.2.1 F1 F2 (by decide) (by decide) (by decide) (by decide)
  have s2 : (M2.1 14 1).toInt = (M2.1 47 20).toInt := sc_keep hR.1.2.2.1 F1 F2 (by decide) (by decide) (by decide) (by decide)
  have s3 : (M2.1 14 12).toInt = (M2.1 47 24).toInt := sc_keep hR.1.2.2.2.1 F1 F2 (by decide) (by decide) (by decide) (by decide)
  have s4 : (M2.1 23 2).toInt = (M2.1 47 52).toInt := sc_keep hR.1.2.2.2.2.1 F1 F2 (by decide) (by decide) (by decide) (by decide)
  have s5 : (M2.1 23 7).toInt = (M2.1 47 53).toInt := sc_keep hR.1.2.2.2.2.2.1 F1 F2 (by decide) (by decide) (by decide) (by decide)
  have s6 : (M2.1 0 7).toInt = (M2.1 47 43).toInt := sc_keep hR.1.2.2.2.2.2.2 F1 F2 (by decide) (by decide) (by decide) (by decide)
  have t0 : ∀ j, j < 10 → M2.1 5 j = M2.1 51 j := row_keep hR.2.1 F1 F2 (by decide) (by decide) (by decide) (by decide)
  have t1 : ∀ j, j < 3 → M2.1 12 j = M2.1 58 j := row_keep hR.2.2.1 F1 F2 (by decide) (by decide) (by decide) (by decide)
  have t2 : ∀ j, j < 8 → M2.1 25 j = M2.1 80 j := row_keep hR.2.2.2 F1 F2 (by decide) (by decide) (by decide) (by decide)
  have hl2 : (M.1 1 12).toInt ≤ (M2.1 1 12).toInt := by rw [F2.at 1 12 (by decide), F1.at 1 12 (by decide)]; exact Int.le_refl _
  have bk2 : BK M2 := BK_keep hB F1 F2 (by decide) (by decide) hl2
  have sl2 : SL M2 := SL_keep hS F1 F2 (by decide) (by decide)
  have gr2 : GR M2 := row_keep hG F1 F2 (by decide) (by decide) (by decide) (by decide)
  have h80 := eW_fr F1 (c := 80) (by decide)
  have h57 := eW_fr F1 (c := 57) (by decide)
  have h77 : ∀ j : Nat, M1.1 77 j = M.1 77 j := fun j => F1.at 77 j (lo_in (by decide) (by decide) j)
  have g_47_43 : (M1.1 47 43).toInt = (M.1 0 7).toInt := by rw [F1.at 47 43 (by decide)]; exact hR.1.2.2.2.2.2.2.symm
  have g_47_52 : (M1.1 47 52).toInt = (M.1 23 2).toInt := by rw [F1.at 47 52 (by decide)]; exact hR.1.2.2.2.2.1.symm
  have g_47_12 : (M1.1 47 12).toInt = (M.1 1 12).toInt := by rw [F1.at 47 12 (by decide)]; exact hR.1.2.1.symm
  have g_47_53 : (M1.1 47 53).toInt = (M.1 23 7).toInt := by rw [F1.at 47 53 (by decide)]; exact hR.1.2.2.2.2.2.1.symm
  have gg := ig_23_7 hX.1
  have gl := ig_1_12 hX.1
  have hsq := hsM_fr F1 (by decide)
  have h79 := eW_fr F1 (c := 79) (by decide)
  have ans : a1 = a2 := (by simp only [g_47_52, g_47_53, g_47_43] at A2; exact ansB4 A1 A2 (fun c b p q => fst5_eq p q (fun j hj => by have gr := ig_0_7 hX.1; show (_ ∨ _) ↔ (_ ∨ _); rw [h77 j, ← hG j (by omega), nr_eq hB hsq h79 g_47_12 g_47_52 (upk_le (k := (xs (i + 3)).toInt) (by omega) gg) (upk_le2 (k := (xs (i + 3)).toInt) (e := (M.1 23 7).toInt) (by omega)) gl (ig_23_2 hX.1) (by omega), Bool.not_eq_false])))
  show GL Γ M2 1288 (LL b base y) [.int r2, .int r1]
  refine l_eq X (tgt := 1445) (Int32.toInt_inj.mp (by rw [e1, e2]; exact ans)) dL_law_1288 (by decide) ?_
  exact kk M2 ⟨⟨⟨hX2, hM2, ⟨⟨s0, s1, s2, s3, s4, s5, s6⟩, t0, t1, t2⟩, tM2⟩, bk2⟩, sl2, gr2⟩
set_option maxHeartbeats 4000000 in
theorem cs_record (X : gLX Γ base b N xs) {n i : Nat} {y : Int32} (hy : y.toInt = i) (hi : i + 6 ≤ N) (hN : N ≤ 3072) (hn : n ≤ 512) {M : Mem} (h : LJ2 n M) (kk : ∀ M', LJ2 (n + 1) M' → GL Γ M' 1445 (LL b base y) []) : GL Γ M 1293 (LL b base y) [] := by
  obtain ⟨⟨⟨hX, hM, hR, ht0, ht1⟩, hB⟩, hS, hG⟩ := h
  refine l_aload X 1 rfl dL_law_1293 ?_
  refine l_arg X hy hi hN 1 ⟨by decide, by decide⟩ dL_law_1294 dL_law_1295 dL_law_1296 dL_law_1297 dL_law_1298 ?_
  refine l_arg X hy hi hN 2 ⟨by decide, by decide⟩ dL_law_1299 dL_law_1300 dL_law_1301 dL_law_1302 dL_law_1303 ?_
  refine l_arg X hy hi hN 3 ⟨by decide, by decide⟩ dL_law_1304 dL_law_1305 dL_law_1306 dL_law_1307 dL_law_1308 ?_
  refine l_callV X m_L_131 (c_X6_record (fun k => base + k) M (xs (i + 1)) rfl (xs (i + 2)) rfl (xs (i + 3)) rfl hX.1) rfl (by decide) (Nat.le_of_ble_eq_true rfl) (S := []) rfl dL_law_1309 (fun v M1 q1 => ?_)
  obtain ⟨r1, a1, rfl, e1, -, I1, F1⟩ := q1
  have F1 : Fr W_X6_record M M1 := F1
  have hX1 : LX M1 := gen_LX hX F1 I1 (by decide)
  have hM1 : LM M1 := LM_fr hM F1 (by decide)
  have tM1 : (M1.1 47 23).toInt = (M.1 47 23).toInt := by rw [F1.at 47 23 (by decide)]
  show GL Γ M1 1312 (LL b base y) [.int r1]
  refine l_pop X dL_law_1312 rfl ?_
  refine l_aload X 2 rfl dL_law_1313 ?_
  refine l_arg X hy hi hN 1 ⟨by decide, by decide⟩ dL_law_1314 dL_law_1315 dL_law_1316 dL_law_1317 dL_law_1318 ?_
  refine l_arg X hy hi hN 2 ⟨by decide, by decide⟩ dL_law_1319 dL_law_1320 dL_law_1321 dL_law_1322 dL_law_1323 ?_
  refine l_arg X hy hi hN 3 ⟨by decide, by decide⟩ dL_law_1324 dL_law_1325 dL_law_1326 dL_law_1327 dL_law_1328 ?_
  refine l_callV X m_L_134 (c_X7_record (fun k => base + k) M1 (xs (i + 1)) rfl (xs (i + 2)) rfl (xs (i + 3)) rfl hM1.1) rfl (by decide) (Nat.le_of_ble_eq_true rfl) (S := []) rfl dL_law_1329 (fun v M2 q2 => ?_)
  obtain ⟨r2, a2, rfl, e2, -, I2, F2⟩ := q2
  have F2 : Fr W_X7_record M1 M2 := F2
  have hX2 : LX M2 := LX_fr hX1 F2 (by decide)
  have hM2 : LM M2 := gen_LM hM1 F2 I2 (by decide)
  have tM2 : 0 ≤ (M2.1 47 23).toInt ∧ (M2.1 47 23).toInt ≤ n + 1 := by rw [F2.at 47 23 (by decide)]; omega
  have s0 : (M2.1 1 3).toInt = (M2.1 47 11).toInt := sc_keep hR.1.1 F1 F2 (by decide) (by decide) (by decide) (by decide)
  have s1 : (M2.1 1 12).toInt = (M2.1 47 12).toInt := sc_keep hR.1.2.1 F1 F2 (by decide) (by decide) (by decide) (by decide)
  have s2 : (M2.1 14 1).toInt = (M2.1 47 20).toInt := sc_keep hR.1.2.2.1 F1 F2 (by decide) (by decide) (by decide) (by decide)
  have s3 : (M2.1 14 12).toInt = (M2.1 47 24).toInt := sc_keep hR.1.2.2.2.1 F1 F2 (by decide) (by decide) (by decide) (by decide)
  have s4 : (M2.1 23 2).toInt = (M2.1 47 52).toInt := sc_keep hR.1.2.2.2.2.1 F1 F2 (by decide) (by decide) (by decide) (by decide)
  have s5 : (M2.1 23 7).toInt = (M2.1 47 53).toInt := sc_keep hR.1.2.2.2.2.2.1 F1 F2 (by decide) (by decide) (by decide) (by decide)
  have s6 : (M2.1 0 7).toInt = (M2.1 47 43).toInt := sc_keep hR.1.2.2.2.2.2.2 F1 F2 (by decide) (by decide) (by decide) (by decide)
  have t0 : ∀ j, j < 10 → M2.1 5 j = M2.1 51 j := row_keep hR.2.1 F1 F2 (by decide) (by decide) (by decide) (by decide)
  have t1 : ∀ j, j < 3 → M2.1 12 j = M2.1 58 j := row_keep hR.2.2.1 F1 F2 (by decide) (by decide) (by decide) (by decide)
  have t2 : ∀ j, j < 8 → M2.1 25 j = M2.1 80 j := row_keep hR.2.2.2 F1 F2 (by decide) (by decide) (by decide) (by decide)
  have hl2 : (M.1 1 12).toInt ≤ (M2.1 1 12).toInt := by rw [F2.at 1 12 (by decide), F1.at 1 12 (by decide)]; exact Int.le_refl _
  have bk2 : BK M2 := BK_keep hB F1 F2 (by decide) (by decide) hl2
  have sl2 : SL M2 := SL_keep hS F1 F2 (by decide) (by decide)
  have gr2 : GR M2 := row_keep hG F1 F2 (by decide) (by decide) (by decide) (by decide)
  show GL Γ M2 1332 (LL b base y) [.int r2]
  refine l_pop X dL_law_1332 rfl ?_
  refine l_goto X (tgt := 1445) dL_law_1333 (by decide) ?_
  exact kk M2 ⟨⟨⟨hX2, hM2, ⟨⟨s0, s1, s2, s3, s4, s5, s6⟩, t0, t1, t2⟩, tM2⟩, bk2⟩, sl2, gr2⟩
set_option maxHeartbeats 4000000 in
theorem cs_heard (X : gLX Γ base b N xs) {n i : Nat} {y : Int32} (hy : y.toInt = i) (hi : i + 6 ≤ N) (hN : N ≤ 3072) (hn : n ≤ 512) {M : Mem} (h : LJ2 n M) (kk : ∀ M', LJ2 (n + 1) M' → GL Γ M' 1445 (LL b base y) []) : GL Γ M 1336 (LL b base y) [] := by
  obtain ⟨⟨⟨hX, hM, hR, ht0, ht1⟩, hB⟩, hS, hG⟩ := h
  refine l_aload X 1 rfl dL_law_1336 ?_
  refine l_arg X hy hi hN 1 ⟨by decide, by decide⟩ dL_law_1337 dL_law_1338 dL_law_1339 dL_law_1340 dL_law_1341 ?_
  refine l_arg X hy hi hN 2 ⟨by decide, by decide⟩ dL_law_1342 dL_law_1343 dL_law_1344 dL_law_1345 dL_law_1346 ?_
  refine l_arg X hy hi hN 3 ⟨by decide, by decide⟩ dL_law_1347 dL_law_1348 dL_law_1349 dL_law_1350 dL_law_1351 ?_
  refine l_callV X m_L_135 (c_X6_heard (fun k => base + k) M (xs (i + 1)) rfl (xs (i + 2)) rfl (xs (i + 3)) rfl hX.1) rfl (by decide) (Nat.le_of_ble_eq_true rfl) (S := []) rfl dL_law_1352 (fun v M1 q1 => ?_)
  obtain ⟨r1, a1, rfl, e1, -, I1, F1⟩ := q1
  have F1 : Fr W_X6_heard M M1 := F1
  have hX1 : LX M1 := gen_LX hX F1 I1 (by decide)
  have hM1 : LM M1 := LM_fr hM F1 (by decide)
  have tM1 : (M1.1 47 23).toInt = (M.1 47 23).toInt := by rw [F1.at 47 23 (by decide)]
  show GL Γ M1 1355 (LL b base y) [.int r1]
  refine l_pop X dL_law_1355 rfl ?_
  refine l_aload X 2 rfl dL_law_1356 ?_
  refine l_arg X hy hi hN 1 ⟨by decide, by decide⟩ dL_law_1357 dL_law_1358 dL_law_1359 dL_law_1360 dL_law_1361 ?_
  refine l_arg X hy hi hN 2 ⟨by decide, by decide⟩ dL_law_1362 dL_law_1363 dL_law_1364 dL_law_1365 dL_law_1366 ?_
  refine l_arg X hy hi hN 3 ⟨by decide, by decide⟩ dL_law_1367 dL_law_1368 dL_law_1369 dL_law_1370 dL_law_1371 ?_
  refine l_callV X m_L_138 (c_X7_heard (fun k => base + k) M1 (xs (i + 1)) rfl (xs (i + 2)) rfl (xs (i + 3)) rfl hM1.1 ⟨by omega, by omega⟩ hM1.2.1) rfl (by decide) (Nat.le_of_ble_eq_true rfl) (S := []) rfl dL_law_1372 (fun v M2 q2 => ?_)
  obtain ⟨r2, a2, rfl, e2, -, I2, F2⟩ := q2
  have F2 : Fr W_X7_heard M1 M2 := F2
  have hX2 : LX M2 := LX_fr hX1 F2 (by decide)
  have hM2 : LM M2 := gen_LM hM1 F2 I2 (by decide)
  have tM2 : 0 ≤ (M2.1 47 23).toInt ∧ (M2.1 47 23).toInt ≤ n + 1 := by rw [F2.at 47 23 (by decide)]; omega
  have s0 : (M2.1 1 3).toInt = (M2.1 47 11).toInt := sc_keep hR.1.1 F1 F2 (by decide) (by decide) (by decide) (by decide)
  have s1 : (M2.1 1 12).toInt = (M2.1 47 12).toInt := sc_keep hR.1.2.1 F1 F2 (by decide) (by decide) (by decide) (by decide)
  have s2 : (M2.1 14 1).toInt = (M2.1 47 20).toInt := sc_keep hR.1.2.2.1 F1 F2 (by decide) (by decide) (by decide) (by decide)
  have s3 : (M2.1 14 12).toInt = (M2.1 47 24).toInt := sc_keep hR.1.2.2.2.1 F1 F2 (by decide) (by decide) (by decide) (by decide)
  have s4 : (M2.1 23 2).toInt = (M2.1 47 52).toInt := sc_keep hR.1.2.2.2.2.1 F1 F2 (by decide) (by decide) (by decide) (by decide)
  have s5 : (M2.1 23 7).toInt = (M2.1 47 53).toInt := sc_keep hR.1.2.2.2.2.2.1 F1 F2 (by decide) (by decide) (by decide) (by decide)
  have s6 : (M2.1 0 7).toInt = (M2.1 47 43).toInt := sc_keep hR.1.2.2.2.2.2.2 F1 F2 (by decide) (by decide) (by decide) (by decide)
  have t0 : ∀ j, j < 10 → M2.1 5 j = M2.1 51 j := row_keep hR.2.1 F1 F2 (by decide) (by decide) (by decide) (by decide)
  have t1 : ∀ j, j < 3 → M2.1 12 j = M2.1 58 j := row_keep hR.2.2.1 F1 F2 (by decide) (by decide) (by decide) (by decide)
  have t2 : ∀ j, j < 8 → M2.1 25 j = M2.1 80 j := row_keep hR.2.2.2 F1 F2 (by decide) (by decide) (by decide) (by decide)
  have hl2 : (M.1 1 12).toInt ≤ (M2.1 1 12).toInt := by rw [F2.at 1 12 (by decide), F1.at 1 12 (by decide)]; exact Int.le_refl _
  have bk2 : BK M2 := BK_keep hB F1 F2 (by decide) (by decide) hl2
  have sl2 : SL M2 := SL_keep hS F1 F2 (by decide) (by decide)
  have gr2 : GR M2 := row_keep hG F1 F2 (by decide) (by decide) (by decide) (by decide)
  show GL Γ M2 1375 (LL b base y) [.int r2]
  refine l_pop X dL_law_1375 rfl ?_
  refine l_goto X (tgt := 1445) dL_law_1376 (by decide) ?_
  exact kk M2 ⟨⟨⟨hX2, hM2, ⟨⟨s0, s1, s2, s3, s4, s5, s6⟩, t0, t1, t2⟩, tM2⟩, bk2⟩, sl2, gr2⟩
set_option maxHeartbeats 4000000 in
theorem cs_filled (X : gLX Γ base b N xs) {n i : Nat} {y : Int32} (hy : y.toInt = i) (hi : i + 6 ≤ N) (hN : N ≤ 3072) (hn : n ≤ 512) {M : Mem} (h : LJ2 n M) (kk : ∀ M', LJ2 (n + 1) M' → GL Γ M' 1445 (LL b base y) []) : GL Γ M 1379 (LL b base y) [] := by
  obtain ⟨⟨⟨hX, hM, hR, ht0, ht1⟩, hB⟩, hS, hG⟩ := h
  refine l_aload X 1 rfl dL_law_1379 ?_
  refine l_arg X hy hi hN 1 ⟨by decide, by decide⟩ dL_law_1380 dL_law_1381 dL_law_1382 dL_law_1383 dL_law_1384 ?_
  refine l_arg X hy hi hN 2 ⟨by decide, by decide⟩ dL_law_1385 dL_law_1386 dL_law_1387 dL_law_1388 dL_law_1389 ?_
  refine l_arg X hy hi hN 3 ⟨by decide, by decide⟩ dL_law_1390 dL_law_1391 dL_law_1392 dL_law_1393 dL_law_1394 ?_
  refine l_callV X m_L_139 (c_X6_filled (fun k => base + k) M (xs (i + 1)) rfl (xs (i + 2)) rfl (xs (i + 3)) rfl hX.1) rfl (by decide) (Nat.le_of_ble_eq_true rfl) (S := []) rfl dL_law_1395 (fun v M1 q1 => ?_)
  obtain ⟨r1, a1, rfl, e1, -, I1, F1⟩ := q1
  have F1 : Fr W_X6_filled M M1 := F1
  have hX1 : LX M1 := gen_LX hX F1 I1 (by decide)
  have hM1 : LM M1 := LM_fr hM F1 (by decide)
  have tM1 : (M1.1 47 23).toInt = (M.1 47 23).toInt := by rw [F1.at 47 23 (by decide)]
  show GL Γ M1 1398 (LL b base y) [.int r1]
  refine l_pop X dL_law_1398 rfl ?_
  refine l_aload X 2 rfl dL_law_1399 ?_
  refine l_arg X hy hi hN 1 ⟨by decide, by decide⟩ dL_law_1400 dL_law_1401 dL_law_1402 dL_law_1403 dL_law_1404 ?_
  refine l_arg X hy hi hN 2 ⟨by decide, by decide⟩ dL_law_1405 dL_law_1406 dL_law_1407 dL_law_1408 dL_law_1409 ?_
  refine l_arg X hy hi hN 3 ⟨by decide, by decide⟩ dL_law_1410 dL_law_1411 dL_law_1412 dL_law_1413 dL_law_1414 ?_
  refine l_callV X m_L_142 (c_X7_filled (fun k => base + k) M1 (xs (i + 1)) rfl (xs (i + 2)) rfl (xs (i + 3)) rfl hM1.1 ⟨by omega, by omega⟩ hM1.2.1) rfl (by decide) (Nat.le_of_ble_eq_true rfl) (S := []) rfl dL_law_1415 (fun v M2 q2 => ?_)
  obtain ⟨r2, a2, rfl, e2, -, I2, F2⟩ := q2
  have F2 : Fr W_X7_filled M1 M2 := F2
  have hX2 : LX M2 := LX_fr hX1 F2 (by decide)
  have hM2 : LM M2 := gen_LM hM1 F2 I2 (by decide)
  have tM2 : 0 ≤ (M2.1 47 23).toInt ∧ (M2.1 47 23).toInt ≤ n + 1 := by rw [F2.at 47 23 (by decide)]; omega
  have s0 : (M2.1 1 3).toInt = (M2.1 47 11).toInt := sc_keep hR.1.1 F1 F2 (by decide) (by decide) (by decide) (by decide)
  have s1 : (M2.1 1 12).toInt = (M2.1 47 12).toInt := sc_keep hR.1.2.1 F1 F2 (by decide) (by decide) (by decide) (by decide)
  have s2 : (M2.1 14 1).toInt = (M2.1 47 20).toInt := sc_keep hR.1.2.2.1 F1 F2 (by decide) (by decide) (by decide) (by decide)
  have s3 : (M2.1 14 12).toInt = (M2.1 47 24).toInt := sc_keep hR.1.2.2.2.1 F1 F2 (by decide) (by decide) (by decide) (by decide)
  have s4 : (M2.1 23 2).toInt = (M2.1 47 52).toInt := sc_keep hR.1.2.2.2.2.1 F1 F2 (by decide) (by decide) (by decide) (by decide)
  have s5 : (M2.1 23 7).toInt = (M2.1 47 53).toInt := sc_keep hR.1.2.2.2.2.2.1 F1 F2 (by decide) (by decide) (by decide) (by decide)
  have s6 : (M2.1 0 7).toInt = (M2.1 47 43).toInt := sc_keep hR.1.2.2.2.2.2.2 F1 F2 (by decide) (by decide) (by decide) (by decide)
  have t0 : ∀ j, j < 10 → M2.1 5 j = M2.1 51 j := row_keep hR.2.1 F1 F2 (by decide) (by decide) (by decide) (by decide)
  have t1 : ∀ j, j < 3 → M2.1 12 j = M2.1 58 j := row_keep hR.2.2.1 F1 F2 (by decide) (by decide) (by decide) (by decide)
  have t2 : ∀ j, j < 8 → M2.1 25 j = M2.1 80 j := row_keep hR.2.2.2 F1 F2 (by decide) (by decide) (by decide) (by decide)
  have hl2 : (M.1 1 12).toInt ≤ (M2.1 1 12).toInt := by rw [F2.at 1 12 (by decide), F1.at 1 12 (by decide)]; exact Int.le_refl _
  have bk2 : BK M2 := BK_keep hB F1 F2 (by decide) (by decide) hl2
  have sl2 : SL M2 := SL_keep hS F1 F2 (by decide) (by decide)
  have gr2 : GR M2 := row_keep hG F1 F2 (by decide) (by decide) (by decide) (by decide)
  show GL Γ M2 1418 (LL b base y) [.int r2]
  refine l_pop X dL_law_1418 rfl ?_
  refine l_goto X (tgt := 1445) dL_law_1419 (by decide) ?_
  exact kk M2 ⟨⟨⟨hX2, hM2, ⟨⟨s0, s1, s2, s3, s4, s5, s6⟩, t0, t1, t2⟩, tM2⟩, bk2⟩, sl2, gr2⟩
set_option maxHeartbeats 4000000 in
theorem cs_count (X : gLX Γ base b N xs) {n i : Nat} {y : Int32} (hy : y.toInt = i) (hi : i + 6 ≤ N) (hN : N ≤ 3072) (hn : n ≤ 512) {M : Mem} (h : LJ2 n M) (kk : ∀ M', LJ2 (n + 1) M' → GL Γ M' 1445 (LL b base y) []) : GL Γ M 1422 (LL b base y) [] := by
  obtain ⟨⟨⟨hX, hM, hR, ht0, ht1⟩, hB⟩, hS, hG⟩ := h
  refine l_aload X 1 rfl dL_law_1422 ?_
  refine l_arg X hy hi hN 1 ⟨by decide, by decide⟩ dL_law_1423 dL_law_1424 dL_law_1425 dL_law_1426 dL_law_1427 ?_
  refine l_callV X m_L_143 (c_X6_count (fun k => base + k) M (xs (i + 1)) rfl hX.1) rfl (by decide) (Nat.le_of_ble_eq_true rfl) (S := []) rfl dL_law_1428 (fun v M1 q1 => ?_)
  obtain ⟨r1, a1, rfl, e1, -, q1⟩ := q1
  have F1 : Fr [] M M1 := by rw [← q1]; exact Fr.rf
  have I1 : Iv TX M1 := by rw [← q1]; exact hX.1
  have F1 : Fr [] M M1 := F1
  have hX1 : LX M1 := gen_LX hX F1 I1 (by decide)
  have hM1 : LM M1 := LM_fr hM F1 (by decide)
  have tM1 : (M1.1 47 23).toInt = (M.1 47 23).toInt := by rw [F1.at 47 23 (by decide)]
  show GL Γ M1 1431 (LL b base y) [.int r1]
  refine l_pop X dL_law_1431 rfl ?_
  refine l_aload X 2 rfl dL_law_1432 ?_
  refine l_arg X hy hi hN 1 ⟨by decide, by decide⟩ dL_law_1433 dL_law_1434 dL_law_1435 dL_law_1436 dL_law_1437 ?_
  refine l_callV X m_L_146 (c_X7_count (fun k => base + k) M1 (xs (i + 1)) rfl hM1.1) rfl (by decide) (Nat.le_of_ble_eq_true rfl) (S := []) rfl dL_law_1438 (fun v M2 q2 => ?_)
  obtain ⟨r2, a2, rfl, e2, -, q2⟩ := q2
  have F2 : Fr [] M1 M2 := by rw [← q2]; exact Fr.rf
  have I2 : Iv TM M2 := by rw [← q2]; exact hM1.1
  have F2 : Fr [] M1 M2 := F2
  have hX2 : LX M2 := LX_fr hX1 F2 (by decide)
  have hM2 : LM M2 := gen_LM hM1 F2 I2 (by decide)
  have tM2 : 0 ≤ (M2.1 47 23).toInt ∧ (M2.1 47 23).toInt ≤ n + 1 := by rw [F2.at 47 23 (by decide)]; omega
  have s0 : (M2.1 1 3).toInt = (M2.1 47 11).toInt := sc_keep hR.1.1 F1 F2 (by decide) (by decide) (by decide) (by decide)
  have s1 : (M2.1 1 12).toInt = (M2.1 47 12).toInt := sc_keep hR.1.2.1 F1 F2 (by decide) (by decide) (by decide) (by decide)
  have s2 : (M2.1 14 1).toInt = (M2.1 47 20).toInt := sc_keep hR.1.2.2.1 F1 F2 (by decide) (by decide) (by decide) (by decide)
  have s3 : (M2.1 14 12).toInt = (M2.1 47 24).toInt := sc_keep hR.1.2.2.2.1 F1 F2 (by decide) (by decide) (by decide) (by decide)
  have s4 : (M2.1 23 2).toInt = (M2.1 47 52).toInt := sc_keep hR.1.2.2.2.2.1 F1 F2 (by decide) (by decide) (by decide) (by decide)
  have s5 : (M2.1 23 7).toInt = (M2.1 47 53).toInt := sc_keep hR.1.2.2.2.2.2.1 F1 F2 (by decide) (by decide) (by decide) (by decide)
  have s6 : (M2.1 0 7).toInt = (M2.1 47 43).toInt := sc_keep hR.1.2.2.2.2.2.2 F1 F2 (by decide) (by decide) (by decide) (by decide)
  have t0 : ∀ j, j < 10 → M2.1 5 j = M2.1 51 j := row_keep hR.2.1 F1 F2 (by decide) (by decide) (by decide) (by decide)
  have t1 : ∀ j, j < 3 → M2.1 12 j = M2.1 58 j := row_keep hR.2.2.1 F1 F2 (by decide) (by decide) (by decide) (by decide)
  have t2 : ∀ j, j < 8 → M2.1 25 j = M2.1 80 j := row_keep hR.2.2.2 F1 F2 (by decide) (by decide) (by decide) (by decide)
  have hl2 : (M.1 1 12).toInt ≤ (M2.1 1 12).toInt := by rw [F2.at 1 12 (by decide), F1.at 1 12 (by decide)]; exact Int.le_refl _
  have bk2 : BK M2 := BK_keep hB F1 F2 (by decide) (by decide) hl2
  have sl2 : SL M2 := SL_keep hS F1 F2 (by decide) (by decide)
  have gr2 : GR M2 := row_keep hG F1 F2 (by decide) (by decide) (by decide) (by decide)
  show GL Γ M2 1441 (LL b base y) [.int r2]
  refine l_pop X dL_law_1441 rfl ?_
  refine l_goto X (tgt := 1445) dL_law_1442 (by decide) ?_
  exact kk M2 ⟨⟨⟨hX2, hM2, ⟨⟨s0, s1, s2, s3, s4, s5, s6⟩, t0, t1, t2⟩, tM2⟩, bk2⟩, sl2, gr2⟩
end
