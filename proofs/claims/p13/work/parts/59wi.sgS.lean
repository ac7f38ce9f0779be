section
abbrev W_X7_sings_F : List (Nat × Nat) := [(65, 99), (66, 99), (67, 99), (68, 99), (70, 99), (47, 33), (47, 34)]
set_option maxHeartbeats 4000000 in
set_option maxRecDepth 4000 in
theorem c_X7_sings_F (ad : Nat → Nat) (Mq : Mem) (x1 : Int32) {a1 : Int} (t1 : x1.toInt = a1) (Iq0 : Iv TM Mq) {pp : PaT} {td : Nat → Int} (h1 : 0 ≤ a1 ∧ a1 ≤ 7) (ht : 0 < (Mq.1 63 a1.toNat).toInt) (hTT : TVp pp td) (hP : PM Mq pp) (h5 : 0 < td a1.toNat) (hcc0 : ∀ s, 0 ≤ pp.2.2.2.2.1 s) (cy0 : 0 ≤ (Mq.2 47 34).toInt) (cy1 : WFM Mq) : Ctr ad yX7_sings cX7_sings 9 (some .boolean) 1 [.ref (ad 47), .int x1] Mq (fun v M' => ∃ (r : Int32) (a : Int), v = some (.int r) ∧ r.toInt = a ∧ (a = 0 ∨ a = 1) ∧ (0 ≤ (M'.2 47 34).toInt) ∧ (SGY M' pp ([(a1.toNat, 0, [])], (Mq.2 47 34).toInt, 0, []) a) ∧ Iv TM M' ∧ Fr W_X7_sings_F Mq M') := by
  refine ctr_of (L := [(0, .ref (ad 47)), (1, .int x1)]) (by decide) (Nat.le_of_ble_eq_true rfl) rfl ?_
  intro Γ X
  have X : gX Γ cX7_sings RX7 9 (some .boolean) 1 ad _ := X
  have frq0 : Fr W_X7_sings_F Mq Mq := Fr.rf
  have g12 := ig_47_12 Iq0
  have g24 := ig_47_24 Iq0
  have g33 := ig_47_33 Iq0
  have g44 := ig_47_44 Iq0
  have g43 := ig_47_43 Iq0
  have g52 := ig_47_52 Iq0
  have g53 := ig_47_53 Iq0
  have g59 := ig_47_59 Iq0
  refine g_iconst X 0 dX7_sings_0 (by decide) ?_
  refine g_istore_n X (i := 2) [(2, .int 0), (0, .ref (ad 47)), (1, .int x1)] dX7_sings_1 rfl (by decide) rfl ?_
  refine g_iconst X 0 dX7_sings_2 (by decide) ?_
  refine g_istore_n X (i := 3) [(3, .int 0), (2, .int 0), (0, .ref (ad 47)), (1, .int x1)] dX7_sings_3 rfl (by decide) rfl ?_
  refine g_iconst X 0 dX7_sings_4 (by decide) ?_
  refine g_istore X [(4, .int 0), (3, .int 0), (2, .int 0), (0, .ref (ad 47)), (1, .int x1)] dX7_sings_5 (by decide) rfl ?_
  refine g_aload_n X 3 rfl dX7_sings_7 ?_
  refine g_getr X f_X7_65 dX7_sings_8 ?_
  refine g_iconst X 0 dX7_sings_11 (by decide) ?_
  refine g_iload_n X 4 rfl dX7_sings_12 ?_
  refine g_iast X la_65 (show (0 : Int32).toInt = 0 by decide) dX7_sings_13 (by omega) ?_
  have Iq1 : Iv TM (ui Mq 65 0 x1) := Iq0.otherA rfl
  have frq2 : Fr W_X7_sings_F Mq (ui Mq 65 0 x1) := frq0.ui rfl
  have cyq3 : 0 ≤ ((ui Mq 65 0 x1).2 47 34).toInt := numM_fr cy0 (Fr.ui (W := [(65, 99)]) Fr.rf rfl) rfl
  have cyq4 : WFM (ui Mq 65 0 x1) := WFM_fr cy1 (Fr.ui (W := [(65, 99)]) Fr.rf rfl) rfl
  refine g_aload_n X 3 rfl dX7_sings_14 ?_
  refine g_getr X f_X7_68 dX7_sings_15 ?_
  refine g_iconst X 0 dX7_sings_18 (by decide) ?_
  refine g_iconst X 0 dX7_sings_19 (by decide) ?_
  refine g_iast X la_66 (show (0 : Int32).toInt = 0 by decide) dX7_sings_20 (by omega) ?_
  have ltq5 : (0 : Int32).toInt = 0 := by decide
  have Iq6 : Iv TM (ui (ui Mq 65 0 x1) 66 0 0) := Iq1.otherA rfl
  have frq7 : Fr W_X7_sings_F Mq (ui (ui Mq 65 0 x1) 66 0 0) := frq2.ui rfl
  have cyq8 : 0 ≤ ((ui (ui Mq 65 0 x1) 66 0 0).2 47 34).toInt := numM_fr cyq3 (Fr.ui (W := [(66, 99)]) Fr.rf rfl) rfl
  have cyq9 : WFM (ui (ui Mq 65 0 x1) 66 0 0) := WFM_fr cyq4 (Fr.ui (W := [(66, 99)]) Fr.rf rfl) rfl
  refine g_aload_n X 3 rfl dX7_sings_21 ?_
  refine g_iconst X 0 dX7_sings_22 (by decide) ?_
  refine g_puti X p_X7_241 dX7_sings_23 ?_
  have ltq10 : (0 : Int32).toInt = 0 := by decide
  have Iq11 : Iv TM (ui (ui (ui Mq 65 0 x1) 66 0 0) 47 33 0) := Iq6.put 0 40 (show (0 : Int32).toInt = 0 by decide) (by omega) rfl
  have frq12 : Fr W_X7_sings_F Mq (ui (ui (ui Mq 65 0 x1) 66 0 0) 47 33 0) := frq7.ui rfl
  have cyq13 : 0 ≤ ((ui (ui (ui Mq 65 0 x1) 66 0 0) 47 33 0).2 47 34).toInt := numM_fr cyq8 (Fr.ui (W := [(47, 33)]) Fr.rf rfl) rfl
  have cyq14 : WFM (ui (ui (ui Mq 65 0 x1) 66 0 0) 47 33 0) := WFM_fr cyq9 (Fr.ui (W := [(47, 33)]) Fr.rf rfl) rfl
  have lp26 : ∀ n : Nat, ∀ (y4_26 : Int32) (b4_26 : Int), y4_26.toInt = b4_26 → ∀ (y3_26 : Int32) (b3_26 : Int), y3_26.toInt = b3_26 → ∀ (y2_26 : Int32) (b2_26 : Int), y2_26.toInt = b2_26 → ∀ (M_26 : Mem), (0 ≤ b3_26 ∧ b3_26 ≤ 2000) → (SIM M_26 b2_26 b4_26) → (SGM pp td ([(a1.toNat, 0, [])], (Mq.2 47 34).toInt, 0, []) M_26 b2_26 b3_26 b4_26) → (Iv TM M_26) → (Fr W_X7_sings_F Mq M_26) → (0 ≤ (M_26.2 47 34).toInt) → (WFM M_26) → mS M_26 b2_26 b3_26 b4_26 < n → G Γ M_26 26 [(4, .int y4_26), (3, .int y3_26), (2, .int y2_26), (0, .ref (ad 47)), (1, .int x1)] [] := by
    intro n
    induction n with
    | zero => intro y4_26 b4_26 e4_26 y3_26 b3_26 e3_26 y2_26 b2_26 e2_26 M_26 i1 i2 i3 I_26 fr_26 cy0_26 cy1_26 hm; exact absurd hm (Nat.not_lt_zero _)
    | succ n ih26 =>
      intro y4_26 b4_26 e4_26 y3_26 b3_26 e3_26 y2_26 b2_26 e2_26 M_26 i1 i2 i3 I_26 fr_26 cy0_26 cy1_26 hm26
      have trq15 : (M_26.1 47 12).toInt = (Mq.1 47 12).toInt := congrArg Int32.toInt (fr_26.at 47 12 rfl)
      have hl := (SIM_lim i2 I_26).1
      obtain ⟨jq, Fq, nq, oq, hN, hI, hR⟩ := i3
      have hPM : PM M_26 pp := PM_fr hP fr_26 (by decide)
      have r33 := hR.2.2.2.2.2.2.1
      have r34 := hR.2.2.2.2.2.1
      have hh : 0 ≤ pp.2.2.2.1 ∧ pp.2.2.2.1 ≤ 3 := by rw [← hPM.2.2.1]; exact ig_47_24 I_26
      refine g_iload_n X 2 rfl dX7_sings_26 ?_
      refine g_if_lt X e2_26 (tgt := 434) dX7_sings_27 (by decide) (fun cq16 => ?_) (fun cq16 => ?_)
      · refine g_iconst X 1 dX7_sings_434 (by decide) ?_
        exact g_zret X (b01 (show (1 : Int32).toInt = 1 by decide) (by omega)) dX7_sings_435 ⟨_, _, rfl, (show (1 : Int32).toInt = 1 by decide), (by omega), cy0_26, (SGY_done hN hR (by omega)), I_26, fr_26⟩
      · have h0 : 0 ≤ b2_26 := by omega
        obtain ⟨ha1, ha2, ha3, ha4, s0, hs0⟩ := SIM_at i2 h0
        obtain ⟨xq, kq, Lq, Rq, eF, q65, q66⟩ := RM_hd hR h0
        subst eF
        obtain ⟨fx, ft, fk, fF, fn, fg⟩ := SG_fr hI
        have eX : ((M_26.1 65 (b2_26).toNat).toInt).toNat = xq := by omega
        have eK : ((M_26.1 66 (b2_26).toNat).toInt).toNat = kq.toNat := by omega
        have hsz : (M_26.1 62 ((M_26.1 65 (b2_26).toNat).toInt).toNat).toInt = pp.2.1 xq := by rw [eX, hPM.2.1]; rfl
        refine g_aload_n X 3 rfl dX7_sings_30 ?_
        refine g_getr X f_X7_65 dX7_sings_31 ?_
        refine g_iload_n X 2 rfl dX7_sings_34 ?_
        refine g_iald X la_65 e2_26 dX7_sings_35 (by omega) (x := M_26.1 65 b2_26.toNat) rfl ?_
        refine g_istore X [(5, .int (M_26.1 65 b2_26.toNat)), (4, .int y4_26), (3, .int y3_26), (2, .int y2_26), (0, .ref (ad 47)), (1, .int x1)] dX7_sings_36 (by decide) rfl ?_
        refine g_aload_n X 4 rfl dX7_sings_38 ?_
        refine g_getr X f_X7_68 dX7_sings_39 ?_
        refine g_iload_n X 3 rfl dX7_sings_42 ?_
        refine g_iald X la_66 e2_26 dX7_sings_43 (by omega) (x := M_26.1 66 b2_26.toNat) rfl ?_
        refine g_istore X [(6, .int (M_26.1 66 b2_26.toNat)), (5, .int (M_26.1 65 b2_26.toNat)), (4, .int y4_26), (3, .int y3_26), (2, .int y2_26), (0, .ref (ad 47)), (1, .int x1)] dX7_sings_44 (by decide) rfl ?_
        refine g_iload X 0 rfl dX7_sings_46 ?_
        refine g_aload_n X 5 rfl dX7_sings_48 ?_
        refine g_getr X f_X7_52 dX7_sings_49 ?_
        refine g_iload X 1 rfl dX7_sings_52 ?_
        refine g_iald X la_62 rfl dX7_sings_54 (by omega) (x := M_26.1 62 (((M_26.1 65 b2_26.toNat).toInt).toNat)) rfl ?_
        have bq17 := ig_62 I_26 (((M_26.1 65 b2_26.toNat).toInt).toNat) (by omega)
        refine g_icmp_ne X rfl rfl (tgt := 64) dX7_sings_55 (by decide) (fun cq18 => ?_) (fun cq18 => ?_)
        · have htx := txt_at (M := M_26) (x := ((M_26.1 65 b2_26.toNat).toInt)) (k := ((M_26.1 66 b2_26.toNat).toInt)) (by omega) (by omega)
          have hwf := cy1_26
          have hch := SIM_ch hwf i2 h0 (by omega)
          rw [htx] at hch
          have h58 := ig_62 I_26 (((M_26.1 65 b2_26.toNat).toInt)).toNat (by omega)
          have hkne : kq ≠ pp.2.1 xq := by omega
          have hbq : pp.1 xq kq.toNat = (M_26.1 61 (60 * ((M_26.1 65 b2_26.toNat).toInt) + ((M_26.1 66 b2_26.toNat).toInt)).toNat).toInt := by rw [← htx, hPM.1, ← eX, ← eK]
          have hVq := (hTT xq fx ft).2.1
          have hkn : kq.toNat < (pp.2.1 xq).toNat := by omega
          have hVt : gsN (txt M_26 (((M_26.1 65 b2_26.toNat).toInt)).toNat) ((M_26.1 62 (((M_26.1 65 b2_26.toNat).toInt)).toNat).toInt).toNat = some ([], true) := by have z := hVq.1; rw [hPM.1, hPM.2.1, ← eX] at z; exact z
          refine g_aload_n X 5 rfl dX7_sings_64 ?_
          refine g_getr X f_X7_49 dX7_sings_65 ?_
          refine g_bipush X 60 dX7_sings_68 (by decide) ?_
          refine g_iload X 1 rfl dX7_sings_70 ?_
          refine g_imul X dX7_sings_72 (fun zq19 eq20 => ?_)
          have tq21 : zq19.toInt = 60 * ((M_26.1 65 b2_26.toNat).toInt) := mul_nw eq20 (show (60 : Int32).toInt = 60 by decide) rfl (by omega)
          refine g_iload X 0 rfl dX7_sings_73 ?_
          refine g_iadd X dX7_sings_75 (fun zq22 eq23 => ?_)
          have tq24 : zq22.toInt = (60 * ((M_26.1 65 b2_26.toNat).toInt)) + ((M_26.1 66 b2_26.toNat).toInt) := add_nw eq23 tq21 rfl (by omega)
          refine g_iald X la_61 tq24 dX7_sings_76 (by omega) (x := M_26.1 61 (((60 * ((M_26.1 65 b2_26.toNat).toInt)) + ((M_26.1 66 b2_26.toNat).toInt)).toNat)) rfl ?_
          refine g_istore X [(7, .int (M_26.1 61 (((60 * ((M_26.1 65 b2_26.toNat).toInt)) + ((M_26.1 66 b2_26.toNat).toInt)).toNat))), (6, .int (M_26.1 66 b2_26.toNat)), (5, .int (M_26.1 65 b2_26.toNat)), (4, .int y4_26), (3, .int y3_26), (2, .int y2_26), (0, .ref (ad 47)), (1, .int x1)] dX7_sings_77 (by decide) rfl ?_
          refine g_aload_n X 6 rfl dX7_sings_79 ?_
          refine g_getr X f_X7_68 dX7_sings_80 ?_
          refine g_iload_n X 5 rfl dX7_sings_83 ?_
          refine g_dup2 X dX7_sings_84 rfl rfl ?_
          refine g_iald X la_66 e2_26 dX7_sings_85 (by omega) (x := M_26.1 66 b2_26.toNat) rfl ?_
          refine g_iconst X 1 dX7_sings_86 (by decide) ?_
          refine g_iadd X dX7_sings_87 (fun zq25 eq26 => ?_)
          have tq27 : zq25.toInt = ((M_26.1 66 b2_26.toNat).toInt) + 1 := add_nw eq26 rfl (show (1 : Int32).toInt = 1 by decide) (by omega)
          refine g_iast X la_66 e2_26 dX7_sings_88 (by omega) ?_
          have Iq28 : Iv TM (ui M_26 66 b2_26.toNat zq25) := I_26.otherA rfl
          have frq29 : Fr W_X7_sings_F Mq (ui M_26 66 b2_26.toNat zq25) := fr_26.ui rfl
          have cyq30 : 0 ≤ ((ui M_26 66 b2_26.toNat zq25).2 47 34).toInt := numM_fr cy0_26 (Fr.ui (W := [(66, 99)]) Fr.rf rfl) rfl
          have cyq31 : WFM (ui M_26 66 b2_26.toNat zq25) := WFM_fr cy1_26 (Fr.ui (W := [(66, 99)]) Fr.rf rfl) rfl
          have r0 : R6 M_26 (ui M_26 66 b2_26.toNat zq25) (b2_26).toNat _ := R6_0
          have hR1 : RM (ui M_26 66 b2_26.toNat zq25) b2_26 b4_26 ((xq, kq + 1, Lq) :: Rq) nq oq := RM_66 hR (by omega)
          have hPM1 : PM (ui M_26 66 b2_26.toNat zq25) pp := PM_fr hP frq29 (by decide)
          refine g_iload X 0 rfl dX7_sings_89 ?_
          refine g_bipush X 93 dX7_sings_91 (by decide) ?_
          refine g_icmp_eq X rfl (show (93 : Int32).toInt = 93 by decide) (tgt := 26) dX7_sings_93 (by decide) (fun cq32 => ?_) (fun cq32 => ?_)
          · refine g_sub [3, 4, 5, 6, 7] rfl ?_
            have hF : SIM (ui M_26 66 b2_26.toNat zq25) b2_26 b4_26 ∧ mS (ui M_26 66 b2_26.toNat zq25) b2_26 b3_26 b4_26 < mS M_26 b2_26 b3_26 b4_26 := by first | exact hT | (have r9 : R6 M_26 (ui M_26 66 b2_26.toNat zq25) (b2_26).toNat _ := (by first | exact r0 | exact R6_ui (R6_ui r0 rfl) rfl); have hS9 : SIM (ui M_26 66 b2_26.toNat zq25) b2_26 b4_26 := T_adv hwf i2 h0 r9 (by assumption) (by omega) ⟨by rw [htx]; omega, by rw [htx]; omega⟩; first | exact ⟨hS9, mS_mv i2 I_26 h0 (by omega) r9 (by assumption) (by omega) (by omega)⟩ | exact ⟨hS9, mS_item i2 I_26 hS9 Iq28 (by omega)⟩) | exact T_pop cyq31 I_26 i2 h0 (by omega) (by omega)
            have hG : SGM pp td ([(a1.toNat, 0, [])], (Mq.2 47 34).toInt, 0, []) (ui M_26 66 b2_26.toNat zq25) b2_26 b3_26 b4_26 := by first | exact hGa | (have hq9 : ((M_26.1 61 (((60 * ((M_26.1 65 b2_26.toNat).toInt)) + ((M_26.1 66 b2_26.toNat).toInt)).toNat)).toInt) = 93 := (by assumption); exact SGM_step hTT hh hcc0 hN hI (sgS_cl hkne hbq (by omega)) (hR1) (by omega)) | (have hq9 : ((M_26.1 61 (((60 * ((M_26.1 65 b2_26.toNat).toInt)) + ((M_26.1 66 b2_26.toNat).toInt)).toNat)).toInt) = 41 := (by assumption); exact SGM_step hTT hh hcc0 hN hI (sgS_cl hkne hbq (by omega)) (hR1) (by omega)) | (have hq9 : ((M_26.1 61 (((60 * ((M_26.1 65 b2_26.toNat).toInt)) + ((M_26.1 66 b2_26.toNat).toInt)).toNat)).toInt) = 91 := (by assumption); first | exact SGM_step hTT hh hcc0 hN hI ((sgS_it hkne hbq (by omega) (by omega)).trans (sgI_91n (by omega) (by omega))) (hR2) (by omega) | exact SGM_step hTT hh hcc0 hN hI ((sgS_it hkne hbq (by omega) (by omega)).trans (sgI_91y (by omega) (by omega))) (RM_66 hR2 (by omega)) (by omega)) | (have hq9 : ((M_26.1 61 (((60 * ((M_26.1 65 b2_26.toNat).toInt)) + ((M_26.1 66 b2_26.toNat).toInt)).toNat)).toInt) = 40 := (by assumption); first | exact SGM_step hTT hh hcc0 hN hI ((sgS_it hkne hbq (by omega) (by omega)).trans (sgI_40n (by omega) (by omega))) (hR2) (by omega) | exact SGM_step hTT hh hcc0 hN hI ((sgS_it hkne hbq (by omega) (by omega)).trans (sgI_40y (by omega) (by omega))) (RM_66 hR2 (by omega)) (by omega)) | (have hq9 : ((M_26.1 61 (((60 * ((M_26.1 65 b2_26.toNat).toInt)) + ((M_26.1 66 b2_26.toNat).toInt)).toNat)).toInt) = 123 := (by assumption); first | exact SGM_step hTT hh hcc0 hN hI ((sgS_it hkne hbq (by omega) (by omega)).trans (sgI_0 (by omega) (by omega))) (RM_66 hR2 (by omega)) (by omega) | exact SGM_step hTT hh hcc0 hN hI ((sgS_it hkne hbq (by omega) (by omega)).trans (sgI_1 (by omega) (by omega))) (RM_open hR2 (by omega) (by omega)) (by omega)) | (have hq9 : 65 ≤ ((M_26.1 61 (((60 * ((M_26.1 65 b2_26.toNat).toInt)) + ((M_26.1 66 b2_26.toNat).toInt)).toNat)).toInt) ∧ ((M_26.1 61 (((60 * ((M_26.1 65 b2_26.toNat).toInt)) + ((M_26.1 66 b2_26.toNat).toInt)).toNat)).toInt) ≤ 72 := (by assumption); exact SGM_step hTT hh hcc0 hN hI ((sgS_it hkne hbq (by omega) (by omega)).trans (sgI_scene (by omega))) (RM_call hR1 (by omega) (by decide)) (by omega)) | exact SGM_step hTT hh hcc0 hN hI ((sgS_it hkne hbq (by omega) (by omega)).trans (sgI_sl (by omega) hwy (by omega) (by omega) hln)) (RM_line hR2 hlt0 (by omega) (by omega)) (by omega)
            exact ih26 y4_26 _ e4_26 y3_26 _ e3_26 y2_26 _ e2_26 (ui M_26 66 b2_26.toNat zq25) (by omega) hF.1 hG Iq28 frq29 cyq30 cyq31 (by omega)
          · refine g_iload X 0 rfl dX7_sings_96 ?_
            refine g_bipush X 41 dX7_sings_98 (by decide) ?_
            refine g_icmp_ne X rfl (show (41 : Int32).toInt = 41 by decide) (tgt := 106) dX7_sings_100 (by decide) (fun cq33 => ?_) (fun cq33 => ?_)
            · refine g_iload X 0 rfl dX7_sings_106 ?_
              refine g_bipush X 124 dX7_sings_108 (by decide) ?_
              refine g_icmp_ne X rfl (show (124 : Int32).toInt = 124 by decide) (tgt := 132) dX7_sings_110 (by decide) (fun cq34 => ?_) (fun cq34 => ?_)
              · refine g_iload X 0 rfl dX7_sings_132 ?_
                refine g_bipush X 125 dX7_sings_134 (by decide) ?_
                refine g_icmp_ne X rfl (show (125 : Int32).toInt = 125 by decide) (tgt := 188) dX7_sings_136 (by decide) (fun cq35 => ?_) (fun cq35 => ?_)
                · refine g_iinc X 4 (fun v => [(3, .int v), (7, .int (M_26.1 61 (((60 * ((M_26.1 65 b2_26.toNat).toInt)) + ((M_26.1 66 b2_26.toNat).toInt)).toNat))), (6, .int (M_26.1 66 b2_26.toNat)), (5, .int (M_26.1 65 b2_26.toNat)), (4, .int y4_26), (2, .int y2_26), (0, .ref (ad 47)), (1, .int x1)]) dX7_sings_188 rfl (by decide) (fun _ => rfl) (fun zq36 eq37 => ?_)
                  have tq38 : zq36.toInt = b3_26 + 1 := add_nw eq37 e3_26 (show (Int32.ofInt 1).toInt = 1 by decide) (by omega)
                  refine g_iload_n X 0 rfl dX7_sings_191 ?_
                  refine g_sipush X 2000 dX7_sings_192 (by decide) ?_
                  refine g_icmp_le X tq38 (show (2000 : Int32).toInt = 2000 by decide) (tgt := 200) dX7_sings_195 (by decide) (fun cq39 => ?_) (fun cq39 => ?_)
                  · refine g_iload X 1 rfl dX7_sings_200 ?_
                    refine g_bipush X 91 dX7_sings_202 (by decide) ?_
                    refine g_icmp_ne X rfl (show (91 : Int32).toInt = 91 by decide) (tgt := 234) dX7_sings_204 (by decide) (fun cq40 => ?_) (fun cq40 => ?_)
                    · refine g_iload X 1 rfl dX7_sings_234 ?_
                      refine g_bipush X 40 dX7_sings_236 (by decide) ?_
                      refine g_icmp_ne X rfl (show (40 : Int32).toInt = 40 by decide) (tgt := 269) dX7_sings_238 (by decide) (fun cq41 => ?_) (fun cq41 => ?_)
                      · refine g_iload X 1 rfl dX7_sings_269 ?_
                        refine g_bipush X 123 dX7_sings_271 (by decide) ?_
                        refine g_icmp_ne X rfl (show (123 : Int32).toInt = 123 by decide) (tgt := 338) dX7_sings_273 (by decide) (fun cq42 => ?_) (fun cq42 => ?_)
                        · refine g_iload X 1 rfl dX7_sings_338 ?_
                          refine g_callS X m_X7_217 (c_X7_isScene ad (ui M_26 66 b2_26.toNat zq25) (M_26.1 61 (((60 * ((M_26.1 65 b2_26.toNat).toInt)) + ((M_26.1 66 b2_26.toNat).toInt)).toNat)) rfl) rfl (by decide) (Nat.le_of_ble_eq_true rfl) rfl dX7_sings_340 ?_
                          rintro _ _ ⟨rq43, aq44, rfl, tq45, hq46, rfl⟩
                          show G Γ (ui M_26 66 b2_26.toNat zq25) 343 [(3, .int zq36), (7, .int (M_26.1 61 (((60 * ((M_26.1 65 b2_26.toNat).toInt)) + ((M_26.1 66 b2_26.toNat).toInt)).toNat))), (6, .int (M_26.1 66 b2_26.toNat)), (5, .int (M_26.1 65 b2_26.toNat)), (4, .int y4_26), (2, .int y2_26), (0, .ref (ad 47)), (1, .int x1)] [.int rq43]
                          refine g_if_eq X tq45 (tgt := 370) dX7_sings_343 (by decide) (fun cq47 => ?_) (fun cq47 => ?_)
                          · have pq48 : ¬ (65 ≤ ((M_26.1 61 (((60 * ((M_26.1 65 b2_26.toNat).toInt)) + ((M_26.1 66 b2_26.toNat).toInt)).toNat)).toInt) ∧ ((M_26.1 61 (((60 * ((M_26.1 65 b2_26.toNat).toInt)) + ((M_26.1 66 b2_26.toNat).toInt)).toNat)).toInt) ≤ 72) := by first | omega | (rcases hq46 with ⟨z1, z2⟩ | ⟨z1, z2⟩ <;> first | exact z2 | (exfalso; omega))
                            refine g_aload_n X 6 rfl dX7_sings_370 ?_
                            refine g_iload X 1 rfl dX7_sings_371 ?_
                            refine g_bipush X 97 dX7_sings_373 (by decide) ?_
                            refine g_isub X dX7_sings_375 (fun zq49 eq50 => ?_)
                            have tq51 : zq49.toInt = ((M_26.1 61 (((60 * ((M_26.1 65 b2_26.toNat).toInt)) + ((M_26.1 66 b2_26.toNat).toInt)).toNat)).toInt) - 97 := sub_nw eq50 rfl (show (97 : Int32).toInt = 97 by decide) (by omega)
                            refine g_callV X m_X7_254 (c_X7_linesOf ad (ui M_26 66 b2_26.toNat zq25) zq49 tq51 Iq28) rfl (by decide) (Nat.le_of_ble_eq_true rfl) rfl dX7_sings_376 ?_
                            rintro _ _ ⟨rq52, aq53, rfl, tq54, hq55, rfl⟩
                            have hq56 : aq53 = cntL (ui M_26 66 b2_26.toNat zq25) (((M_26.1 61 (((60 * ((M_26.1 65 b2_26.toNat).toInt)) + ((M_26.1 66 b2_26.toNat).toInt)).toNat)).toInt) - 97) (((M_26.1 47 12)).toInt).toNat ∧ 0 ≤ aq53 ∧ aq53 ≤ 40 := hq55
                            clear hq55
                            have hwy : aq53 = pp.2.2.2.2.1 (((M_26.1 61 (((60 * ((M_26.1 65 b2_26.toNat).toInt)) + ((M_26.1 66 b2_26.toNat).toInt)).toNat)).toInt) - 97) := by rw [(hPM1.2.2.2 (((M_26.1 61 (((60 * ((M_26.1 65 b2_26.toNat).toInt)) + ((M_26.1 66 b2_26.toNat).toInt)).toNat)).toInt) - 97) (by omega) (by omega)).1]; exact (hq56).1
                            show G Γ (ui M_26 66 b2_26.toNat zq25) 379 [(3, .int zq36), (7, .int (M_26.1 61 (((60 * ((M_26.1 65 b2_26.toNat).toInt)) + ((M_26.1 66 b2_26.toNat).toInt)).toNat))), (6, .int (M_26.1 66 b2_26.toNat)), (5, .int (M_26.1 65 b2_26.toNat)), (4, .int y4_26), (2, .int y2_26), (0, .ref (ad 47)), (1, .int x1)] [.int rq52]
                            refine g_istore X [(8, .int rq52), (3, .int zq36), (7, .int (M_26.1 61 (((60 * ((M_26.1 65 b2_26.toNat).toInt)) + ((M_26.1 66 b2_26.toNat).toInt)).toNat))), (6, .int (M_26.1 66 b2_26.toNat)), (5, .int (M_26.1 65 b2_26.toNat)), (4, .int y4_26), (2, .int y2_26), (0, .ref (ad 47)), (1, .int x1)] dX7_sings_379 (by decide) rfl ?_
                            refine g_iload X 0 rfl dX7_sings_381 ?_
                            refine g_if_eq X tq54 (tgt := 395) dX7_sings_383 (by decide) (fun cq57 => ?_) (fun cq57 => ?_)
                            · refine g_iconst X 0 dX7_sings_395 (by decide) ?_
                              exact g_zret X (b01 (show (0 : Int32).toInt = 0 by decide) (by omega)) dX7_sings_396 ⟨_, _, rfl, (show (0 : Int32).toInt = 0 by decide), (by omega), cyq30, (Or.inr ⟨rfl, SGM_fail hN ((sgS_it hkne hbq (by omega) (by omega)).trans (sgI_no (by omega) hwy (by omega)))⟩), Iq28, frq29⟩
                            · refine g_aload_n X 7 rfl dX7_sings_386 ?_
                              refine g_geti X f_X7_241 dX7_sings_387 (x := M_26.1 47 33) rfl ?_
                              have bq58 := ig_47_33 I_26
                              refine g_bipush X 40 dX7_sings_390 (by decide) ?_
                              refine g_icmp_ne X rfl (show (40 : Int32).toInt = 40 by decide) (tgt := 397) dX7_sings_392 (by decide) (fun cq59 => ?_) (fun cq59 => ?_)
                              · refine g_aload_n X 7 rfl dX7_sings_397 ?_
                                refine g_getr X f_X7_80 dX7_sings_398 ?_
                                refine g_aload_n X 7 rfl dX7_sings_401 ?_
                                refine g_geti X f_X7_241 dX7_sings_402 (x := M_26.1 47 33) rfl ?_
                                have bq60 := ig_47_33 I_26
                                refine g_aload_n X 7 rfl dX7_sings_405 ?_
                                refine g_iload X 2 rfl dX7_sings_406 ?_
                                refine g_bipush X 97 dX7_sings_408 (by decide) ?_
                                refine g_isub X dX7_sings_410 (fun zq61 eq62 => ?_)
                                have tq63 : zq61.toInt = ((M_26.1 61 (((60 * ((M_26.1 65 b2_26.toNat).toInt)) + ((M_26.1 66 b2_26.toNat).toInt)).toNat)).toInt) - 97 := sub_nw eq62 rfl (show (97 : Int32).toInt = 97 by decide) (by omega)
                                refine g_aload_n X 7 rfl dX7_sings_411 ?_
                                refine g_iload X 0 rfl dX7_sings_412 ?_
                                refine g_callV X m_X7_247 (c_X7_chooses_F ad (ui M_26 66 b2_26.toNat zq25) rq52 tq54 Iq28 (by omega) (show 0 ≤ (M_26.2 47 34).toInt by omega) cyq30) rfl (by decide) (Nat.le_of_ble_eq_true rfl) rfl dX7_sings_414 ?_
                                rintro _ Mq70 ⟨rq64, aq65, rfl, tq66, hq67, cyq68, hq69, Iq71, frq72⟩
                                have frq73 : Fr W_X7_sings_F Mq Mq70 := frq29.trans frq72 rfl
                                have cyq74 : WFM Mq70 := WFM_fr cyq31 frq72 rfl
                                have trq75 : (Mq70.1 47 12).toInt = (M_26.1 47 12).toInt := congrArg Int32.toInt (frq72.at 47 12 rfl)
                                have trq76 : (Mq70.1 47 33).toInt = (M_26.1 47 33).toInt := congrArg Int32.toInt (frq72.at 47 33 rfl)
                                have hq77 : aq65 = ((ui M_26 66 b2_26.toNat zq25).2 47 34).toInt % aq53 ∧ 0 ≤ aq65 ∧ aq65 < aq53 := hq67
                                clear hq67
                                have r0 : R6 M_26 Mq70 (b2_26).toNat _ := R6_fr r0 frq72 rfl
                                have hcn := cntL_fr frq72 rfl
                                have h4712 : Mq70.1 47 12 = M_26.1 47 12 := frq72.at 47 12 rfl
                                have hc1 := hq77
                                have z34 : (Mq70.2 47 34).toInt = (M_26.2 47 34).toInt / (aq53) := hq69
                                rw [r34] at z34
                                have hc3 : aq65 = (M_26.2 47 34).toInt % (aq53) := hc1.1
                                rw [r34] at hc3
                                have hR2 := RM_ch hR1 frq72 z34
                                have hPM2 : PM Mq70 pp := PM_fr hP frq73 (by decide)
                                show G Γ Mq70 417 [(8, .int rq52), (3, .int zq36), (7, .int (M_26.1 61 (((60 * ((M_26.1 65 b2_26.toNat).toInt)) + ((M_26.1 66 b2_26.toNat).toInt)).toNat))), (6, .int (M_26.1 66 b2_26.toNat)), (5, .int (M_26.1 65 b2_26.toNat)), (4, .int y4_26), (2, .int y2_26), (0, .ref (ad 47)), (1, .int x1)] [.int rq64, .int zq61, .ref (ad 47), .int (M_26.1 47 33), .ref (ad 70)]
                                refine g_callV X m_X7_257 (c_X7_lineOf_F ad Mq70 zq61 tq63 rq64 tq66 Iq71 (by rw [hcn, h4712]; omega)) rfl (by decide) (Nat.le_of_ble_eq_true rfl) rfl dX7_sings_417 ?_
                                rintro _ _ ⟨rq78, aq79, rfl, tq80, hq81, rfl⟩
                                have hln : aq79 = pp.2.2.2.2.2 (((M_26.1 61 (((60 * ((M_26.1 65 b2_26.toNat).toInt)) + ((M_26.1 66 b2_26.toNat).toInt)).toNat)).toInt) - 97) (nq % aq53) := by rw [(hPM2.2.2.2 (((M_26.1 61 (((60 * ((M_26.1 65 b2_26.toNat).toInt)) + ((M_26.1 66 b2_26.toNat).toInt)).toNat)).toInt) - 97) (by omega) (by omega)).2, ← hc3]; exact (hq81).2
                                have hlt0 := tq80
                                show G Γ Mq70 420 [(8, .int rq52), (3, .int zq36), (7, .int (M_26.1 61 (((60 * ((M_26.1 65 b2_26.toNat).toInt)) + ((M_26.1 66 b2_26.toNat).toInt)).toNat))), (6, .int (M_26.1 66 b2_26.toNat)), (5, .int (M_26.1 65 b2_26.toNat)), (4, .int y4_26), (2, .int y2_26), (0, .ref (ad 47)), (1, .int x1)] [.int rq78, .int (M_26.1 47 33), .ref (ad 70)]
                                refine g_iast X la_70 rfl dX7_sings_420 (by omega) ?_
                                have Iq82 : Iv TM (ui Mq70 70 (((M_26.1 47 33).toInt).toNat) rq78) := Iq71.otherA rfl
                                have frq83 : Fr W_X7_sings_F Mq (ui Mq70 70 (((M_26.1 47 33).toInt).toNat) rq78) := frq73.ui rfl
                                have cyq84 : 0 ≤ ((ui Mq70 70 (((M_26.1 47 33).toInt).toNat) rq78).2 47 34).toInt := numM_fr cyq68 (Fr.ui (W := [(70, 99)]) Fr.rf rfl) rfl
                                have cyq85 : WFM (ui Mq70 70 (((M_26.1 47 33).toInt).toNat) rq78) := WFM_fr cyq74 (Fr.ui (W := [(70, 99)]) Fr.rf rfl) rfl
                                refine g_aload_n X 7 rfl dX7_sings_421 ?_
                                refine g_dup X dX7_sings_422 rfl ?_
                                refine g_geti X f_X7_241 dX7_sings_423 (x := Mq70.1 47 33) rfl ?_
                                have bq86 := ig_47_33 Iq71
                                refine g_iconst X 1 dX7_sings_426 (by decide) ?_
                                refine g_iadd X dX7_sings_427 (fun zq87 eq88 => ?_)
                                have tq89 : zq87.toInt = ((Mq70.1 47 33).toInt) + 1 := add_nw eq88 rfl (show (1 : Int32).toInt = 1 by decide) (by omega)
                                refine g_puti X p_X7_241 dX7_sings_428 ?_
                                have Iq90 : Iv TM (ui (ui Mq70 70 (((M_26.1 47 33).toInt).toNat) rq78) 47 33 zq87) := Iq82.put 0 40 tq89 (by omega) rfl
                                have frq91 : Fr W_X7_sings_F Mq (ui (ui Mq70 70 (((M_26.1 47 33).toInt).toNat) rq78) 47 33 zq87) := frq83.ui rfl
                                have cyq92 : 0 ≤ ((ui (ui Mq70 70 (((M_26.1 47 33).toInt).toNat) rq78) 47 33 zq87).2 47 34).toInt := numM_fr cyq84 (Fr.ui (W := [(47, 33)]) Fr.rf rfl) rfl
                                have cyq93 : WFM (ui (ui Mq70 70 (((M_26.1 47 33).toInt).toNat) rq78) 47 33 zq87) := WFM_fr cyq85 (Fr.ui (W := [(47, 33)]) Fr.rf rfl) rfl
                                refine g_goto X (tgt := 26) dX7_sings_431 (by decide) ?_
                                refine g_sub [5, 1, 6, 7, 8] rfl ?_
                                have hF : SIM (ui (ui Mq70 70 (((M_26.1 47 33).toInt).toNat) rq78) 47 33 zq87) b2_26 b4_26 ∧ mS (ui (ui Mq70 70 (((M_26.1 47 33).toInt).toNat) rq78) 47 33 zq87) b2_26 (b3_26 + 1) b4_26 < mS M_26 b2_26 b3_26 b4_26 := by first | exact hT | (have r9 : R6 M_26 (ui (ui Mq70 70 (((M_26.1 47 33).toInt).toNat) rq78) 47 33 zq87) (b2_26).toNat _ := (by first | exact r0 | exact R6_ui (R6_ui r0 rfl) rfl); have hS9 : SIM (ui (ui Mq70 70 (((M_26.1 47 33).toInt).toNat) rq78) 47 33 zq87) b2_26 b4_26 := T_adv hwf i2 h0 r9 (by assumption) (by omega) ⟨by rw [htx]; omega, by rw [htx]; omega⟩; first | exact ⟨hS9, mS_mv i2 I_26 h0 (by omega) r9 (by assumption) (by omega) (by omega)⟩ | exact ⟨hS9, mS_item i2 I_26 hS9 Iq90 (by omega)⟩) | exact T_pop cyq93 I_26 i2 h0 (by omega) (by omega)
                                have hG : SGM pp td ([(a1.toNat, 0, [])], (Mq.2 47 34).toInt, 0, []) (ui (ui Mq70 70 (((M_26.1 47 33).toInt).toNat) rq78) 47 33 zq87) b2_26 (b3_26 + 1) b4_26 := by first | exact hGa | (have hq9 : ((M_26.1 61 (((60 * ((M_26.1 65 b2_26.toNat).toInt)) + ((M_26.1 66 b2_26.toNat).toInt)).toNat)).toInt) = 93 := (by assumption); exact SGM_step hTT hh hcc0 hN hI (sgS_cl hkne hbq (by omega)) (hR1) (by omega)) | (have hq9 : ((M_26.1 61 (((60 * ((M_26.1 65 b2_26.toNat).toInt)) + ((M_26.1 66 b2_26.toNat).toInt)).toNat)).toInt) = 41 := (by assumption); exact SGM_step hTT hh hcc0 hN hI (sgS_cl hkne hbq (by omega)) (hR1) (by omega)) | (have hq9 : ((M_26.1 61 (((60 * ((M_26.1 65 b2_26.toNat).toInt)) + ((M_26.1 66 b2_26.toNat).toInt)).toNat)).toInt) = 91 := (by assumption); first | exact SGM_step hTT hh hcc0 hN hI ((sgS_it hkne hbq (by omega) (by omega)).trans (sgI_91n (by omega) (by omega))) (hR2) (by omega) | exact SGM_step hTT hh hcc0 hN hI ((sgS_it hkne hbq (by omega) (by omega)).trans (sgI_91y (by omega) (by omega))) (RM_66 hR2 (by omega)) (by omega)) | (have hq9 : ((M_26.1 61 (((60 * ((M_26.1 65 b2_26.toNat).toInt)) + ((M_26.1 66 b2_26.toNat).toInt)).toNat)).toInt) = 40 := (by assumption); first | exact SGM_step hTT hh hcc0 hN hI ((sgS_it hkne hbq (by omega) (by omega)).trans (sgI_40n (by omega) (by omega))) (hR2) (by omega) | exact SGM_step hTT hh hcc0 hN hI ((sgS_it hkne hbq (by omega) (by omega)).trans (sgI_40y (by omega) (by omega))) (RM_66 hR2 (by omega)) (by omega)) | (have hq9 : ((M_26.1 61 (((60 * ((M_26.1 65 b2_26.toNat).toInt)) + ((M_26.1 66 b2_26.toNat).toInt)).toNat)).toInt) = 123 := (by assumption); first | exact SGM_step hTT hh hcc0 hN hI ((sgS_it hkne hbq (by omega) (by omega)).trans (sgI_0 (by omega) (by omega))) (RM_66 hR2 (by omega)) (by omega) | exact SGM_step hTT hh hcc0 hN hI ((sgS_it hkne hbq (by omega) (by omega)).trans (sgI_1 (by omega) (by omega))) (RM_open hR2 (by omega) (by omega)) (by omega)) | (have hq9 : 65 ≤ ((M_26.1 61 (((60 * ((M_26.1 65 b2_26.toNat).toInt)) + ((M_26.1 66 b2_26.toNat).toInt)).toNat)).toInt) ∧ ((M_26.1 61 (((60 * ((M_26.1 65 b2_26.toNat).toInt)) + ((M_26.1 66 b2_26.toNat).toInt)).toNat)).toInt) ≤ 72 := (by assumption); exact SGM_step hTT hh hcc0 hN hI ((sgS_it hkne hbq (by omega) (by omega)).trans (sgI_scene (by omega))) (RM_call hR1 (by omega) (by decide)) (by omega)) | exact SGM_step hTT hh hcc0 hN hI ((sgS_it hkne hbq (by omega) (by omega)).trans (sgI_sl (by omega) hwy (by omega) (by omega) hln)) (RM_line hR2 hlt0 (by omega) (by omega)) (by omega)
                                exact ih26 y4_26 _ e4_26 zq36 _ tq38 y2_26 _ e2_26 (ui (ui Mq70 70 (((M_26.1 47 33).toInt).toNat) rq78) 47 33 zq87) (by omega) hF.1 hG Iq90 frq91 cyq92 cyq93 (by omega)
                              · refine g_iconst X 0 dX7_sings_395 (by decide) ?_
                                exact g_zret X (b01 (show (0 : Int32).toInt = 0 by decide) (by omega)) dX7_sings_396 ⟨_, _, rfl, (show (0 : Int32).toInt = 0 by decide), (by omega), cyq30, (Or.inr ⟨rfl, SGM_fail hN ((sgS_it hkne hbq (by omega) (by omega)).trans (sgI_no (by omega) hwy (by omega)))⟩), Iq28, frq29⟩
                          · have pq94 : (65 ≤ ((M_26.1 61 (((60 * ((M_26.1 65 b2_26.toNat).toInt)) + ((M_26.1 66 b2_26.toNat).toInt)).toNat)).toInt) ∧ ((M_26.1 61 (((60 * ((M_26.1 65 b2_26.toNat).toInt)) + ((M_26.1 66 b2_26.toNat).toInt)).toNat)).toInt) ≤ 72) := by first | omega | (rcases hq46 with ⟨z1, z2⟩ | ⟨z1, z2⟩ <;> first | exact z2 | (exfalso; omega))
                            refine g_iinc X 5 (fun v => [(2, .int v), (3, .int zq36), (7, .int (M_26.1 61 (((60 * ((M_26.1 65 b2_26.toNat).toInt)) + ((M_26.1 66 b2_26.toNat).toInt)).toNat))), (6, .int (M_26.1 66 b2_26.toNat)), (5, .int (M_26.1 65 b2_26.toNat)), (4, .int y4_26), (0, .ref (ad 47)), (1, .int x1)]) dX7_sings_346 rfl (by decide) (fun _ => rfl) (fun zq95 eq96 => ?_)
                            have tq97 : zq95.toInt = b2_26 + 1 := add_nw eq96 e2_26 (show (Int32.ofInt 1).toInt = 1 by decide) (by omega)
                            refine g_aload_n X 6 rfl dX7_sings_349 ?_
                            refine g_getr X f_X7_65 dX7_sings_350 ?_
                            refine g_iload_n X 0 rfl dX7_sings_353 ?_
                            refine g_iload X 2 rfl dX7_sings_354 ?_
                            refine g_bipush X 65 dX7_sings_356 (by decide) ?_
                            refine g_isub X dX7_sings_358 (fun zq98 eq99 => ?_)
                            have tq100 : zq98.toInt = ((M_26.1 61 (((60 * ((M_26.1 65 b2_26.toNat).toInt)) + ((M_26.1 66 b2_26.toNat).toInt)).toNat)).toInt) - 65 := sub_nw eq99 rfl (show (65 : Int32).toInt = 65 by decide) (by omega)
                            refine g_iast X la_65 tq97 dX7_sings_359 (by omega) ?_
                            have Iq101 : Iv TM (ui (ui M_26 66 b2_26.toNat zq25) 65 ((b2_26 + 1).toNat) zq98) := Iq28.otherA rfl
                            have frq102 : Fr W_X7_sings_F Mq (ui (ui M_26 66 b2_26.toNat zq25) 65 ((b2_26 + 1).toNat) zq98) := frq29.ui rfl
                            have cyq103 : 0 ≤ ((ui (ui M_26 66 b2_26.toNat zq25) 65 ((b2_26 + 1).toNat) zq98).2 47 34).toInt := numM_fr cyq30 (Fr.ui (W := [(65, 99)]) Fr.rf rfl) rfl
                            have cyq104 : WFM (ui (ui M_26 66 b2_26.toNat zq25) 65 ((b2_26 + 1).toNat) zq98) := WFM_fr cyq31 (Fr.ui (W := [(65, 99)]) Fr.rf rfl) rfl
                            refine g_aload_n X 6 rfl dX7_sings_360 ?_
                            refine g_getr X f_X7_68 dX7_sings_361 ?_
                            refine g_iload_n X 0 rfl dX7_sings_364 ?_
                            refine g_iconst X 0 dX7_sings_365 (by decide) ?_
                            refine g_iast X la_66 tq97 dX7_sings_366 (by omega) ?_
                            have ltq105 : (0 : Int32).toInt = 0 := by decide
                            have Iq106 : Iv TM (ui (ui (ui M_26 66 b2_26.toNat zq25) 65 ((b2_26 + 1).toNat) zq98) 66 ((b2_26 + 1).toNat) 0) := Iq101.otherA rfl
                            have frq107 : Fr W_X7_sings_F Mq (ui (ui (ui M_26 66 b2_26.toNat zq25) 65 ((b2_26 + 1).toNat) zq98) 66 ((b2_26 + 1).toNat) 0) := frq102.ui rfl
                            have cyq108 : 0 ≤ ((ui (ui (ui M_26 66 b2_26.toNat zq25) 65 ((b2_26 + 1).toNat) zq98) 66 ((b2_26 + 1).toNat) 0).2 47 34).toInt := numM_fr cyq103 (Fr.ui (W := [(66, 99)]) Fr.rf rfl) rfl
                            have cyq109 : WFM (ui (ui (ui M_26 66 b2_26.toNat zq25) 65 ((b2_26 + 1).toNat) zq98) 66 ((b2_26 + 1).toNat) 0) := WFM_fr cyq104 (Fr.ui (W := [(66, 99)]) Fr.rf rfl) rfl
                            have hS9 : SIM (ui (ui (ui M_26 66 b2_26.toNat zq25) 65 ((b2_26 + 1).toNat) zq98) 66 ((b2_26 + 1).toNat) 0) (b2_26 + 1) b4_26 := T_call hwf I_26 i2 h0 (by omega) (by rw [htx]; omega) r0 (by assumption) (by rw [htx]; omega) (by decide)
                            have hT : SIM (ui (ui (ui M_26 66 b2_26.toNat zq25) 65 ((b2_26 + 1).toNat) zq98) 66 ((b2_26 + 1).toNat) 0) (b2_26 + 1) b4_26 ∧ mS (ui (ui (ui M_26 66 b2_26.toNat zq25) 65 ((b2_26 + 1).toNat) zq98) 66 ((b2_26 + 1).toNat) 0) (b2_26 + 1) (b3_26 + 1) b4_26 < mS M_26 b2_26 b3_26 b4_26 := ⟨hS9, mS_item i2 I_26 hS9 Iq106 (by omega)⟩
                            refine g_goto X (tgt := 431) dX7_sings_367 (by decide) ?_
                            refine g_goto X (tgt := 26) dX7_sings_431 (by decide) ?_
                            refine g_sub [5, 1, 0, 6, 7] rfl ?_
                            have hF : SIM (ui (ui (ui M_26 66 b2_26.toNat zq25) 65 ((b2_26 + 1).toNat) zq98) 66 ((b2_26 + 1).toNat) 0) (b2_26 + 1) b4_26 ∧ mS (ui (ui (ui M_26 66 b2_26.toNat zq25) 65 ((b2_26 + 1).toNat) zq98) 66 ((b2_26 + 1).toNat) 0) (b2_26 + 1) (b3_26 + 1) b4_26 < mS M_26 b2_26 b3_26 b4_26 := by first | exact hT | (have r9 : R6 M_26 (ui (ui (ui M_26 66 b2_26.toNat zq25) 65 ((b2_26 + 1).toNat) zq98) 66 ((b2_26 + 1).toNat) 0) (b2_26).toNat _ := (by first | exact r0 | exact R6_ui (R6_ui r0 rfl) rfl); have hS9 : SIM (ui (ui (ui M_26 66 b2_26.toNat zq25) 65 ((b2_26 + 1).toNat) zq98) 66 ((b2_26 + 1).toNat) 0) (b2_26 + 1) b4_26 := T_adv hwf i2 h0 r9 (by assumption) (by omega) ⟨by rw [htx]; omega, by rw [htx]; omega⟩; first | exact ⟨hS9, mS_mv i2 I_26 h0 (by omega) r9 (by assumption) (by omega) (by omega)⟩ | exact ⟨hS9, mS_item i2 I_26 hS9 Iq106 (by omega)⟩) | exact T_pop cyq109 I_26 i2 h0 (by omega) (by omega)
                            have hG : SGM pp td ([(a1.toNat, 0, [])], (Mq.2 47 34).toInt, 0, []) (ui (ui (ui M_26 66 b2_26.toNat zq25) 65 ((b2_26 + 1).toNat) zq98) 66 ((b2_26 + 1).toNat) 0) (b2_26 + 1) (b3_26 + 1) b4_26 := by first | exact hGa | (have hq9 : ((M_26.1 61 (((60 * ((M_26.1 65 b2_26.toNat).toInt)) + ((M_26.1 66 b2_26.toNat).toInt)).toNat)).toInt) = 93 := (by assumption); exact SGM_step hTT hh hcc0 hN hI (sgS_cl hkne hbq (by omega)) (hR1) (by omega)) | (have hq9 : ((M_26.1 61 (((60 * ((M_26.1 65 b2_26.toNat).toInt)) + ((M_26.1 66 b2_26.toNat).toInt)).toNat)).toInt) = 41 := (by assumption); exact SGM_step hTT hh hcc0 hN hI (sgS_cl hkne hbq (by omega)) (hR1) (by omega)) | (have hq9 : ((M_26.1 61 (((60 * ((M_26.1 65 b2_26.toNat).toInt)) + ((M_26.1 66 b2_26.toNat).toInt)).toNat)).toInt) = 91 := (by assumption); first | exact SGM_step hTT hh hcc0 hN hI ((sgS_it hkne hbq (by omega) (by omega)).trans (sgI_91n (by omega) (by omega))) (hR2) (by omega) | exact SGM_step hTT hh hcc0 hN hI ((sgS_it hkne hbq (by omega) (by omega)).trans (sgI_91y (by omega) (by omega))) (RM_66 hR2 (by omega)) (by omega)) | (have hq9 : ((M_26.1 61 (((60 * ((M_26.1 65 b2_26.toNat).toInt)) + ((M_26.1 66 b2_26.toNat).toInt)).toNat)).toInt) = 40 := (by assumption); first | exact SGM_step hTT hh hcc0 hN hI ((sgS_it hkne hbq (by omega) (by omega)).trans (sgI_40n (by omega) (by omega))) (hR2) (by omega) | exact SGM_step hTT hh hcc0 hN hI ((sgS_it hkne hbq (by omega) (by omega)).trans (sgI_40y (by omega) (by omega))) (RM_66 hR2 (by omega)) (by omega)) | (have hq9 : ((M_26.1 61 (((60 * ((M_26.1 65 b2_26.toNat).toInt)) + ((M_26.1 66 b2_26.toNat).toInt)).toNat)).toInt) = 123 := (by assumption); first | exact SGM_step hTT hh hcc0 hN hI ((sgS_it hkne hbq (by omega) (by omega)).trans (sgI_0 (by omega) (by omega))) (RM_66 hR2 (by omega)) (by omega) | exact SGM_step hTT hh hcc0 hN hI ((sgS_it hkne hbq (by omega) (by omega)).trans (sgI_1 (by omega) (by omega))) (RM_open hR2 (by omega) (by omega)) (by omega)) | (have hq9 : 65 ≤ ((M_26.1 61 (((60 * ((M_26.1 65 b2_26.toNat).toInt)) + ((M_26.1 66 b2_26.toNat).toInt)).toNat)).toInt) ∧ ((M_26.1 61 (((60 * ((M_26.1 65 b2_26.toNat).toInt)) + ((M_26.1 66 b2_26.toNat).toInt)).toNat)).toInt) ≤ 72 := (by assumption); exact SGM_step hTT hh hcc0 hN hI ((sgS_it hkne hbq (by omega) (by omega)).trans (sgI_scene (by omega))) (RM_call hR1 (by omega) (by decide)) (by omega)) | exact SGM_step hTT hh hcc0 hN hI ((sgS_it hkne hbq (by omega) (by omega)).trans (sgI_sl (by omega) hwy (by omega) (by omega) hln)) (RM_line hR2 hlt0 (by omega) (by omega)) (by omega)
                            exact ih26 y4_26 _ e4_26 zq36 _ tq38 zq95 _ tq97 (ui (ui (ui M_26 66 b2_26.toNat zq25) 65 ((b2_26 + 1).toNat) zq98) 66 ((b2_26 + 1).toNat) 0) (by omega) hF.1 hG Iq106 frq107 cyq108 cyq109 (by omega)
                        · refine g_aload_n X 6 rfl dX7_sings_276 ?_
                          refine g_aload_n X 6 rfl dX7_sings_277 ?_
                          refine g_geti X f_X7_61 dX7_sings_278 (x := M_26.1 47 24) rfl ?_
                          have bq110 := ig_47_24 I_26
                          refine g_iconst X 1 dX7_sings_281 (by decide) ?_
                          refine g_iadd X dX7_sings_282 (fun zq111 eq112 => ?_)
                          have tq113 : zq111.toInt = ((M_26.1 47 24).toInt) + 1 := add_nw eq112 rfl (show (1 : Int32).toInt = 1 by decide) (by omega)
                          refine g_callV X m_X7_247 (c_X7_chooses_F ad (ui M_26 66 b2_26.toNat zq25) zq111 tq113 Iq28 (by omega) (show 0 ≤ (M_26.2 47 34).toInt by omega) cyq30) rfl (by decide) (Nat.le_of_ble_eq_true rfl) rfl dX7_sings_283 ?_
                          rintro _ Mq120 ⟨rq114, aq115, rfl, tq116, hq117, cyq118, hq119, Iq121, frq122⟩
                          have frq123 : Fr W_X7_sings_F Mq Mq120 := frq29.trans frq122 rfl
                          have cyq124 : WFM Mq120 := WFM_fr cyq31 frq122 rfl
                          have trq125 : (Mq120.1 47 12).toInt = (M_26.1 47 12).toInt := congrArg Int32.toInt (frq122.at 47 12 rfl)
                          have trq126 : (Mq120.1 47 33).toInt = (M_26.1 47 33).toInt := congrArg Int32.toInt (frq122.at 47 33 rfl)
                          have hq127 : aq115 = ((ui M_26 66 b2_26.toNat zq25).2 47 34).toInt % (((M_26.1 47 24).toInt) + 1) ∧ 0 ≤ aq115 ∧ aq115 < (((M_26.1 47 24).toInt) + 1) := hq117
                          clear hq117
                          have r0 : R6 M_26 Mq120 (b2_26).toNat _ := R6_fr r0 frq122 rfl
                          have hc1 := hq127
                          have z34 : (Mq120.2 47 34).toInt = (M_26.2 47 34).toInt / ((M_26.1 47 24).toInt + 1) := hq119
                          rw [r34, hPM.2.2.1] at z34
                          have hc3 : aq115 = (M_26.2 47 34).toInt % ((M_26.1 47 24).toInt + 1) := hc1.1
                          rw [r34, hPM.2.2.1] at hc3
                          have hR2 := RM_ch hR1 frq122 z34
                          show G Γ Mq120 286 [(3, .int zq36), (7, .int (M_26.1 61 (((60 * ((M_26.1 65 b2_26.toNat).toInt)) + ((M_26.1 66 b2_26.toNat).toInt)).toNat))), (6, .int (M_26.1 66 b2_26.toNat)), (5, .int (M_26.1 65 b2_26.toNat)), (4, .int y4_26), (2, .int y2_26), (0, .ref (ad 47)), (1, .int x1)] [.int rq114]
                          refine g_istore X [(8, .int rq114), (3, .int zq36), (7, .int (M_26.1 61 (((60 * ((M_26.1 65 b2_26.toNat).toInt)) + ((M_26.1 66 b2_26.toNat).toInt)).toNat))), (6, .int (M_26.1 66 b2_26.toNat)), (5, .int (M_26.1 65 b2_26.toNat)), (4, .int y4_26), (2, .int y2_26), (0, .ref (ad 47)), (1, .int x1)] dX7_sings_286 (by decide) rfl ?_
                          refine g_iload X 0 rfl dX7_sings_288 ?_
                          refine g_if_ne X tq116 (tgt := 312) dX7_sings_290 (by decide) (fun cq128 => ?_) (fun cq128 => ?_)
                          · refine g_aload_n X 7 rfl dX7_sings_312 ?_
                            refine g_getr X f_X7_71 dX7_sings_313 ?_
                            refine g_iload X 5 rfl dX7_sings_316 ?_
                            refine g_iload X 0 rfl dX7_sings_318 ?_
                            refine g_iast X la_67 e4_26 dX7_sings_320 (by omega) ?_
                            have Iq129 : Iv TM (ui Mq120 67 b4_26.toNat rq114) := Iq121.otherA rfl
                            have frq130 : Fr W_X7_sings_F Mq (ui Mq120 67 b4_26.toNat rq114) := frq123.ui rfl
                            have cyq131 : 0 ≤ ((ui Mq120 67 b4_26.toNat rq114).2 47 34).toInt := numM_fr cyq118 (Fr.ui (W := [(67, 99)]) Fr.rf rfl) rfl
                            have cyq132 : WFM (ui Mq120 67 b4_26.toNat rq114) := WFM_fr cyq124 (Fr.ui (W := [(67, 99)]) Fr.rf rfl) rfl
                            refine g_aload_n X 7 rfl dX7_sings_321 ?_
                            refine g_getr X f_X7_74 dX7_sings_322 ?_
                            refine g_iload X 5 rfl dX7_sings_325 ?_
                            refine g_iload X 3 rfl dX7_sings_327 ?_
                            refine g_iconst X 1 dX7_sings_329 (by decide) ?_
                            refine g_iadd X dX7_sings_330 (fun zq133 eq134 => ?_)
                            have tq135 : zq133.toInt = ((M_26.1 66 b2_26.toNat).toInt) + 1 := add_nw eq134 rfl (show (1 : Int32).toInt = 1 by decide) (by omega)
                            refine g_iast X la_68 e4_26 dX7_sings_331 (by omega) ?_
                            have Iq136 : Iv TM (ui (ui Mq120 67 b4_26.toNat rq114) 68 b4_26.toNat zq133) := Iq129.otherA rfl
                            have frq137 : Fr W_X7_sings_F Mq (ui (ui Mq120 67 b4_26.toNat rq114) 68 b4_26.toNat zq133) := frq130.ui rfl
                            have cyq138 : 0 ≤ ((ui (ui Mq120 67 b4_26.toNat rq114) 68 b4_26.toNat zq133).2 47 34).toInt := numM_fr cyq131 (Fr.ui (W := [(68, 99)]) Fr.rf rfl) rfl
                            have cyq139 : WFM (ui (ui Mq120 67 b4_26.toNat rq114) 68 b4_26.toNat zq133) := WFM_fr cyq132 (Fr.ui (W := [(68, 99)]) Fr.rf rfl) rfl
                            have hS9 : SIM (ui (ui Mq120 67 b4_26.toNat rq114) 68 b4_26.toNat zq133) b2_26 (b4_26 + 1) := T_open hwf i2 h0 (by omega) (by omega) (by rw [htx]; omega) r0 (by assumption) (by omega) (by omega)
                            have hT : SIM (ui (ui Mq120 67 b4_26.toNat rq114) 68 b4_26.toNat zq133) b2_26 (b4_26 + 1) ∧ mS (ui (ui Mq120 67 b4_26.toNat rq114) 68 b4_26.toNat zq133) b2_26 (b3_26 + 1) (b4_26 + 1) < mS M_26 b2_26 b3_26 b4_26 := ⟨hS9, mS_item i2 I_26 hS9 Iq136 (by omega)⟩
                            refine g_iinc X 5 (fun v => [(4, .int v), (8, .int rq114), (3, .int zq36), (7, .int (M_26.1 61 (((60 * ((M_26.1 65 b2_26.toNat).toInt)) + ((M_26.1 66 b2_26.toNat).toInt)).toNat))), (6, .int (M_26.1 66 b2_26.toNat)), (5, .int (M_26.1 65 b2_26.toNat)), (2, .int y2_26), (0, .ref (ad 47)), (1, .int x1)]) dX7_sings_332 rfl (by decide) (fun _ => rfl) (fun zq140 eq141 => ?_)
                            have tq142 : zq140.toInt = b4_26 + 1 := add_nw eq141 e4_26 (show (Int32.ofInt 1).toInt = 1 by decide) (by omega)
                            refine g_goto X (tgt := 431) dX7_sings_335 (by decide) ?_
                            refine g_goto X (tgt := 26) dX7_sings_431 (by decide) ?_
                            refine g_sub [0, 2, 6, 7, 8] rfl ?_
                            have hF : SIM (ui (ui Mq120 67 b4_26.toNat rq114) 68 b4_26.toNat zq133) b2_26 (b4_26 + 1) ∧ mS (ui (ui Mq120 67 b4_26.toNat rq114) 68 b4_26.toNat zq133) b2_26 (b3_26 + 1) (b4_26 + 1) < mS M_26 b2_26 b3_26 b4_26 := by first | exact hT | (have r9 : R6 M_26 (ui (ui Mq120 67 b4_26.toNat rq114) 68 b4_26.toNat zq133) (b2_26).toNat _ := (by first | exact r0 | exact R6_ui (R6_ui r0 rfl) rfl); have hS9 : SIM (ui (ui Mq120 67 b4_26.toNat rq114) 68 b4_26.toNat zq133) b2_26 (b4_26 + 1) := T_adv hwf i2 h0 r9 (by assumption) (by omega) ⟨by rw [htx]; omega, by rw [htx]; omega⟩; first | exact ⟨hS9, mS_mv i2 I_26 h0 (by omega) r9 (by assumption) (by omega) (by omega)⟩ | exact ⟨hS9, mS_item i2 I_26 hS9 Iq136 (by omega)⟩) | exact T_pop cyq139 I_26 i2 h0 (by omega) (by omega)
                            have hG : SGM pp td ([(a1.toNat, 0, [])], (Mq.2 47 34).toInt, 0, []) (ui (ui Mq120 67 b4_26.toNat rq114) 68 b4_26.toNat zq133) b2_26 (b3_26 + 1) (b4_26 + 1) := by first | exact hGa | (have hq9 : ((M_26.1 61 (((60 * ((M_26.1 65 b2_26.toNat).toInt)) + ((M_26.1 66 b2_26.toNat).toInt)).toNat)).toInt) = 93 := (by assumption); exact SGM_step hTT hh hcc0 hN hI (sgS_cl hkne hbq (by omega)) (hR1) (by omega)) | (have hq9 : ((M_26.1 61 (((60 * ((M_26.1 65 b2_26.toNat).toInt)) + ((M_26.1 66 b2_26.toNat).toInt)).toNat)).toInt) = 41 := (by assumption); exact SGM_step hTT hh hcc0 hN hI (sgS_cl hkne hbq (by omega)) (hR1) (by omega)) | (have hq9 : ((M_26.1 61 (((60 * ((M_26.1 65 b2_26.toNat).toInt)) + ((M_26.1 66 b2_26.toNat).toInt)).toNat)).toInt) = 91 := (by assumption); first | exact SGM_step hTT hh hcc0 hN hI ((sgS_it hkne hbq (by omega) (by omega)).trans (sgI_91n (by omega) (by omega))) (hR2) (by omega) | exact SGM_step hTT hh hcc0 hN hI ((sgS_it hkne hbq (by omega) (by omega)).trans (sgI_91y (by omega) (by omega))) (RM_66 hR2 (by omega)) (by omega)) | (have hq9 : ((M_26.1 61 (((60 * ((M_26.1 65 b2_26.toNat).toInt)) + ((M_26.1 66 b2_26.toNat).toInt)).toNat)).toInt) = 40 := (by assumption); first | exact SGM_step hTT hh hcc0 hN hI ((sgS_it hkne hbq (by omega) (by omega)).trans (sgI_40n (by omega) (by omega))) (hR2) (by omega) | exact SGM_step hTT hh hcc0 hN hI ((sgS_it hkne hbq (by omega) (by omega)).trans (sgI_40y (by omega) (by omega))) (RM_66 hR2 (by omega)) (by omega)) | (have hq9 : ((M_26.1 61 (((60 * ((M_26.1 65 b2_26.toNat).toInt)) + ((M_26.1 66 b2_26.toNat).toInt)).toNat)).toInt) = 123 := (by assumption); first | exact SGM_step hTT hh hcc0 hN hI ((sgS_it hkne hbq (by omega) (by omega)).trans (sgI_0 (by omega) (by omega))) (RM_66 hR2 (by omega)) (by omega) | exact SGM_step hTT hh hcc0 hN hI ((sgS_it hkne hbq (by omega) (by omega)).trans (sgI_1 (by omega) (by omega))) (RM_open hR2 (by omega) (by omega)) (by omega)) | (have hq9 : 65 ≤ ((M_26.1 61 (((60 * ((M_26.1 65 b2_26.toNat).toInt)) + ((M_26.1 66 b2_26.toNat).toInt)).toNat)).toInt) ∧ ((M_26.1 61 (((60 * ((M_26.1 65 b2_26.toNat).toInt)) + ((M_26.1 66 b2_26.toNat).toInt)).toNat)).toInt) ≤ 72 := (by assumption); exact SGM_step hTT hh hcc0 hN hI ((sgS_it hkne hbq (by omega) (by omega)).trans (sgI_scene (by omega))) (RM_call hR1 (by omega) (by decide)) (by omega)) | exact SGM_step hTT hh hcc0 hN hI ((sgS_it hkne hbq (by omega) (by omega)).trans (sgI_sl (by omega) hwy (by omega) (by omega) hln)) (RM_line hR2 hlt0 (by omega) (by omega)) (by omega)
                            exact ih26 zq140 _ tq142 zq36 _ tq38 y2_26 _ e2_26 (ui (ui Mq120 67 b4_26.toNat rq114) 68 b4_26.toNat zq133) (by omega) hF.1 hG Iq136 frq137 cyq138 cyq139 (by omega)
                          · refine g_aload_n X 7 rfl dX7_sings_293 ?_
                            refine g_getr X f_X7_68 dX7_sings_294 ?_
                            refine g_iload_n X 6 rfl dX7_sings_297 ?_
                            have hx1 := r0.1
                            have hw1 : skN (txt Mq120 (((M_26.1 65 b2_26.toNat).toInt)).toNat) ((Mq120.1 62 (((M_26.1 65 b2_26.toNat).toInt)).toNat).toInt).toNat = some [] := (cyq124 _ (by omega) (by rw [hx1.2.2]; exact ha2)).1
                            have h62 : (Mq120.1 62 (((M_26.1 65 b2_26.toNat).toInt)).toNat).toInt = (M_26.1 62 (((M_26.1 65 b2_26.toNat).toInt)).toNat).toInt := congrFun hx1.2.1 _
                            have hS1 : skN (txt Mq120 (((M_26.1 65 b2_26.toNat).toInt)).toNat) (((M_26.1 66 b2_26.toNat).toInt)).toNat = some s0 := by rw [hx1.1]; exact hs0
                            have hc61 : (Mq120.1 61 (60 * ((M_26.1 65 b2_26.toNat).toInt) + ((M_26.1 66 b2_26.toNat).toInt)).toNat).toInt = (M_26.1 61 (60 * ((M_26.1 65 b2_26.toNat).toInt) + ((M_26.1 66 b2_26.toNat).toInt)).toNat).toInt := by rw [← txt_at (by omega) (by omega), hx1.1, txt_at (by omega) (by omega)]
                            refine g_aload_n X 7 rfl dX7_sings_298 ?_
                            refine g_iload X 4 rfl dX7_sings_299 ?_
                            refine g_iload X 3 rfl dX7_sings_301 ?_
                            refine g_callV X m_X7_251 (c_X7_behind_F ad Mq120 (M_26.1 65 b2_26.toNat) rfl (M_26.1 66 b2_26.toNat) rfl Iq121 (by omega) hw1 (by omega) hS1 (by omega) (by rw [hx1.1, h62]; exact hVt)) rfl (by decide) (Nat.le_of_ble_eq_true rfl) rfl dX7_sings_303 ?_
                            rintro _ _ ⟨rq143, aq144, rfl, tq145, hq146, rfl⟩
                            obtain ⟨hk0, hk1, s2, hk2, hk3⟩ := (hq146).1
                            rw [hx1.1] at hk2
                            have hk4 : skN (txt M_26 (((M_26.1 65 b2_26.toNat).toInt)).toNat) (aq144 + 1).toNat = some s2 := by rw [show (aq144 + 1).toNat = aq144.toNat + 1 by omega]; exact hk2
                            have hk5 : EQV s0 s2 := EQV_of hk3
                            have hma := (hq146).2
                            rw [hx1.1] at hma
                            have hem : aq144 = pp.2.2.1 xq kq.toNat := MT_eq hVq hkn (by rw [hbq]; unfold obC; omega) (by omega) (by rw [hPM.1, ← eX, ← eK]; exact hma)
                            show G Γ Mq120 306 [(8, .int rq114), (3, .int zq36), (7, .int (M_26.1 61 (((60 * ((M_26.1 65 b2_26.toNat).toInt)) + ((M_26.1 66 b2_26.toNat).toInt)).toNat))), (6, .int (M_26.1 66 b2_26.toNat)), (5, .int (M_26.1 65 b2_26.toNat)), (4, .int y4_26), (2, .int y2_26), (0, .ref (ad 47)), (1, .int x1)] [.int rq143, .int y2_26, .ref (ad 66)]
                            refine g_iconst X 1 dX7_sings_306 (by decide) ?_
                            refine g_iadd X dX7_sings_307 (fun zq147 eq148 => ?_)
                            have tq149 : zq147.toInt = aq144 + 1 := add_nw eq148 tq145 (show (1 : Int32).toInt = 1 by decide) (by omega)
                            refine g_iast X la_66 e2_26 dX7_sings_308 (by omega) ?_
                            have Iq150 : Iv TM (ui Mq120 66 b2_26.toNat zq147) := Iq121.otherA rfl
                            have frq151 : Fr W_X7_sings_F Mq (ui Mq120 66 b2_26.toNat zq147) := frq123.ui rfl
                            have cyq152 : 0 ≤ ((ui Mq120 66 b2_26.toNat zq147).2 47 34).toInt := numM_fr cyq118 (Fr.ui (W := [(66, 99)]) Fr.rf rfl) rfl
                            have cyq153 : WFM (ui Mq120 66 b2_26.toNat zq147) := WFM_fr cyq124 (Fr.ui (W := [(66, 99)]) Fr.rf rfl) rfl
                            have r0 : R6 M_26 (ui Mq120 66 b2_26.toNat zq147) (b2_26).toNat _ := R6_set r0
                            have hS9 : SIM (ui Mq120 66 b2_26.toNat zq147) b2_26 b4_26 := T_mv i2 h0 r0 (by assumption) hs0 (by omega) hk4 hk5
                            have hT : SIM (ui Mq120 66 b2_26.toNat zq147) b2_26 b4_26 ∧ mS (ui Mq120 66 b2_26.toNat zq147) b2_26 (b3_26 + 1) b4_26 < mS M_26 b2_26 b3_26 b4_26 := ⟨hS9, mS_item i2 I_26 hS9 Iq150 (by omega)⟩
                            refine g_goto X (tgt := 335) dX7_sings_309 (by decide) ?_
                            refine g_goto X (tgt := 431) dX7_sings_335 (by decide) ?_
                            refine g_goto X (tgt := 26) dX7_sings_431 (by decide) ?_
                            refine g_sub [5, 1, 6, 7, 8] rfl ?_
                            have hF : SIM (ui Mq120 66 b2_26.toNat zq147) b2_26 b4_26 ∧ mS (ui Mq120 66 b2_26.toNat zq147) b2_26 (b3_26 + 1) b4_26 < mS M_26 b2_26 b3_26 b4_26 := by first | exact hT | (have r9 : R6 M_26 (ui Mq120 66 b2_26.toNat zq147) (b2_26).toNat _ := (by first | exact r0 | exact R6_ui (R6_ui r0 rfl) rfl); have hS9 : SIM (ui Mq120 66 b2_26.toNat zq147) b2_26 b4_26 := T_adv hwf i2 h0 r9 (by assumption) (by omega) ⟨by rw [htx]; omega, by rw [htx]; omega⟩; first | exact ⟨hS9, mS_mv i2 I_26 h0 (by omega) r9 (by assumption) (by omega) (by omega)⟩ | exact ⟨hS9, mS_item i2 I_26 hS9 Iq150 (by omega)⟩) | exact T_pop cyq153 I_26 i2 h0 (by omega) (by omega)
                            have hG : SGM pp td ([(a1.toNat, 0, [])], (Mq.2 47 34).toInt, 0, []) (ui Mq120 66 b2_26.toNat zq147) b2_26 (b3_26 + 1) b4_26 := by first | exact hGa | (have hq9 : ((M_26.1 61 (((60 * ((M_26.1 65 b2_26.toNat).toInt)) + ((M_26.1 66 b2_26.toNat).toInt)).toNat)).toInt) = 93 := (by assumption); exact SGM_step hTT hh hcc0 hN hI (sgS_cl hkne hbq (by omega)) (hR1) (by omega)) | (have hq9 : ((M_26.1 61 (((60 * ((M_26.1 65 b2_26.toNat).toInt)) + ((M_26.1 66 b2_26.toNat).toInt)).toNat)).toInt) = 41 := (by assumption); exact SGM_step hTT hh hcc0 hN hI (sgS_cl hkne hbq (by omega)) (hR1) (by omega)) | (have hq9 : ((M_26.1 61 (((60 * ((M_26.1 65 b2_26.toNat).toInt)) + ((M_26.1 66 b2_26.toNat).toInt)).toNat)).toInt) = 91 := (by assumption); first | exact SGM_step hTT hh hcc0 hN hI ((sgS_it hkne hbq (by omega) (by omega)).trans (sgI_91n (by omega) (by omega))) (hR2) (by omega) | exact SGM_step hTT hh hcc0 hN hI ((sgS_it hkne hbq (by omega) (by omega)).trans (sgI_91y (by omega) (by omega))) (RM_66 hR2 (by omega)) (by omega)) | (have hq9 : ((M_26.1 61 (((60 * ((M_26.1 65 b2_26.toNat).toInt)) + ((M_26.1 66 b2_26.toNat).toInt)).toNat)).toInt) = 40 := (by assumption); first | exact SGM_step hTT hh hcc0 hN hI ((sgS_it hkne hbq (by omega) (by omega)).trans (sgI_40n (by omega) (by omega))) (hR2) (by omega) | exact SGM_step hTT hh hcc0 hN hI ((sgS_it hkne hbq (by omega) (by omega)).trans (sgI_40y (by omega) (by omega))) (RM_66 hR2 (by omega)) (by omega)) | (have hq9 : ((M_26.1 61 (((60 * ((M_26.1 65 b2_26.toNat).toInt)) + ((M_26.1 66 b2_26.toNat).toInt)).toNat)).toInt) = 123 := (by assumption); first | exact SGM_step hTT hh hcc0 hN hI ((sgS_it hkne hbq (by omega) (by omega)).trans (sgI_0 (by omega) (by omega))) (RM_66 hR2 (by omega)) (by omega) | exact SGM_step hTT hh hcc0 hN hI ((sgS_it hkne hbq (by omega) (by omega)).trans (sgI_1 (by omega) (by omega))) (RM_open hR2 (by omega) (by omega)) (by omega)) | (have hq9 : 65 ≤ ((M_26.1 61 (((60 * ((M_26.1 65 b2_26.toNat).toInt)) + ((M_26.1 66 b2_26.toNat).toInt)).toNat)).toInt) ∧ ((M_26.1 61 (((60 * ((M_26.1 65 b2_26.toNat).toInt)) + ((M_26.1 66 b2_26.toNat).toInt)).toNat)).toInt) ≤ 72 := (by assumption); exact SGM_step hTT hh hcc0 hN hI ((sgS_it hkne hbq (by omega) (by omega)).trans (sgI_scene (by omega))) (RM_call hR1 (by omega) (by decide)) (by omega)) | exact SGM_step hTT hh hcc0 hN hI ((sgS_it hkne hbq (by omega) (by omega)).trans (sgI_sl (by omega) hwy (by omega) (by omega) hln)) (RM_line hR2 hlt0 (by omega) (by omega)) (by omega)
                            exact ih26 y4_26 _ e4_26 zq36 _ tq38 y2_26 _ e2_26 (ui Mq120 66 b2_26.toNat zq147) (by omega) hF.1 hG Iq150 frq151 cyq152 cyq153 (by omega)
                      · refine g_aload_n X 6 rfl dX7_sings_241 ?_
                        refine g_iconst X 2 dX7_sings_242 (by decide) ?_
                        refine g_callV X m_X7_247 (c_X7_chooses_F ad (ui M_26 66 b2_26.toNat zq25) 2 (show (2 : Int32).toInt = 2 by decide) Iq28 (by omega) (show 0 ≤ (M_26.2 47 34).toInt by omega) cyq30) rfl (by decide) (Nat.le_of_ble_eq_true rfl) rfl dX7_sings_243 ?_
                        rintro _ Mq160 ⟨rq154, aq155, rfl, tq156, hq157, cyq158, hq159, Iq161, frq162⟩
                        have frq163 : Fr W_X7_sings_F Mq Mq160 := frq29.trans frq162 rfl
                        have cyq164 : WFM Mq160 := WFM_fr cyq31 frq162 rfl
                        have trq165 : (Mq160.1 47 12).toInt = (M_26.1 47 12).toInt := congrArg Int32.toInt (frq162.at 47 12 rfl)
                        have trq166 : (Mq160.1 47 33).toInt = (M_26.1 47 33).toInt := congrArg Int32.toInt (frq162.at 47 33 rfl)
                        have hq167 : aq155 = ((ui M_26 66 b2_26.toNat zq25).2 47 34).toInt % 2 ∧ 0 ≤ aq155 ∧ aq155 < 2 := hq157
                        clear hq157
                        have r0 : R6 M_26 Mq160 (b2_26).toNat _ := R6_fr r0 frq162 rfl
                        have hc1 := hq167
                        have z34 : (Mq160.2 47 34).toInt = (M_26.2 47 34).toInt / 2 := hq159
                        rw [r34] at z34
                        have hc3 : aq155 = (M_26.2 47 34).toInt % 2 := hc1.1
                        rw [r34] at hc3
                        have hR2 := RM_ch hR1 frq162 z34
                        show G Γ Mq160 246 [(3, .int zq36), (7, .int (M_26.1 61 (((60 * ((M_26.1 65 b2_26.toNat).toInt)) + ((M_26.1 66 b2_26.toNat).toInt)).toNat))), (6, .int (M_26.1 66 b2_26.toNat)), (5, .int (M_26.1 65 b2_26.toNat)), (4, .int y4_26), (2, .int y2_26), (0, .ref (ad 47)), (1, .int x1)] [.int rq154]
                        refine g_iconst X 1 dX7_sings_246 (by decide) ?_
                        refine g_icmp_ne X tq156 (show (1 : Int32).toInt = 1 by decide) (tgt := 431) dX7_sings_247 (by decide) (fun cq168 => ?_) (fun cq168 => ?_)
                        · refine g_goto X (tgt := 26) dX7_sings_431 (by decide) ?_
                          refine g_sub [4, 0, 5, 6, 7] rfl ?_
                          have hF : SIM Mq160 b2_26 b4_26 ∧ mS Mq160 b2_26 (b3_26 + 1) b4_26 < mS M_26 b2_26 b3_26 b4_26 := by first | exact hT | (have r9 : R6 M_26 Mq160 (b2_26).toNat _ := (by first | exact r0 | exact R6_ui (R6_ui r0 rfl) rfl); have hS9 : SIM Mq160 b2_26 b4_26 := T_adv hwf i2 h0 r9 (by assumption) (by omega) ⟨by rw [htx]; omega, by rw [htx]; omega⟩; first | exact ⟨hS9, mS_mv i2 I_26 h0 (by omega) r9 (by assumption) (by omega) (by omega)⟩ | exact ⟨hS9, mS_item i2 I_26 hS9 Iq161 (by omega)⟩) | exact T_pop cyq164 I_26 i2 h0 (by omega) (by omega)
                          have hG : SGM pp td ([(a1.toNat, 0, [])], (Mq.2 47 34).toInt, 0, []) Mq160 b2_26 (b3_26 + 1) b4_26 := by first | exact hGa | (have hq9 : ((M_26.1 61 (((60 * ((M_26.1 65 b2_26.toNat).toInt)) + ((M_26.1 66 b2_26.toNat).toInt)).toNat)).toInt) = 93 := (by assumption); exact SGM_step hTT hh hcc0 hN hI (sgS_cl hkne hbq (by omega)) (hR1) (by omega)) | (have hq9 : ((M_26.1 61 (((60 * ((M_26.1 65 b2_26.toNat).toInt)) + ((M_26.1 66 b2_26.toNat).toInt)).toNat)).toInt) = 41 := (by assumption); exact SGM_step hTT hh hcc0 hN hI (sgS_cl hkne hbq (by omega)) (hR1) (by omega)) | (have hq9 : ((M_26.1 61 (((60 * ((M_26.1 65 b2_26.toNat).toInt)) + ((M_26.1 66 b2_26.toNat).toInt)).toNat)).toInt) = 91 := (by assumption); first | exact SGM_step hTT hh hcc0 hN hI ((sgS_it hkne hbq (by omega) (by omega)).trans (sgI_91n (by omega) (by omega))) (hR2) (by omega) | exact SGM_step hTT hh hcc0 hN hI ((sgS_it hkne hbq (by omega) (by omega)).trans (sgI_91y (by omega) (by omega))) (RM_66 hR2 (by omega)) (by omega)) | (have hq9 : ((M_26.1 61 (((60 * ((M_26.1 65 b2_26.toNat).toInt)) + ((M_26.1 66 b2_26.toNat).toInt)).toNat)).toInt) = 40 := (by assumption); first | exact SGM_step hTT hh hcc0 hN hI ((sgS_it hkne hbq (by omega) (by omega)).trans (sgI_40n (by omega) (by omega))) (hR2) (by omega) | exact SGM_step hTT hh hcc0 hN hI ((sgS_it hkne hbq (by omega) (by omega)).trans (sgI_40y (by omega) (by omega))) (RM_66 hR2 (by omega)) (by omega)) | (have hq9 : ((M_26.1 61 (((60 * ((M_26.1 65 b2_26.toNat).toInt)) + ((M_26.1 66 b2_26.toNat).toInt)).toNat)).toInt) = 123 := (by assumption); first | exact SGM_step hTT hh hcc0 hN hI ((sgS_it hkne hbq (by omega) (by omega)).trans (sgI_0 (by omega) (by omega))) (RM_66 hR2 (by omega)) (by omega) | exact SGM_step hTT hh hcc0 hN hI ((sgS_it hkne hbq (by omega) (by omega)).trans (sgI_1 (by omega) (by omega))) (RM_open hR2 (by omega) (by omega)) (by omega)) | (have hq9 : 65 ≤ ((M_26.1 61 (((60 * ((M_26.1 65 b2_26.toNat).toInt)) + ((M_26.1 66 b2_26.toNat).toInt)).toNat)).toInt) ∧ ((M_26.1 61 (((60 * ((M_26.1 65 b2_26.toNat).toInt)) + ((M_26.1 66 b2_26.toNat).toInt)).toNat)).toInt) ≤ 72 := (by assumption); exact SGM_step hTT hh hcc0 hN hI ((sgS_it hkne hbq (by omega) (by omega)).trans (sgI_scene (by omega))) (RM_call hR1 (by omega) (by decide)) (by omega)) | exact SGM_step hTT hh hcc0 hN hI ((sgS_it hkne hbq (by omega) (by omega)).trans (sgI_sl (by omega) hwy (by omega) (by omega) hln)) (RM_line hR2 hlt0 (by omega) (by omega)) (by omega)
                          exact ih26 y4_26 _ e4_26 zq36 _ tq38 y2_26 _ e2_26 Mq160 (by omega) hF.1 hG Iq161 frq163 cyq158 cyq164 (by omega)
                        · refine g_aload_n X 6 rfl dX7_sings_250 ?_
                          refine g_getr X f_X7_68 dX7_sings_251 ?_
                          refine g_iload_n X 5 rfl dX7_sings_254 ?_
                          have hx1 := r0.1
                          have hw1 : skN (txt Mq160 (((M_26.1 65 b2_26.toNat).toInt)).toNat) ((Mq160.1 62 (((M_26.1 65 b2_26.toNat).toInt)).toNat).toInt).toNat = some [] := (cyq164 _ (by omega) (by rw [hx1.2.2]; exact ha2)).1
                          have h62 : (Mq160.1 62 (((M_26.1 65 b2_26.toNat).toInt)).toNat).toInt = (M_26.1 62 (((M_26.1 65 b2_26.toNat).toInt)).toNat).toInt := congrFun hx1.2.1 _
                          have hS1 : skN (txt Mq160 (((M_26.1 65 b2_26.toNat).toInt)).toNat) (((M_26.1 66 b2_26.toNat).toInt)).toNat = some s0 := by rw [hx1.1]; exact hs0
                          have hc61 : (Mq160.1 61 (60 * ((M_26.1 65 b2_26.toNat).toInt) + ((M_26.1 66 b2_26.toNat).toInt)).toNat).toInt = (M_26.1 61 (60 * ((M_26.1 65 b2_26.toNat).toInt) + ((M_26.1 66 b2_26.toNat).toInt)).toNat).toInt := by rw [← txt_at (by omega) (by omega), hx1.1, txt_at (by omega) (by omega)]
                          refine g_aload_n X 6 rfl dX7_sings_255 ?_
                          refine g_iload X 3 rfl dX7_sings_256 ?_
                          refine g_iload X 2 rfl dX7_sings_258 ?_
                          refine g_callV X m_X7_251 (c_X7_behind_F ad Mq160 (M_26.1 65 b2_26.toNat) rfl (M_26.1 66 b2_26.toNat) rfl Iq161 (by omega) hw1 (by omega) hS1 (by omega) (by rw [hx1.1, h62]; exact hVt)) rfl (by decide) (Nat.le_of_ble_eq_true rfl) rfl dX7_sings_260 ?_
                          rintro _ _ ⟨rq169, aq170, rfl, tq171, hq172, rfl⟩
                          obtain ⟨hk0, hk1, s2, hk2, hk3⟩ := (hq172).1
                          rw [hx1.1] at hk2
                          have hk4 : skN (txt M_26 (((M_26.1 65 b2_26.toNat).toInt)).toNat) (aq170 + 1).toNat = some s2 := by rw [show (aq170 + 1).toNat = aq170.toNat + 1 by omega]; exact hk2
                          have hk5 : EQV s0 s2 := EQV_of hk3
                          have hma := (hq172).2
                          rw [hx1.1] at hma
                          have hem : aq170 = pp.2.2.1 xq kq.toNat := MT_eq hVq hkn (by rw [hbq]; unfold obC; omega) (by omega) (by rw [hPM.1, ← eX, ← eK]; exact hma)
                          show G Γ Mq160 263 [(3, .int zq36), (7, .int (M_26.1 61 (((60 * ((M_26.1 65 b2_26.toNat).toInt)) + ((M_26.1 66 b2_26.toNat).toInt)).toNat))), (6, .int (M_26.1 66 b2_26.toNat)), (5, .int (M_26.1 65 b2_26.toNat)), (4, .int y4_26), (2, .int y2_26), (0, .ref (ad 47)), (1, .int x1)] [.int rq169, .int y2_26, .ref (ad 66)]
                          refine g_iconst X 1 dX7_sings_263 (by decide) ?_
                          refine g_iadd X dX7_sings_264 (fun zq173 eq174 => ?_)
                          have tq175 : zq173.toInt = aq170 + 1 := add_nw eq174 tq171 (show (1 : Int32).toInt = 1 by decide) (by omega)
                          refine g_iast X la_66 e2_26 dX7_sings_265 (by omega) ?_
                          have Iq176 : Iv TM (ui Mq160 66 b2_26.toNat zq173) := Iq161.otherA rfl
                          have frq177 : Fr W_X7_sings_F Mq (ui Mq160 66 b2_26.toNat zq173) := frq163.ui rfl
                          have cyq178 : 0 ≤ ((ui Mq160 66 b2_26.toNat zq173).2 47 34).toInt := numM_fr cyq158 (Fr.ui (W := [(66, 99)]) Fr.rf rfl) rfl
                          have cyq179 : WFM (ui Mq160 66 b2_26.toNat zq173) := WFM_fr cyq164 (Fr.ui (W := [(66, 99)]) Fr.rf rfl) rfl
                          have r0 : R6 M_26 (ui Mq160 66 b2_26.toNat zq173) (b2_26).toNat _ := R6_set r0
                          have hS9 : SIM (ui Mq160 66 b2_26.toNat zq173) b2_26 b4_26 := T_mv i2 h0 r0 (by assumption) hs0 (by omega) hk4 hk5
                          have hT : SIM (ui Mq160 66 b2_26.toNat zq173) b2_26 b4_26 ∧ mS (ui Mq160 66 b2_26.toNat zq173) b2_26 (b3_26 + 1) b4_26 < mS M_26 b2_26 b3_26 b4_26 := ⟨hS9, mS_item i2 I_26 hS9 Iq176 (by omega)⟩
                          refine g_goto X (tgt := 431) dX7_sings_266 (by decide) ?_
                          refine g_goto X (tgt := 26) dX7_sings_431 (by decide) ?_
                          refine g_sub [4, 0, 5, 6, 7] rfl ?_
                          have hF : SIM (ui Mq160 66 b2_26.toNat zq173) b2_26 b4_26 ∧ mS (ui Mq160 66 b2_26.toNat zq173) b2_26 (b3_26 + 1) b4_26 < mS M_26 b2_26 b3_26 b4_26 := by first | exact hT | (have r9 : R6 M_26 (ui Mq160 66 b2_26.toNat zq173) (b2_26).toNat _ := (by first | exact r0 | exact R6_ui (R6_ui r0 rfl) rfl); have hS9 : SIM (ui Mq160 66 b2_26.toNat zq173) b2_26 b4_26 := T_adv hwf i2 h0 r9 (by assumption) (by omega) ⟨by rw [htx]; omega, by rw [htx]; omega⟩; first | exact ⟨hS9, mS_mv i2 I_26 h0 (by omega) r9 (by assumption) (by omega) (by omega)⟩ | exact ⟨hS9, mS_item i2 I_26 hS9 Iq176 (by omega)⟩) | exact T_pop cyq179 I_26 i2 h0 (by omega) (by omega)
                          have hG : SGM pp td ([(a1.toNat, 0, [])], (Mq.2 47 34).toInt, 0, []) (ui Mq160 66 b2_26.toNat zq173) b2_26 (b3_26 + 1) b4_26 := by first | exact hGa | (have hq9 : ((M_26.1 61 (((60 * ((M_26.1 65 b2_26.toNat).toInt)) + ((M_26.1 66 b2_26.toNat).toInt)).toNat)).toInt) = 93 := (by assumption); exact SGM_step hTT hh hcc0 hN hI (sgS_cl hkne hbq (by omega)) (hR1) (by omega)) | (have hq9 : ((M_26.1 61 (((60 * ((M_26.1 65 b2_26.toNat).toInt)) + ((M_26.1 66 b2_26.toNat).toInt)).toNat)).toInt) = 41 := (by assumption); exact SGM_step hTT hh hcc0 hN hI (sgS_cl hkne hbq (by omega)) (hR1) (by omega)) | (have hq9 : ((M_26.1 61 (((60 * ((M_26.1 65 b2_26.toNat).toInt)) + ((M_26.1 66 b2_26.toNat).toInt)).toNat)).toInt) = 91 := (by assumption); first | exact SGM_step hTT hh hcc0 hN hI ((sgS_it hkne hbq (by omega) (by omega)).trans (sgI_91n (by omega) (by omega))) (hR2) (by omega) | exact SGM_step hTT hh hcc0 hN hI ((sgS_it hkne hbq (by omega) (by omega)).trans (sgI_91y (by omega) (by omega))) (RM_66 hR2 (by omega)) (by omega)) | (have hq9 : ((M_26.1 61 (((60 * ((M_26.1 65 b2_26.toNat).toInt)) + ((M_26.1 66 b2_26.toNat).toInt)).toNat)).toInt) = 40 := (by assumption); first | exact SGM_step hTT hh hcc0 hN hI ((sgS_it hkne hbq (by omega) (by omega)).trans (sgI_40n (by omega) (by omega))) (hR2) (by omega) | exact SGM_step hTT hh hcc0 hN hI ((sgS_it hkne hbq (by omega) (by omega)).trans (sgI_40y (by omega) (by omega))) (RM_66 hR2 (by omega)) (by omega)) | (have hq9 : ((M_26.1 61 (((60 * ((M_26.1 65 b2_26.toNat).toInt)) + ((M_26.1 66 b2_26.toNat).toInt)).toNat)).toInt) = 123 := (by assumption); first | exact SGM_step hTT hh hcc0 hN hI ((sgS_it hkne hbq (by omega) (by omega)).trans (sgI_0 (by omega) (by omega))) (RM_66 hR2 (by omega)) (by omega) | exact SGM_step hTT hh hcc0 hN hI ((sgS_it hkne hbq (by omega) (by omega)).trans (sgI_1 (by omega) (by omega))) (RM_open hR2 (by omega) (by omega)) (by omega)) | (have hq9 : 65 ≤ ((M_26.1 61 (((60 * ((M_26.1 65 b2_26.toNat).toInt)) + ((M_26.1 66 b2_26.toNat).toInt)).toNat)).toInt) ∧ ((M_26.1 61 (((60 * ((M_26.1 65 b2_26.toNat).toInt)) + ((M_26.1 66 b2_26.toNat).toInt)).toNat)).toInt) ≤ 72 := (by assumption); exact SGM_step hTT hh hcc0 hN hI ((sgS_it hkne hbq (by omega) (by omega)).trans (sgI_scene (by omega))) (RM_call hR1 (by omega) (by decide)) (by omega)) | exact SGM_step hTT hh hcc0 hN hI ((sgS_it hkne hbq (by omega) (by omega)).trans (sgI_sl (by omega) hwy (by omega) (by omega) hln)) (RM_line hR2 hlt0 (by omega) (by omega)) (by omega)
                          exact ih26 y4_26 _ e4_26 zq36 _ tq38 y2_26 _ e2_26 (ui Mq160 66 b2_26.toNat zq173) (by omega) hF.1 hG Iq176 frq177 cyq178 cyq179 (by omega)
                    · refine g_aload_n X 6 rfl dX7_sings_207 ?_
                      refine g_iconst X 2 dX7_sings_208 (by decide) ?_
                      refine g_callV X m_X7_247 (c_X7_chooses_F ad (ui M_26 66 b2_26.toNat zq25) 2 (show (2 : Int32).toInt = 2 by decide) Iq28 (by omega) (show 0 ≤ (M_26.2 47 34).toInt by omega) cyq30) rfl (by decide) (Nat.le_of_ble_eq_true rfl) rfl dX7_sings_209 ?_
                      rintro _ Mq186 ⟨rq180, aq181, rfl, tq182, hq183, cyq184, hq185, Iq187, frq188⟩
                      have frq189 : Fr W_X7_sings_F Mq Mq186 := frq29.trans frq188 rfl
                      have cyq190 : WFM Mq186 := WFM_fr cyq31 frq188 rfl
                      have trq191 : (Mq186.1 47 12).toInt = (M_26.1 47 12).toInt := congrArg Int32.toInt (frq188.at 47 12 rfl)
                      have trq192 : (Mq186.1 47 33).toInt = (M_26.1 47 33).toInt := congrArg Int32.toInt (frq188.at 47 33 rfl)
                      have hq193 : aq181 = ((ui M_26 66 b2_26.toNat zq25).2 47 34).toInt % 2 ∧ 0 ≤ aq181 ∧ aq181 < 2 := hq183
                      clear hq183
                      have r0 : R6 M_26 Mq186 (b2_26).toNat _ := R6_fr r0 frq188 rfl
                      have hc1 := hq193
                      have z34 : (Mq186.2 47 34).toInt = (M_26.2 47 34).toInt / 2 := hq185
                      rw [r34] at z34
                      have hc3 : aq181 = (M_26.2 47 34).toInt % 2 := hc1.1
                      rw [r34] at hc3
                      have hR2 := RM_ch hR1 frq188 z34
                      show G Γ Mq186 212 [(3, .int zq36), (7, .int (M_26.1 61 (((60 * ((M_26.1 65 b2_26.toNat).toInt)) + ((M_26.1 66 b2_26.toNat).toInt)).toNat))), (6, .int (M_26.1 66 b2_26.toNat)), (5, .int (M_26.1 65 b2_26.toNat)), (4, .int y4_26), (2, .int y2_26), (0, .ref (ad 47)), (1, .int x1)] [.int rq180]
                      refine g_if_ne X tq182 (tgt := 431) dX7_sings_212 (by decide) (fun cq194 => ?_) (fun cq194 => ?_)
                      · refine g_goto X (tgt := 26) dX7_sings_431 (by decide) ?_
                        refine g_sub [4, 0, 5, 6, 7] rfl ?_
                        have hF : SIM Mq186 b2_26 b4_26 ∧ mS Mq186 b2_26 (b3_26 + 1) b4_26 < mS M_26 b2_26 b3_26 b4_26 := by first | exact hT | (have r9 : R6 M_26 Mq186 (b2_26).toNat _ := (by first | exact r0 | exact R6_ui (R6_ui r0 rfl) rfl); have hS9 : SIM Mq186 b2_26 b4_26 := T_adv hwf i2 h0 r9 (by assumption) (by omega) ⟨by rw [htx]; omega, by rw [htx]; omega⟩; first | exact ⟨hS9, mS_mv i2 I_26 h0 (by omega) r9 (by assumption) (by omega) (by omega)⟩ | exact ⟨hS9, mS_item i2 I_26 hS9 Iq187 (by omega)⟩) | exact T_pop cyq190 I_26 i2 h0 (by omega) (by omega)
                        have hG : SGM pp td ([(a1.toNat, 0, [])], (Mq.2 47 34).toInt, 0, []) Mq186 b2_26 (b3_26 + 1) b4_26 := by first | exact hGa | (have hq9 : ((M_26.1 61 (((60 * ((M_26.1 65 b2_26.toNat).toInt)) + ((M_26.1 66 b2_26.toNat).toInt)).toNat)).toInt) = 93 := (by assumption); exact SGM_step hTT hh hcc0 hN hI (sgS_cl hkne hbq (by omega)) (hR1) (by omega)) | (have hq9 : ((M_26.1 61 (((60 * ((M_26.1 65 b2_26.toNat).toInt)) + ((M_26.1 66 b2_26.toNat).toInt)).toNat)).toInt) = 41 := (by assumption); exact SGM_step hTT hh hcc0 hN hI (sgS_cl hkne hbq (by omega)) (hR1) (by omega)) | (have hq9 : ((M_26.1 61 (((60 * ((M_26.1 65 b2_26.toNat).toInt)) + ((M_26.1 66 b2_26.toNat).toInt)).toNat)).toInt) = 91 := (by assumption); first | exact SGM_step hTT hh hcc0 hN hI ((sgS_it hkne hbq (by omega) (by omega)).trans (sgI_91n (by omega) (by omega))) (hR2) (by omega) | exact SGM_step hTT hh hcc0 hN hI ((sgS_it hkne hbq (by omega) (by omega)).trans (sgI_91y (by omega) (by omega))) (RM_66 hR2 (by omega)) (by omega)) | (have hq9 : ((M_26.1 61 (((60 * ((M_26.1 65 b2_26.toNat).toInt)) + ((M_26.1 66 b2_26.toNat).toInt)).toNat)).toInt) = 40 := (by assumption); first | exact SGM_step hTT hh hcc0 hN hI ((sgS_it hkne hbq (by omega) (by omega)).trans (sgI_40n (by omega) (by omega))) (hR2) (by omega) | exact SGM_step hTT hh hcc0 hN hI ((sgS_it hkne hbq (by omega) (by omega)).trans (sgI_40y (by omega) (by omega))) (RM_66 hR2 (by omega)) (by omega)) | (have hq9 : ((M_26.1 61 (((60 * ((M_26.1 65 b2_26.toNat).toInt)) + ((M_26.1 66 b2_26.toNat).toInt)).toNat)).toInt) = 123 := (by assumption); first | exact SGM_step hTT hh hcc0 hN hI ((sgS_it hkne hbq (by omega) (by omega)).trans (sgI_0 (by omega) (by omega))) (RM_66 hR2 (by omega)) (by omega) | exact SGM_step hTT hh hcc0 hN hI ((sgS_it hkne hbq (by omega) (by omega)).trans (sgI_1 (by omega) (by omega))) (RM_open hR2 (by omega) (by omega)) (by omega)) | (have hq9 : 65 ≤ ((M_26.1 61 (((60 * ((M_26.1 65 b2_26.toNat).toInt)) + ((M_26.1 66 b2_26.toNat).toInt)).toNat)).toInt) ∧ ((M_26.1 61 (((60 * ((M_26.1 65 b2_26.toNat).toInt)) + ((M_26.1 66 b2_26.toNat).toInt)).toNat)).toInt) ≤ 72 := (by assumption); exact SGM_step hTT hh hcc0 hN hI ((sgS_it hkne hbq (by omega) (by omega)).trans (sgI_scene (by omega))) (RM_call hR1 (by omega) (by decide)) (by omega)) | exact SGM_step hTT hh hcc0 hN hI ((sgS_it hkne hbq (by omega) (by omega)).trans (sgI_sl (by omega) hwy (by omega) (by omega) hln)) (RM_line hR2 hlt0 (by omega) (by omega)) (by omega)
                        exact ih26 y4_26 _ e4_26 zq36 _ tq38 y2_26 _ e2_26 Mq186 (by omega) hF.1 hG Iq187 frq189 cyq184 cyq190 (by omega)
                      · refine g_aload_n X 6 rfl dX7_sings_215 ?_
                        refine g_getr X f_X7_68 dX7_sings_216 ?_
                        refine g_iload_n X 5 rfl dX7_sings_219 ?_
                        have hx1 := r0.1
                        have hw1 : skN (txt Mq186 (((M_26.1 65 b2_26.toNat).toInt)).toNat) ((Mq186.1 62 (((M_26.1 65 b2_26.toNat).toInt)).toNat).toInt).toNat = some [] := (cyq190 _ (by omega) (by rw [hx1.2.2]; exact ha2)).1
                        have h62 : (Mq186.1 62 (((M_26.1 65 b2_26.toNat).toInt)).toNat).toInt = (M_26.1 62 (((M_26.1 65 b2_26.toNat).toInt)).toNat).toInt := congrFun hx1.2.1 _
                        have hS1 : skN (txt Mq186 (((M_26.1 65 b2_26.toNat).toInt)).toNat) (((M_26.1 66 b2_26.toNat).toInt)).toNat = some s0 := by rw [hx1.1]; exact hs0
                        have hc61 : (Mq186.1 61 (60 * ((M_26.1 65 b2_26.toNat).toInt) + ((M_26.1 66 b2_26.toNat).toInt)).toNat).toInt = (M_26.1 61 (60 * ((M_26.1 65 b2_26.toNat).toInt) + ((M_26.1 66 b2_26.toNat).toInt)).toNat).toInt := by rw [← txt_at (by omega) (by omega), hx1.1, txt_at (by omega) (by omega)]
                        refine g_aload_n X 6 rfl dX7_sings_220 ?_
                        refine g_iload X 3 rfl dX7_sings_221 ?_
                        refine g_iload X 2 rfl dX7_sings_223 ?_
                        refine g_callV X m_X7_251 (c_X7_behind_F ad Mq186 (M_26.1 65 b2_26.toNat) rfl (M_26.1 66 b2_26.toNat) rfl Iq187 (by omega) hw1 (by omega) hS1 (by omega) (by rw [hx1.1, h62]; exact hVt)) rfl (by decide) (Nat.le_of_ble_eq_true rfl) rfl dX7_sings_225 ?_
                        rintro _ _ ⟨rq195, aq196, rfl, tq197, hq198, rfl⟩
                        obtain ⟨hk0, hk1, s2, hk2, hk3⟩ := (hq198).1
                        rw [hx1.1] at hk2
                        have hk4 : skN (txt M_26 (((M_26.1 65 b2_26.toNat).toInt)).toNat) (aq196 + 1).toNat = some s2 := by rw [show (aq196 + 1).toNat = aq196.toNat + 1 by omega]; exact hk2
                        have hk5 : EQV s0 s2 := EQV_of hk3
                        have hma := (hq198).2
                        rw [hx1.1] at hma
                        have hem : aq196 = pp.2.2.1 xq kq.toNat := MT_eq hVq hkn (by rw [hbq]; unfold obC; omega) (by omega) (by rw [hPM.1, ← eX, ← eK]; exact hma)
                        show G Γ Mq186 228 [(3, .int zq36), (7, .int (M_26.1 61 (((60 * ((M_26.1 65 b2_26.toNat).toInt)) + ((M_26.1 66 b2_26.toNat).toInt)).toNat))), (6, .int (M_26.1 66 b2_26.toNat)), (5, .int (M_26.1 65 b2_26.toNat)), (4, .int y4_26), (2, .int y2_26), (0, .ref (ad 47)), (1, .int x1)] [.int rq195, .int y2_26, .ref (ad 66)]
                        refine g_iconst X 1 dX7_sings_228 (by decide) ?_
                        refine g_iadd X dX7_sings_229 (fun zq199 eq200 => ?_)
                        have tq201 : zq199.toInt = aq196 + 1 := add_nw eq200 tq197 (show (1 : Int32).toInt = 1 by decide) (by omega)
                        refine g_iast X la_66 e2_26 dX7_sings_230 (by omega) ?_
                        have Iq202 : Iv TM (ui Mq186 66 b2_26.toNat zq199) := Iq187.otherA rfl
                        have frq203 : Fr W_X7_sings_F Mq (ui Mq186 66 b2_26.toNat zq199) := frq189.ui rfl
                        have cyq204 : 0 ≤ ((ui Mq186 66 b2_26.toNat zq199).2 47 34).toInt := numM_fr cyq184 (Fr.ui (W := [(66, 99)]) Fr.rf rfl) rfl
                        have cyq205 : WFM (ui Mq186 66 b2_26.toNat zq199) := WFM_fr cyq190 (Fr.ui (W := [(66, 99)]) Fr.rf rfl) rfl
                        have r0 : R6 M_26 (ui Mq186 66 b2_26.toNat zq199) (b2_26).toNat _ := R6_set r0
                        have hS9 : SIM (ui Mq186 66 b2_26.toNat zq199) b2_26 b4_26 := T_mv i2 h0 r0 (by assumption) hs0 (by omega) hk4 hk5
                        have hT : SIM (ui Mq186 66 b2_26.toNat zq199) b2_26 b4_26 ∧ mS (ui Mq186 66 b2_26.toNat zq199) b2_26 (b3_26 + 1) b4_26 < mS M_26 b2_26 b3_26 b4_26 := ⟨hS9, mS_item i2 I_26 hS9 Iq202 (by omega)⟩
                        refine g_goto X (tgt := 431) dX7_sings_231 (by decide) ?_
                        refine g_goto X (tgt := 26) dX7_sings_431 (by decide) ?_
                        refine g_sub [4, 0, 5, 6, 7] rfl ?_
                        have hF : SIM (ui Mq186 66 b2_26.toNat zq199) b2_26 b4_26 ∧ mS (ui Mq186 66 b2_26.toNat zq199) b2_26 (b3_26 + 1) b4_26 < mS M_26 b2_26 b3_26 b4_26 := by first | exact hT | (have r9 : R6 M_26 (ui Mq186 66 b2_26.toNat zq199) (b2_26).toNat _ := (by first | exact r0 | exact R6_ui (R6_ui r0 rfl) rfl); have hS9 : SIM (ui Mq186 66 b2_26.toNat zq199) b2_26 b4_26 := T_adv hwf i2 h0 r9 (by assumption) (by omega) ⟨by rw [htx]; omega, by rw [htx]; omega⟩; first | exact ⟨hS9, mS_mv i2 I_26 h0 (by omega) r9 (by assumption) (by omega) (by omega)⟩ | exact ⟨hS9, mS_item i2 I_26 hS9 Iq202 (by omega)⟩) | exact T_pop cyq205 I_26 i2 h0 (by omega) (by omega)
                        have hG : SGM pp td ([(a1.toNat, 0, [])], (Mq.2 47 34).toInt, 0, []) (ui Mq186 66 b2_26.toNat zq199) b2_26 (b3_26 + 1) b4_26 := by first | exact hGa | (have hq9 : ((M_26.1 61 (((60 * ((M_26.1 65 b2_26.toNat).toInt)) + ((M_26.1 66 b2_26.toNat).toInt)).toNat)).toInt) = 93 := (by assumption); exact SGM_step hTT hh hcc0 hN hI (sgS_cl hkne hbq (by omega)) (hR1) (by omega)) | (have hq9 : ((M_26.1 61 (((60 * ((M_26.1 65 b2_26.toNat).toInt)) + ((M_26.1 66 b2_26.toNat).toInt)).toNat)).toInt) = 41 := (by assumption); exact SGM_step hTT hh hcc0 hN hI (sgS_cl hkne hbq (by omega)) (hR1) (by omega)) | (have hq9 : ((M_26.1 61 (((60 * ((M_26.1 65 b2_26.toNat).toInt)) + ((M_26.1 66 b2_26.toNat).toInt)).toNat)).toInt) = 91 := (by assumption); first | exact SGM_step hTT hh hcc0 hN hI ((sgS_it hkne hbq (by omega) (by omega)).trans (sgI_91n (by omega) (by omega))) (hR2) (by omega) | exact SGM_step hTT hh hcc0 hN hI ((sgS_it hkne hbq (by omega) (by omega)).trans (sgI_91y (by omega) (by omega))) (RM_66 hR2 (by omega)) (by omega)) | (have hq9 : ((M_26.1 61 (((60 * ((M_26.1 65 b2_26.toNat).toInt)) + ((M_26.1 66 b2_26.toNat).toInt)).toNat)).toInt) = 40 := (by assumption); first | exact SGM_step hTT hh hcc0 hN hI ((sgS_it hkne hbq (by omega) (by omega)).trans (sgI_40n (by omega) (by omega))) (hR2) (by omega) | exact SGM_step hTT hh hcc0 hN hI ((sgS_it hkne hbq (by omega) (by omega)).trans (sgI_40y (by omega) (by omega))) (RM_66 hR2 (by omega)) (by omega)) | (have hq9 : ((M_26.1 61 (((60 * ((M_26.1 65 b2_26.toNat).toInt)) + ((M_26.1 66 b2_26.toNat).toInt)).toNat)).toInt) = 123 := (by assumption); first | exact SGM_step hTT hh hcc0 hN hI ((sgS_it hkne hbq (by omega) (by omega)).trans (sgI_0 (by omega) (by omega))) (RM_66 hR2 (by omega)) (by omega) | exact SGM_step hTT hh hcc0 hN hI ((sgS_it hkne hbq (by omega) (by omega)).trans (sgI_1 (by omega) (by omega))) (RM_open hR2 (by omega) (by omega)) (by omega)) | (have hq9 : 65 ≤ ((M_26.1 61 (((60 * ((M_26.1 65 b2_26.toNat).toInt)) + ((M_26.1 66 b2_26.toNat).toInt)).toNat)).toInt) ∧ ((M_26.1 61 (((60 * ((M_26.1 65 b2_26.toNat).toInt)) + ((M_26.1 66 b2_26.toNat).toInt)).toNat)).toInt) ≤ 72 := (by assumption); exact SGM_step hTT hh hcc0 hN hI ((sgS_it hkne hbq (by omega) (by omega)).trans (sgI_scene (by omega))) (RM_call hR1 (by omega) (by decide)) (by omega)) | exact SGM_step hTT hh hcc0 hN hI ((sgS_it hkne hbq (by omega) (by omega)).trans (sgI_sl (by omega) hwy (by omega) (by omega) hln)) (RM_line hR2 hlt0 (by omega) (by omega)) (by omega)
                        exact ih26 y4_26 _ e4_26 zq36 _ tq38 y2_26 _ e2_26 (ui Mq186 66 b2_26.toNat zq199) (by omega) hF.1 hG Iq202 frq203 cyq204 cyq205 (by omega)
                  · refine g_iconst X 0 dX7_sings_198 (by decide) ?_
                    exact g_zret X (b01 (show (0 : Int32).toInt = 0 by decide) (by omega)) dX7_sings_199 ⟨_, _, rfl, (show (0 : Int32).toInt = 0 by decide), (by omega), cyq30, (Or.inr ⟨rfl, SGM_fail hN (sgS_full hkne hbq (by omega) (by omega))⟩), Iq28, frq29⟩
                · obtain ⟨bb, hb1, hb2, hb3, hb4, hb5⟩ := T_brace hwf i2 h0 (by omega) (by rw [htx]; omega)
                  obtain ⟨qb, lb, Lb, eLb, hlb, hqb⟩ := SG_br hTT hI (by omega) (by rw [hbq]; omega)
                  subst eLb
                  obtain ⟨u0, u1, u2, -⟩ := RM_lp hR
                  refine g_aload_n X 6 rfl dX7_sings_139 ?_
                  refine g_getr X f_X7_71 dX7_sings_140 ?_
                  refine g_iload X 3 rfl dX7_sings_143 ?_
                  refine g_iconst X 1 dX7_sings_145 (by decide) ?_
                  refine g_isub X dX7_sings_146 (fun zq206 eq207 => ?_)
                  have tq208 : zq206.toInt = b4_26 - 1 := sub_nw eq207 e4_26 (show (1 : Int32).toInt = 1 by decide) (by omega)
                  refine g_dup2 X dX7_sings_147 rfl rfl ?_
                  refine g_iald X la_67 tq208 dX7_sings_148 (by omega) (x := M_26.1 67 ((b4_26 - 1).toNat)) rfl ?_
                  refine g_iconst X 1 dX7_sings_149 (by decide) ?_
                  refine g_isub X dX7_sings_150 (fun zq209 eq210 => ?_)
                  have tq211 : zq209.toInt = ((M_26.1 67 ((b4_26 - 1).toNat)).toInt) - 1 := sub_nw eq210 rfl (show (1 : Int32).toInt = 1 by decide) (by omega)
                  refine g_iast X la_67 tq208 dX7_sings_151 (by omega) ?_
                  have Iq212 : Iv TM (ui (ui M_26 66 b2_26.toNat zq25) 67 ((b4_26 - 1).toNat) zq209) := Iq28.otherA rfl
                  have frq213 : Fr W_X7_sings_F Mq (ui (ui M_26 66 b2_26.toNat zq25) 67 ((b4_26 - 1).toNat) zq209) := frq29.ui rfl
                  have cyq214 : 0 ≤ ((ui (ui M_26 66 b2_26.toNat zq25) 67 ((b4_26 - 1).toNat) zq209).2 47 34).toInt := numM_fr cyq30 (Fr.ui (W := [(67, 99)]) Fr.rf rfl) rfl
                  have cyq215 : WFM (ui (ui M_26 66 b2_26.toNat zq25) 67 ((b4_26 - 1).toNat) zq209) := WFM_fr cyq31 (Fr.ui (W := [(67, 99)]) Fr.rf rfl) rfl
                  refine g_aload_n X 6 rfl dX7_sings_152 ?_
                  refine g_getr X f_X7_71 dX7_sings_153 ?_
                  refine g_iload X 3 rfl dX7_sings_156 ?_
                  refine g_iconst X 1 dX7_sings_158 (by decide) ?_
                  refine g_isub X dX7_sings_159 (fun zq216 eq217 => ?_)
                  have tq218 : zq216.toInt = b4_26 - 1 := sub_nw eq217 e4_26 (show (1 : Int32).toInt = 1 by decide) (by omega)
                  refine g_iald X la_67 tq218 dX7_sings_160 (by omega) (x := zq209) (by first | rfl | (repeat (first | rw [ui_eq] | rw [ui_nk (by decide)]))) ?_
                  refine g_if_le X tq211 (tgt := 182) dX7_sings_161 (by decide) (fun cq219 => ?_) (fun cq219 => ?_)
                  · refine g_iinc X 3 (fun v => [(4, .int v), (7, .int (M_26.1 61 (((60 * ((M_26.1 65 b2_26.toNat).toInt)) + ((M_26.1 66 b2_26.toNat).toInt)).toNat))), (6, .int (M_26.1 66 b2_26.toNat)), (5, .int (M_26.1 65 b2_26.toNat)), (3, .int y3_26), (2, .int y2_26), (0, .ref (ad 47)), (1, .int x1)]) dX7_sings_182 rfl (by decide) (fun _ => rfl) (fun zq220 eq221 => ?_)
                    have tq222 : zq220.toInt = b4_26 + (-1) := add_nw eq221 e4_26 (show (Int32.ofInt (-1)).toInt = (-1) by decide) (by omega)
                    have hGa : SGM pp td ([(a1.toNat, 0, [])], (Mq.2 47 34).toInt, 0, []) (ui (ui M_26 66 b2_26.toNat zq25) 67 ((b4_26 - 1).toNat) zq209) b2_26 b3_26 (b4_26 + (-1)) := SGM_step hTT hh hcc0 hN hI ((sgS_br hkne hbq (by omega)).trans (sgB_n (by omega))) (RM_drop (RM_dec (l' := lb - 1) hR1 (by omega)) (by omega)) rfl
                    have hT : SIM (ui (ui M_26 66 b2_26.toNat zq25) 67 ((b4_26 - 1).toNat) zq209) b2_26 (b4_26 + (-1)) ∧ mS (ui (ui M_26 66 b2_26.toNat zq25) 67 ((b4_26 - 1).toNat) zq209) b2_26 b3_26 (b4_26 + (-1)) < mS M_26 b2_26 b3_26 b4_26 := ⟨(T_end i2 I_26 h0 (gone := b3_26) (by omega) hb1 hb2 hb3 r0 (by assumption) (by omega) hb4.1).1, (T_end i2 I_26 h0 (gone := b3_26) (by omega) hb1 hb2 hb3 r0 (by assumption) (by omega) hb4.1).2 Iq212⟩
                    refine g_goto X (tgt := 26) dX7_sings_185 (by decide) ?_
                    refine g_sub [0, 4, 5, 6, 7] rfl ?_
                    have hF : SIM (ui (ui M_26 66 b2_26.toNat zq25) 67 ((b4_26 - 1).toNat) zq209) b2_26 (b4_26 + (-1)) ∧ mS (ui (ui M_26 66 b2_26.toNat zq25) 67 ((b4_26 - 1).toNat) zq209) b2_26 b3_26 (b4_26 + (-1)) < mS M_26 b2_26 b3_26 b4_26 := by first | exact hT | (have r9 : R6 M_26 (ui (ui M_26 66 b2_26.toNat zq25) 67 ((b4_26 - 1).toNat) zq209) (b2_26).toNat _ := (by first | exact r0 | exact R6_ui (R6_ui r0 rfl) rfl); have hS9 : SIM (ui (ui M_26 66 b2_26.toNat zq25) 67 ((b4_26 - 1).toNat) zq209) b2_26 (b4_26 + (-1)) := T_adv hwf i2 h0 r9 (by assumption) (by omega) ⟨by rw [htx]; omega, by rw [htx]; omega⟩; first | exact ⟨hS9, mS_mv i2 I_26 h0 (by omega) r9 (by assumption) (by omega) (by omega)⟩ | exact ⟨hS9, mS_item i2 I_26 hS9 Iq212 (by omega)⟩) | exact T_pop cyq215 I_26 i2 h0 (by omega) (by omega)
                    have hG : SGM pp td ([(a1.toNat, 0, [])], (Mq.2 47 34).toInt, 0, []) (ui (ui M_26 66 b2_26.toNat zq25) 67 ((b4_26 - 1).toNat) zq209) b2_26 b3_26 (b4_26 + (-1)) := by first | exact hGa | (have hq9 : ((M_26.1 61 (((60 * ((M_26.1 65 b2_26.toNat).toInt)) + ((M_26.1 66 b2_26.toNat).toInt)).toNat)).toInt) = 93 := (by assumption); exact SGM_step hTT hh hcc0 hN hI (sgS_cl hkne hbq (by omega)) (hR1) (by omega)) | (have hq9 : ((M_26.1 61 (((60 * ((M_26.1 65 b2_26.toNat).toInt)) + ((M_26.1 66 b2_26.toNat).toInt)).toNat)).toInt) = 41 := (by assumption); exact SGM_step hTT hh hcc0 hN hI (sgS_cl hkne hbq (by omega)) (hR1) (by omega)) | (have hq9 : ((M_26.1 61 (((60 * ((M_26.1 65 b2_26.toNat).toInt)) + ((M_26.1 66 b2_26.toNat).toInt)).toNat)).toInt) = 91 := (by assumption); first | exact SGM_step hTT hh hcc0 hN hI ((sgS_it hkne hbq (by omega) (by omega)).trans (sgI_91n (by omega) (by omega))) (hR2) (by omega) | exact SGM_step hTT hh hcc0 hN hI ((sgS_it hkne hbq (by omega) (by omega)).trans (sgI_91y (by omega) (by omega))) (RM_66 hR2 (by omega)) (by omega)) | (have hq9 : ((M_26.1 61 (((60 * ((M_26.1 65 b2_26.toNat).toInt)) + ((M_26.1 66 b2_26.toNat).toInt)).toNat)).toInt) = 40 := (by assumption); first | exact SGM_step hTT hh hcc0 hN hI ((sgS_it hkne hbq (by omega) (by omega)).trans (sgI_40n (by omega) (by omega))) (hR2) (by omega) | exact SGM_step hTT hh hcc0 hN hI ((sgS_it hkne hbq (by omega) (by omega)).trans (sgI_40y (by omega) (by omega))) (RM_66 hR2 (by omega)) (by omega)) | (have hq9 : ((M_26.1 61 (((60 * ((M_26.1 65 b2_26.toNat).toInt)) + ((M_26.1 66 b2_26.toNat).toInt)).toNat)).toInt) = 123 := (by assumption); first | exact SGM_step hTT hh hcc0 hN hI ((sgS_it hkne hbq (by omega) (by omega)).trans (sgI_0 (by omega) (by omega))) (RM_66 hR2 (by omega)) (by omega) | exact SGM_step hTT hh hcc0 hN hI ((sgS_it hkne hbq (by omega) (by omega)).trans (sgI_1 (by omega) (by omega))) (RM_open hR2 (by omega) (by omega)) (by omega)) | (have hq9 : 65 ≤ ((M_26.1 61 (((60 * ((M_26.1 65 b2_26.toNat).toInt)) + ((M_26.1 66 b2_26.toNat).toInt)).toNat)).toInt) ∧ ((M_26.1 61 (((60 * ((M_26.1 65 b2_26.toNat).toInt)) + ((M_26.1 66 b2_26.toNat).toInt)).toNat)).toInt) ≤ 72 := (by assumption); exact SGM_step hTT hh hcc0 hN hI ((sgS_it hkne hbq (by omega) (by omega)).trans (sgI_scene (by omega))) (RM_call hR1 (by omega) (by decide)) (by omega)) | exact SGM_step hTT hh hcc0 hN hI ((sgS_it hkne hbq (by omega) (by omega)).trans (sgI_sl (by omega) hwy (by omega) (by omega) hln)) (RM_line hR2 hlt0 (by omega) (by omega)) (by omega)
                    exact ih26 zq220 _ tq222 y3_26 _ e3_26 y2_26 _ e2_26 (ui (ui M_26 66 b2_26.toNat zq25) 67 ((b4_26 - 1).toNat) zq209) (by omega) hF.1 hG Iq212 frq213 cyq214 cyq215 (by omega)
                  · refine g_aload_n X 6 rfl dX7_sings_164 ?_
                    refine g_getr X f_X7_68 dX7_sings_165 ?_
                    refine g_iload_n X 5 rfl dX7_sings_168 ?_
                    refine g_aload_n X 6 rfl dX7_sings_169 ?_
                    refine g_getr X f_X7_74 dX7_sings_170 ?_
                    refine g_iload X 3 rfl dX7_sings_173 ?_
                    refine g_iconst X 1 dX7_sings_175 (by decide) ?_
                    refine g_isub X dX7_sings_176 (fun zq223 eq224 => ?_)
                    have tq225 : zq223.toInt = b4_26 - 1 := sub_nw eq224 e4_26 (show (1 : Int32).toInt = 1 by decide) (by omega)
                    refine g_iald X la_68 tq225 dX7_sings_177 (by omega) (x := M_26.1 68 ((b4_26 - 1).toNat)) rfl ?_
                    refine g_iast X la_66 e2_26 dX7_sings_178 (by omega) ?_
                    have Iq226 : Iv TM (ui (ui (ui M_26 66 b2_26.toNat zq25) 67 ((b4_26 - 1).toNat) zq209) 66 b2_26.toNat (M_26.1 68 ((b4_26 - 1).toNat))) := Iq212.otherA rfl
                    have frq227 : Fr W_X7_sings_F Mq (ui (ui (ui M_26 66 b2_26.toNat zq25) 67 ((b4_26 - 1).toNat) zq209) 66 b2_26.toNat (M_26.1 68 ((b4_26 - 1).toNat))) := frq213.ui rfl
                    have cyq228 : 0 ≤ ((ui (ui (ui M_26 66 b2_26.toNat zq25) 67 ((b4_26 - 1).toNat) zq209) 66 b2_26.toNat (M_26.1 68 ((b4_26 - 1).toNat))).2 47 34).toInt := numM_fr cyq214 (Fr.ui (W := [(66, 99)]) Fr.rf rfl) rfl
                    have cyq229 : WFM (ui (ui (ui M_26 66 b2_26.toNat zq25) 67 ((b4_26 - 1).toNat) zq209) 66 b2_26.toNat (M_26.1 68 ((b4_26 - 1).toNat))) := WFM_fr cyq215 (Fr.ui (W := [(66, 99)]) Fr.rf rfl) rfl
                    have hGa : SGM pp td ([(a1.toNat, 0, [])], (Mq.2 47 34).toInt, 0, []) (ui (ui (ui M_26 66 b2_26.toNat zq25) 67 ((b4_26 - 1).toNat) zq209) 66 b2_26.toNat (M_26.1 68 ((b4_26 - 1).toNat))) b2_26 b3_26 b4_26 := SGM_step hTT hh hcc0 hN hI ((sgS_br hkne hbq (by omega)).trans (sgB_y (by omega))) (RM_66 (RM_dec hR1 (by omega)) (by omega)) rfl
                    have hT : SIM (ui (ui (ui M_26 66 b2_26.toNat zq25) 67 ((b4_26 - 1).toNat) zq209) 66 b2_26.toNat (M_26.1 68 ((b4_26 - 1).toNat))) b2_26 b4_26 ∧ mS (ui (ui (ui M_26 66 b2_26.toNat zq25) 67 ((b4_26 - 1).toNat) zq209) 66 b2_26.toNat (M_26.1 68 ((b4_26 - 1).toNat))) b2_26 b3_26 b4_26 < mS M_26 b2_26 b3_26 b4_26 := ⟨(T_jump i2 I_26 h0 (gone := b3_26) (by omega) hb1 hb3 r0 (by assumption) (by omega) hb4.2 rfl).1, (T_jump i2 I_26 h0 (gone := b3_26) (by omega) hb1 hb3 r0 (by assumption) (by omega) hb4.2 rfl).2 Iq226⟩
                    refine g_goto X (tgt := 26) dX7_sings_179 (by decide) ?_
                    refine g_sub [3, 4, 5, 6, 7] rfl ?_
                    have hF : SIM (ui (ui (ui M_26 66 b2_26.toNat zq25) 67 ((b4_26 - 1).toNat) zq209) 66 b2_26.toNat (M_26.1 68 ((b4_26 - 1).toNat))) b2_26 b4_26 ∧ mS (ui (ui (ui M_26 66 b2_26.toNat zq25) 67 ((b4_26 - 1).toNat) zq209) 66 b2_26.toNat (M_26.1 68 ((b4_26 - 1).toNat))) b2_26 b3_26 b4_26 < mS M_26 b2_26 b3_26 b4_26 := by first | exact hT | (have r9 : R6 M_26 (ui (ui (ui M_26 66 b2_26.toNat zq25) 67 ((b4_26 - 1).toNat) zq209) 66 b2_26.toNat (M_26.1 68 ((b4_26 - 1).toNat))) (b2_26).toNat _ := (by first | exact r0 | exact R6_ui (R6_ui r0 rfl) rfl); have hS9 : SIM (ui (ui (ui M_26 66 b2_26.toNat zq25) 67 ((b4_26 - 1).toNat) zq209) 66 b2_26.toNat (M_26.1 68 ((b4_26 - 1).toNat))) b2_26 b4_26 := T_adv hwf i2 h0 r9 (by assumption) (by omega) ⟨by rw [htx]; omega, by rw [htx]; omega⟩; first | exact ⟨hS9, mS_mv i2 I_26 h0 (by omega) r9 (by assumption) (by omega) (by omega)⟩ | exact ⟨hS9, mS_item i2 I_26 hS9 Iq226 (by omega)⟩) | exact T_pop cyq229 I_26 i2 h0 (by omega) (by omega)
                    have hG : SGM pp td ([(a1.toNat, 0, [])], (Mq.2 47 34).toInt, 0, []) (ui (ui (ui M_26 66 b2_26.toNat zq25) 67 ((b4_26 - 1).toNat) zq209) 66 b2_26.toNat (M_26.1 68 ((b4_26 - 1).toNat))) b2_26 b3_26 b4_26 := by first | exact hGa | (have hq9 : ((M_26.1 61 (((60 * ((M_26.1 65 b2_26.toNat).toInt)) + ((M_26.1 66 b2_26.toNat).toInt)).toNat)).toInt) = 93 := (by assumption); exact SGM_step hTT hh hcc0 hN hI (sgS_cl hkne hbq (by omega)) (hR1) (by omega)) | (have hq9 : ((M_26.1 61 (((60 * ((M_26.1 65 b2_26.toNat).toInt)) + ((M_26.1 66 b2_26.toNat).toInt)).toNat)).toInt) = 41 := (by assumption); exact SGM_step hTT hh hcc0 hN hI (sgS_cl hkne hbq (by omega)) (hR1) (by omega)) | (have hq9 : ((M_26.1 61 (((60 * ((M_26.1 65 b2_26.toNat).toInt)) + ((M_26.1 66 b2_26.toNat).toInt)).toNat)).toInt) = 91 := (by assumption); first | exact SGM_step hTT hh hcc0 hN hI ((sgS_it hkne hbq (by omega) (by omega)).trans (sgI_91n (by omega) (by omega))) (hR2) (by omega) | exact SGM_step hTT hh hcc0 hN hI ((sgS_it hkne hbq (by omega) (by omega)).trans (sgI_91y (by omega) (by omega))) (RM_66 hR2 (by omega)) (by omega)) | (have hq9 : ((M_26.1 61 (((60 * ((M_26.1 65 b2_26.toNat).toInt)) + ((M_26.1 66 b2_26.toNat).toInt)).toNat)).toInt) = 40 := (by assumption); first | exact SGM_step hTT hh hcc0 hN hI ((sgS_it hkne hbq (by omega) (by omega)).trans (sgI_40n (by omega) (by omega))) (hR2) (by omega) | exact SGM_step hTT hh hcc0 hN hI ((sgS_it hkne hbq (by omega) (by omega)).trans (sgI_40y (by omega) (by omega))) (RM_66 hR2 (by omega)) (by omega)) | (have hq9 : ((M_26.1 61 (((60 * ((M_26.1 65 b2_26.toNat).toInt)) + ((M_26.1 66 b2_26.toNat).toInt)).toNat)).toInt) = 123 := (by assumption); first | exact SGM_step hTT hh hcc0 hN hI ((sgS_it hkne hbq (by omega) (by omega)).trans (sgI_0 (by omega) (by omega))) (RM_66 hR2 (by omega)) (by omega) | exact SGM_step hTT hh hcc0 hN hI ((sgS_it hkne hbq (by omega) (by omega)).trans (sgI_1 (by omega) (by omega))) (RM_open hR2 (by omega) (by omega)) (by omega)) | (have hq9 : 65 ≤ ((M_26.1 61 (((60 * ((M_26.1 65 b2_26.toNat).toInt)) + ((M_26.1 66 b2_26.toNat).toInt)).toNat)).toInt) ∧ ((M_26.1 61 (((60 * ((M_26.1 65 b2_26.toNat).toInt)) + ((M_26.1 66 b2_26.toNat).toInt)).toNat)).toInt) ≤ 72 := (by assumption); exact SGM_step hTT hh hcc0 hN hI ((sgS_it hkne hbq (by omega) (by omega)).trans (sgI_scene (by omega))) (RM_call hR1 (by omega) (by decide)) (by omega)) | exact SGM_step hTT hh hcc0 hN hI ((sgS_it hkne hbq (by omega) (by omega)).trans (sgI_sl (by omega) hwy (by omega) (by omega) hln)) (RM_line hR2 hlt0 (by omega) (by omega)) (by omega)
                    exact ih26 y4_26 _ e4_26 y3_26 _ e3_26 y2_26 _ e2_26 (ui (ui (ui M_26 66 b2_26.toNat zq25) 67 ((b4_26 - 1).toNat) zq209) 66 b2_26.toNat (M_26.1 68 ((b4_26 - 1).toNat))) (by omega) hF.1 hG Iq226 frq227 cyq228 cyq229 (by omega)
              · obtain ⟨S0, hsa, hsb⟩ := T_bar hwf i2 h0 (by omega) (by rw [htx]; omega)
                have hx1 := r0.1
                have hw1 : skN (txt (ui M_26 66 b2_26.toNat zq25) (((M_26.1 65 b2_26.toNat).toInt)).toNat) (((ui M_26 66 b2_26.toNat zq25).1 62 (((M_26.1 65 b2_26.toNat).toInt)).toNat).toInt).toNat = some [] := (cyq31 _ (by omega) (by rw [hx1.2.2]; exact ha2)).1
                have h62 : ((ui M_26 66 b2_26.toNat zq25).1 62 (((M_26.1 65 b2_26.toNat).toInt)).toNat).toInt = (M_26.1 62 (((M_26.1 65 b2_26.toNat).toInt)).toNat).toInt := congrFun hx1.2.1 _
                refine g_aload_n X 6 rfl dX7_sings_113 ?_
                refine g_getr X f_X7_68 dX7_sings_114 ?_
                refine g_iload_n X 5 rfl dX7_sings_117 ?_
                refine g_aload_n X 6 rfl dX7_sings_118 ?_
                refine g_iload X 2 rfl dX7_sings_119 ?_
                refine g_iload X 1 rfl dX7_sings_121 ?_
                refine g_callV X m_X7_244 (c_X7_endFrom_F ad (ui M_26 66 b2_26.toNat zq25) (M_26.1 65 b2_26.toNat) rfl (M_26.1 66 b2_26.toNat) rfl Iq28 (by omega) hw1 (by omega) (by rw [hx1.1]; exact hsb) (by rw [hx1.1, h62]; exact hVt) (by rw [hx1.1, htx]; omega)) rfl (by decide) (Nat.le_of_ble_eq_true rfl) rfl dX7_sings_123 ?_
                rintro _ _ ⟨rq230, aq231, rfl, tq232, hq233, rfl⟩
                have hq234 : (0 ≤ aq231 ∧ ((M_26.1 66 b2_26.toNat).toInt) < aq231 ∧ aq231 < (((ui M_26 66 b2_26.toNat zq25).1 62 ((M_26.1 65 b2_26.toNat).toInt).toNat).toInt) ∧ skN (txt (ui M_26 66 b2_26.toNat zq25) ((M_26.1 65 b2_26.toNat).toInt).toNat) (aq231.toNat + 1) = some S0) ∧ MA (txt (ui M_26 66 b2_26.toNat zq25) ((M_26.1 65 b2_26.toNat).toInt).toNat) ((M_26.1 66 b2_26.toNat).toInt).toNat aq231.toNat := hq233
                clear hq233
                have hE : skN (txt M_26 (((M_26.1 65 b2_26.toNat).toInt)).toNat) (aq231 + 1).toNat = some S0 := by rw [show (aq231 + 1).toNat = aq231.toNat + 1 by omega, ← hx1.1]; exact (hq234).1.2.2.2
                have hE2 := (hq234).1.2.1
                have hE3 := (hq234).1.2.2.1
                have hma := (hq234).2
                rw [hx1.1] at hma
                have hem : aq231 = pp.2.2.1 xq kq.toNat := MT_eq hVq hkn (by rw [hbq]; unfold obC; omega) (by omega) (by rw [hPM.1, ← eX, ← eK]; exact hma)
                show G Γ (ui M_26 66 b2_26.toNat zq25) 126 [(7, .int (M_26.1 61 (((60 * ((M_26.1 65 b2_26.toNat).toInt)) + ((M_26.1 66 b2_26.toNat).toInt)).toNat))), (6, .int (M_26.1 66 b2_26.toNat)), (5, .int (M_26.1 65 b2_26.toNat)), (4, .int y4_26), (3, .int y3_26), (2, .int y2_26), (0, .ref (ad 47)), (1, .int x1)] [.int rq230, .int y2_26, .ref (ad 66)]
                refine g_iconst X 1 dX7_sings_126 (by decide) ?_
                refine g_iadd X dX7_sings_127 (fun zq235 eq236 => ?_)
                have tq237 : zq235.toInt = aq231 + 1 := add_nw eq236 tq232 (show (1 : Int32).toInt = 1 by decide) (by omega)
                refine g_iast X la_66 e2_26 dX7_sings_128 (by omega) ?_
                have Iq238 : Iv TM (ui (ui M_26 66 b2_26.toNat zq25) 66 b2_26.toNat zq235) := Iq28.otherA rfl
                have frq239 : Fr W_X7_sings_F Mq (ui (ui M_26 66 b2_26.toNat zq25) 66 b2_26.toNat zq235) := frq29.ui rfl
                have cyq240 : 0 ≤ ((ui (ui M_26 66 b2_26.toNat zq25) 66 b2_26.toNat zq235).2 47 34).toInt := numM_fr cyq30 (Fr.ui (W := [(66, 99)]) Fr.rf rfl) rfl
                have cyq241 : WFM (ui (ui M_26 66 b2_26.toNat zq25) 66 b2_26.toNat zq235) := WFM_fr cyq31 (Fr.ui (W := [(66, 99)]) Fr.rf rfl) rfl
                have r0 : R6 M_26 (ui (ui M_26 66 b2_26.toNat zq25) 66 b2_26.toNat zq235) (b2_26).toNat _ := R6_set r0
                have hT : SIM (ui (ui M_26 66 b2_26.toNat zq25) 66 b2_26.toNat zq235) b2_26 b4_26 ∧ mS (ui (ui M_26 66 b2_26.toNat zq25) 66 b2_26.toNat zq235) b2_26 b3_26 b4_26 < mS M_26 b2_26 b3_26 b4_26 := ⟨T_mv i2 h0 r0 (by assumption) hsa (by omega) hE (EQV.drop (by decide)), mS_mv i2 I_26 h0 (by omega) r0 (by assumption) (by omega) (by omega)⟩
                have hGa : SGM pp td ([(a1.toNat, 0, [])], (Mq.2 47 34).toInt, 0, []) (ui (ui M_26 66 b2_26.toNat zq25) 66 b2_26.toNat zq235) b2_26 b3_26 b4_26 := SGM_step hTT hh hcc0 hN hI (sgS_bar hkne hbq (by omega)) (RM_66 hR1 (by omega)) rfl
                refine g_goto X (tgt := 26) dX7_sings_129 (by decide) ?_
                refine g_sub [3, 4, 5, 6, 7] rfl ?_
                have hF : SIM (ui (ui M_26 66 b2_26.toNat zq25) 66 b2_26.toNat zq235) b2_26 b4_26 ∧ mS (ui (ui M_26 66 b2_26.toNat zq25) 66 b2_26.toNat zq235) b2_26 b3_26 b4_26 < mS M_26 b2_26 b3_26 b4_26 := by first | exact hT | (have r9 : R6 M_26 (ui (ui M_26 66 b2_26.toNat zq25) 66 b2_26.toNat zq235) (b2_26).toNat _ := (by first | exact r0 | exact R6_ui (R6_ui r0 rfl) rfl); have hS9 : SIM (ui (ui M_26 66 b2_26.toNat zq25) 66 b2_26.toNat zq235) b2_26 b4_26 := T_adv hwf i2 h0 r9 (by assumption) (by omega) ⟨by rw [htx]; omega, by rw [htx]; omega⟩; first | exact ⟨hS9, mS_mv i2 I_26 h0 (by omega) r9 (by assumption) (by omega) (by omega)⟩ | exact ⟨hS9, mS_item i2 I_26 hS9 Iq238 (by omega)⟩) | exact T_pop cyq241 I_26 i2 h0 (by omega) (by omega)
                have hG : SGM pp td ([(a1.toNat, 0, [])], (Mq.2 47 34).toInt, 0, []) (ui (ui M_26 66 b2_26.toNat zq25) 66 b2_26.toNat zq235) b2_26 b3_26 b4_26 := by first | exact hGa | (have hq9 : ((M_26.1 61 (((60 * ((M_26.1 65 b2_26.toNat).toInt)) + ((M_26.1 66 b2_26.toNat).toInt)).toNat)).toInt) = 93 := (by assumption); exact SGM_step hTT hh hcc0 hN hI (sgS_cl hkne hbq (by omega)) (hR1) (by omega)) | (have hq9 : ((M_26.1 61 (((60 * ((M_26.1 65 b2_26.toNat).toInt)) + ((M_26.1 66 b2_26.toNat).toInt)).toNat)).toInt) = 41 := (by assumption); exact SGM_step hTT hh hcc0 hN hI (sgS_cl hkne hbq (by omega)) (hR1) (by omega)) | (have hq9 : ((M_26.1 61 (((60 * ((M_26.1 65 b2_26.toNat).toInt)) + ((M_26.1 66 b2_26.toNat).toInt)).toNat)).toInt) = 91 := (by assumption); first | exact SGM_step hTT hh hcc0 hN hI ((sgS_it hkne hbq (by omega) (by omega)).trans (sgI_91n (by omega) (by omega))) (hR2) (by omega) | exact SGM_step hTT hh hcc0 hN hI ((sgS_it hkne hbq (by omega) (by omega)).trans (sgI_91y (by omega) (by omega))) (RM_66 hR2 (by omega)) (by omega)) | (have hq9 : ((M_26.1 61 (((60 * ((M_26.1 65 b2_26.toNat).toInt)) + ((M_26.1 66 b2_26.toNat).toInt)).toNat)).toInt) = 40 := (by assumption); first | exact SGM_step hTT hh hcc0 hN hI ((sgS_it hkne hbq (by omega) (by omega)).trans (sgI_40n (by omega) (by omega))) (hR2) (by omega) | exact SGM_step hTT hh hcc0 hN hI ((sgS_it hkne hbq (by omega) (by omega)).trans (sgI_40y (by omega) (by omega))) (RM_66 hR2 (by omega)) (by omega)) | (have hq9 : ((M_26.1 61 (((60 * ((M_26.1 65 b2_26.toNat).toInt)) + ((M_26.1 66 b2_26.toNat).toInt)).toNat)).toInt) = 123 := (by assumption); first | exact SGM_step hTT hh hcc0 hN hI ((sgS_it hkne hbq (by omega) (by omega)).trans (sgI_0 (by omega) (by omega))) (RM_66 hR2 (by omega)) (by omega) | exact SGM_step hTT hh hcc0 hN hI ((sgS_it hkne hbq (by omega) (by omega)).trans (sgI_1 (by omega) (by omega))) (RM_open hR2 (by omega) (by omega)) (by omega)) | (have hq9 : 65 ≤ ((M_26.1 61 (((60 * ((M_26.1 65 b2_26.toNat).toInt)) + ((M_26.1 66 b2_26.toNat).toInt)).toNat)).toInt) ∧ ((M_26.1 61 (((60 * ((M_26.1 65 b2_26.toNat).toInt)) + ((M_26.1 66 b2_26.toNat).toInt)).toNat)).toInt) ≤ 72 := (by assumption); exact SGM_step hTT hh hcc0 hN hI ((sgS_it hkne hbq (by omega) (by omega)).trans (sgI_scene (by omega))) (RM_call hR1 (by omega) (by decide)) (by omega)) | exact SGM_step hTT hh hcc0 hN hI ((sgS_it hkne hbq (by omega) (by omega)).trans (sgI_sl (by omega) hwy (by omega) (by omega) hln)) (RM_line hR2 hlt0 (by omega) (by omega)) (by omega)
                exact ih26 y4_26 _ e4_26 y3_26 _ e3_26 y2_26 _ e2_26 (ui (ui M_26 66 b2_26.toNat zq25) 66 b2_26.toNat zq235) (by omega) hF.1 hG Iq238 frq239 cyq240 cyq241 (by omega)
            · refine g_goto X (tgt := 26) dX7_sings_103 (by decide) ?_
              refine g_sub [3, 4, 5, 6, 7] rfl ?_
              have hF : SIM (ui M_26 66 b2_26.toNat zq25) b2_26 b4_26 ∧ mS (ui M_26 66 b2_26.toNat zq25) b2_26 b3_26 b4_26 < mS M_26 b2_26 b3_26 b4_26 := by first | exact hT | (have r9 : R6 M_26 (ui M_26 66 b2_26.toNat zq25) (b2_26).toNat _ := (by first | exact r0 | exact R6_ui (R6_ui r0 rfl) rfl); have hS9 : SIM (ui M_26 66 b2_26.toNat zq25) b2_26 b4_26 := T_adv hwf i2 h0 r9 (by assumption) (by omega) ⟨by rw [htx]; omega, by rw [htx]; omega⟩; first | exact ⟨hS9, mS_mv i2 I_26 h0 (by omega) r9 (by assumption) (by omega) (by omega)⟩ | exact ⟨hS9, mS_item i2 I_26 hS9 Iq28 (by omega)⟩) | exact T_pop cyq31 I_26 i2 h0 (by omega) (by omega)
              have hG : SGM pp td ([(a1.toNat, 0, [])], (Mq.2 47 34).toInt, 0, []) (ui M_26 66 b2_26.toNat zq25) b2_26 b3_26 b4_26 := by first | exact hGa | (have hq9 : ((M_26.1 61 (((60 * ((M_26.1 65 b2_26.toNat).toInt)) + ((M_26.1 66 b2_26.toNat).toInt)).toNat)).toInt) = 93 := (by assumption); exact SGM_step hTT hh hcc0 hN hI (sgS_cl hkne hbq (by omega)) (hR1) (by omega)) | (have hq9 : ((M_26.1 61 (((60 * ((M_26.1 65 b2_26.toNat).toInt)) + ((M_26.1 66 b2_26.toNat).toInt)).toNat)).toInt) = 41 := (by assumption); exact SGM_step hTT hh hcc0 hN hI (sgS_cl hkne hbq (by omega)) (hR1) (by omega)) | (have hq9 : ((M_26.1 61 (((60 * ((M_26.1 65 b2_26.toNat).toInt)) + ((M_26.1 66 b2_26.toNat).toInt)).toNat)).toInt) = 91 := (by assumption); first | exact SGM_step hTT hh hcc0 hN hI ((sgS_it hkne hbq (by omega) (by omega)).trans (sgI_91n (by omega) (by omega))) (hR2) (by omega) | exact SGM_step hTT hh hcc0 hN hI ((sgS_it hkne hbq (by omega) (by omega)).trans (sgI_91y (by omega) (by omega))) (RM_66 hR2 (by omega)) (by omega)) | (have hq9 : ((M_26.1 61 (((60 * ((M_26.1 65 b2_26.toNat).toInt)) + ((M_26.1 66 b2_26.toNat).toInt)).toNat)).toInt) = 40 := (by assumption); first | exact SGM_step hTT hh hcc0 hN hI ((sgS_it hkne hbq (by omega) (by omega)).trans (sgI_40n (by omega) (by omega))) (hR2) (by omega) | exact SGM_step hTT hh hcc0 hN hI ((sgS_it hkne hbq (by omega) (by omega)).trans (sgI_40y (by omega) (by omega))) (RM_66 hR2 (by omega)) (by omega)) | (have hq9 : ((M_26.1 61 (((60 * ((M_26.1 65 b2_26.toNat).toInt)) + ((M_26.1 66 b2_26.toNat).toInt)).toNat)).toInt) = 123 := (by assumption); first | exact SGM_step hTT hh hcc0 hN hI ((sgS_it hkne hbq (by omega) (by omega)).trans (sgI_0 (by omega) (by omega))) (RM_66 hR2 (by omega)) (by omega) | exact SGM_step hTT hh hcc0 hN hI ((sgS_it hkne hbq (by omega) (by omega)).trans (sgI_1 (by omega) (by omega))) (RM_open hR2 (by omega) (by omega)) (by omega)) | (have hq9 : 65 ≤ ((M_26.1 61 (((60 * ((M_26.1 65 b2_26.toNat).toInt)) + ((M_26.1 66 b2_26.toNat).toInt)).toNat)).toInt) ∧ ((M_26.1 61 (((60 * ((M_26.1 65 b2_26.toNat).toInt)) + ((M_26.1 66 b2_26.toNat).toInt)).toNat)).toInt) ≤ 72 := (by assumption); exact SGM_step hTT hh hcc0 hN hI ((sgS_it hkne hbq (by omega) (by omega)).trans (sgI_scene (by omega))) (RM_call hR1 (by omega) (by decide)) (by omega)) | exact SGM_step hTT hh hcc0 hN hI ((sgS_it hkne hbq (by omega) (by omega)).trans (sgI_sl (by omega) hwy (by omega) (by omega) hln)) (RM_line hR2 hlt0 (by omega) (by omega)) (by omega)
              exact ih26 y4_26 _ e4_26 y3_26 _ e3_26 y2_26 _ e2_26 (ui M_26 66 b2_26.toNat zq25) (by omega) hF.1 hG Iq28 frq29 cyq30 cyq31 (by omega)
        · refine g_iinc X 4 (fun v => [(2, .int v), (6, .int (M_26.1 66 b2_26.toNat)), (5, .int (M_26.1 65 b2_26.toNat)), (4, .int y4_26), (3, .int y3_26), (0, .ref (ad 47)), (1, .int x1)]) dX7_sings_58 rfl (by decide) (fun _ => rfl) (fun zq242 eq243 => ?_)
          have tq244 : zq242.toInt = b2_26 + (-1) := add_nw eq243 e2_26 (show (Int32.ofInt (-1)).toInt = (-1) by decide) (by omega)
          have hke : kq = pp.2.1 xq := by omega
          have eL := SG_end hTT hI hke
          subst eL
          have hGa : SGM pp td ([(a1.toNat, 0, [])], (Mq.2 47 34).toInt, 0, []) M_26 (b2_26 + (-1)) b3_26 b4_26 := SGM_step hTT hh hcc0 hN hI (sgS_end hke) (RM_pop hR (by omega)) rfl
          refine g_goto X (tgt := 26) dX7_sings_61 (by decide) ?_
          refine g_sub [3, 4, 0, 5, 6] rfl ?_
          have hF : SIM M_26 (b2_26 + (-1)) b4_26 ∧ mS M_26 (b2_26 + (-1)) b3_26 b4_26 < mS M_26 b2_26 b3_26 b4_26 := by first | exact hT | (have r9 : R6 M_26 M_26 (b2_26).toNat _ := (by first | exact r0 | exact R6_ui (R6_ui r0 rfl) rfl); have hS9 : SIM M_26 (b2_26 + (-1)) b4_26 := T_adv hwf i2 h0 r9 (by assumption) (by omega) ⟨by rw [htx]; omega, by rw [htx]; omega⟩; first | exact ⟨hS9, mS_mv i2 I_26 h0 (by omega) r9 (by assumption) (by omega) (by omega)⟩ | exact ⟨hS9, mS_item i2 I_26 hS9 I_26 (by omega)⟩) | exact T_pop cy1_26 I_26 i2 h0 (by omega) (by omega)
          have hG : SGM pp td ([(a1.toNat, 0, [])], (Mq.2 47 34).toInt, 0, []) M_26 (b2_26 + (-1)) b3_26 b4_26 := by first | exact hGa | (have hq9 : 0 = 93 := (by assumption); exact SGM_step hTT hh hcc0 hN hI (sgS_cl hkne hbq (by omega)) (hR1) (by omega)) | (have hq9 : 0 = 41 := (by assumption); exact SGM_step hTT hh hcc0 hN hI (sgS_cl hkne hbq (by omega)) (hR1) (by omega)) | (have hq9 : 0 = 91 := (by assumption); first | exact SGM_step hTT hh hcc0 hN hI ((sgS_it hkne hbq (by omega) (by omega)).trans (sgI_91n (by omega) (by omega))) (hR2) (by omega) | exact SGM_step hTT hh hcc0 hN hI ((sgS_it hkne hbq (by omega) (by omega)).trans (sgI_91y (by omega) (by omega))) (RM_66 hR2 (by omega)) (by omega)) | (have hq9 : 0 = 40 := (by assumption); first | exact SGM_step hTT hh hcc0 hN hI ((sgS_it hkne hbq (by omega) (by omega)).trans (sgI_40n (by omega) (by omega))) (hR2) (by omega) | exact SGM_step hTT hh hcc0 hN hI ((sgS_it hkne hbq (by omega) (by omega)).trans (sgI_40y (by omega) (by omega))) (RM_66 hR2 (by omega)) (by omega)) | (have hq9 : 0 = 123 := (by assumption); first | exact SGM_step hTT hh hcc0 hN hI ((sgS_it hkne hbq (by omega) (by omega)).trans (sgI_0 (by omega) (by omega))) (RM_66 hR2 (by omega)) (by omega) | exact SGM_step hTT hh hcc0 hN hI ((sgS_it hkne hbq (by omega) (by omega)).trans (sgI_1 (by omega) (by omega))) (RM_open hR2 (by omega) (by omega)) (by omega)) | (have hq9 : 65 ≤ 0 ∧ 0 ≤ 72 := (by assumption); exact SGM_step hTT hh hcc0 hN hI ((sgS_it hkne hbq (by omega) (by omega)).trans (sgI_scene (by omega))) (RM_call hR1 (by omega) (by decide)) (by omega)) | exact SGM_step hTT hh hcc0 hN hI ((sgS_it hkne hbq (by omega) (by omega)).trans (sgI_sl (by omega) hwy (by omega) (by omega) hln)) (RM_line hR2 hlt0 (by omega) (by omega)) (by omega)
          exact ih26 y4_26 _ e4_26 y3_26 _ e3_26 zq242 _ tq244 M_26 (by omega) hF.1 hG I_26 fr_26 cy0_26 cy1_26 (by omega)
  refine g_sub [0, 1, 2, 3, 4] rfl ?_
  exact lp26 _ 0 _ (show (0 : Int32).toInt = 0 by decide) 0 _ (show (0 : Int32).toInt = 0 by decide) 0 _ (show (0 : Int32).toInt = 0 by decide) (ui (ui (ui Mq 65 0 x1) 66 0 0) 47 33 0) (by omega) (SIM_0 t1 (by decide) h1 (show 0 < tel Mq a1.toNat from ht) Iq0) (SGM_0 (y := a1.toNat) (by omega) h5 hTT cyq13 (by rw [ui_nk (by decide), ui_nk (by decide), ui_eq]; omega) (by rw [ui_nk (by decide), ui_eq]; decide) rfl (by rw [ui_eq]; decide)) Iq11 frq12 cyq13 cyq14 (Nat.lt_succ_self _)
abbrev W_X7_sing_F : List (Nat × Nat) := [(65, 99), (66, 99), (67, 99), (68, 99), (70, 99), (47, 33), (47, 34), (85, 99), (69, 99), (47, 32)]
set_option maxHeartbeats 4000000 in
set_option maxRecDepth 4000 in
theorem c_X7_sing_F (ad : Nat → Nat) (Mq : Mem) (x1 : Int32) {a1 : Int} (t1 : x1.toInt = a1) (x2 : Int32) {a2 : Int} (t2 : x2.toInt = a2) (x3 : Int32) {a3 : Int} (t3 : x3.toInt = a3) (x4 : Int64) {a4 : Int} (t4 : x4.toInt = a4) (Iq0 : Iv TM Mq) {pp : PaT} {td : Nat → Int} (hT : TVp pp td) (hQ : PQs Mq pp a2 a3) (htd : ∀ x : Nat, x < 8 → 0 < tel Mq x → 0 < td x) (hcn : ∀ s, 0 ≤ pp.2.2.2.2.1 s) (cy0 : 0 ≤ (Mq.2 47 34).toInt) (cy1 : WFM Mq) : Ctr ad yX7_sing cX7_sing 7 (some .int) 2 [.ref (ad 47), .int x1, .int x2, .int x3, .long x4] Mq (fun v M' => ∃ (r : Int32) (a : Int), v = some (.int r) ∧ r.toInt = a ∧ (True) ∧ (0 ≤ (M'.2 47 34).toInt) ∧ (SNG ((0 ≤ a1 ∧ a1 ≤ 7 ∧ 0 < (Mq.1 63 a1.toNat).toInt) ∧ (0 ≤ a2 ∧ a2 < (Mq.1 47 52).toInt)) ((0 ≤ a3 ∧ a3 ≤ 999) ∧ 0 ≤ a4) pp ([(a1.toNat, 0, [])], a4, 0, []) (Mq.1 47 32).toInt (M'.1 47 32).toInt (Mq.1 69) (M'.1 69) a) ∧ Iv TM M' ∧ Fr W_X7_sing_F Mq M') := by
  refine ctr_of (L := [(0, .ref (ad 47)), (1, .int x1), (2, .int x2), (3, .int x3), (4, .long x4)]) (by decide) (Nat.le_of_ble_eq_true rfl) rfl ?_
  intro Γ X
  have X : gX Γ cX7_sing RX7 7 (some .int) 2 ad _ := X
  have frq0 : Fr W_X7_sing_F Mq Mq := Fr.rf
  have g12 := ig_47_12 Iq0
  have g24 := ig_47_24 Iq0
  have g33 := ig_47_33 Iq0
  have g44 := ig_47_44 Iq0
  have g43 := ig_47_43 Iq0
  have g52 := ig_47_52 Iq0
  have g53 := ig_47_53 Iq0
  have g59 := ig_47_59 Iq0
  refine g_aload_n X 0 rfl dX7_sing_0 ?_
  refine g_iload_n X 1 rfl dX7_sing_1 ?_
  refine g_callV X m_X7_220 (c_X7_isTold ad Mq x1 t1) rfl (by decide) (Nat.le_of_ble_eq_true rfl) rfl dX7_sing_2 ?_
  rintro _ _ ⟨rq1, aq2, rfl, tq3, hq4, rfl⟩
  show G Γ Mq 5 [(0, .ref (ad 47)), (1, .int x1), (2, .int x2), (3, .int x3), (4, .long x4)] [.int rq1]
  refine g_if_eq X tq3 (tgt := 16) dX7_sing_5 (by decide) (fun cq5 => ?_) (fun cq5 => ?_)
  · have pq6 : ¬ (0 ≤ a1 ∧ a1 ≤ 7 ∧ 0 < (Mq.1 63 a1.toNat).toInt) := by first | omega | (rcases hq4 with ⟨z1, z2⟩ | ⟨z1, z2⟩ <;> first | exact z2 | (exfalso; omega))
    refine g_iconst X (-1) dX7_sing_16 (by decide) ?_
    exact g_iret X dX7_sing_17 ⟨_, _, rfl, (show ((-1) : Int32).toInt = (-1) by decide), trivial, cy0, (Or.inl ⟨by omega, rfl, rfl, rfl⟩), Iq0, frq0⟩
  · have pq7 : (0 ≤ a1 ∧ a1 ≤ 7 ∧ 0 < (Mq.1 63 a1.toNat).toInt) := by first | omega | (rcases hq4 with ⟨z1, z2⟩ | ⟨z1, z2⟩ <;> first | exact z2 | (exfalso; omega))
    refine g_aload_n X 0 rfl dX7_sing_8 ?_
    refine g_iload_n X 2 rfl dX7_sing_9 ?_
    refine g_callV X m_X7_260 (c_X7_isSinger ad Mq x2 t2) rfl (by decide) (Nat.le_of_ble_eq_true rfl) rfl dX7_sing_10 ?_
    rintro _ _ ⟨rq8, aq9, rfl, tq10, hq11, rfl⟩
    show G Γ Mq 13 [(0, .ref (ad 47)), (1, .int x1), (2, .int x2), (3, .int x3), (4, .long x4)] [.int rq8]
    refine g_if_ne X tq10 (tgt := 18) dX7_sing_13 (by decide) (fun cq12 => ?_) (fun cq12 => ?_)
    · have pq13 : (0 ≤ a2 ∧ a2 < ((Mq.1 47 52)).toInt) := by first | omega | (rcases hq11 with ⟨z1, z2⟩ | ⟨z1, z2⟩ <;> first | exact z2 | (exfalso; omega))
      refine g_iload_n X 3 rfl dX7_sing_18 ?_
      refine g_callS X m_X7_263 (c_X7_isYear ad Mq x3 t3) rfl (by decide) (Nat.le_of_ble_eq_true rfl) rfl dX7_sing_19 ?_
      rintro _ _ ⟨rq14, aq15, rfl, tq16, hq17, rfl⟩
      show G Γ Mq 22 [(0, .ref (ad 47)), (1, .int x1), (2, .int x2), (3, .int x3), (4, .long x4)] [.int rq14]
      refine g_if_eq X tq16 (tgt := 32) dX7_sing_22 (by decide) (fun cq18 => ?_) (fun cq18 => ?_)
      · have pq19 : ¬ (0 ≤ a3 ∧ a3 ≤ 999) := by first | omega | (rcases hq17 with ⟨z1, z2⟩ | ⟨z1, z2⟩ <;> first | exact z2 | (exfalso; omega))
        refine g_bipush X (-2) dX7_sing_32 (by decide) ?_
        exact g_iret X dX7_sing_34 ⟨_, _, rfl, (show ((-2) : Int32).toInt = (-2) by decide), trivial, cy0, (Or.inr (Or.inl ⟨by omega, by omega, rfl, rfl, rfl⟩)), Iq0, frq0⟩
      · have pq20 : (0 ≤ a3 ∧ a3 ≤ 999) := by first | omega | (rcases hq17 with ⟨z1, z2⟩ | ⟨z1, z2⟩ <;> first | exact z2 | (exfalso; omega))
        refine g_lload X 4 rfl dX7_sing_25 ?_
        refine g_lconst X 0 dX7_sing_27 (by decide) ?_
        refine g_lcmp X t4 (show (0 : Int64).toInt = 0 by decide) dX7_sing_28 (fun zq21 eq22 => ?_)
        refine g_if_ge X rfl (tgt := 35) dX7_sing_29 (by decide) (fun cq23 => ?_) (fun cq23 => ?_)
        · refine g_aload_n X 0 rfl dX7_sing_35 ?_
          refine g_iload_n X 2 rfl dX7_sing_36 ?_
          refine g_iload_n X 3 rfl dX7_sing_37 ?_
          refine g_aload_n X 0 rfl dX7_sing_38 ?_
          refine g_geti X f_X7_266 dX7_sing_39 (x := Mq.1 47 53) rfl ?_
          have bq24 := ig_47_53 Iq0
          refine g_callV X m_X7_269 (c_X7_findStock_F ad Mq x2 t2 x3 t3 (Mq.1 47 53) rfl Iq0 (by omega)) rfl (by decide) (Nat.le_of_ble_eq_true rfl) rfl dX7_sing_42 ?_
          rintro _ Mq30 ⟨rfl, hq28, hq29, Iq31, frq32⟩
          have frq33 : Fr W_X7_sing_F Mq Mq30 := frq0.trans frq32 rfl
          have cyq34 : 0 ≤ (Mq30.2 47 34).toInt := numM_fr cy0 frq32 rfl
          have cyq35 : WFM Mq30 := WFM_fr cy1 frq32 rfl
          have trq36 : (Mq30.1 47 12).toInt = (Mq.1 47 12).toInt := congrArg Int32.toInt (frq32.at 47 12 rfl)
          have trq37 : (Mq30.1 47 33).toInt = (Mq.1 47 33).toInt := congrArg Int32.toInt (frq32.at 47 33 rfl)
          have h63 : (Mq30.1 63 a1.toNat).toInt = (Mq.1 63 a1.toNat).toInt := congrArg Int32.toInt (frq32.at 63 a1.toNat rfl)
          have hfs := hq29
          have hf1 := frq32
          have hPf : PM Mq30 pp := PM_of hQ (by omega) frq32 (by decide) hfs
          show G Γ Mq30 45 [(0, .ref (ad 47)), (1, .int x1), (2, .int x2), (3, .int x3), (4, .long x4)] []
          refine g_aload_n X 0 rfl dX7_sing_45 ?_
          refine g_lload X 4 rfl dX7_sing_46 ?_
          refine g_putl X p_X7_237 dX7_sing_48 ?_
          have Iq38 : Iv TM (ul Mq30 47 34 x4) := Iq31.long
          have frq39 : Fr W_X7_sing_F Mq (ul Mq30 47 34 x4) := frq33.ul rfl
          have cyq40 : 0 ≤ ((ul Mq30 47 34 x4).2 47 34).toInt := (by rw [ul_eq]; omega)
          have cyq41 : WFM (ul Mq30 47 34 x4) := WFM_fr cyq35 (Fr.ul (W := [(47, 34)]) Fr.rf rfl) rfl
          refine g_aload_n X 0 rfl dX7_sing_51 ?_
          refine g_iload_n X 1 rfl dX7_sing_52 ?_
          refine g_callV X m_X7_273 (c_X7_sings_F ad (ul Mq30 47 34 x4) x1 t1 Iq38 (by omega) (show 0 < (Mq30.1 63 a1.toNat).toInt by omega) hT (PM_ul hPf) (htd a1.toNat (by omega) (by show 0 < (Mq.1 63 a1.toNat).toInt; omega)) hcn cyq40 cyq41) rfl (by decide) (Nat.le_of_ble_eq_true rfl) rfl dX7_sing_53 ?_
          rintro _ Mq48 ⟨rq42, aq43, rfl, tq44, hq45, cyq46, hq47, Iq49, frq50⟩
          have frq51 : Fr W_X7_sing_F Mq Mq48 := frq39.trans frq50 rfl
          have cyq52 : WFM Mq48 := WFM_fr cyq41 frq50 rfl
          have trq53 : (Mq48.1 47 12).toInt = (Mq30.1 47 12).toInt := congrArg Int32.toInt (frq50.at 47 12 rfl)
          have hsy := hq47
          rw [show (((ul Mq30 47 34 x4)).2 47 34).toInt = a4 from (by rw [ul_eq]; exact t4)] at hsy
          have hf2 := frq50
          have hsr := hq45
          show G Γ Mq48 56 [(0, .ref (ad 47)), (1, .int x1), (2, .int x2), (3, .int x3), (4, .long x4)] [.int rq42]
          refine g_if_ne X tq44 (tgt := 62) dX7_sing_56 (by decide) (fun cq54 => ?_) (fun cq54 => ?_)
          · refine g_aload_n X 0 rfl dX7_sing_62 ?_
            refine g_aload_n X 0 rfl dX7_sing_63 ?_
            refine g_geti X f_X7_241 dX7_sing_64 (x := Mq48.1 47 33) rfl ?_
            have bq55 := ig_47_33 Iq49
            refine g_puti X p_X7_276 dX7_sing_67 ?_
            have Iq56 : Iv TM (ui Mq48 47 32 (Mq48.1 47 33)) := Iq49.put 0 40 rfl (by omega) rfl
            have frq57 : Fr W_X7_sing_F Mq (ui Mq48 47 32 (Mq48.1 47 33)) := frq51.ui rfl
            have cyq58 : 0 ≤ ((ui Mq48 47 32 (Mq48.1 47 33)).2 47 34).toInt := numM_fr cyq46 (Fr.ui (W := [(47, 32)]) Fr.rf rfl) rfl
            have cyq59 : WFM (ui Mq48 47 32 (Mq48.1 47 33)) := WFM_fr cyq52 (Fr.ui (W := [(47, 32)]) Fr.rf rfl) rfl
            refine g_iconst X 0 dX7_sing_70 (by decide) ?_
            refine g_istore X [(6, .int 0), (0, .ref (ad 47)), (1, .int x1), (2, .int x2), (3, .int x3), (4, .long x4)] dX7_sing_71 (by decide) rfl ?_
            have lp73 : ∀ n : Nat, ∀ (y6_73 : Int32) (b6_73 : Int), y6_73.toInt = b6_73 → ∀ (M_73 : Mem), (0 ≤ b6_73 ∧ b6_73 ≤ 40) → (∀ j : Nat, (j : Int) < b6_73 → M_73.1 69 j = M_73.1 70 j) → ((M_73.1 47 32).toInt = (M_73.1 47 33).toInt) → (SGY M_73 pp ([(a1.toNat, 0, [])], a4, 0, []) 1) → (Iv TM M_73) → (Fr W_X7_sing_F Mq M_73) → (0 ≤ (M_73.2 47 34).toInt) → (WFM M_73) → (40 - b6_73).toNat < n → G Γ M_73 73 [(6, .int y6_73), (0, .ref (ad 47)), (1, .int x1), (2, .int x2), (3, .int x3), (4, .long x4)] [] := by
              intro n
              induction n with
              | zero => intro y6_73 b6_73 e6_73 M_73 i1 i2 i3 i4 I_73 fr_73 cy0_73 cy1_73 hm; exact absurd hm (Nat.not_lt_zero _)
              | succ n ih73 =>
                intro y6_73 b6_73 e6_73 M_73 i1 i2 i3 i4 I_73 fr_73 cy0_73 cy1_73 hm73
                have trq60 : (M_73.1 47 12).toInt = (Mq.1 47 12).toInt := congrArg Int32.toInt (fr_73.at 47 12 rfl)
                refine g_iload X 0 rfl dX7_sing_73 ?_
                refine g_aload_n X 1 rfl dX7_sing_75 ?_
                refine g_geti X f_X7_241 dX7_sing_76 (x := M_73.1 47 33) rfl ?_
                have bq61 := ig_47_33 I_73
                refine g_icmp_ge X e6_73 rfl (tgt := 102) dX7_sing_79 (by decide) (fun cq62 => ?_) (fun cq62 => ?_)
                · refine g_aload_n X 1 rfl dX7_sing_102 ?_
                  refine g_geti X f_X7_276 dX7_sing_103 (x := M_73.1 47 32) rfl ?_
                  have bq63 := ig_47_32 I_73
                  exact g_iret X dX7_sing_106 ⟨_, _, rfl, rfl, trivial, cy0_73, ((SNG_y (by omega) (by omega) i4 i2 (by omega) i3)), I_73, fr_73⟩
                · refine g_aload_n X 1 rfl dX7_sing_82 ?_
                  refine g_getr X f_X7_77 dX7_sing_83 ?_
                  refine g_iload X 0 rfl dX7_sing_86 ?_
                  refine g_aload_n X 1 rfl dX7_sing_88 ?_
                  refine g_getr X f_X7_80 dX7_sing_89 ?_
                  refine g_iload X 0 rfl dX7_sing_92 ?_
                  refine g_iald X la_70 e6_73 dX7_sing_94 (by omega) (x := M_73.1 70 b6_73.toNat) rfl ?_
                  refine g_iast X la_69 e6_73 dX7_sing_95 (by omega) ?_
                  have Iq64 : Iv TM (ui M_73 69 b6_73.toNat (M_73.1 70 b6_73.toNat)) := I_73.otherA rfl
                  have frq65 : Fr W_X7_sing_F Mq (ui M_73 69 b6_73.toNat (M_73.1 70 b6_73.toNat)) := fr_73.ui rfl
                  have cyq66 : 0 ≤ ((ui M_73 69 b6_73.toNat (M_73.1 70 b6_73.toNat)).2 47 34).toInt := numM_fr cy0_73 (Fr.ui (W := [(69, 99)]) Fr.rf rfl) rfl
                  have cyq67 : WFM (ui M_73 69 b6_73.toNat (M_73.1 70 b6_73.toNat)) := WFM_fr cy1_73 (Fr.ui (W := [(69, 99)]) Fr.rf rfl) rfl
                  refine g_iinc X 0 (fun v => [(6, .int v), (0, .ref (ad 47)), (1, .int x1), (2, .int x2), (3, .int x3), (4, .long x4)]) dX7_sing_96 rfl (by decide) (fun _ => rfl) (fun zq68 eq69 => ?_)
                  have tq70 : zq68.toInt = b6_73 + 1 := add_nw eq69 e6_73 (show (Int32.ofInt 1).toInt = 1 by decide) (by omega)
                  refine g_goto X (tgt := 73) dX7_sing_99 (by decide) ?_
                  refine g_sub [0, 1, 2, 3, 4, 5] rfl ?_
                  exact ih73 zq68 _ tq70 (ui M_73 69 b6_73.toNat (M_73.1 70 b6_73.toNat)) (by omega) (cp_step i2 i1.1) (by rw [ui_cell (k := 69) (a := 47) (by decide)]; exact i3) (SGY_69 i4) Iq64 frq65 cyq66 cyq67 (by omega)
            refine g_sub [0, 1, 2, 3, 4, 5] rfl ?_
            exact lp73 _ 0 _ (show (0 : Int32).toInt = 0 by decide) (ui Mq48 47 32 (Mq48.1 47 33)) (by omega) (fun j hj => absurd hj (by omega)) (by rw [ui_eq, ui_nj (by decide)]) (SGY_ui (by decide) (SGY_to hsy (by omega))) Iq56 frq57 cyq58 cyq59 (Nat.lt_succ_self _)
          · refine g_bipush X (-3) dX7_sing_59 (by decide) ?_
            exact g_iret X dX7_sing_61 ⟨_, _, rfl, (show ((-3) : Int32).toInt = (-3) by decide), trivial, cyq46, ((SNG_f (by omega) (by omega) (SGY_to hsy (by omega)) (by rw [row_fr hf2 (by decide)]; exact row_fr hf1 (by decide)) (by rw [hf2.at 47 32 rfl]; exact hf1.at 47 32 rfl))), Iq49, frq51⟩
        · refine g_bipush X (-2) dX7_sing_32 (by decide) ?_
          exact g_iret X dX7_sing_34 ⟨_, _, rfl, (show ((-2) : Int32).toInt = (-2) by decide), trivial, cy0, (Or.inr (Or.inl ⟨by omega, by omega, rfl, rfl, rfl⟩)), Iq0, frq0⟩
    · have pq71 : ¬ (0 ≤ a2 ∧ a2 < ((Mq.1 47 52)).toInt) := by first | omega | (rcases hq11 with ⟨z1, z2⟩ | ⟨z1, z2⟩ <;> first | exact z2 | (exfalso; omega))
      refine g_iconst X (-1) dX7_sing_16 (by decide) ?_
      exact g_iret X dX7_sing_17 ⟨_, _, rfl, (show ((-1) : Int32).toInt = (-1) by decide), trivial, cy0, (Or.inl ⟨by omega, rfl, rfl, rfl⟩), Iq0, frq0⟩
set_option maxHeartbeats 4000000 in
set_option maxRecDepth 4000 in
theorem c_X7_sung_F (ad : Nat → Nat) (Mq : Mem) (x1 : Int32) {a1 : Int} (t1 : x1.toInt = a1) (Iq0 : Iv TM Mq) : Ctr ad yX7_sung cX7_sung 2 (some .int) 1 [.ref (ad 47), .int x1] Mq (fun v M' => ∃ (r : Int32) (a : Int), v = some (.int r) ∧ r.toInt = a ∧ ((0 ≤ a1 ∧ a1 < (Mq.1 47 32).toInt ∧ a = (Mq.1 69 a1.toNat).toInt) ∨ (¬ (0 ≤ a1 ∧ a1 < (Mq.1 47 32).toInt) ∧ a = -1)) ∧ Mq = M') := by
  refine ctr_of (L := [(0, .ref (ad 47)), (1, .int x1)]) (by decide) (Nat.le_of_ble_eq_true rfl) rfl ?_
  intro Γ X
  have X : gX Γ cX7_sung RX7 2 (some .int) 1 ad _ := X
  have g12 := ig_47_12 Iq0
  have g24 := ig_47_24 Iq0
  have g33 := ig_47_33 Iq0
  have g44 := ig_47_44 Iq0
  have g43 := ig_47_43 Iq0
  have g52 := ig_47_52 Iq0
  have g53 := ig_47_53 Iq0
  have g59 := ig_47_59 Iq0
  have g32 := ig_47_32 Iq0
  refine g_iload_n X 1 rfl dX7_sung_0 ?_
  refine g_i2l X dX7_sung_1 (fun zq1 eq2 => ?_)
  have tq3 : zq1.toInt = a1 := i2l_nw eq2 t1
  refine g_lconst X 0 dX7_sung_2 (by decide) ?_
  refine g_aload_n X 0 rfl dX7_sung_3 ?_
  refine g_geti X f_X7_276 dX7_sung_4 (x := Mq.1 47 32) rfl ?_
  have bq4 := ig_47_32 Iq0
  refine g_iconst X 1 dX7_sung_7 (by decide) ?_
  refine g_isub X dX7_sung_8 (fun zq5 eq6 => ?_)
  have tq7 : zq5.toInt = ((Mq.1 47 32).toInt) - 1 := sub_nw eq6 rfl (show (1 : Int32).toInt = 1 by decide) (by omega)
  refine g_i2l X dX7_sung_9 (fun zq8 eq9 => ?_)
  have tq10 : zq8.toInt = ((Mq.1 47 32).toInt) - 1 := i2l_nw eq9 tq7
  refine g_callS X m_X7_152 (c_X7_isIn ad Mq zq1 tq3 0 (show (0 : Int64).toInt = 0 by decide) zq8 tq10) rfl (by decide) (Nat.le_of_ble_eq_true rfl) rfl dX7_sung_10 ?_
  rintro _ _ ⟨rq11, aq12, rfl, tq13, hq14, rfl⟩
  show G Γ Mq 13 [(0, .ref (ad 47)), (1, .int x1)] [.int rq11]
  refine g_if_eq X tq13 (tgt := 25) dX7_sung_13 (by decide) (fun cq15 => ?_) (fun cq15 => ?_)
  · have pq16 : ¬ (0 ≤ a1 ∧ a1 ≤ (((Mq.1 47 32).toInt) - 1)) := by first | omega | (rcases hq14 with ⟨z1, z2⟩ | ⟨z1, z2⟩ <;> first | exact z2 | (exfalso; omega))
    refine g_iconst X (-1) dX7_sung_25 (by decide) ?_
    exact g_iret X dX7_sung_26 ⟨_, _, rfl, (show ((-1) : Int32).toInt = (-1) by decide), (by omega), rfl⟩
  · have pq17 : (0 ≤ a1 ∧ a1 ≤ (((Mq.1 47 32).toInt) - 1)) := by first | omega | (rcases hq14 with ⟨z1, z2⟩ | ⟨z1, z2⟩ <;> first | exact z2 | (exfalso; omega))
    refine g_aload_n X 0 rfl dX7_sung_16 ?_
    refine g_getr X f_X7_77 dX7_sung_17 ?_
    refine g_iload_n X 1 rfl dX7_sung_20 ?_
    refine g_iald X la_69 t1 dX7_sung_21 (by omega) (x := Mq.1 69 a1.toNat) rfl ?_
    refine g_goto X (tgt := 26) dX7_sung_22 (by decide) ?_
    exact g_iret X dX7_sung_26 ⟨_, _, rfl, rfl, (by omega), rfl⟩
end
