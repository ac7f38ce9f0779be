section
abbrev W_X7_sings : List (Nat × Nat) := [(65, 99), (66, 99), (67, 99), (68, 99), (70, 99), (47, 33), (47, 34)]
set_option maxHeartbeats 4000000 in
set_option maxRecDepth 4000 in
theorem c_X7_sings (ad : Nat → Nat) (Mq : Mem) (x1 : Int32) {a1 : Int} (t1 : x1.toInt = a1) (Iq0 : Iv TM Mq) (h1 : 0 ≤ a1 ∧ a1 ≤ 7) (ht : 0 < (Mq.1 63 a1.toNat).toInt) (cy0 : 0 ≤ (Mq.2 47 34).toInt) (cy1 : WFM Mq) : Ctr ad yX7_sings cX7_sings 9 (some .boolean) 1 [.ref (ad 47), .int x1] Mq (fun v M' => ∃ (r : Int32) (a : Int), v = some (.int r) ∧ r.toInt = a ∧ (a = 0 ∨ a = 1) ∧ (0 ≤ (M'.2 47 34).toInt) ∧ Iv TM M' ∧ Fr W_X7_sings Mq M') := by
  refine ctr_of (L := [(0, .ref (ad 47)), (1, .int x1)]) (by decide) (Nat.le_of_ble_eq_true rfl) rfl ?_
  intro Γ X
  have X : gX Γ cX7_sings RX7 9 (some .boolean) 1 ad _ := X
  have frq0 : Fr W_X7_sings Mq Mq := Fr.rf
  have g12 := ig_47_12 Iq0
  have g24 := ig_47_24 Iq0
  have g33 := ig_47_33 Iq0
  have g52 := ig_47_52 Iq0
  have g53 := ig_47_53 Iq0
  refine g_iconst X 0 dX7_sings_0 (by decide) ?_
  refine g_istore_n X (i := 2) [(2, .int 0), (0, .ref (ad 47)), (1, .int x1)] dX7_sings_1 rfl (by decide) rfl ?_
  refine g_iconst X 0 dX7_sings_2 (by decide) ?_
  refine g_istore_n X (i := 3) [(3, .int 0), (2, .int 0), (0, .ref (ad 47)), (1, .int x1)] dX7_sings_3 rfl (by decide) rfl ?_
  refine g_iconst X 0 dX7_sings_4 (by decide) ?_
  refine g_istore X [(4, .int 0), (3, .int 0), (2, .int 0), (0, .ref (ad 47)), (1, .int x1)] dX7_sings_5 (by decide) rfl ?_
  refine g_aload_n X 3 rfl dX7_sings_7 ?_
  refine g_getr X f_X7_65 dX7_sings_8 ?_
  refine g_iconst X 0 dX7_sings_11 (by decide) ?_
  refine g_iload_n X 4 rfl dX7_sings_12 ?_
  refine g_iast X la_65 (show (0 : Int32).toInt = 0 by decide) dX7_sings_13 (by omega) ?_
  have Iq1 : Iv TM (ui Mq 65 0 x1) := Iq0.otherA rfl
  have frq2 : Fr W_X7_sings Mq (ui Mq 65 0 x1) := frq0.ui rfl
  have cyq3 : 0 ≤ ((ui Mq 65 0 x1).2 47 34).toInt := numM_fr cy0 (Fr.ui (W := [(65, 99)]) Fr.rf rfl) rfl
  have cyq4 : WFM (ui Mq 65 0 x1) := WFM_fr cy1 (Fr.ui (W := [(65, 99)]) Fr.rf rfl) rfl
  refine g_aload_n X 3 rfl dX7_sings_14 ?_
  refine g_getr X f_X7_68 dX7_sings_15 ?_
  refine g_iconst X 0 dX7_sings_18 (by decide) ?_
  refine g_iconst X 0 dX7_sings_19 (by decide) ?_
  refine g_iast X la_66 (show (0 : Int32).toInt = 0 by decide) dX7_sings_20 (by omega) ?_
  have ltq5 : (0 : Int32).toInt = 0 := by decide
  have Iq6 : Iv TM (ui (ui Mq 65 0 x1) 66 0 0) := Iq1.otherA rfl
  have frq7 : Fr W_X7_sings Mq (ui (ui Mq 65 0 x1) 66 0 0) := frq2.ui rfl
  have cyq8 : 0 ≤ ((ui (ui Mq 65 0 x1) 66 0 0).2 47 34).toInt := numM_fr cyq3 (Fr.ui (W := [(66, 99)]) Fr.rf rfl) rfl
  have cyq9 : WFM (ui (ui Mq 65 0 x1) 66 0 0) := WFM_fr cyq4 (Fr.ui (W := [(66, 99)]) Fr.rf rfl) rfl
  refine g_aload_n X 3 rfl dX7_sings_21 ?_
  refine g_iconst X 0 dX7_sings_22 (by decide) ?_
  refine g_puti X p_X7_241 dX7_sings_23 ?_
  have ltq10 : (0 : Int32).toInt = 0 := by decide
  have Iq11 : Iv TM (ui (ui (ui Mq 65 0 x1) 66 0 0) 47 33 0) := Iq6.put 0 40 (show (0 : Int32).toInt = 0 by decide) (by omega) rfl
  have frq12 : Fr W_X7_sings Mq (ui (ui (ui Mq 65 0 x1) 66 0 0) 47 33 0) := frq7.ui rfl
  have cyq13 : 0 ≤ ((ui (ui (ui Mq 65 0 x1) 66 0 0) 47 33 0).2 47 34).toInt := numM_fr cyq8 (Fr.ui (W := [(47, 33)]) Fr.rf rfl) rfl
  have cyq14 : WFM (ui (ui (ui Mq 65 0 x1) 66 0 0) 47 33 0) := WFM_fr cyq9 (Fr.ui (W := [(47, 33)]) Fr.rf rfl) rfl
  have lp26 : ∀ n : Nat, ∀ (y4_26 : Int32) (b4_26 : Int), y4_26.toInt = b4_26 → ∀ (y3_26 : Int32) (b3_26 : Int), y3_26.toInt = b3_26 → ∀ (y2_26 : Int32) (b2_26 : Int), y2_26.toInt = b2_26 → ∀ (M_26 : Mem), (0 ≤ b3_26 ∧ b3_26 ≤ 2000) → (SIM M_26 b2_26 b4_26) → (Iv TM M_26) → (Fr W_X7_sings Mq M_26) → (0 ≤ (M_26.2 47 34).toInt) → (WFM M_26) → mS M_26 b2_26 b3_26 b4_26 < n → G Γ M_26 26 [(4, .int y4_26), (3, .int y3_26), (2, .int y2_26), (0, .ref (ad 47)), (1, .int x1)] [] := by
    intro n
    induction n with
    | zero => intro y4_26 b4_26 e4_26 y3_26 b3_26 e3_26 y2_26 b2_26 e2_26 M_26 i1 i2 I_26 fr_26 cy0_26 cy1_26 hm; exact absurd hm (Nat.not_lt_zero _)
    | succ n ih26 =>
      intro y4_26 b4_26 e4_26 y3_26 b3_26 e3_26 y2_26 b2_26 e2_26 M_26 i1 i2 I_26 fr_26 cy0_26 cy1_26 hm26
      have trq15 : (M_26.1 47 12).toInt = (Mq.1 47 12).toInt := congrArg Int32.toInt (fr_26.at 47 12 rfl)
      have hl := (SIM_lim i2 I_26).1
      refine g_iload_n X 2 rfl dX7_sings_26 ?_
      refine g_if_lt X e2_26 (tgt := 434) dX7_sings_27 (by decide) (fun cq16 => ?_) (fun cq16 => ?_)
      · refine g_iconst X 1 dX7_sings_434 (by decide) ?_
        exact g_zret X (b01 (show (1 : Int32).toInt = 1 by decide) (by omega)) dX7_sings_435 ⟨_, _, rfl, (show (1 : Int32).toInt = 1 by decide), (by omega), cy0_26, I_26, fr_26⟩
      · have h0 : 0 ≤ b2_26 := by omega
        obtain ⟨ha1, ha2, ha3, ha4, s0, hs0⟩ := SIM_at i2 h0
        refine g_aload_n X 3 rfl dX7_sings_30 ?_
        refine g_getr X f_X7_65 dX7_sings_31 ?_
        refine g_iload_n X 2 rfl dX7_sings_34 ?_
        refine g_iald X la_65 e2_26 dX7_sings_35 (by omega) (x := M_26.1 65 b2_26.toNat) rfl ?_
        refine g_istore X [(5, .int (M_26.1 65 b2_26.toNat)), (4, .int y4_26), (3, .int y3_26), (2, .int y2_26), (0, .ref (ad 47)), (1, .int x1)] dX7_sings_36 (by decide) rfl ?_
        refine g_aload_n X 4 rfl dX7_sings_38 ?_
        refine g_getr X f_X7_68 dX7_sings_39 ?_
        refine g_iload_n X 3 rfl dX7_sings_42 ?_
        refine g_iald X la_66 e2_26 dX7_sings_43 (by omega) (x := M_26.1 66 b2_26.toNat) rfl ?_
        refine g_istore X [(6, .int (M_26.1 66 b2_26.toNat)), (5, .int (M_26.1 65 b2_26.toNat)), (4, .int y4_26), (3, .int y3_26), (2, .int y2_26), (0, .ref (ad 47)), (1, .int x1)] dX7_sings_44 (by decide) rfl ?_
        refine g_iload X 0 rfl dX7_sings_46 ?_
        refine g_aload_n X 5 rfl dX7_sings_48 ?_
        refine g_getr X f_X7_52 dX7_sings_49 ?_
        refine g_iload X 1 rfl dX7_sings_52 ?_
        refine g_iald X la_62 rfl dX7_sings_54 (by omega) (x := M_26.1 62 (((M_26.1 65 b2_26.toNat).toInt).toNat)) rfl ?_
        have bq17 := ig_62 I_26 (((M_26.1 65 b2_26.toNat).toInt).toNat) (by omega)
        refine g_icmp_ne X rfl rfl (tgt := 64) dX7_sings_55 (by decide) (fun cq18 => ?_) (fun cq18 => ?_)
        · have htx := txt_at (M := M_26) (x := ((M_26.1 65 b2_26.toNat).toInt)) (k := ((M_26.1 66 b2_26.toNat).toInt)) (by omega) (by omega)
          have hwf := cy1_26
          have hch := SIM_ch hwf i2 h0 (by omega)
          rw [htx] at hch
          have h58 := ig_62 I_26 (((M_26.1 65 b2_26.toNat).toInt)).toNat (by omega)
          refine g_aload_n X 5 rfl dX7_sings_64 ?_
          refine g_getr X f_X7_49 dX7_sings_65 ?_
          refine g_bipush X 60 dX7_sings_68 (by decide) ?_
          refine g_iload X 1 rfl dX7_sings_70 ?_
          refine g_imul X dX7_sings_72 (fun zq19 eq20 => ?_)
          have tq21 : zq19.toInt = 60 * ((M_26.1 65 b2_26.toNat).toInt) := mul_nw eq20 (show (60 : Int32).toInt = 60 by decide) rfl (by omega)
          refine g_iload X 0 rfl dX7_sings_73 ?_
          refine g_iadd X dX7_sings_75 (fun zq22 eq23 => ?_)
          have tq24 : zq22.toInt = (60 * ((M_26.1 65 b2_26.toNat).toInt)) + ((M_26.1 66 b2_26.toNat).toInt) := add_nw eq23 tq21 rfl (by omega)
          refine g_iald X la_61 tq24 dX7_sings_76 (by omega) (x := M_26.1 61 (((60 * ((M_26.1 65 b2_26.toNat).toInt)) + ((M_26.1 66 b2_26.toNat).toInt)).toNat)) rfl ?_
          refine g_istore X [(7, .int (M_26.1 61 (((60 * ((M_26.1 65 b2_26.toNat).toInt)) + ((M_26.1 66 b2_26.toNat).toInt)).toNat))), (6, .int (M_26.1 66 b2_26.toNat)), (5, .int (M_26.1 65 b2_26.toNat)), (4, .int y4_26), (3, .int y3_26), (2, .int y2_26), (0, .ref (ad 47)), (1, .int x1)] dX7_sings_77 (by decide) rfl ?_
          refine g_aload_n X 6 rfl dX7_sings_79 ?_
          refine g_getr X f_X7_68 dX7_sings_80 ?_
          refine g_iload_n X 5 rfl dX7_sings_83 ?_
          refine g_dup2 X dX7_sings_84 rfl rfl ?_
          refine g_iald X la_66 e2_26 dX7_sings_85 (by omega) (x := M_26.1 66 b2_26.toNat) rfl ?_
          refine g_iconst X 1 dX7_sings_86 (by decide) ?_
          refine g_iadd X dX7_sings_87 (fun zq25 eq26 => ?_)
          have tq27 : zq25.toInt = ((M_26.1 66 b2_26.toNat).toInt) + 1 := add_nw eq26 rfl (show (1 : Int32).toInt = 1 by decide) (by omega)
          refine g_iast X la_66 e2_26 dX7_sings_88 (by omega) ?_
          have Iq28 : Iv TM (ui M_26 66 b2_26.toNat zq25) := I_26.otherA rfl
          have frq29 : Fr W_X7_sings Mq (ui M_26 66 b2_26.toNat zq25) := fr_26.ui rfl
          have cyq30 : 0 ≤ ((ui M_26 66 b2_26.toNat zq25).2 47 34).toInt := numM_fr cy0_26 (Fr.ui (W := [(66, 99)]) Fr.rf rfl) rfl
          have cyq31 : WFM (ui M_26 66 b2_26.toNat zq25) := WFM_fr cy1_26 (Fr.ui (W := [(66, 99)]) Fr.rf rfl) rfl
          have r0 : R6 M_26 (ui M_26 66 b2_26.toNat zq25) (b2_26).toNat _ := R6_0
          refine g_iload X 0 rfl dX7_sings_89 ?_
          refine g_bipush X 93 dX7_sings_91 (by decide) ?_
          refine g_icmp_eq X rfl (show (93 : Int32).toInt = 93 by decide) (tgt := 26) dX7_sings_93 (by decide) (fun cq32 => ?_) (fun cq32 => ?_)
          · refine g_sub [3, 4, 5, 6, 7] rfl ?_
            have hF : SIM (ui M_26 66 b2_26.toNat zq25) b2_26 b4_26 ∧ mS (ui M_26 66 b2_26.toNat zq25) b2_26 b3_26 b4_26 < mS M_26 b2_26 b3_26 b4_26 := by first | exact hT | (have r9 : R6 M_26 (ui M_26 66 b2_26.toNat zq25) (b2_26).toNat _ := (by first | exact r0 | exact R6_ui (R6_ui r0 rfl) rfl); have hS9 : SIM (ui M_26 66 b2_26.toNat zq25) b2_26 b4_26 := T_adv hwf i2 h0 r9 (by assumption) (by omega) ⟨by rw [htx]; omega, by rw [htx]; omega⟩; first | exact ⟨hS9, mS_mv i2 I_26 h0 (by omega) r9 (by assumption) (by omega) (by omega)⟩ | exact ⟨hS9, mS_item i2 I_26 hS9 Iq28 (by omega)⟩) | exact T_pop cyq31 I_26 i2 h0 (by omega) (by omega)
            exact ih26 y4_26 _ e4_26 y3_26 _ e3_26 y2_26 _ e2_26 (ui M_26 66 b2_26.toNat zq25) (by omega) hF.1 Iq28 frq29 cyq30 cyq31 (by omega)
          · refine g_iload X 0 rfl dX7_sings_96 ?_
            refine g_bipush X 41 dX7_sings_98 (by decide) ?_
            refine g_icmp_ne X rfl (show (41 : Int32).toInt = 41 by decide) (tgt := 106) dX7_sings_100 (by decide) (fun cq33 => ?_) (fun cq33 => ?_)
            · refine g_iload X 0 rfl dX7_sings_106 ?_
              refine g_bipush X 124 dX7_sings_108 (by decide) ?_
              refine g_icmp_ne X rfl (show (124 : Int32).toInt = 124 by decide) (tgt := 132) dX7_sings_110 (by decide) (fun cq34 => ?_) (fun cq34 => ?_)
              · refine g_iload X 0 rfl dX7_sings_132 ?_
                refine g_bipush X 125 dX7_sings_134 (by decide) ?_
                refine g_icmp_ne X rfl (show (125 : Int32).toInt = 125 by decide) (tgt := 188) dX7_sings_136 (by decide) (fun cq35 => ?_) (fun cq35 => ?_)
                · refine g_iinc X 4 (fun v => [(3, .int v), (7, .int (M_26.1 61 (((60 * ((M_26.1 65 b2_26.toNat).toInt)) + ((M_26.1 66 b2_26.toNat).toInt)).toNat))), (6, .int (M_26.1 66 b2_26.toNat)), (5, .int (M_26.1 65 b2_26.toNat)), (4, .int y4_26), (2, .int y2_26), (0, .ref (ad 47)), (1, .int x1)]) dX7_sings_188 rfl (by decide) (fun _ => rfl) (fun zq36 eq37 => ?_)
                  have tq38 : zq36.toInt = b3_26 + 1 := add_nw eq37 e3_26 (show (Int32.ofInt 1).toInt = 1 by decide) (by omega)
                  refine g_iload_n X 0 rfl dX7_sings_191 ?_
                  refine g_sipush X 2000 dX7_sings_192 (by decide) ?_
                  refine g_icmp_le X tq38 (show (2000 : Int32).toInt = 2000 by decide) (tgt := 200) dX7_sings_195 (by decide) (fun cq39 => ?_) (fun cq39 => ?_)
                  · refine g_iload X 1 rfl dX7_sings_200 ?_
                    refine g_bipush X 91 dX7_sings_202 (by decide) ?_
                    refine g_icmp_ne X rfl (show (91 : Int32).toInt = 91 by decide) (tgt := 234) dX7_sings_204 (by decide) (fun cq40 => ?_) (fun cq40 => ?_)
                    · refine g_iload X 1 rfl dX7_sings_234 ?_
                      refine g_bipush X 40 dX7_sings_236 (by decide) ?_
                      refine g_icmp_ne X rfl (show (40 : Int32).toInt = 40 by decide) (tgt := 269) dX7_sings_238 (by decide) (fun cq41 => ?_) (fun cq41 => ?_)
                      · refine g_iload X 1 rfl dX7_sings_269 ?_
                        refine g_bipush X 123 dX7_sings_271 (by decide) ?_
                        refine g_icmp_ne X rfl (show (123 : Int32).toInt = 123 by decide) (tgt := 338) dX7_sings_273 (by decide) (fun cq42 => ?_) (fun cq42 => ?_)
                        · refine g_iload X 1 rfl dX7_sings_338 ?_
                          refine g_callS X m_X7_217 (c_X7_isScene ad (ui M_26 66 b2_26.toNat zq25) (M_26.1 61 (((60 * ((M_26.1 65 b2_26.toNat).toInt)) + ((M_26.1 66 b2_26.toNat).toInt)).toNat)) rfl) rfl (by decide) (Nat.le_of_ble_eq_true rfl) rfl dX7_sings_340 ?_
                          rintro _ _ ⟨rq43, aq44, rfl, tq45, hq46, rfl⟩
                          show G Γ (ui M_26 66 b2_26.toNat zq25) 343 [(3, .int zq36), (7, .int (M_26.1 61 (((60 * ((M_26.1 65 b2_26.toNat).toInt)) + ((M_26.1 66 b2_26.toNat).toInt)).toNat))), (6, .int (M_26.1 66 b2_26.toNat)), (5, .int (M_26.1 65 b2_26.toNat)), (4, .int y4_26), (2, .int y2_26), (0, .ref (ad 47)), (1, .int x1)] [.int rq43]
                          refine g_if_eq X tq45 (tgt := 370) dX7_sings_343 (by decide) (fun cq47 => ?_) (fun cq47 => ?_)
                          · have pq48 : ¬ (65 ≤ ((M_26.1 61 (((60 * ((M_26.1 65 b2_26.toNat).toInt)) + ((M_26.1 66 b2_26.toNat).toInt)).toNat)).toInt) ∧ ((M_26.1 61 (((60 * ((M_26.1 65 b2_26.toNat).toInt)) + ((M_26.1 66 b2_26.toNat).toInt)).toNat)).toInt) ≤ 72) := by omega
                            clear hq46 cq47 tq45
                            refine g_aload_n X 6 rfl dX7_sings_370 ?_
                            refine g_iload X 1 rfl dX7_sings_371 ?_
                            refine g_bipush X 97 dX7_sings_373 (by decide) ?_
                            refine g_isub X dX7_sings_375 (fun zq49 eq50 => ?_)
                            have tq51 : zq49.toInt = ((M_26.1 61 (((60 * ((M_26.1 65 b2_26.toNat).toInt)) + ((M_26.1 66 b2_26.toNat).toInt)).toNat)).toInt) - 97 := sub_nw eq50 rfl (show (97 : Int32).toInt = 97 by decide) (by omega)
                            refine g_callV X m_X7_254 (c_X7_linesOf ad (ui M_26 66 b2_26.toNat zq25) zq49 tq51 Iq28) rfl (by decide) (Nat.le_of_ble_eq_true rfl) rfl dX7_sings_376 ?_
                            rintro _ _ ⟨rq52, aq53, rfl, tq54, hq55, rfl⟩
                            have hq56 : aq53 = cntL (ui M_26 66 b2_26.toNat zq25) (((M_26.1 61 (((60 * ((M_26.1 65 b2_26.toNat).toInt)) + ((M_26.1 66 b2_26.toNat).toInt)).toNat)).toInt) - 97) (((M_26.1 47 12)).toInt).toNat ∧ 0 ≤ aq53 ∧ aq53 ≤ 40 := hq55
                            clear hq55
                            show G Γ (ui M_26 66 b2_26.toNat zq25) 379 [(3, .int zq36), (7, .int (M_26.1 61 (((60 * ((M_26.1 65 b2_26.toNat).toInt)) + ((M_26.1 66 b2_26.toNat).toInt)).toNat))), (6, .int (M_26.1 66 b2_26.toNat)), (5, .int (M_26.1 65 b2_26.toNat)), (4, .int y4_26), (2, .int y2_26), (0, .ref (ad 47)), (1, .int x1)] [.int rq52]
                            refine g_istore X [(8, .int rq52), (3, .int zq36), (7, .int (M_26.1 61 (((60 * ((M_26.1 65 b2_26.toNat).toInt)) + ((M_26.1 66 b2_26.toNat).toInt)).toNat))), (6, .int (M_26.1 66 b2_26.toNat)), (5, .int (M_26.1 65 b2_26.toNat)), (4, .int y4_26), (2, .int y2_26), (0, .ref (ad 47)), (1, .int x1)] dX7_sings_379 (by decide) rfl ?_
                            refine g_iload X 0 rfl dX7_sings_381 ?_
                            refine g_if_eq X tq54 (tgt := 395) dX7_sings_383 (by decide) (fun cq57 => ?_) (fun cq57 => ?_)
                            · refine g_iconst X 0 dX7_sings_395 (by decide) ?_
                              exact g_zret X (b01 (show (0 : Int32).toInt = 0 by decide) (by omega)) dX7_sings_396 ⟨_, _, rfl, (show (0 : Int32).toInt = 0 by decide), (by omega), cyq30, Iq28, frq29⟩
                            · refine g_aload_n X 7 rfl dX7_sings_386 ?_
                              refine g_geti X f_X7_241 dX7_sings_387 (x := M_26.1 47 33) rfl ?_
                              have bq58 := ig_47_33 I_26
                              refine g_bipush X 40 dX7_sings_390 (by decide) ?_
                              refine g_icmp_ne X rfl (show (40 : Int32).toInt = 40 by decide) (tgt := 397) dX7_sings_392 (by decide) (fun cq59 => ?_) (fun cq59 => ?_)
                              · refine g_aload_n X 7 rfl dX7_sings_397 ?_
                                refine g_getr X f_X7_80 dX7_sings_398 ?_
                                refine g_aload_n X 7 rfl dX7_sings_401 ?_
                                refine g_geti X f_X7_241 dX7_sings_402 (x := M_26.1 47 33) rfl ?_
                                have bq60 := ig_47_33 I_26
                                refine g_aload_n X 7 rfl dX7_sings_405 ?_
                                refine g_iload X 2 rfl dX7_sings_406 ?_
                                refine g_bipush X 97 dX7_sings_408 (by decide) ?_
                                refine g_isub X dX7_sings_410 (fun zq61 eq62 => ?_)
                                have tq63 : zq61.toInt = ((M_26.1 61 (((60 * ((M_26.1 65 b2_26.toNat).toInt)) + ((M_26.1 66 b2_26.toNat).toInt)).toNat)).toInt) - 97 := sub_nw eq62 rfl (show (97 : Int32).toInt = 97 by decide) (by omega)
                                refine g_aload_n X 7 rfl dX7_sings_411 ?_
                                refine g_iload X 0 rfl dX7_sings_412 ?_
                                refine g_callV X m_X7_247 (c_X7_chooses ad (ui M_26 66 b2_26.toNat zq25) rq52 tq54 Iq28 (by omega) cyq30) rfl (by decide) (Nat.le_of_ble_eq_true rfl) rfl dX7_sings_414 ?_
                                rintro _ Mq69 ⟨rq64, aq65, rfl, tq66, hq67, cyq68, Iq70, frq71⟩
                                have frq72 : Fr W_X7_sings Mq Mq69 := frq29.trans frq71 rfl
                                have cyq73 : WFM Mq69 := WFM_fr cyq31 frq71 rfl
                                have trq74 : (Mq69.1 47 12).toInt = (M_26.1 47 12).toInt := congrArg Int32.toInt (frq71.at 47 12 rfl)
                                have trq75 : (Mq69.1 47 33).toInt = (M_26.1 47 33).toInt := congrArg Int32.toInt (frq71.at 47 33 rfl)
                                have r0 : R6 M_26 Mq69 (b2_26).toNat _ := R6_fr r0 frq71 rfl
                                have hcn := cntL_fr frq71 rfl
                                have h4712 : Mq69.1 47 12 = M_26.1 47 12 := frq71.at 47 12 rfl
                                show G Γ Mq69 417 [(8, .int rq52), (3, .int zq36), (7, .int (M_26.1 61 (((60 * ((M_26.1 65 b2_26.toNat).toInt)) + ((M_26.1 66 b2_26.toNat).toInt)).toNat))), (6, .int (M_26.1 66 b2_26.toNat)), (5, .int (M_26.1 65 b2_26.toNat)), (4, .int y4_26), (2, .int y2_26), (0, .ref (ad 47)), (1, .int x1)] [.int rq64, .int zq61, .ref (ad 47), .int (M_26.1 47 33), .ref (ad 70)]
                                refine g_callV X m_X7_257 (c_X7_lineOf ad Mq69 zq61 tq63 rq64 tq66 Iq70 (by rw [hcn, h4712]; omega)) rfl (by decide) (Nat.le_of_ble_eq_true rfl) rfl dX7_sings_417 ?_
                                rintro _ _ ⟨rq76, aq77, rfl, tq78, hq79, rfl⟩
                                show G Γ Mq69 420 [(8, .int rq52), (3, .int zq36), (7, .int (M_26.1 61 (((60 * ((M_26.1 65 b2_26.toNat).toInt)) + ((M_26.1 66 b2_26.toNat).toInt)).toNat))), (6, .int (M_26.1 66 b2_26.toNat)), (5, .int (M_26.1 65 b2_26.toNat)), (4, .int y4_26), (2, .int y2_26), (0, .ref (ad 47)), (1, .int x1)] [.int rq76, .int (M_26.1 47 33), .ref (ad 70)]
                                refine g_iast X la_70 rfl dX7_sings_420 (by omega) ?_
                                have Iq80 : Iv TM (ui Mq69 70 (((M_26.1 47 33).toInt).toNat) rq76) := Iq70.otherA rfl
                                have frq81 : Fr W_X7_sings Mq (ui Mq69 70 (((M_26.1 47 33).toInt).toNat) rq76) := frq72.ui rfl
                                have cyq82 : 0 ≤ ((ui Mq69 70 (((M_26.1 47 33).toInt).toNat) rq76).2 47 34).toInt := numM_fr cyq68 (Fr.ui (W := [(70, 99)]) Fr.rf rfl) rfl
                                have cyq83 : WFM (ui Mq69 70 (((M_26.1 47 33).toInt).toNat) rq76) := WFM_fr cyq73 (Fr.ui (W := [(70, 99)]) Fr.rf rfl) rfl
                                refine g_aload_n X 7 rfl dX7_sings_421 ?_
                                refine g_dup X dX7_sings_422 rfl ?_
                                refine g_geti X f_X7_241 dX7_sings_423 (x := Mq69.1 47 33) rfl ?_
                                have bq84 := ig_47_33 Iq70
                                refine g_iconst X 1 dX7_sings_426 (by decide) ?_
                                refine g_iadd X dX7_sings_427 (fun zq85 eq86 => ?_)
                                have tq87 : zq85.toInt = ((Mq69.1 47 33).toInt) + 1 := add_nw eq86 rfl (show (1 : Int32).toInt = 1 by decide) (by omega)
                                refine g_puti X p_X7_241 dX7_sings_428 ?_
                                have Iq88 : Iv TM (ui (ui Mq69 70 (((M_26.1 47 33).toInt).toNat) rq76) 47 33 zq85) := Iq80.put 0 40 tq87 (by omega) rfl
                                have frq89 : Fr W_X7_sings Mq (ui (ui Mq69 70 (((M_26.1 47 33).toInt).toNat) rq76) 47 33 zq85) := frq81.ui rfl
                                have cyq90 : 0 ≤ ((ui (ui Mq69 70 (((M_26.1 47 33).toInt).toNat) rq76) 47 33 zq85).2 47 34).toInt := numM_fr cyq82 (Fr.ui (W := [(47, 33)]) Fr.rf rfl) rfl
                                have cyq91 : WFM (ui (ui Mq69 70 (((M_26.1 47 33).toInt).toNat) rq76) 47 33 zq85) := WFM_fr cyq83 (Fr.ui (W := [(47, 33)]) Fr.rf rfl) rfl
                                refine g_goto X (tgt := 26) dX7_sings_431 (by decide) ?_
                                refine g_sub [5, 1, 6, 7, 8] rfl ?_
                                have hF : SIM (ui (ui Mq69 70 (((M_26.1 47 33).toInt).toNat) rq76) 47 33 zq85) b2_26 b4_26 ∧ mS (ui (ui Mq69 70 (((M_26.1 47 33).toInt).toNat) rq76) 47 33 zq85) b2_26 (b3_26 + 1) b4_26 < mS M_26 b2_26 b3_26 b4_26 := by first | exact hT | (have r9 : R6 M_26 (ui (ui Mq69 70 (((M_26.1 47 33).toInt).toNat) rq76) 47 33 zq85) (b2_26).toNat _ := (by first | exact r0 | exact R6_ui (R6_ui r0 rfl) rfl); have hS9 : SIM (ui (ui Mq69 70 (((M_26.1 47 33).toInt).toNat) rq76) 47 33 zq85) b2_26 b4_26 := T_adv hwf i2 h0 r9 (by assumption) (by omega) ⟨by rw [htx]; omega, by rw [htx]; omega⟩; first | exact ⟨hS9, mS_mv i2 I_26 h0 (by omega) r9 (by assumption) (by omega) (by omega)⟩ | exact ⟨hS9, mS_item i2 I_26 hS9 Iq88 (by omega)⟩) | exact T_pop cyq91 I_26 i2 h0 (by omega) (by omega)
                                exact ih26 y4_26 _ e4_26 zq36 _ tq38 y2_26 _ e2_26 (ui (ui Mq69 70 (((M_26.1 47 33).toInt).toNat) rq76) 47 33 zq85) (by omega) hF.1 Iq88 frq89 cyq90 cyq91 (by omega)
                              · refine g_iconst X 0 dX7_sings_395 (by decide) ?_
                                exact g_zret X (b01 (show (0 : Int32).toInt = 0 by decide) (by omega)) dX7_sings_396 ⟨_, _, rfl, (show (0 : Int32).toInt = 0 by decide), (by omega), cyq30, Iq28, frq29⟩
                          · have pq92 : (65 ≤ ((M_26.1 61 (((60 * ((M_26.1 65 b2_26.toNat).toInt)) + ((M_26.1 66 b2_26.toNat).toInt)).toNat)).toInt) ∧ ((M_26.1 61 (((60 * ((M_26.1 65 b2_26.toNat).toInt)) + ((M_26.1 66 b2_26.toNat).toInt)).toNat)).toInt) ≤ 72) := by omega
                            clear hq46 cq47 tq45
                            refine g_iinc X 5 (fun v => [(2, .int v), (3, .int zq36), (7, .int (M_26.1 61 (((60 * ((M_26.1 65 b2_26.toNat).toInt)) + ((M_26.1 66 b2_26.toNat).toInt)).toNat))), (6, .int (M_26.1 66 b2_26.toNat)), (5, .int (M_26.1 65 b2_26.toNat)), (4, .int y4_26), (0, .ref (ad 47)), (1, .int x1)]) dX7_sings_346 rfl (by decide) (fun _ => rfl) (fun zq93 eq94 => ?_)
                            have tq95 : zq93.toInt = b2_26 + 1 := add_nw eq94 e2_26 (show (Int32.ofInt 1).toInt = 1 by decide) (by omega)
                            refine g_aload_n X 6 rfl dX7_sings_349 ?_
                            refine g_getr X f_X7_65 dX7_sings_350 ?_
                            refine g_iload_n X 0 rfl dX7_sings_353 ?_
                            refine g_iload X 2 rfl dX7_sings_354 ?_
                            refine g_bipush X 65 dX7_sings_356 (by decide) ?_
                            refine g_isub X dX7_sings_358 (fun zq96 eq97 => ?_)
                            have tq98 : zq96.toInt = ((M_26.1 61 (((60 * ((M_26.1 65 b2_26.toNat).toInt)) + ((M_26.1 66 b2_26.toNat).toInt)).toNat)).toInt) - 65 := sub_nw eq97 rfl (show (65 : Int32).toInt = 65 by decide) (by omega)
                            refine g_iast X la_65 tq95 dX7_sings_359 (by omega) ?_
                            have Iq99 : Iv TM (ui (ui M_26 66 b2_26.toNat zq25) 65 ((b2_26 + 1).toNat) zq96) := Iq28.otherA rfl
                            have frq100 : Fr W_X7_sings Mq (ui (ui M_26 66 b2_26.toNat zq25) 65 ((b2_26 + 1).toNat) zq96) := frq29.ui rfl
                            have cyq101 : 0 ≤ ((ui (ui M_26 66 b2_26.toNat zq25) 65 ((b2_26 + 1).toNat) zq96).2 47 34).toInt := numM_fr cyq30 (Fr.ui (W := [(65, 99)]) Fr.rf rfl) rfl
                            have cyq102 : WFM (ui (ui M_26 66 b2_26.toNat zq25) 65 ((b2_26 + 1).toNat) zq96) := WFM_fr cyq31 (Fr.ui (W := [(65, 99)]) Fr.rf rfl) rfl
                            refine g_aload_n X 6 rfl dX7_sings_360 ?_
                            refine g_getr X f_X7_68 dX7_sings_361 ?_
                            refine g_iload_n X 0 rfl dX7_sings_364 ?_
                            refine g_iconst X 0 dX7_sings_365 (by decide) ?_
                            refine g_iast X la_66 tq95 dX7_sings_366 (by omega) ?_
                            have ltq103 : (0 : Int32).toInt = 0 := by decide
                            have Iq104 : Iv TM (ui (ui (ui M_26 66 b2_26.toNat zq25) 65 ((b2_26 + 1).toNat) zq96) 66 ((b2_26 + 1).toNat) 0) := Iq99.otherA rfl
                            have frq105 : Fr W_X7_sings Mq (ui (ui (ui M_26 66 b2_26.toNat zq25) 65 ((b2_26 + 1).toNat) zq96) 66 ((b2_26 + 1).toNat) 0) := frq100.ui rfl
                            have cyq106 : 0 ≤ ((ui (ui (ui M_26 66 b2_26.toNat zq25) 65 ((b2_26 + 1).toNat) zq96) 66 ((b2_26 + 1).toNat) 0).2 47 34).toInt := numM_fr cyq101 (Fr.ui (W := [(66, 99)]) Fr.rf rfl) rfl
                            have cyq107 : WFM (ui (ui (ui M_26 66 b2_26.toNat zq25) 65 ((b2_26 + 1).toNat) zq96) 66 ((b2_26 + 1).toNat) 0) := WFM_fr cyq102 (Fr.ui (W := [(66, 99)]) Fr.rf rfl) rfl
                            have hS9 : SIM (ui (ui (ui M_26 66 b2_26.toNat zq25) 65 ((b2_26 + 1).toNat) zq96) 66 ((b2_26 + 1).toNat) 0) (b2_26 + 1) b4_26 := T_call hwf I_26 i2 h0 (by omega) (by rw [htx]; omega) r0 (by assumption) (by rw [htx]; omega) (by decide)
                            have hT : SIM (ui (ui (ui M_26 66 b2_26.toNat zq25) 65 ((b2_26 + 1).toNat) zq96) 66 ((b2_26 + 1).toNat) 0) (b2_26 + 1) b4_26 ∧ mS (ui (ui (ui M_26 66 b2_26.toNat zq25) 65 ((b2_26 + 1).toNat) zq96) 66 ((b2_26 + 1).toNat) 0) (b2_26 + 1) (b3_26 + 1) b4_26 < mS M_26 b2_26 b3_26 b4_26 := ⟨hS9, mS_item i2 I_26 hS9 Iq104 (by omega)⟩
                            refine g_goto X (tgt := 431) dX7_sings_367 (by decide) ?_
                            refine g_goto X (tgt := 26) dX7_sings_431 (by decide) ?_
                            refine g_sub [5, 1, 0, 6, 7] rfl ?_
                            have hF : SIM (ui (ui (ui M_26 66 b2_26.toNat zq25) 65 ((b2_26 + 1).toNat) zq96) 66 ((b2_26 + 1).toNat) 0) (b2_26 + 1) b4_26 ∧ mS (ui (ui (ui M_26 66 b2_26.toNat zq25) 65 ((b2_26 + 1).toNat) zq96) 66 ((b2_26 + 1).toNat) 0) (b2_26 + 1) (b3_26 + 1) b4_26 < mS M_26 b2_26 b3_26 b4_26 := by first | exact hT | (have r9 : R6 M_26 (ui (ui (ui M_26 66 b2_26.toNat zq25) 65 ((b2_26 + 1).toNat) zq96) 66 ((b2_26 + 1).toNat) 0) (b2_26).toNat _ := (by first | exact r0 | exact R6_ui (R6_ui r0 rfl) rfl); have hS9 : SIM (ui (ui (ui M_26 66 b2_26.toNat zq25) 65 ((b2_26 + 1).toNat) zq96) 66 ((b2_26 + 1).toNat) 0) (b2_26 + 1) b4_26 := T_adv hwf i2 h0 r9 (by assumption) (by omega) ⟨by rw [htx]; omega, by rw [htx]; omega⟩; first | exact ⟨hS9, mS_mv i2 I_26 h0 (by omega) r9 (by assumption) (by omega) (by omega)⟩ | exact ⟨hS9, mS_item i2 I_26 hS9 Iq104 (by omega)⟩) | exact T_pop cyq107 I_26 i2 h0 (by omega) (by omega)
                            exact ih26 y4_26 _ e4_26 zq36 _ tq38 zq93 _ tq95 (ui (ui (ui M_26 66 b2_26.toNat zq25) 65 ((b2_26 + 1).toNat) zq96) 66 ((b2_26 + 1).toNat) 0) (by omega) hF.1 Iq104 frq105 cyq106 cyq107 (by omega)
                        · refine g_aload_n X 6 rfl dX7_sings_276 ?_
                          refine g_aload_n X 6 rfl dX7_sings_277 ?_
                          refine g_geti X f_X7_61 dX7_sings_278 (x := M_26.1 47 24) rfl ?_
                          have bq108 := ig_47_24 I_26
                          refine g_iconst X 1 dX7_sings_281 (by decide) ?_
                          refine g_iadd X dX7_sings_282 (fun zq109 eq110 => ?_)
                          have tq111 : zq109.toInt = ((M_26.1 47 24).toInt) + 1 := add_nw eq110 rfl (show (1 : Int32).toInt = 1 by decide) (by omega)
                          refine g_callV X m_X7_247 (c_X7_chooses ad (ui M_26 66 b2_26.toNat zq25) zq109 tq111 Iq28 (by omega) cyq30) rfl (by decide) (Nat.le_of_ble_eq_true rfl) rfl dX7_sings_283 ?_
                          rintro _ Mq117 ⟨rq112, aq113, rfl, tq114, hq115, cyq116, Iq118, frq119⟩
                          have frq120 : Fr W_X7_sings Mq Mq117 := frq29.trans frq119 rfl
                          have cyq121 : WFM Mq117 := WFM_fr cyq31 frq119 rfl
                          have trq122 : (Mq117.1 47 12).toInt = (M_26.1 47 12).toInt := congrArg Int32.toInt (frq119.at 47 12 rfl)
                          have trq123 : (Mq117.1 47 33).toInt = (M_26.1 47 33).toInt := congrArg Int32.toInt (frq119.at 47 33 rfl)
                          have r0 : R6 M_26 Mq117 (b2_26).toNat _ := R6_fr r0 frq119 rfl
                          show G Γ Mq117 286 [(3, .int zq36), (7, .int (M_26.1 61 (((60 * ((M_26.1 65 b2_26.toNat).toInt)) + ((M_26.1 66 b2_26.toNat).toInt)).toNat))), (6, .int (M_26.1 66 b2_26.toNat)), (5, .int (M_26.1 65 b2_26.toNat)), (4, .int y4_26), (2, .int y2_26), (0, .ref (ad 47)), (1, .int x1)] [.int rq112]
                          refine g_istore X [(8, .int rq112), (3, .int zq36), (7, .int (M_26.1 61 (((60 * ((M_26.1 65 b2_26.toNat).toInt)) + ((M_26.1 66 b2_26.toNat).toInt)).toNat))), (6, .int (M_26.1 66 b2_26.toNat)), (5, .int (M_26.1 65 b2_26.toNat)), (4, .int y4_26), (2, .int y2_26), (0, .ref (ad 47)), (1, .int x1)] dX7_sings_286 (by decide) rfl ?_
                          refine g_iload X 0 rfl dX7_sings_288 ?_
                          refine g_if_ne X tq114 (tgt := 312) dX7_sings_290 (by decide) (fun cq124 => ?_) (fun cq124 => ?_)
                          · refine g_aload_n X 7 rfl dX7_sings_312 ?_
                            refine g_getr X f_X7_71 dX7_sings_313 ?_
                            refine g_iload X 5 rfl dX7_sings_316 ?_
                            refine g_iload X 0 rfl dX7_sings_318 ?_
                            refine g_iast X la_67 e4_26 dX7_sings_320 (by omega) ?_
                            have Iq125 : Iv TM (ui Mq117 67 b4_26.toNat rq112) := Iq118.otherA rfl
                            have frq126 : Fr W_X7_sings Mq (ui Mq117 67 b4_26.toNat rq112) := frq120.ui rfl
                            have cyq127 : 0 ≤ ((ui Mq117 67 b4_26.toNat rq112).2 47 34).toInt := numM_fr cyq116 (Fr.ui (W := [(67, 99)]) Fr.rf rfl) rfl
                            have cyq128 : WFM (ui Mq117 67 b4_26.toNat rq112) := WFM_fr cyq121 (Fr.ui (W := [(67, 99)]) Fr.rf rfl) rfl
                            refine g_aload_n X 7 rfl dX7_sings_321 ?_
                            refine g_getr X f_X7_74 dX7_sings_322 ?_
                            refine g_iload X 5 rfl dX7_sings_325 ?_
                            refine g_iload X 3 rfl dX7_sings_327 ?_
                            refine g_iconst X 1 dX7_sings_329 (by decide) ?_
                            refine g_iadd X dX7_sings_330 (fun zq129 eq130 => ?_)
                            have tq131 : zq129.toInt = ((M_26.1 66 b2_26.toNat).toInt) + 1 := add_nw eq130 rfl (show (1 : Int32).toInt = 1 by decide) (by omega)
                            refine g_iast X la_68 e4_26 dX7_sings_331 (by omega) ?_
                            have Iq132 : Iv TM (ui (ui Mq117 67 b4_26.toNat rq112) 68 b4_26.toNat zq129) := Iq125.otherA rfl
                            have frq133 : Fr W_X7_sings Mq (ui (ui Mq117 67 b4_26.toNat rq112) 68 b4_26.toNat zq129) := frq126.ui rfl
                            have cyq134 : 0 ≤ ((ui (ui Mq117 67 b4_26.toNat rq112) 68 b4_26.toNat zq129).2 47 34).toInt := numM_fr cyq127 (Fr.ui (W := [(68, 99)]) Fr.rf rfl) rfl
                            have cyq135 : WFM (ui (ui Mq117 67 b4_26.toNat rq112) 68 b4_26.toNat zq129) := WFM_fr cyq128 (Fr.ui (W := [(68, 99)]) Fr.rf rfl) rfl
                            have hS9 : SIM (ui (ui Mq117 67 b4_26.toNat rq112) 68 b4_26.toNat zq129) b2_26 (b4_26 + 1) := T_open hwf i2 h0 (by omega) (by omega) (by rw [htx]; omega) r0 (by assumption) (by omega) (by omega)
                            have hT : SIM (ui (ui Mq117 67 b4_26.toNat rq112) 68 b4_26.toNat zq129) b2_26 (b4_26 + 1) ∧ mS (ui (ui Mq117 67 b4_26.toNat rq112) 68 b4_26.toNat zq129) b2_26 (b3_26 + 1) (b4_26 + 1) < mS M_26 b2_26 b3_26 b4_26 := ⟨hS9, mS_item i2 I_26 hS9 Iq132 (by omega)⟩
                            refine g_iinc X 5 (fun v => [(4, .int v), (8, .int rq112), (3, .int zq36), (7, .int (M_26.1 61 (((60 * ((M_26.1 65 b2_26.toNat).toInt)) + ((M_26.1 66 b2_26.toNat).toInt)).toNat))), (6, .int (M_26.1 66 b2_26.toNat)), (5, .int (M_26.1 65 b2_26.toNat)), (2, .int y2_26), (0, .ref (ad 47)), (1, .int x1)]) dX7_sings_332 rfl (by decide) (fun _ => rfl) (fun zq136 eq137 => ?_)
                            have tq138 : zq136.toInt = b4_26 + 1 := add_nw eq137 e4_26 (show (Int32.ofInt 1).toInt = 1 by decide) (by omega)
                            refine g_goto X (tgt := 431) dX7_sings_335 (by decide) ?_
                            refine g_goto X (tgt := 26) dX7_sings_431 (by decide) ?_
                            refine g_sub [0, 2, 6, 7, 8] rfl ?_
                            have hF : SIM (ui (ui Mq117 67 b4_26.toNat rq112) 68 b4_26.toNat zq129) b2_26 (b4_26 + 1) ∧ mS (ui (ui Mq117 67 b4_26.toNat rq112) 68 b4_26.toNat zq129) b2_26 (b3_26 + 1) (b4_26 + 1) < mS M_26 b2_26 b3_26 b4_26 := by first | exact hT | (have r9 : R6 M_26 (ui (ui Mq117 67 b4_26.toNat rq112) 68 b4_26.toNat zq129) (b2_26).toNat _ := (by first | exact r0 | exact R6_ui (R6_ui r0 rfl) rfl); have hS9 : SIM (ui (ui Mq117 67 b4_26.toNat rq112) 68 b4_26.toNat zq129) b2_26 (b4_26 + 1) := T_adv hwf i2 h0 r9 (by assumption) (by omega) ⟨by rw [htx]; omega, by rw [htx]; omega⟩; first | exact ⟨hS9, mS_mv i2 I_26 h0 (by omega) r9 (by assumption) (by omega) (by omega)⟩ | exact ⟨hS9, mS_item i2 I_26 hS9 Iq132 (by omega)⟩) | exact T_pop cyq135 I_26 i2 h0 (by omega) (by omega)
                            exact ih26 zq136 _ tq138 zq36 _ tq38 y2_26 _ e2_26 (ui (ui Mq117 67 b4_26.toNat rq112) 68 b4_26.toNat zq129) (by omega) hF.1 Iq132 frq133 cyq134 cyq135 (by omega)
                          · refine g_aload_n X 7 rfl dX7_sings_293 ?_
                            refine g_getr X f_X7_68 dX7_sings_294 ?_
                            refine g_iload_n X 6 rfl dX7_sings_297 ?_
                            have hx1 := r0.1
                            have hw1 : skN (txt Mq117 (((M_26.1 65 b2_26.toNat).toInt)).toNat) ((Mq117.1 62 (((M_26.1 65 b2_26.toNat).toInt)).toNat).toInt).toNat = some [] := (cyq121 _ (by omega) (by rw [hx1.2.2]; exact ha2)).1
                            have h62 : (Mq117.1 62 (((M_26.1 65 b2_26.toNat).toInt)).toNat).toInt = (M_26.1 62 (((M_26.1 65 b2_26.toNat).toInt)).toNat).toInt := congrFun hx1.2.1 _
                            have hS1 : skN (txt Mq117 (((M_26.1 65 b2_26.toNat).toInt)).toNat) (((M_26.1 66 b2_26.toNat).toInt)).toNat = some s0 := by rw [hx1.1]; exact hs0
                            have hc61 : (Mq117.1 61 (60 * ((M_26.1 65 b2_26.toNat).toInt) + ((M_26.1 66 b2_26.toNat).toInt)).toNat).toInt = (M_26.1 61 (60 * ((M_26.1 65 b2_26.toNat).toInt) + ((M_26.1 66 b2_26.toNat).toInt)).toNat).toInt := by rw [← txt_at (by omega) (by omega), hx1.1, txt_at (by omega) (by omega)]
                            refine g_aload_n X 7 rfl dX7_sings_298 ?_
                            refine g_iload X 4 rfl dX7_sings_299 ?_
                            refine g_iload X 3 rfl dX7_sings_301 ?_
                            refine g_callV X m_X7_251 (c_X7_behind ad Mq117 (M_26.1 65 b2_26.toNat) rfl (M_26.1 66 b2_26.toNat) rfl Iq118 (by omega) hw1 (by omega) hS1 (by omega)) rfl (by decide) (Nat.le_of_ble_eq_true rfl) rfl dX7_sings_303 ?_
                            rintro _ _ ⟨rq139, aq140, rfl, tq141, hq142, rfl⟩
                            obtain ⟨hk0, hk1, s2, hk2, hk3⟩ := hq142
                            rw [hx1.1] at hk2
                            have hk4 : skN (txt M_26 (((M_26.1 65 b2_26.toNat).toInt)).toNat) (aq140 + 1).toNat = some s2 := by rw [show (aq140 + 1).toNat = aq140.toNat + 1 by omega]; exact hk2
                            have hk5 : EQV s0 s2 := EQV_of hk3
                            show G Γ Mq117 306 [(8, .int rq112), (3, .int zq36), (7, .int (M_26.1 61 (((60 * ((M_26.1 65 b2_26.toNat).toInt)) + ((M_26.1 66 b2_26.toNat).toInt)).toNat))), (6, .int (M_26.1 66 b2_26.toNat)), (5, .int (M_26.1 65 b2_26.toNat)), (4, .int y4_26), (2, .int y2_26), (0, .ref (ad 47)), (1, .int x1)] [.int rq139, .int y2_26, .ref (ad 66)]
                            refine g_iconst X 1 dX7_sings_306 (by decide) ?_
                            refine g_iadd X dX7_sings_307 (fun zq143 eq144 => ?_)
                            have tq145 : zq143.toInt = aq140 + 1 := add_nw eq144 tq141 (show (1 : Int32).toInt = 1 by decide) (by omega)
                            refine g_iast X la_66 e2_26 dX7_sings_308 (by omega) ?_
                            have Iq146 : Iv TM (ui Mq117 66 b2_26.toNat zq143) := Iq118.otherA rfl
                            have frq147 : Fr W_X7_sings Mq (ui Mq117 66 b2_26.toNat zq143) := frq120.ui rfl
                            have cyq148 : 0 ≤ ((ui Mq117 66 b2_26.toNat zq143).2 47 34).toInt := numM_fr cyq116 (Fr.ui (W := [(66, 99)]) Fr.rf rfl) rfl
                            have cyq149 : WFM (ui Mq117 66 b2_26.toNat zq143) := WFM_fr cyq121 (Fr.ui (W := [(66, 99)]) Fr.rf rfl) rfl
                            have r0 : R6 M_26 (ui Mq117 66 b2_26.toNat zq143) (b2_26).toNat _ := R6_set r0
                            have hS9 : SIM (ui Mq117 66 b2_26.toNat zq143) b2_26 b4_26 := T_mv i2 h0 r0 (by assumption) hs0 (by omega) hk4 hk5
                            have hT : SIM (ui Mq117 66 b2_26.toNat zq143) b2_26 b4_26 ∧ mS (ui Mq117 66 b2_26.toNat zq143) b2_26 (b3_26 + 1) b4_26 < mS M_26 b2_26 b3_26 b4_26 := ⟨hS9, mS_item i2 I_26 hS9 Iq146 (by omega)⟩
                            refine g_goto X (tgt := 335) dX7_sings_309 (by decide) ?_
                            refine g_goto X (tgt := 431) dX7_sings_335 (by decide) ?_
                            refine g_goto X (tgt := 26) dX7_sings_431 (by decide) ?_
                            refine g_sub [5, 1, 6, 7, 8] rfl ?_
                            have hF : SIM (ui Mq117 66 b2_26.toNat zq143) b2_26 b4_26 ∧ mS (ui Mq117 66 b2_26.toNat zq143) b2_26 (b3_26 + 1) b4_26 < mS M_26 b2_26 b3_26 b4_26 := by first | exact hT | (have r9 : R6 M_26 (ui Mq117 66 b2_26.toNat zq143) (b2_26).toNat _ := (by first | exact r0 | exact R6_ui (R6_ui r0 rfl) rfl); have hS9 : SIM (ui Mq117 66 b2_26.toNat zq143) b2_26 b4_26 := T_adv hwf i2 h0 r9 (by assumption) (by omega) ⟨by rw [htx]; omega, by rw [htx]; omega⟩; first | exact ⟨hS9, mS_mv i2 I_26 h0 (by omega) r9 (by assumption) (by omega) (by omega)⟩ | exact ⟨hS9, mS_item i2 I_26 hS9 Iq146 (by omega)⟩) | exact T_pop cyq149 I_26 i2 h0 (by omega) (by omega)
                            exact ih26 y4_26 _ e4_26 zq36 _ tq38 y2_26 _ e2_26 (ui Mq117 66 b2_26.toNat zq143) (by omega) hF.1 Iq146 frq147 cyq148 cyq149 (by omega)
                      · refine g_aload_n X 6 rfl dX7_sings_241 ?_
                        refine g_iconst X 2 dX7_sings_242 (by decide) ?_
                        refine g_callV X m_X7_247 (c_X7_chooses ad (ui M_26 66 b2_26.toNat zq25) 2 (show (2 : Int32).toInt = 2 by decide) Iq28 (by omega) cyq30) rfl (by decide) (Nat.le_of_ble_eq_true rfl) rfl dX7_sings_243 ?_
                        rintro _ Mq155 ⟨rq150, aq151, rfl, tq152, hq153, cyq154, Iq156, frq157⟩
                        have frq158 : Fr W_X7_sings Mq Mq155 := frq29.trans frq157 rfl
                        have cyq159 : WFM Mq155 := WFM_fr cyq31 frq157 rfl
                        have trq160 : (Mq155.1 47 12).toInt = (M_26.1 47 12).toInt := congrArg Int32.toInt (frq157.at 47 12 rfl)
                        have trq161 : (Mq155.1 47 33).toInt = (M_26.1 47 33).toInt := congrArg Int32.toInt (frq157.at 47 33 rfl)
                        have r0 : R6 M_26 Mq155 (b2_26).toNat _ := R6_fr r0 frq157 rfl
                        show G Γ Mq155 246 [(3, .int zq36), (7, .int (M_26.1 61 (((60 * ((M_26.1 65 b2_26.toNat).toInt)) + ((M_26.1 66 b2_26.toNat).toInt)).toNat))), (6, .int (M_26.1 66 b2_26.toNat)), (5, .int (M_26.1 65 b2_26.toNat)), (4, .int y4_26), (2, .int y2_26), (0, .ref (ad 47)), (1, .int x1)] [.int rq150]
                        refine g_iconst X 1 dX7_sings_246 (by decide) ?_
                        refine g_icmp_ne X tq152 (show (1 : Int32).toInt = 1 by decide) (tgt := 431) dX7_sings_247 (by decide) (fun cq162 => ?_) (fun cq162 => ?_)
                        · refine g_goto X (tgt := 26) dX7_sings_431 (by decide) ?_
                          refine g_sub [4, 0, 5, 6, 7] rfl ?_
                          have hF : SIM Mq155 b2_26 b4_26 ∧ mS Mq155 b2_26 (b3_26 + 1) b4_26 < mS M_26 b2_26 b3_26 b4_26 := by first | exact hT | (have r9 : R6 M_26 Mq155 (b2_26).toNat _ := (by first | exact r0 | exact R6_ui (R6_ui r0 rfl) rfl); have hS9 : SIM Mq155 b2_26 b4_26 := T_adv hwf i2 h0 r9 (by assumption) (by omega) ⟨by rw [htx]; omega, by rw [htx]; omega⟩; first | exact ⟨hS9, mS_mv i2 I_26 h0 (by omega) r9 (by assumption) (by omega) (by omega)⟩ | exact ⟨hS9, mS_item i2 I_26 hS9 Iq156 (by omega)⟩) | exact T_pop cyq159 I_26 i2 h0 (by omega) (by omega)
                          exact ih26 y4_26 _ e4_26 zq36 _ tq38 y2_26 _ e2_26 Mq155 (by omega) hF.1 Iq156 frq158 cyq154 cyq159 (by omega)
                        · refine g_aload_n X 6 rfl dX7_sings_250 ?_
                          refine g_getr X f_X7_68 dX7_sings_251 ?_
                          refine g_iload_n X 5 rfl dX7_sings_254 ?_
                          have hx1 := r0.1
                          have hw1 : skN (txt Mq155 (((M_26.1 65 b2_26.toNat).toInt)).toNat) ((Mq155.1 62 (((M_26.1 65 b2_26.toNat).toInt)).toNat).toInt).toNat = some [] := (cyq159 _ (by omega) (by rw [hx1.2.2]; exact ha2)).1
                          have h62 : (Mq155.1 62 (((M_26.1 65 b2_26.toNat).toInt)).toNat).toInt = (M_26.1 62 (((M_26.1 65 b2_26.toNat).toInt)).toNat).toInt := congrFun hx1.2.1 _
                          have hS1 : skN (txt Mq155 (((M_26.1 65 b2_26.toNat).toInt)).toNat) (((M_26.1 66 b2_26.toNat).toInt)).toNat = some s0 := by rw [hx1.1]; exact hs0
                          have hc61 : (Mq155.1 61 (60 * ((M_26.1 65 b2_26.toNat).toInt) + ((M_26.1 66 b2_26.toNat).toInt)).toNat).toInt = (M_26.1 61 (60 * ((M_26.1 65 b2_26.toNat).toInt) + ((M_26.1 66 b2_26.toNat).toInt)).toNat).toInt := by rw [← txt_at (by omega) (by omega), hx1.1, txt_at (by omega) (by omega)]
                          refine g_aload_n X 6 rfl dX7_sings_255 ?_
                          refine g_iload X 3 rfl dX7_sings_256 ?_
                          refine g_iload X 2 rfl dX7_sings_258 ?_
                          refine g_callV X m_X7_251 (c_X7_behind ad Mq155 (M_26.1 65 b2_26.toNat) rfl (M_26.1 66 b2_26.toNat) rfl Iq156 (by omega) hw1 (by omega) hS1 (by omega)) rfl (by decide) (Nat.le_of_ble_eq_true rfl) rfl dX7_sings_260 ?_
                          rintro _ _ ⟨rq163, aq164, rfl, tq165, hq166, rfl⟩
                          obtain ⟨hk0, hk1, s2, hk2, hk3⟩ := hq166
                          rw [hx1.1] at hk2
                          have hk4 : skN (txt M_26 (((M_26.1 65 b2_26.toNat).toInt)).toNat) (aq164 + 1).toNat = some s2 := by rw [show (aq164 + 1).toNat = aq164.toNat + 1 by omega]; exact hk2
                          have hk5 : EQV s0 s2 := EQV_of hk3
                          show G Γ Mq155 263 [(3, .int zq36), (7, .int (M_26.1 61 (((60 * ((M_26.1 65 b2_26.toNat).toInt)) + ((M_26.1 66 b2_26.toNat).toInt)).toNat))), (6, .int (M_26.1 66 b2_26.toNat)), (5, .int (M_26.1 65 b2_26.toNat)), (4, .int y4_26), (2, .int y2_26), (0, .ref (ad 47)), (1, .int x1)] [.int rq163, .int y2_26, .ref (ad 66)]
                          refine g_iconst X 1 dX7_sings_263 (by decide) ?_
                          refine g_iadd X dX7_sings_264 (fun zq167 eq168 => ?_)
                          have tq169 : zq167.toInt = aq164 + 1 := add_nw eq168 tq165 (show (1 : Int32).toInt = 1 by decide) (by omega)
                          refine g_iast X la_66 e2_26 dX7_sings_265 (by omega) ?_
                          have Iq170 : Iv TM (ui Mq155 66 b2_26.toNat zq167) := Iq156.otherA rfl
                          have frq171 : Fr W_X7_sings Mq (ui Mq155 66 b2_26.toNat zq167) := frq158.ui rfl
                          have cyq172 : 0 ≤ ((ui Mq155 66 b2_26.toNat zq167).2 47 34).toInt := numM_fr cyq154 (Fr.ui (W := [(66, 99)]) Fr.rf rfl) rfl
                          have cyq173 : WFM (ui Mq155 66 b2_26.toNat zq167) := WFM_fr cyq159 (Fr.ui (W := [(66, 99)]) Fr.rf rfl) rfl
                          have r0 : R6 M_26 (ui Mq155 66 b2_26.toNat zq167) (b2_26).toNat _ := R6_set r0
                          have hS9 : SIM (ui Mq155 66 b2_26.toNat zq167) b2_26 b4_26 := T_mv i2 h0 r0 (by assumption) hs0 (by omega) hk4 hk5
                          have hT : SIM (ui Mq155 66 b2_26.toNat zq167) b2_26 b4_26 ∧ mS (ui Mq155 66 b2_26.toNat zq167) b2_26 (b3_26 + 1) b4_26 < mS M_26 b2_26 b3_26 b4_26 := ⟨hS9, mS_item i2 I_26 hS9 Iq170 (by omega)⟩
                          refine g_goto X (tgt := 431) dX7_sings_266 (by decide) ?_
                          refine g_goto X (tgt := 26) dX7_sings_431 (by decide) ?_
                          refine g_sub [4, 0, 5, 6, 7] rfl ?_
                          have hF : SIM (ui Mq155 66 b2_26.toNat zq167) b2_26 b4_26 ∧ mS (ui Mq155 66 b2_26.toNat zq167) b2_26 (b3_26 + 1) b4_26 < mS M_26 b2_26 b3_26 b4_26 := by first | exact hT | (have r9 : R6 M_26 (ui Mq155 66 b2_26.toNat zq167) (b2_26).toNat _ := (by first | exact r0 | exact R6_ui (R6_ui r0 rfl) rfl); have hS9 : SIM (ui Mq155 66 b2_26.toNat zq167) b2_26 b4_26 := T_adv hwf i2 h0 r9 (by assumption) (by omega) ⟨by rw [htx]; omega, by rw [htx]; omega⟩; first | exact ⟨hS9, mS_mv i2 I_26 h0 (by omega) r9 (by assumption) (by omega) (by omega)⟩ | exact ⟨hS9, mS_item i2 I_26 hS9 Iq170 (by omega)⟩) | exact T_pop cyq173 I_26 i2 h0 (by omega) (by omega)
                          exact ih26 y4_26 _ e4_26 zq36 _ tq38 y2_26 _ e2_26 (ui Mq155 66 b2_26.toNat zq167) (by omega) hF.1 Iq170 frq171 cyq172 cyq173 (by omega)
                    · refine g_aload_n X 6 rfl dX7_sings_207 ?_
                      refine g_iconst X 2 dX7_sings_208 (by decide) ?_
                      refine g_callV X m_X7_247 (c_X7_chooses ad (ui M_26 66 b2_26.toNat zq25) 2 (show (2 : Int32).toInt = 2 by decide) Iq28 (by omega) cyq30) rfl (by decide) (Nat.le_of_ble_eq_true rfl) rfl dX7_sings_209 ?_
                      rintro _ Mq179 ⟨rq174, aq175, rfl, tq176, hq177, cyq178, Iq180, frq181⟩
                      have frq182 : Fr W_X7_sings Mq Mq179 := frq29.trans frq181 rfl
                      have cyq183 : WFM Mq179 := WFM_fr cyq31 frq181 rfl
                      have trq184 : (Mq179.1 47 12).toInt = (M_26.1 47 12).toInt := congrArg Int32.toInt (frq181.at 47 12 rfl)
                      have trq185 : (Mq179.1 47 33).toInt = (M_26.1 47 33).toInt := congrArg Int32.toInt (frq181.at 47 33 rfl)
                      have r0 : R6 M_26 Mq179 (b2_26).toNat _ := R6_fr r0 frq181 rfl
                      show G Γ Mq179 212 [(3, .int zq36), (7, .int (M_26.1 61 (((60 * ((M_26.1 65 b2_26.toNat).toInt)) + ((M_26.1 66 b2_26.toNat).toInt)).toNat))), (6, .int (M_26.1 66 b2_26.toNat)), (5, .int (M_26.1 65 b2_26.toNat)), (4, .int y4_26), (2, .int y2_26), (0, .ref (ad 47)), (1, .int x1)] [.int rq174]
                      refine g_if_ne X tq176 (tgt := 431) dX7_sings_212 (by decide) (fun cq186 => ?_) (fun cq186 => ?_)
                      · refine g_goto X (tgt := 26) dX7_sings_431 (by decide) ?_
                        refine g_sub [4, 0, 5, 6, 7] rfl ?_
                        have hF : SIM Mq179 b2_26 b4_26 ∧ mS Mq179 b2_26 (b3_26 + 1) b4_26 < mS M_26 b2_26 b3_26 b4_26 := by first | exact hT | (have r9 : R6 M_26 Mq179 (b2_26).toNat _ := (by first | exact r0 | exact R6_ui (R6_ui r0 rfl) rfl); have hS9 : SIM Mq179 b2_26 b4_26 := T_adv hwf i2 h0 r9 (by assumption) (by omega) ⟨by rw [htx]; omega, by rw [htx]; omega⟩; first | exact ⟨hS9, mS_mv i2 I_26 h0 (by omega) r9 (by assumption) (by omega) (by omega)⟩ | exact ⟨hS9, mS_item i2 I_26 hS9 Iq180 (by omega)⟩) | exact T_pop cyq183 I_26 i2 h0 (by omega) (by omega)
                        exact ih26 y4_26 _ e4_26 zq36 _ tq38 y2_26 _ e2_26 Mq179 (by omega) hF.1 Iq180 frq182 cyq178 cyq183 (by omega)
                      · refine g_aload_n X 6 rfl dX7_sings_215 ?_
                        refine g_getr X f_X7_68 dX7_sings_216 ?_
                        refine g_iload_n X 5 rfl dX7_sings_219 ?_
                        have hx1 := r0.1
                        have hw1 : skN (txt Mq179 (((M_26.1 65 b2_26.toNat).toInt)).toNat) ((Mq179.1 62 (((M_26.1 65 b2_26.toNat).toInt)).toNat).toInt).toNat = some [] := (cyq183 _ (by omega) (by rw [hx1.2.2]; exact ha2)).1
                        have h62 : (Mq179.1 62 (((M_26.1 65 b2_26.toNat).toInt)).toNat).toInt = (M_26.1 62 (((M_26.1 65 b2_26.toNat).toInt)).toNat).toInt := congrFun hx1.2.1 _
                        have hS1 : skN (txt Mq179 (((M_26.1 65 b2_26.toNat).toInt)).toNat) (((M_26.1 66 b2_26.toNat).toInt)).toNat = some s0 := by rw [hx1.1]; exact hs0
                        have hc61 : (Mq179.1 61 (60 * ((M_26.1 65 b2_26.toNat).toInt) + ((M_26.1 66 b2_26.toNat).toInt)).toNat).toInt = (M_26.1 61 (60 * ((M_26.1 65 b2_26.toNat).toInt) + ((M_26.1 66 b2_26.toNat).toInt)).toNat).toInt := by rw [← txt_at (by omega) (by omega), hx1.1, txt_at (by omega) (by omega)]
                        refine g_aload_n X 6 rfl dX7_sings_220 ?_
                        refine g_iload X 3 rfl dX7_sings_221 ?_
                        refine g_iload X 2 rfl dX7_sings_223 ?_
                        refine g_callV X m_X7_251 (c_X7_behind ad Mq179 (M_26.1 65 b2_26.toNat) rfl (M_26.1 66 b2_26.toNat) rfl Iq180 (by omega) hw1 (by omega) hS1 (by omega)) rfl (by decide) (Nat.le_of_ble_eq_true rfl) rfl dX7_sings_225 ?_
                        rintro _ _ ⟨rq187, aq188, rfl, tq189, hq190, rfl⟩
                        obtain ⟨hk0, hk1, s2, hk2, hk3⟩ := hq190
                        rw [hx1.1] at hk2
                        have hk4 : skN (txt M_26 (((M_26.1 65 b2_26.toNat).toInt)).toNat) (aq188 + 1).toNat = some s2 := by rw [show (aq188 + 1).toNat = aq188.toNat + 1 by omega]; exact hk2
                        have hk5 : EQV s0 s2 := EQV_of hk3
                        show G Γ Mq179 228 [(3, .int zq36), (7, .int (M_26.1 61 (((60 * ((M_26.1 65 b2_26.toNat).toInt)) + ((M_26.1 66 b2_26.toNat).toInt)).toNat))), (6, .int (M_26.1 66 b2_26.toNat)), (5, .int (M_26.1 65 b2_26.toNat)), (4, .int y4_26), (2, .int y2_26), (0, .ref (ad 47)), (1, .int x1)] [.int rq187, .int y2_26, .ref (ad 66)]
                        refine g_iconst X 1 dX7_sings_228 (by decide) ?_
                        refine g_iadd X dX7_sings_229 (fun zq191 eq192 => ?_)
                        have tq193 : zq191.toInt = aq188 + 1 := add_nw eq192 tq189 (show (1 : Int32).toInt = 1 by decide) (by omega)
                        refine g_iast X la_66 e2_26 dX7_sings_230 (by omega) ?_
                        have Iq194 : Iv TM (ui Mq179 66 b2_26.toNat zq191) := Iq180.otherA rfl
                        have frq195 : Fr W_X7_sings Mq (ui Mq179 66 b2_26.toNat zq191) := frq182.ui rfl
                        have cyq196 : 0 ≤ ((ui Mq179 66 b2_26.toNat zq191).2 47 34).toInt := numM_fr cyq178 (Fr.ui (W := [(66, 99)]) Fr.rf rfl) rfl
                        have cyq197 : WFM (ui Mq179 66 b2_26.toNat zq191) := WFM_fr cyq183 (Fr.ui (W := [(66, 99)]) Fr.rf rfl) rfl
                        have r0 : R6 M_26 (ui Mq179 66 b2_26.toNat zq191) (b2_26).toNat _ := R6_set r0
                        have hS9 : SIM (ui Mq179 66 b2_26.toNat zq191) b2_26 b4_26 := T_mv i2 h0 r0 (by assumption) hs0 (by omega) hk4 hk5
                        have hT : SIM (ui Mq179 66 b2_26.toNat zq191) b2_26 b4_26 ∧ mS (ui Mq179 66 b2_26.toNat zq191) b2_26 (b3_26 + 1) b4_26 < mS M_26 b2_26 b3_26 b4_26 := ⟨hS9, mS_item i2 I_26 hS9 Iq194 (by omega)⟩
                        refine g_goto X (tgt := 431) dX7_sings_231 (by decide) ?_
                        refine g_goto X (tgt := 26) dX7_sings_431 (by decide) ?_
                        refine g_sub [4, 0, 5, 6, 7] rfl ?_
                        have hF : SIM (ui Mq179 66 b2_26.toNat zq191) b2_26 b4_26 ∧ mS (ui Mq179 66 b2_26.toNat zq191) b2_26 (b3_26 + 1) b4_26 < mS M_26 b2_26 b3_26 b4_26 := by first | exact hT | (have r9 : R6 M_26 (ui Mq179 66 b2_26.toNat zq191) (b2_26).toNat _ := (by first | exact r0 | exact R6_ui (R6_ui r0 rfl) rfl); have hS9 : SIM (ui Mq179 66 b2_26.toNat zq191) b2_26 b4_26 := T_adv hwf i2 h0 r9 (by assumption) (by omega) ⟨by rw [htx]; omega, by rw [htx]; omega⟩; first | exact ⟨hS9, mS_mv i2 I_26 h0 (by omega) r9 (by assumption) (by omega) (by omega)⟩ | exact ⟨hS9, mS_item i2 I_26 hS9 Iq194 (by omega)⟩) | exact T_pop cyq197 I_26 i2 h0 (by omega) (by omega)
                        exact ih26 y4_26 _ e4_26 zq36 _ tq38 y2_26 _ e2_26 (ui Mq179 66 b2_26.toNat zq191) (by omega) hF.1 Iq194 frq195 cyq196 cyq197 (by omega)
                  · refine g_iconst X 0 dX7_sings_198 (by decide) ?_
                    exact g_zret X (b01 (show (0 : Int32).toInt = 0 by decide) (by omega)) dX7_sings_199 ⟨_, _, rfl, (show (0 : Int32).toInt = 0 by decide), (by omega), cyq30, Iq28, frq29⟩
                · obtain ⟨bb, hb1, hb2, hb3, hb4, hb5⟩ := T_brace hwf i2 h0 (by omega) (by rw [htx]; omega)
                  refine g_aload_n X 6 rfl dX7_sings_139 ?_
                  refine g_getr X f_X7_71 dX7_sings_140 ?_
                  refine g_iload X 3 rfl dX7_sings_143 ?_
                  refine g_iconst X 1 dX7_sings_145 (by decide) ?_
                  refine g_isub X dX7_sings_146 (fun zq198 eq199 => ?_)
                  have tq200 : zq198.toInt = b4_26 - 1 := sub_nw eq199 e4_26 (show (1 : Int32).toInt = 1 by decide) (by omega)
                  refine g_dup2 X dX7_sings_147 rfl rfl ?_
                  refine g_iald X la_67 tq200 dX7_sings_148 (by omega) (x := M_26.1 67 ((b4_26 - 1).toNat)) rfl ?_
                  refine g_iconst X 1 dX7_sings_149 (by decide) ?_
                  refine g_isub X dX7_sings_150 (fun zq201 eq202 => ?_)
                  have tq203 : zq201.toInt = ((M_26.1 67 ((b4_26 - 1).toNat)).toInt) - 1 := sub_nw eq202 rfl (show (1 : Int32).toInt = 1 by decide) (by omega)
                  refine g_iast X la_67 tq200 dX7_sings_151 (by omega) ?_
                  have Iq204 : Iv TM (ui (ui M_26 66 b2_26.toNat zq25) 67 ((b4_26 - 1).toNat) zq201) := Iq28.otherA rfl
                  have frq205 : Fr W_X7_sings Mq (ui (ui M_26 66 b2_26.toNat zq25) 67 ((b4_26 - 1).toNat) zq201) := frq29.ui rfl
                  have cyq206 : 0 ≤ ((ui (ui M_26 66 b2_26.toNat zq25) 67 ((b4_26 - 1).toNat) zq201).2 47 34).toInt := numM_fr cyq30 (Fr.ui (W := [(67, 99)]) Fr.rf rfl) rfl
                  have cyq207 : WFM (ui (ui M_26 66 b2_26.toNat zq25) 67 ((b4_26 - 1).toNat) zq201) := WFM_fr cyq31 (Fr.ui (W := [(67, 99)]) Fr.rf rfl) rfl
                  refine g_aload_n X 6 rfl dX7_sings_152 ?_
                  refine g_getr X f_X7_71 dX7_sings_153 ?_
                  refine g_iload X 3 rfl dX7_sings_156 ?_
                  refine g_iconst X 1 dX7_sings_158 (by decide) ?_
                  refine g_isub X dX7_sings_159 (fun zq208 eq209 => ?_)
                  have tq210 : zq208.toInt = b4_26 - 1 := sub_nw eq209 e4_26 (show (1 : Int32).toInt = 1 by decide) (by omega)
                  refine g_iald X la_67 tq210 dX7_sings_160 (by omega) (x := zq201) (by first | rfl | (repeat (first | rw [ui_eq] | rw [ui_nk (by decide)]))) ?_
                  refine g_if_le X tq203 (tgt := 182) dX7_sings_161 (by decide) (fun cq211 => ?_) (fun cq211 => ?_)
                  · refine g_iinc X 3 (fun v => [(4, .int v), (7, .int (M_26.1 61 (((60 * ((M_26.1 65 b2_26.toNat).toInt)) + ((M_26.1 66 b2_26.toNat).toInt)).toNat))), (6, .int (M_26.1 66 b2_26.toNat)), (5, .int (M_26.1 65 b2_26.toNat)), (3, .int y3_26), (2, .int y2_26), (0, .ref (ad 47)), (1, .int x1)]) dX7_sings_182 rfl (by decide) (fun _ => rfl) (fun zq212 eq213 => ?_)
                    have tq214 : zq212.toInt = b4_26 + (-1) := add_nw eq213 e4_26 (show (Int32.ofInt (-1)).toInt = (-1) by decide) (by omega)
                    have hT : SIM (ui (ui M_26 66 b2_26.toNat zq25) 67 ((b4_26 - 1).toNat) zq201) b2_26 (b4_26 + (-1)) ∧ mS (ui (ui M_26 66 b2_26.toNat zq25) 67 ((b4_26 - 1).toNat) zq201) b2_26 b3_26 (b4_26 + (-1)) < mS M_26 b2_26 b3_26 b4_26 := ⟨(T_end i2 I_26 h0 (gone := b3_26) (by omega) hb1 hb2 hb3 r0 (by assumption) (by omega) hb4.1).1, (T_end i2 I_26 h0 (gone := b3_26) (by omega) hb1 hb2 hb3 r0 (by assumption) (by omega) hb4.1).2 Iq204⟩
                    refine g_goto X (tgt := 26) dX7_sings_185 (by decide) ?_
                    refine g_sub [0, 4, 5, 6, 7] rfl ?_
                    have hF : SIM (ui (ui M_26 66 b2_26.toNat zq25) 67 ((b4_26 - 1).toNat) zq201) b2_26 (b4_26 + (-1)) ∧ mS (ui (ui M_26 66 b2_26.toNat zq25) 67 ((b4_26 - 1).toNat) zq201) b2_26 b3_26 (b4_26 + (-1)) < mS M_26 b2_26 b3_26 b4_26 := by first | exact hT | (have r9 : R6 M_26 (ui (ui M_26 66 b2_26.toNat zq25) 67 ((b4_26 - 1).toNat) zq201) (b2_26).toNat _ := (by first | exact r0 | exact R6_ui (R6_ui r0 rfl) rfl); have hS9 : SIM (ui (ui M_26 66 b2_26.toNat zq25) 67 ((b4_26 - 1).toNat) zq201) b2_26 (b4_26 + (-1)) := T_adv hwf i2 h0 r9 (by assumption) (by omega) ⟨by rw [htx]; omega, by rw [htx]; omega⟩; first | exact ⟨hS9, mS_mv i2 I_26 h0 (by omega) r9 (by assumption) (by omega) (by omega)⟩ | exact ⟨hS9, mS_item i2 I_26 hS9 Iq204 (by omega)⟩) | exact T_pop cyq207 I_26 i2 h0 (by omega) (by omega)
                    exact ih26 zq212 _ tq214 y3_26 _ e3_26 y2_26 _ e2_26 (ui (ui M_26 66 b2_26.toNat zq25) 67 ((b4_26 - 1).toNat) zq201) (by omega) hF.1 Iq204 frq205 cyq206 cyq207 (by omega)
                  · refine g_aload_n X 6 rfl dX7_sings_164 ?_
                    refine g_getr X f_X7_68 dX7_sings_165 ?_
                    refine g_iload_n X 5 rfl dX7_sings_168 ?_
                    refine g_aload_n X 6 rfl dX7_sings_169 ?_
                    refine g_getr X f_X7_74 dX7_sings_170 ?_
                    refine g_iload X 3 rfl dX7_sings_173 ?_
                    refine g_iconst X 1 dX7_sings_175 (by decide) ?_
                    refine g_isub X dX7_sings_176 (fun zq215 eq216 => ?_)
                    have tq217 : zq215.toInt = b4_26 - 1 := sub_nw eq216 e4_26 (show (1 : Int32).toInt = 1 by decide) (by omega)
                    refine g_iald X la_68 tq217 dX7_sings_177 (by omega) (x := M_26.1 68 ((b4_26 - 1).toNat)) rfl ?_
                    refine g_iast X la_66 e2_26 dX7_sings_178 (by omega) ?_
                    have Iq218 : Iv TM (ui (ui (ui M_26 66 b2_26.toNat zq25) 67 ((b4_26 - 1).toNat) zq201) 66 b2_26.toNat (M_26.1 68 ((b4_26 - 1).toNat))) := Iq204.otherA rfl
                    have frq219 : Fr W_X7_sings Mq (ui (ui (ui M_26 66 b2_26.toNat zq25) 67 ((b4_26 - 1).toNat) zq201) 66 b2_26.toNat (M_26.1 68 ((b4_26 - 1).toNat))) := frq205.ui rfl
                    have cyq220 : 0 ≤ ((ui (ui (ui M_26 66 b2_26.toNat zq25) 67 ((b4_26 - 1).toNat) zq201) 66 b2_26.toNat (M_26.1 68 ((b4_26 - 1).toNat))).2 47 34).toInt := numM_fr cyq206 (Fr.ui (W := [(66, 99)]) Fr.rf rfl) rfl
                    have cyq221 : WFM (ui (ui (ui M_26 66 b2_26.toNat zq25) 67 ((b4_26 - 1).toNat) zq201) 66 b2_26.toNat (M_26.1 68 ((b4_26 - 1).toNat))) := WFM_fr cyq207 (Fr.ui (W := [(66, 99)]) Fr.rf rfl) rfl
                    have hT : SIM (ui (ui (ui M_26 66 b2_26.toNat zq25) 67 ((b4_26 - 1).toNat) zq201) 66 b2_26.toNat (M_26.1 68 ((b4_26 - 1).toNat))) b2_26 b4_26 ∧ mS (ui (ui (ui M_26 66 b2_26.toNat zq25) 67 ((b4_26 - 1).toNat) zq201) 66 b2_26.toNat (M_26.1 68 ((b4_26 - 1).toNat))) b2_26 b3_26 b4_26 < mS M_26 b2_26 b3_26 b4_26 := ⟨(T_jump i2 I_26 h0 (gone := b3_26) (by omega) hb1 hb3 r0 (by assumption) (by omega) hb4.2 rfl).1, (T_jump i2 I_26 h0 (gone := b3_26) (by omega) hb1 hb3 r0 (by assumption) (by omega) hb4.2 rfl).2 Iq218⟩
                    refine g_goto X (tgt := 26) dX7_sings_179 (by decide) ?_
                    refine g_sub [3, 4, 5, 6, 7] rfl ?_
                    have hF : SIM (ui (ui (ui M_26 66 b2_26.toNat zq25) 67 ((b4_26 - 1).toNat) zq201) 66 b2_26.toNat (M_26.1 68 ((b4_26 - 1).toNat))) b2_26 b4_26 ∧ mS (ui (ui (ui M_26 66 b2_26.toNat zq25) 67 ((b4_26 - 1).toNat) zq201) 66 b2_26.toNat (M_26.1 68 ((b4_26 - 1).toNat))) b2_26 b3_26 b4_26 < mS M_26 b2_26 b3_26 b4_26 := by first | exact hT | (have r9 : R6 M_26 (ui (ui (ui M_26 66 b2_26.toNat zq25) 67 ((b4_26 - 1).toNat) zq201) 66 b2_26.toNat (M_26.1 68 ((b4_26 - 1).toNat))) (b2_26).toNat _ := (by first | exact r0 | exact R6_ui (R6_ui r0 rfl) rfl); have hS9 : SIM (ui (ui (ui M_26 66 b2_26.toNat zq25) 67 ((b4_26 - 1).toNat) zq201) 66 b2_26.toNat (M_26.1 68 ((b4_26 - 1).toNat))) b2_26 b4_26 := T_adv hwf i2 h0 r9 (by assumption) (by omega) ⟨by rw [htx]; omega, by rw [htx]; omega⟩; first | exact ⟨hS9, mS_mv i2 I_26 h0 (by omega) r9 (by assumption) (by omega) (by omega)⟩ | exact ⟨hS9, mS_item i2 I_26 hS9 Iq218 (by omega)⟩) | exact T_pop cyq221 I_26 i2 h0 (by omega) (by omega)
                    exact ih26 y4_26 _ e4_26 y3_26 _ e3_26 y2_26 _ e2_26 (ui (ui (ui M_26 66 b2_26.toNat zq25) 67 ((b4_26 - 1).toNat) zq201) 66 b2_26.toNat (M_26.1 68 ((b4_26 - 1).toNat))) (by omega) hF.1 Iq218 frq219 cyq220 cyq221 (by omega)
              · obtain ⟨S0, hsa, hsb⟩ := T_bar hwf i2 h0 (by omega) (by rw [htx]; omega)
                have hx1 := r0.1
                have hw1 : skN (txt (ui M_26 66 b2_26.toNat zq25) (((M_26.1 65 b2_26.toNat).toInt)).toNat) (((ui M_26 66 b2_26.toNat zq25).1 62 (((M_26.1 65 b2_26.toNat).toInt)).toNat).toInt).toNat = some [] := (cyq31 _ (by omega) (by rw [hx1.2.2]; exact ha2)).1
                have h62 : ((ui M_26 66 b2_26.toNat zq25).1 62 (((M_26.1 65 b2_26.toNat).toInt)).toNat).toInt = (M_26.1 62 (((M_26.1 65 b2_26.toNat).toInt)).toNat).toInt := congrFun hx1.2.1 _
                refine g_aload_n X 6 rfl dX7_sings_113 ?_
                refine g_getr X f_X7_68 dX7_sings_114 ?_
                refine g_iload_n X 5 rfl dX7_sings_117 ?_
                refine g_aload_n X 6 rfl dX7_sings_118 ?_
                refine g_iload X 2 rfl dX7_sings_119 ?_
                refine g_iload X 1 rfl dX7_sings_121 ?_
                refine g_callV X m_X7_244 (c_X7_endFrom ad (ui M_26 66 b2_26.toNat zq25) (M_26.1 65 b2_26.toNat) rfl (M_26.1 66 b2_26.toNat) rfl Iq28 (by omega) hw1 (by omega) (by rw [hx1.1]; exact hsb)) rfl (by decide) (Nat.le_of_ble_eq_true rfl) rfl dX7_sings_123 ?_
                rintro _ _ ⟨rq222, aq223, rfl, tq224, hq225, rfl⟩
                have hq226 : 0 ≤ aq223 ∧ ((M_26.1 66 b2_26.toNat).toInt) < aq223 ∧ aq223 < (((ui M_26 66 b2_26.toNat zq25).1 62 ((M_26.1 65 b2_26.toNat).toInt).toNat).toInt) ∧ skN (txt (ui M_26 66 b2_26.toNat zq25) ((M_26.1 65 b2_26.toNat).toInt).toNat) (aq223.toNat + 1) = some S0 := hq225
                clear hq225
                have hE : skN (txt M_26 (((M_26.1 65 b2_26.toNat).toInt)).toNat) (aq223 + 1).toNat = some S0 := by rw [show (aq223 + 1).toNat = aq223.toNat + 1 by omega, ← hx1.1]; exact hq226.2.2.2
                have hE2 := hq226.2.1
                have hE3 := hq226.2.2.1
                show G Γ (ui M_26 66 b2_26.toNat zq25) 126 [(7, .int (M_26.1 61 (((60 * ((M_26.1 65 b2_26.toNat).toInt)) + ((M_26.1 66 b2_26.toNat).toInt)).toNat))), (6, .int (M_26.1 66 b2_26.toNat)), (5, .int (M_26.1 65 b2_26.toNat)), (4, .int y4_26), (3, .int y3_26), (2, .int y2_26), (0, .ref (ad 47)), (1, .int x1)] [.int rq222, .int y2_26, .ref (ad 66)]
                refine g_iconst X 1 dX7_sings_126 (by decide) ?_
                refine g_iadd X dX7_sings_127 (fun zq227 eq228 => ?_)
                have tq229 : zq227.toInt = aq223 + 1 := add_nw eq228 tq224 (show (1 : Int32).toInt = 1 by decide) (by omega)
                refine g_iast X la_66 e2_26 dX7_sings_128 (by omega) ?_
                have Iq230 : Iv TM (ui (ui M_26 66 b2_26.toNat zq25) 66 b2_26.toNat zq227) := Iq28.otherA rfl
                have frq231 : Fr W_X7_sings Mq (ui (ui M_26 66 b2_26.toNat zq25) 66 b2_26.toNat zq227) := frq29.ui rfl
                have cyq232 : 0 ≤ ((ui (ui M_26 66 b2_26.toNat zq25) 66 b2_26.toNat zq227).2 47 34).toInt := numM_fr cyq30 (Fr.ui (W := [(66, 99)]) Fr.rf rfl) rfl
                have cyq233 : WFM (ui (ui M_26 66 b2_26.toNat zq25) 66 b2_26.toNat zq227) := WFM_fr cyq31 (Fr.ui (W := [(66, 99)]) Fr.rf rfl) rfl
                have r0 : R6 M_26 (ui (ui M_26 66 b2_26.toNat zq25) 66 b2_26.toNat zq227) (b2_26).toNat _ := R6_set r0
                have hT : SIM (ui (ui M_26 66 b2_26.toNat zq25) 66 b2_26.toNat zq227) b2_26 b4_26 ∧ mS (ui (ui M_26 66 b2_26.toNat zq25) 66 b2_26.toNat zq227) b2_26 b3_26 b4_26 < mS M_26 b2_26 b3_26 b4_26 := ⟨T_mv i2 h0 r0 (by assumption) hsa (by omega) hE (EQV.drop (by decide)), mS_mv i2 I_26 h0 (by omega) r0 (by assumption) (by omega) (by omega)⟩
                refine g_goto X (tgt := 26) dX7_sings_129 (by decide) ?_
                refine g_sub [3, 4, 5, 6, 7] rfl ?_
                have hF : SIM (ui (ui M_26 66 b2_26.toNat zq25) 66 b2_26.toNat zq227) b2_26 b4_26 ∧ mS (ui (ui M_26 66 b2_26.toNat zq25) 66 b2_26.toNat zq227) b2_26 b3_26 b4_26 < mS M_26 b2_26 b3_26 b4_26 := by first | exact hT | (have r9 : R6 M_26 (ui (ui M_26 66 b2_26.toNat zq25) 66 b2_26.toNat zq227) (b2_26).toNat _ := (by first | exact r0 | exact R6_ui (R6_ui r0 rfl) rfl); have hS9 : SIM (ui (ui M_26 66 b2_26.toNat zq25) 66 b2_26.toNat zq227) b2_26 b4_26 := T_adv hwf i2 h0 r9 (by assumption) (by omega) ⟨by rw [htx]; omega, by rw [htx]; omega⟩; first | exact ⟨hS9, mS_mv i2 I_26 h0 (by omega) r9 (by assumption) (by omega) (by omega)⟩ | exact ⟨hS9, mS_item i2 I_26 hS9 Iq230 (by omega)⟩) | exact T_pop cyq233 I_26 i2 h0 (by omega) (by omega)
                exact ih26 y4_26 _ e4_26 y3_26 _ e3_26 y2_26 _ e2_26 (ui (ui M_26 66 b2_26.toNat zq25) 66 b2_26.toNat zq227) (by omega) hF.1 Iq230 frq231 cyq232 cyq233 (by omega)
            · refine g_goto X (tgt := 26) dX7_sings_103 (by decide) ?_
              refine g_sub [3, 4, 5, 6, 7] rfl ?_
              have hF : SIM (ui M_26 66 b2_26.toNat zq25) b2_26 b4_26 ∧ mS (ui M_26 66 b2_26.toNat zq25) b2_26 b3_26 b4_26 < mS M_26 b2_26 b3_26 b4_26 := by first | exact hT | (have r9 : R6 M_26 (ui M_26 66 b2_26.toNat zq25) (b2_26).toNat _ := (by first | exact r0 | exact R6_ui (R6_ui r0 rfl) rfl); have hS9 : SIM (ui M_26 66 b2_26.toNat zq25) b2_26 b4_26 := T_adv hwf i2 h0 r9 (by assumption) (by omega) ⟨by rw [htx]; omega, by rw [htx]; omega⟩; first | exact ⟨hS9, mS_mv i2 I_26 h0 (by omega) r9 (by assumption) (by omega) (by omega)⟩ | exact ⟨hS9, mS_item i2 I_26 hS9 Iq28 (by omega)⟩) | exact T_pop cyq31 I_26 i2 h0 (by omega) (by omega)
              exact ih26 y4_26 _ e4_26 y3_26 _ e3_26 y2_26 _ e2_26 (ui M_26 66 b2_26.toNat zq25) (by omega) hF.1 Iq28 frq29 cyq30 cyq31 (by omega)
        · refine g_iinc X 4 (fun v => [(2, .int v), (6, .int (M_26.1 66 b2_26.toNat)), (5, .int (M_26.1 65 b2_26.toNat)), (4, .int y4_26), (3, .int y3_26), (0, .ref (ad 47)), (1, .int x1)]) dX7_sings_58 rfl (by decide) (fun _ => rfl) (fun zq234 eq235 => ?_)
          have tq236 : zq234.toInt = b2_26 + (-1) := add_nw eq235 e2_26 (show (Int32.ofInt (-1)).toInt = (-1) by decide) (by omega)
          refine g_goto X (tgt := 26) dX7_sings_61 (by decide) ?_
          refine g_sub [3, 4, 0, 5, 6] rfl ?_
          have hF : SIM M_26 (b2_26 + (-1)) b4_26 ∧ mS M_26 (b2_26 + (-1)) b3_26 b4_26 < mS M_26 b2_26 b3_26 b4_26 := by first | exact hT | (have r9 : R6 M_26 M_26 (b2_26).toNat _ := (by first | exact r0 | exact R6_ui (R6_ui r0 rfl) rfl); have hS9 : SIM M_26 (b2_26 + (-1)) b4_26 := T_adv hwf i2 h0 r9 (by assumption) (by omega) ⟨by rw [htx]; omega, by rw [htx]; omega⟩; first | exact ⟨hS9, mS_mv i2 I_26 h0 (by omega) r9 (by assumption) (by omega) (by omega)⟩ | exact ⟨hS9, mS_item i2 I_26 hS9 I_26 (by omega)⟩) | exact T_pop cy1_26 I_26 i2 h0 (by omega) (by omega)
          exact ih26 y4_26 _ e4_26 y3_26 _ e3_26 zq234 _ tq236 M_26 (by omega) hF.1 I_26 fr_26 cy0_26 cy1_26 (by omega)
  refine g_sub [0, 1, 2, 3, 4] rfl ?_
  exact lp26 _ 0 _ (show (0 : Int32).toInt = 0 by decide) 0 _ (show (0 : Int32).toInt = 0 by decide) 0 _ (show (0 : Int32).toInt = 0 by decide) (ui (ui (ui Mq 65 0 x1) 66 0 0) 47 33 0) (by omega) (SIM_0 t1 (by decide) h1 (show 0 < tel Mq a1.toNat from ht) Iq0) Iq11 frq12 cyq13 cyq14 (Nat.lt_succ_self _)
abbrev W_X7_sing : List (Nat × Nat) := [(65, 99), (66, 99), (67, 99), (68, 99), (70, 99), (47, 33), (47, 34), (85, 99), (69, 99), (47, 32)]
set_option maxHeartbeats 4000000 in
set_option maxRecDepth 4000 in
theorem c_X7_sing (ad : Nat → Nat) (Mq : Mem) (x1 : Int32) {a1 : Int} (t1 : x1.toInt = a1) (x2 : Int32) {a2 : Int} (t2 : x2.toInt = a2) (x3 : Int32) {a3 : Int} (t3 : x3.toInt = a3) (x4 : Int64) {a4 : Int} (t4 : x4.toInt = a4) (Iq0 : Iv TM Mq) (cy0 : 0 ≤ (Mq.2 47 34).toInt) (cy1 : WFM Mq) : Ctr ad yX7_sing cX7_sing 7 (some .int) 2 [.ref (ad 47), .int x1, .int x2, .int x3, .long x4] Mq (fun v M' => ∃ (r : Int32) (a : Int), v = some (.int r) ∧ r.toInt = a ∧ (True) ∧ (0 ≤ (M'.2 47 34).toInt) ∧ Iv TM M' ∧ Fr W_X7_sing Mq M') := by
  refine ctr_of (L := [(0, .ref (ad 47)), (1, .int x1), (2, .int x2), (3, .int x3), (4, .long x4)]) (by decide) (Nat.le_of_ble_eq_true rfl) rfl ?_
  intro Γ X
  have X : gX Γ cX7_sing RX7 7 (some .int) 2 ad _ := X
  have frq0 : Fr W_X7_sing Mq Mq := Fr.rf
  have g12 := ig_47_12 Iq0
  have g24 := ig_47_24 Iq0
  have g33 := ig_47_33 Iq0
  have g52 := ig_47_52 Iq0
  have g53 := ig_47_53 Iq0
  refine g_aload_n X 0 rfl dX7_sing_0 ?_
  refine g_iload_n X 1 rfl dX7_sing_1 ?_
  refine g_callV X m_X7_220 (c_X7_isTold ad Mq x1 t1) rfl (by decide) (Nat.le_of_ble_eq_true rfl) rfl dX7_sing_2 ?_
  rintro _ _ ⟨rq1, aq2, rfl, tq3, hq4, rfl⟩
  show G Γ Mq 5 [(0, .ref (ad 47)), (1, .int x1), (2, .int x2), (3, .int x3), (4, .long x4)] [.int rq1]
  refine g_if_eq X tq3 (tgt := 16) dX7_sing_5 (by decide) (fun cq5 => ?_) (fun cq5 => ?_)
  · have pq6 : ¬ (0 ≤ a1 ∧ a1 ≤ 7 ∧ 0 < (Mq.1 63 a1.toNat).toInt) := by omega
    clear hq4 cq5 tq3
    refine g_iconst X (-1) dX7_sing_16 (by decide) ?_
    exact g_iret X dX7_sing_17 ⟨_, _, rfl, (show ((-1) : Int32).toInt = (-1) by decide), trivial, cy0, Iq0, frq0⟩
  · have pq7 : (0 ≤ a1 ∧ a1 ≤ 7 ∧ 0 < (Mq.1 63 a1.toNat).toInt) := by omega
    clear hq4 cq5 tq3
    refine g_aload_n X 0 rfl dX7_sing_8 ?_
    refine g_iload_n X 2 rfl dX7_sing_9 ?_
    refine g_callV X m_X7_260 (c_X7_isSinger ad Mq x2 t2) rfl (by decide) (Nat.le_of_ble_eq_true rfl) rfl dX7_sing_10 ?_
    rintro _ _ ⟨rq8, aq9, rfl, tq10, hq11, rfl⟩
    show G Γ Mq 13 [(0, .ref (ad 47)), (1, .int x1), (2, .int x2), (3, .int x3), (4, .long x4)] [.int rq8]
    refine g_if_ne X tq10 (tgt := 18) dX7_sing_13 (by decide) (fun cq12 => ?_) (fun cq12 => ?_)
    · have pq13 : (0 ≤ a2 ∧ a2 < ((Mq.1 47 52)).toInt) := by omega
      clear hq11 cq12 tq10
      refine g_iload_n X 3 rfl dX7_sing_18 ?_
      refine g_callS X m_X7_263 (c_X7_isYear ad Mq x3 t3) rfl (by decide) (Nat.le_of_ble_eq_true rfl) rfl dX7_sing_19 ?_
      rintro _ _ ⟨rq14, aq15, rfl, tq16, hq17, rfl⟩
      show G Γ Mq 22 [(0, .ref (ad 47)), (1, .int x1), (2, .int x2), (3, .int x3), (4, .long x4)] [.int rq14]
      refine g_if_eq X tq16 (tgt := 32) dX7_sing_22 (by decide) (fun cq18 => ?_) (fun cq18 => ?_)
      · have pq19 : ¬ (0 ≤ a3 ∧ a3 ≤ 999) := by omega
        clear hq17 cq18 tq16
        refine g_bipush X (-2) dX7_sing_32 (by decide) ?_
        exact g_iret X dX7_sing_34 ⟨_, _, rfl, (show ((-2) : Int32).toInt = (-2) by decide), trivial, cy0, Iq0, frq0⟩
      · have pq20 : (0 ≤ a3 ∧ a3 ≤ 999) := by omega
        clear hq17 cq18 tq16
        refine g_lload X 4 rfl dX7_sing_25 ?_
        refine g_lconst X 0 dX7_sing_27 (by decide) ?_
        refine g_lcmp X t4 (show (0 : Int64).toInt = 0 by decide) dX7_sing_28 (fun zq21 eq22 => ?_)
        refine g_if_ge X rfl (tgt := 35) dX7_sing_29 (by decide) (fun cq23 => ?_) (fun cq23 => ?_)
        · refine g_aload_n X 0 rfl dX7_sing_35 ?_
          refine g_iload_n X 2 rfl dX7_sing_36 ?_
          refine g_iload_n X 3 rfl dX7_sing_37 ?_
          refine g_aload_n X 0 rfl dX7_sing_38 ?_
          refine g_geti X f_X7_266 dX7_sing_39 (x := Mq.1 47 53) rfl ?_
          have bq24 := ig_47_53 Iq0
          refine g_callV X m_X7_269 (c_X7_findStock ad Mq x2 t2 x3 t3 (Mq.1 47 53) rfl Iq0 (by omega)) rfl (by decide) (Nat.le_of_ble_eq_true rfl) rfl dX7_sing_42 ?_
          rintro _ Mq29 ⟨rfl, hq28, Iq30, frq31⟩
          have frq32 : Fr W_X7_sing Mq Mq29 := frq0.trans frq31 rfl
          have cyq33 : 0 ≤ (Mq29.2 47 34).toInt := numM_fr cy0 frq31 rfl
          have cyq34 : WFM Mq29 := WFM_fr cy1 frq31 rfl
          have trq35 : (Mq29.1 47 12).toInt = (Mq.1 47 12).toInt := congrArg Int32.toInt (frq31.at 47 12 rfl)
          have trq36 : (Mq29.1 47 33).toInt = (Mq.1 47 33).toInt := congrArg Int32.toInt (frq31.at 47 33 rfl)
          have h63 : (Mq29.1 63 a1.toNat).toInt = (Mq.1 63 a1.toNat).toInt := congrArg Int32.toInt (frq31.at 63 a1.toNat rfl)
          show G Γ Mq29 45 [(0, .ref (ad 47)), (1, .int x1), (2, .int x2), (3, .int x3), (4, .long x4)] []
          refine g_aload_n X 0 rfl dX7_sing_45 ?_
          refine g_lload X 4 rfl dX7_sing_46 ?_
          refine g_putl X p_X7_237 dX7_sing_48 ?_
          have Iq37 : Iv TM (ul Mq29 47 34 x4) := Iq30.long
          have frq38 : Fr W_X7_sing Mq (ul Mq29 47 34 x4) := frq32.ul rfl
          have cyq39 : 0 ≤ ((ul Mq29 47 34 x4).2 47 34).toInt := (by rw [ul_eq]; omega)
          have cyq40 : WFM (ul Mq29 47 34 x4) := WFM_fr cyq34 (Fr.ul (W := [(47, 34)]) Fr.rf rfl) rfl
          refine g_aload_n X 0 rfl dX7_sing_51 ?_
          refine g_iload_n X 1 rfl dX7_sing_52 ?_
          refine g_callV X m_X7_273 (c_X7_sings ad (ul Mq29 47 34 x4) x1 t1 Iq37 (by omega) (show 0 < (Mq29.1 63 a1.toNat).toInt by omega) cyq39 cyq40) rfl (by decide) (Nat.le_of_ble_eq_true rfl) rfl dX7_sing_53 ?_
          rintro _ Mq46 ⟨rq41, aq42, rfl, tq43, hq44, cyq45, Iq47, frq48⟩
          have frq49 : Fr W_X7_sing Mq Mq46 := frq38.trans frq48 rfl
          have cyq50 : WFM Mq46 := WFM_fr cyq40 frq48 rfl
          have trq51 : (Mq46.1 47 12).toInt = (Mq29.1 47 12).toInt := congrArg Int32.toInt (frq48.at 47 12 rfl)
          show G Γ Mq46 56 [(0, .ref (ad 47)), (1, .int x1), (2, .int x2), (3, .int x3), (4, .long x4)] [.int rq41]
          refine g_if_ne X tq43 (tgt := 62) dX7_sing_56 (by decide) (fun cq52 => ?_) (fun cq52 => ?_)
          · refine g_aload_n X 0 rfl dX7_sing_62 ?_
            refine g_aload_n X 0 rfl dX7_sing_63 ?_
            refine g_geti X f_X7_241 dX7_sing_64 (x := Mq46.1 47 33) rfl ?_
            have bq53 := ig_47_33 Iq47
            refine g_puti X p_X7_276 dX7_sing_67 ?_
            have Iq54 : Iv TM (ui Mq46 47 32 (Mq46.1 47 33)) := Iq47.put 0 40 rfl (by omega) rfl
            have frq55 : Fr W_X7_sing Mq (ui Mq46 47 32 (Mq46.1 47 33)) := frq49.ui rfl
            have cyq56 : 0 ≤ ((ui Mq46 47 32 (Mq46.1 47 33)).2 47 34).toInt := numM_fr cyq45 (Fr.ui (W := [(47, 32)]) Fr.rf rfl) rfl
            have cyq57 : WFM (ui Mq46 47 32 (Mq46.1 47 33)) := WFM_fr cyq50 (Fr.ui (W := [(47, 32)]) Fr.rf rfl) rfl
            refine g_iconst X 0 dX7_sing_70 (by decide) ?_
            refine g_istore X [(6, .int 0), (0, .ref (ad 47)), (1, .int x1), (2, .int x2), (3, .int x3), (4, .long x4)] dX7_sing_71 (by decide) rfl ?_
            have lp73 : ∀ n : Nat, ∀ (y6_73 : Int32) (b6_73 : Int), y6_73.toInt = b6_73 → ∀ (M_73 : Mem), (0 ≤ b6_73 ∧ b6_73 ≤ 40) → (Iv TM M_73) → (Fr W_X7_sing Mq M_73) → (0 ≤ (M_73.2 47 34).toInt) → (WFM M_73) → (40 - b6_73).toNat < n → G Γ M_73 73 [(6, .int y6_73), (0, .ref (ad 47)), (1, .int x1), (2, .int x2), (3, .int x3), (4, .long x4)] [] := by
              intro n
              induction n with
              | zero => intro y6_73 b6_73 e6_73 M_73 i1 I_73 fr_73 cy0_73 cy1_73 hm; exact absurd hm (Nat.not_lt_zero _)
              | succ n ih73 =>
                intro y6_73 b6_73 e6_73 M_73 i1 I_73 fr_73 cy0_73 cy1_73 hm73
                have trq58 : (M_73.1 47 12).toInt = (Mq.1 47 12).toInt := congrArg Int32.toInt (fr_73.at 47 12 rfl)
                refine g_iload X 0 rfl dX7_sing_73 ?_
                refine g_aload_n X 1 rfl dX7_sing_75 ?_
                refine g_geti X f_X7_241 dX7_sing_76 (x := M_73.1 47 33) rfl ?_
                have bq59 := ig_47_33 I_73
                refine g_icmp_ge X e6_73 rfl (tgt := 102) dX7_sing_79 (by decide) (fun cq60 => ?_) (fun cq60 => ?_)
                · refine g_aload_n X 1 rfl dX7_sing_102 ?_
                  refine g_geti X f_X7_276 dX7_sing_103 (x := M_73.1 47 32) rfl ?_
                  have bq61 := ig_47_32 I_73
                  exact g_iret X dX7_sing_106 ⟨_, _, rfl, rfl, trivial, cy0_73, I_73, fr_73⟩
                · refine g_aload_n X 1 rfl dX7_sing_82 ?_
                  refine g_getr X f_X7_77 dX7_sing_83 ?_
                  refine g_iload X 0 rfl dX7_sing_86 ?_
                  refine g_aload_n X 1 rfl dX7_sing_88 ?_
                  refine g_getr X f_X7_80 dX7_sing_89 ?_
                  refine g_iload X 0 rfl dX7_sing_92 ?_
                  refine g_iald X la_70 e6_73 dX7_sing_94 (by omega) (x := M_73.1 70 b6_73.toNat) rfl ?_
                  refine g_iast X la_69 e6_73 dX7_sing_95 (by omega) ?_
                  have Iq62 : Iv TM (ui M_73 69 b6_73.toNat (M_73.1 70 b6_73.toNat)) := I_73.otherA rfl
                  have frq63 : Fr W_X7_sing Mq (ui M_73 69 b6_73.toNat (M_73.1 70 b6_73.toNat)) := fr_73.ui rfl
                  have cyq64 : 0 ≤ ((ui M_73 69 b6_73.toNat (M_73.1 70 b6_73.toNat)).2 47 34).toInt := numM_fr cy0_73 (Fr.ui (W := [(69, 99)]) Fr.rf rfl) rfl
                  have cyq65 : WFM (ui M_73 69 b6_73.toNat (M_73.1 70 b6_73.toNat)) := WFM_fr cy1_73 (Fr.ui (W := [(69, 99)]) Fr.rf rfl) rfl
                  refine g_iinc X 0 (fun v => [(6, .int v), (0, .ref (ad 47)), (1, .int x1), (2, .int x2), (3, .int x3), (4, .long x4)]) dX7_sing_96 rfl (by decide) (fun _ => rfl) (fun zq66 eq67 => ?_)
                  have tq68 : zq66.toInt = b6_73 + 1 := add_nw eq67 e6_73 (show (Int32.ofInt 1).toInt = 1 by decide) (by omega)
                  refine g_goto X (tgt := 73) dX7_sing_99 (by decide) ?_
                  refine g_sub [0, 1, 2, 3, 4, 5] rfl ?_
                  exact ih73 zq66 _ tq68 (ui M_73 69 b6_73.toNat (M_73.1 70 b6_73.toNat)) (by omega) Iq62 frq63 cyq64 cyq65 (by omega)
            refine g_sub [0, 1, 2, 3, 4, 5] rfl ?_
            exact lp73 _ 0 _ (show (0 : Int32).toInt = 0 by decide) (ui Mq46 47 32 (Mq46.1 47 33)) (by omega) Iq54 frq55 cyq56 cyq57 (Nat.lt_succ_self _)
          · refine g_bipush X (-3) dX7_sing_59 (by decide) ?_
            exact g_iret X dX7_sing_61 ⟨_, _, rfl, (show ((-3) : Int32).toInt = (-3) by decide), trivial, cyq45, Iq47, frq49⟩
        · refine g_bipush X (-2) dX7_sing_32 (by decide) ?_
          exact g_iret X dX7_sing_34 ⟨_, _, rfl, (show ((-2) : Int32).toInt = (-2) by decide), trivial, cy0, Iq0, frq0⟩
    · have pq69 : ¬ (0 ≤ a2 ∧ a2 < ((Mq.1 47 52)).toInt) := by omega
      clear hq11 cq12 tq10
      refine g_iconst X (-1) dX7_sing_16 (by decide) ?_
      exact g_iret X dX7_sing_17 ⟨_, _, rfl, (show ((-1) : Int32).toInt = (-1) by decide), trivial, cy0, Iq0, frq0⟩
end
