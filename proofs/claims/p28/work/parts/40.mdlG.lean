section
set_option maxHeartbeats 4000000 in
set_option maxRecDepth 4000 in
theorem c_X7_sign (ad : Nat → Nat) (Mq : Mem) (Iq0 : Iv TM Mq) : Ctr ad yX7_sign cX7_sign 1 (some .int) 0 [.ref (ad 47)] Mq (fun v M' => ∃ (r : Int32) (a : Int), v = some (.int r) ∧ r.toInt = a ∧ (((Mq.1 47 21).toInt < (Mq.1 47 20).toInt ∧ a = (Mq.1 60 ((Mq.1 47 21).toInt).toNat).toInt ∧ 0 ≤ a ∧ a ≤ 255) ∨ ((Mq.1 47 20).toInt ≤ (Mq.1 47 21).toInt ∧ a = -1)) ∧ Mq = M') := by
  refine ctr_of (L := [(0, .ref (ad 47))]) (by decide) (Nat.le_of_ble_eq_true rfl) rfl ?_
  intro Γ X
  have X : gX Γ cX7_sign RX7 1 (some .int) 0 ad _ := X
  have g20 := ig_47_20 Iq0
  have g21 := ig_47_21 Iq0
  have g22 := ig_47_22 Iq0
  refine g_aload_n X 0 rfl dX7_sign_0 ?_
  refine g_geti X f_X7_204 dX7_sign_1 (x := Mq.1 47 21) rfl ?_
  have bq1 := ig_47_21 Iq0
  refine g_aload_n X 0 rfl dX7_sign_4 ?_
  refine g_geti X f_X7_199 dX7_sign_5 (x := Mq.1 47 20) rfl ?_
  have bq2 := ig_47_20 Iq0
  refine g_icmp_ge X rfl rfl (tgt := 23) dX7_sign_8 (by decide) (fun cq3 => ?_) (fun cq3 => ?_)
  · refine g_iconst X (-1) dX7_sign_23 (by decide) ?_
    exact g_iret X dX7_sign_24 ⟨_, _, rfl, (show ((-1) : Int32).toInt = (-1) by decide), (by omega), rfl⟩
  · refine g_aload_n X 0 rfl dX7_sign_11 ?_
    refine g_getr X f_X7_46 dX7_sign_12 ?_
    refine g_aload_n X 0 rfl dX7_sign_15 ?_
    refine g_geti X f_X7_204 dX7_sign_16 (x := Mq.1 47 21) rfl ?_
    have bq4 := ig_47_21 Iq0
    refine g_iald X la_60 rfl dX7_sign_19 (by omega) (x := Mq.1 60 (((Mq.1 47 21).toInt).toNat)) rfl ?_
    have bq5 := ig_60 Iq0 (((Mq.1 47 21).toInt).toNat) (by omega)
    refine g_goto X (tgt := 24) dX7_sign_20 (by decide) ?_
    exact g_iret X dX7_sign_24 ⟨_, _, rfl, rfl, (by omega), rfl⟩
abbrev W_X7_parses : List (Nat × Nat) := [(47, 21), (47, 22), (47, 25), (64, 99)]
set_option maxHeartbeats 4000000 in
set_option maxRecDepth 4000 in
theorem c_X7_parses (ad : Nat → Nat) (Mq : Mem) (x1 : Int32) {a1 : Int} (t1 : x1.toInt = a1) (Iq0 : Iv TM Mq) (hA : (Mq.1 47 21).toInt = 2 ∧ 2 ≤ (Mq.1 47 20).toInt) : Ctr ad yX7_parses cX7_parses 5 (some .boolean) 2 [.ref (ad 47), .int x1] Mq (fun v M' => ∃ (r : Int32) (a : Int), v = some (.int r) ∧ r.toInt = a ∧ (a = 0 ∨ a = 1) ∧ (a = 1 → PD M' a1) ∧ Iv TM M' ∧ Fr W_X7_parses Mq M') := by
  refine ctr_of (L := [(0, .ref (ad 47)), (1, .int x1)]) (by decide) (Nat.le_of_ble_eq_true rfl) rfl ?_
  intro Γ X
  have X : gX Γ cX7_parses RX7 5 (some .boolean) 2 ad _ := X
  have frq0 : Fr W_X7_parses Mq Mq := Fr.rf
  have g20 := ig_47_20 Iq0
  have g21 := ig_47_21 Iq0
  have g22 := ig_47_22 Iq0
  refine g_aload_n X 0 rfl dX7_parses_0 ?_
  refine g_iconst X 0 dX7_parses_1 (by decide) ?_
  refine g_puti X p_X7_207 dX7_parses_2 ?_
  have ltq1 : (0 : Int32).toInt = 0 := by decide
  have Iq2 : Iv TM (ui Mq 47 22 0) := Iq0.put 0 60 (show (0 : Int32).toInt = 0 by decide) (by omega) rfl
  have frq3 : Fr W_X7_parses Mq (ui Mq 47 22 0) := frq0.ui rfl
  have lp5 : ∀ n : Nat, ∀ (M_5 : Mem), (PI M_5 a1) → (Iv TM M_5) → (Fr W_X7_parses Mq M_5) → ((Mq.1 47 20).toInt - (M_5.1 47 21).toInt).toNat < n → G Γ M_5 5 [(0, .ref (ad 47)), (1, .int x1)] [] := by
    intro n
    induction n with
    | zero => intro M_5 i5 I_5 fr_5 hm; exact absurd hm (Nat.not_lt_zero _)
    | succ n ih5 =>
      intro M_5 i5 I_5 fr_5 hm5
      have trq4 : (M_5.1 47 20).toInt = (Mq.1 47 20).toInt := congrArg Int32.toInt (fr_5.at 47 20 rfl)
      have e5 := i5.1
      refine g_aload_n X 0 rfl dX7_parses_5 ?_
      refine g_callV X m_X7_210 (c_X7_sign ad M_5 I_5) rfl (by decide) (Nat.le_of_ble_eq_true rfl) rfl dX7_parses_6 ?_
      rintro _ _ ⟨rq5, aq6, rfl, tq7, hq8, rfl⟩
      show G Γ M_5 9 [(0, .ref (ad 47)), (1, .int x1)] [.int rq5]
      refine g_istore_n X (i := 2) [(2, .int rq5), (0, .ref (ad 47)), (1, .int x1)] dX7_parses_9 rfl (by decide) rfl ?_
      have lp10 : ∀ n : Nat, ∀ (y2_10 : Int32) (b2_10 : Int), y2_10.toInt = b2_10 → ∀ (M_10 : Mem), (PI M_10 a1) → (((M_10.1 47 21).toInt < (M_10.1 47 20).toInt ∧ b2_10 = (M_10.1 60 ((M_10.1 47 21).toInt).toNat).toInt ∧ 0 ≤ b2_10) ∨ ((M_10.1 47 20).toInt ≤ (M_10.1 47 21).toInt ∧ b2_10 = -1)) → ((M_5.1 47 21).toInt ≤ (M_10.1 47 21).toInt) → (Iv TM M_10) → (Fr W_X7_parses Mq M_10) → ((Mq.1 47 20).toInt - (M_10.1 47 21).toInt).toNat < n → G Γ M_10 10 [(2, .int y2_10), (0, .ref (ad 47)), (1, .int x1)] [] := by
        intro n
        induction n with
        | zero => intro y2_10 b2_10 e2_10 M_10 i10 j10 k10 I_10 fr_10 hm; exact absurd hm (Nat.not_lt_zero _)
        | succ n ih10 =>
          intro y2_10 b2_10 e2_10 M_10 i10 j10 k10 I_10 fr_10 hm10
          have trq9 : (M_10.1 47 20).toInt = (Mq.1 47 20).toInt := congrArg Int32.toInt (fr_10.at 47 20 rfl)
          have e10 := i10.1
          refine g_iload_n X 0 rfl dX7_parses_10 ?_
          refine g_bipush X 91 dX7_parses_11 (by decide) ?_
          refine g_icmp_eq X e2_10 (show (91 : Int32).toInt = 91 by decide) (tgt := 28) dX7_parses_13 (by decide) (fun cq10 => ?_) (fun cq10 => ?_)
          · refine g_aload_n X 1 rfl dX7_parses_28 ?_
            refine g_getr X f_X7_58 dX7_parses_29 ?_
            refine g_aload_n X 1 rfl dX7_parses_32 ?_
            refine g_geti X f_X7_207 dX7_parses_33 (x := M_10.1 47 22) rfl ?_
            have bq11 := ig_47_22 I_10
            refine g_iload_n X 0 rfl dX7_parses_36 ?_
            refine g_iast X la_64 rfl dX7_parses_37 (by omega) ?_
            have Iq12 : Iv TM (ui M_10 64 (((M_10.1 47 22).toInt).toNat) y2_10) := I_10.otherA rfl
            have frq13 : Fr W_X7_parses Mq (ui M_10 64 (((M_10.1 47 22).toInt).toNat) y2_10) := fr_10.ui rfl
            refine g_aload_n X 1 rfl dX7_parses_38 ?_
            refine g_dup X dX7_parses_39 rfl ?_
            refine g_geti X f_X7_207 dX7_parses_40 (x := M_10.1 47 22) rfl ?_
            have bq14 := ig_47_22 I_10
            refine g_iconst X 1 dX7_parses_43 (by decide) ?_
            refine g_iadd X dX7_parses_44 (fun zq15 eq16 => ?_)
            have tq17 : zq15.toInt = ((M_10.1 47 22).toInt) + 1 := add_nw eq16 rfl (show (1 : Int32).toInt = 1 by decide) (by omega)
            refine g_puti X p_X7_207 dX7_parses_45 ?_
            have Iq18 : Iv TM (ui (ui M_10 64 (((M_10.1 47 22).toInt).toNat) y2_10) 47 22 zq15) := Iq12.put 0 60 tq17 (by omega) rfl
            have frq19 : Fr W_X7_parses Mq (ui (ui M_10 64 (((M_10.1 47 22).toInt).toNat) y2_10) 47 22 zq15) := frq13.ui rfl
            refine g_aload_n X 1 rfl dX7_parses_48 ?_
            refine g_dup X dX7_parses_49 rfl ?_
            refine g_geti X f_X7_204 dX7_parses_50 (x := M_10.1 47 21) rfl ?_
            have bq20 := ig_47_21 I_10
            refine g_iconst X 1 dX7_parses_53 (by decide) ?_
            refine g_iadd X dX7_parses_54 (fun zq21 eq22 => ?_)
            have tq23 : zq21.toInt = ((M_10.1 47 21).toInt) + 1 := add_nw eq22 rfl (show (1 : Int32).toInt = 1 by decide) (by omega)
            refine g_puti X p_X7_204 dX7_parses_55 ?_
            have Iq24 : Iv TM (ui (ui (ui M_10 64 (((M_10.1 47 22).toInt).toNat) y2_10) 47 22 zq15) 47 21 zq21) := Iq18.put 0 60 tq23 (by omega) rfl
            have frq25 : Fr W_X7_parses Mq (ui (ui (ui M_10 64 (((M_10.1 47 22).toInt).toNat) y2_10) 47 22 zq15) 47 21 zq21) := frq19.ui rfl
            have hP10 : PI (ui (ui (ui M_10 64 (((M_10.1 47 22).toInt).toNat) y2_10) 47 22 zq15) 47 21 zq21) a1 := PI_push i10 (by omega) (by omega) (by omega) (by assumption) (by assumption)
            refine g_aload_n X 1 rfl dX7_parses_58 ?_
            refine g_callV X m_X7_210 (c_X7_sign ad (ui (ui (ui M_10 64 (((M_10.1 47 22).toInt).toNat) y2_10) 47 22 zq15) 47 21 zq21) Iq24) rfl (by decide) (Nat.le_of_ble_eq_true rfl) rfl dX7_parses_59 ?_
            rintro _ _ ⟨rq26, aq27, rfl, tq28, hq29, rfl⟩
            have hq30 : ((zq21).toInt < ((M_10.1 47 20)).toInt ∧ aq27 = ((ui (ui (ui M_10 64 (((M_10.1 47 22).toInt).toNat) y2_10) 47 22 zq15) 47 21 zq21).1 60 ((zq21).toInt).toNat).toInt ∧ 0 ≤ aq27 ∧ aq27 ≤ 255) ∨ (((M_10.1 47 20)).toInt ≤ (zq21).toInt ∧ aq27 = -1) := hq29
            clear hq29
            show G Γ (ui (ui (ui M_10 64 (((M_10.1 47 22).toInt).toNat) y2_10) 47 22 zq15) 47 21 zq21) 62 [(2, .int y2_10), (0, .ref (ad 47)), (1, .int x1)] [.int rq26]
            refine g_istore_n X (i := 2) [(2, .int rq26), (0, .ref (ad 47)), (1, .int x1)] dX7_parses_62 rfl (by decide) rfl ?_
            refine g_goto X (tgt := 10) dX7_parses_63 (by decide) ?_
            refine g_sub [0, 1, 2] rfl ?_
            have hr21 : ((ui (ui (ui M_10 64 (((M_10.1 47 22).toInt).toNat) y2_10) 47 22 zq15) 47 21 zq21).1 47 21).toInt = zq21.toInt := rfl
            exact ih10 rq26 _ tq28 (ui (ui (ui M_10 64 (((M_10.1 47 22).toInt).toNat) y2_10) 47 22 zq15) 47 21 zq21) hP10 (show ((zq21).toInt < ((M_10.1 47 20)).toInt ∧ aq27 = ((ui (ui (ui M_10 64 (((M_10.1 47 22).toInt).toNat) y2_10) 47 22 zq15) 47 21 zq21).1 60 ((zq21).toInt).toNat).toInt ∧ 0 ≤ aq27) ∨ (((M_10.1 47 20)).toInt ≤ (zq21).toInt ∧ aq27 = -1) by omega) (show (M_5.1 47 21).toInt ≤ (zq21).toInt by omega) Iq24 frq25 (by omega)
          · refine g_iload_n X 0 rfl dX7_parses_16 ?_
            refine g_bipush X 123 dX7_parses_17 (by decide) ?_
            refine g_icmp_eq X e2_10 (show (123 : Int32).toInt = 123 by decide) (tgt := 28) dX7_parses_19 (by decide) (fun cq31 => ?_) (fun cq31 => ?_)
            · refine g_aload_n X 1 rfl dX7_parses_28 ?_
              refine g_getr X f_X7_58 dX7_parses_29 ?_
              refine g_aload_n X 1 rfl dX7_parses_32 ?_
              refine g_geti X f_X7_207 dX7_parses_33 (x := M_10.1 47 22) rfl ?_
              have bq32 := ig_47_22 I_10
              refine g_iload_n X 0 rfl dX7_parses_36 ?_
              refine g_iast X la_64 rfl dX7_parses_37 (by omega) ?_
              have Iq33 : Iv TM (ui M_10 64 (((M_10.1 47 22).toInt).toNat) y2_10) := I_10.otherA rfl
              have frq34 : Fr W_X7_parses Mq (ui M_10 64 (((M_10.1 47 22).toInt).toNat) y2_10) := fr_10.ui rfl
              refine g_aload_n X 1 rfl dX7_parses_38 ?_
              refine g_dup X dX7_parses_39 rfl ?_
              refine g_geti X f_X7_207 dX7_parses_40 (x := M_10.1 47 22) rfl ?_
              have bq35 := ig_47_22 I_10
              refine g_iconst X 1 dX7_parses_43 (by decide) ?_
              refine g_iadd X dX7_parses_44 (fun zq36 eq37 => ?_)
              have tq38 : zq36.toInt = ((M_10.1 47 22).toInt) + 1 := add_nw eq37 rfl (show (1 : Int32).toInt = 1 by decide) (by omega)
              refine g_puti X p_X7_207 dX7_parses_45 ?_
              have Iq39 : Iv TM (ui (ui M_10 64 (((M_10.1 47 22).toInt).toNat) y2_10) 47 22 zq36) := Iq33.put 0 60 tq38 (by omega) rfl
              have frq40 : Fr W_X7_parses Mq (ui (ui M_10 64 (((M_10.1 47 22).toInt).toNat) y2_10) 47 22 zq36) := frq34.ui rfl
              refine g_aload_n X 1 rfl dX7_parses_48 ?_
              refine g_dup X dX7_parses_49 rfl ?_
              refine g_geti X f_X7_204 dX7_parses_50 (x := M_10.1 47 21) rfl ?_
              have bq41 := ig_47_21 I_10
              refine g_iconst X 1 dX7_parses_53 (by decide) ?_
              refine g_iadd X dX7_parses_54 (fun zq42 eq43 => ?_)
              have tq44 : zq42.toInt = ((M_10.1 47 21).toInt) + 1 := add_nw eq43 rfl (show (1 : Int32).toInt = 1 by decide) (by omega)
              refine g_puti X p_X7_204 dX7_parses_55 ?_
              have Iq45 : Iv TM (ui (ui (ui M_10 64 (((M_10.1 47 22).toInt).toNat) y2_10) 47 22 zq36) 47 21 zq42) := Iq39.put 0 60 tq44 (by omega) rfl
              have frq46 : Fr W_X7_parses Mq (ui (ui (ui M_10 64 (((M_10.1 47 22).toInt).toNat) y2_10) 47 22 zq36) 47 21 zq42) := frq40.ui rfl
              have hP10 : PI (ui (ui (ui M_10 64 (((M_10.1 47 22).toInt).toNat) y2_10) 47 22 zq36) 47 21 zq42) a1 := PI_push i10 (by omega) (by omega) (by omega) (by assumption) (by assumption)
              refine g_aload_n X 1 rfl dX7_parses_58 ?_
              refine g_callV X m_X7_210 (c_X7_sign ad (ui (ui (ui M_10 64 (((M_10.1 47 22).toInt).toNat) y2_10) 47 22 zq36) 47 21 zq42) Iq45) rfl (by decide) (Nat.le_of_ble_eq_true rfl) rfl dX7_parses_59 ?_
              rintro _ _ ⟨rq47, aq48, rfl, tq49, hq50, rfl⟩
              have hq51 : ((zq42).toInt < ((M_10.1 47 20)).toInt ∧ aq48 = ((ui (ui (ui M_10 64 (((M_10.1 47 22).toInt).toNat) y2_10) 47 22 zq36) 47 21 zq42).1 60 ((zq42).toInt).toNat).toInt ∧ 0 ≤ aq48 ∧ aq48 ≤ 255) ∨ (((M_10.1 47 20)).toInt ≤ (zq42).toInt ∧ aq48 = -1) := hq50
              clear hq50
              show G Γ (ui (ui (ui M_10 64 (((M_10.1 47 22).toInt).toNat) y2_10) 47 22 zq36) 47 21 zq42) 62 [(2, .int y2_10), (0, .ref (ad 47)), (1, .int x1)] [.int rq47]
              refine g_istore_n X (i := 2) [(2, .int rq47), (0, .ref (ad 47)), (1, .int x1)] dX7_parses_62 rfl (by decide) rfl ?_
              refine g_goto X (tgt := 10) dX7_parses_63 (by decide) ?_
              refine g_sub [0, 1, 2] rfl ?_
              have hr21 : ((ui (ui (ui M_10 64 (((M_10.1 47 22).toInt).toNat) y2_10) 47 22 zq36) 47 21 zq42).1 47 21).toInt = zq42.toInt := rfl
              exact ih10 rq47 _ tq49 (ui (ui (ui M_10 64 (((M_10.1 47 22).toInt).toNat) y2_10) 47 22 zq36) 47 21 zq42) hP10 (show ((zq42).toInt < ((M_10.1 47 20)).toInt ∧ aq48 = ((ui (ui (ui M_10 64 (((M_10.1 47 22).toInt).toNat) y2_10) 47 22 zq36) 47 21 zq42).1 60 ((zq42).toInt).toNat).toInt ∧ 0 ≤ aq48) ∨ (((M_10.1 47 20)).toInt ≤ (zq42).toInt ∧ aq48 = -1) by omega) (show (M_5.1 47 21).toInt ≤ (zq42).toInt by omega) Iq45 frq46 (by omega)
            · refine g_iload_n X 0 rfl dX7_parses_22 ?_
              refine g_bipush X 40 dX7_parses_23 (by decide) ?_
              refine g_icmp_ne X e2_10 (show (40 : Int32).toInt = 40 by decide) (tgt := 66) dX7_parses_25 (by decide) (fun cq52 => ?_) (fun cq52 => ?_)
              · have ih133 : ∀ (y2_133 : Int32) (b2_133 : Int), y2_133.toInt = b2_133 → ∀ (M_133 : Mem), (PI M_133 a1) → ((M_5.1 47 21).toInt < (M_133.1 47 21).toInt) → (Iv TM M_133) → (Fr W_X7_parses Mq M_133) → G Γ M_133 133 [(2, .int y2_133), (0, .ref (ad 47)), (1, .int x1)] [] := by
                  intro y2_133 b2_133 e2_133 M_133 p13 p14 I_133 fr_133
                  have trq53 : (M_133.1 47 20).toInt = (Mq.1 47 20).toInt := congrArg Int32.toInt (fr_133.at 47 20 rfl)
                  refine g_iconst X 0 dX7_parses_133 (by decide) ?_
                  refine g_istore_n X (i := 3) [(3, .int 0), (2, .int y2_133), (0, .ref (ad 47)), (1, .int x1)] dX7_parses_134 rfl (by decide) rfl ?_
                  have lp135 : ∀ n : Nat, ∀ (y3_135 : Int32) (b3_135 : Int), y3_135.toInt = b3_135 → ∀ (y2_135 : Int32) (b2_135 : Int), y2_135.toInt = b2_135 → ∀ (M_135 : Mem), (PI M_135 a1) → ((M_5.1 47 21).toInt < (M_135.1 47 21).toInt) → (b3_135 = 0 ∨ b3_135 = 1) → (Iv TM M_135) → (Fr W_X7_parses Mq M_135) → (2 * ((Mq.1 47 20).toInt - (M_135.1 47 21).toInt) + 1 - b3_135).toNat < n → G Γ M_135 135 [(3, .int y3_135), (2, .int y2_135), (0, .ref (ad 47)), (1, .int x1)] [] := by
                    intro n
                    induction n with
                    | zero => intro y3_135 b3_135 e3_135 y2_135 b2_135 e2_135 M_135 i13 k13 l13 I_135 fr_135 hm; exact absurd hm (Nat.not_lt_zero _)
                    | succ n ih135 =>
                      intro y3_135 b3_135 e3_135 y2_135 b2_135 e2_135 M_135 i13 k13 l13 I_135 fr_135 hm135
                      have trq54 : (M_135.1 47 20).toInt = (Mq.1 47 20).toInt := congrArg Int32.toInt (fr_135.at 47 20 rfl)
                      have e13 := i13.1
                      refine g_iload_n X 0 rfl dX7_parses_135 ?_
                      refine g_if_ne X e3_135 (tgt := 324) dX7_parses_136 (by decide) (fun cq55 => ?_) (fun cq55 => ?_)
                      · refine g_goto X (tgt := 5) dX7_parses_324 (by decide) ?_
                        refine g_sub [2, 3] rfl ?_
                        exact ih5 M_135 i13 I_135 fr_135 (by omega)
                      · refine g_aload_n X 2 rfl dX7_parses_139 ?_
                        refine g_callV X m_X7_210 (c_X7_sign ad M_135 I_135) rfl (by decide) (Nat.le_of_ble_eq_true rfl) rfl dX7_parses_140 ?_
                        rintro _ _ ⟨rq56, aq57, rfl, tq58, hq59, rfl⟩
                        show G Γ M_135 143 [(3, .int y3_135), (2, .int y2_135), (0, .ref (ad 47)), (1, .int x1)] [.int rq56]
                        refine g_istore_n X (i := 2) [(2, .int rq56), (3, .int y3_135), (0, .ref (ad 47)), (1, .int x1)] dX7_parses_143 rfl (by decide) rfl ?_
                        refine g_aload_n X 2 rfl dX7_parses_144 ?_
                        refine g_geti X f_X7_207 dX7_parses_145 (x := M_135.1 47 22) rfl ?_
                        have bq60 := ig_47_22 I_135
                        refine g_if_ne X rfl (tgt := 155) dX7_parses_148 (by decide) (fun cq61 => ?_) (fun cq61 => ?_)
                        · refine g_aload_n X 2 rfl dX7_parses_155 ?_
                          refine g_getr X f_X7_58 dX7_parses_156 ?_
                          refine g_aload_n X 2 rfl dX7_parses_159 ?_
                          refine g_geti X f_X7_207 dX7_parses_160 (x := M_135.1 47 22) rfl ?_
                          have bq62 := ig_47_22 I_135
                          refine g_iconst X 1 dX7_parses_163 (by decide) ?_
                          refine g_isub X dX7_parses_164 (fun zq63 eq64 => ?_)
                          have tq65 : zq63.toInt = ((M_135.1 47 22).toInt) - 1 := sub_nw eq64 rfl (show (1 : Int32).toInt = 1 by decide) (by omega)
                          refine g_iald X la_64 tq65 dX7_parses_165 (by omega) (x := M_135.1 64 ((((M_135.1 47 22).toInt) - 1).toNat)) rfl ?_
                          refine g_istore X [(4, .int (M_135.1 64 ((((M_135.1 47 22).toInt) - 1).toNat))), (2, .int rq56), (3, .int y3_135), (0, .ref (ad 47)), (1, .int x1)] dX7_parses_166 (by decide) rfl ?_
                          refine g_iload_n X 1 rfl dX7_parses_168 ?_
                          refine g_bipush X 93 dX7_parses_169 (by decide) ?_
                          refine g_icmp_ne X tq58 (show (93 : Int32).toInt = 93 by decide) (tgt := 181) dX7_parses_171 (by decide) (fun cq66 => ?_) (fun cq66 => ?_)
                          · refine g_iload_n X 1 rfl dX7_parses_181 ?_
                            refine g_bipush X 125 dX7_parses_182 (by decide) ?_
                            refine g_icmp_ne X tq58 (show (125 : Int32).toInt = 125 by decide) (tgt := 194) dX7_parses_184 (by decide) (fun cq67 => ?_) (fun cq67 => ?_)
                            · refine g_iload_n X 1 rfl dX7_parses_194 ?_
                              refine g_bipush X 41 dX7_parses_195 (by decide) ?_
                              refine g_icmp_ne X tq58 (show (41 : Int32).toInt = 41 by decide) (tgt := 230) dX7_parses_197 (by decide) (fun cq68 => ?_) (fun cq68 => ?_)
                              · refine g_iload_n X 1 rfl dX7_parses_230 ?_
                                refine g_bipush X 124 dX7_parses_231 (by decide) ?_
                                refine g_icmp_ne X tq58 (show (124 : Int32).toInt = 124 by decide) (tgt := 271) dX7_parses_233 (by decide) (fun cq69 => ?_) (fun cq69 => ?_)
                                · refine g_iload_n X 1 rfl dX7_parses_271 ?_
                                  refine g_iconst X (-1) dX7_parses_272 (by decide) ?_
                                  refine g_icmp_ne X tq58 (show ((-1) : Int32).toInt = (-1) by decide) (tgt := 285) dX7_parses_273 (by decide) (fun cq70 => ?_) (fun cq70 => ?_)
                                  · refine g_iload_n X 1 rfl dX7_parses_285 ?_
                                    refine g_bipush X 91 dX7_parses_286 (by decide) ?_
                                    refine g_icmp_eq X tq58 (show (91 : Int32).toInt = 91 by decide) (tgt := 319) dX7_parses_288 (by decide) (fun cq71 => ?_) (fun cq71 => ?_)
                                    · refine g_iconst X 1 dX7_parses_319 (by decide) ?_
                                      refine g_istore_n X (i := 3) [(3, .int 1), (4, .int (M_135.1 64 ((((M_135.1 47 22).toInt) - 1).toNat))), (2, .int rq56), (0, .ref (ad 47)), (1, .int x1)] dX7_parses_320 rfl (by decide) rfl ?_
                                      refine g_goto X (tgt := 135) dX7_parses_321 (by decide) ?_
                                      refine g_sub [0, 2, 3, 4] rfl ?_
                                      have hr21 : (M_135.1 47 21).toInt = (M_135.1 47 21).toInt := rfl
                                      exact ih135 1 _ (show (1 : Int32).toInt = 1 by decide) rq56 _ tq58 M_135 (by first | exact hP13 | exact i13) (by omega) (by omega) I_135 fr_135 (by omega)
                                    · refine g_iload_n X 1 rfl dX7_parses_291 ?_
                                      refine g_bipush X 123 dX7_parses_292 (by decide) ?_
                                      refine g_icmp_eq X tq58 (show (123 : Int32).toInt = 123 by decide) (tgt := 319) dX7_parses_294 (by decide) (fun cq72 => ?_) (fun cq72 => ?_)
                                      · refine g_iconst X 1 dX7_parses_319 (by decide) ?_
                                        refine g_istore_n X (i := 3) [(3, .int 1), (4, .int (M_135.1 64 ((((M_135.1 47 22).toInt) - 1).toNat))), (2, .int rq56), (0, .ref (ad 47)), (1, .int x1)] dX7_parses_320 rfl (by decide) rfl ?_
                                        refine g_goto X (tgt := 135) dX7_parses_321 (by decide) ?_
                                        refine g_sub [0, 2, 3, 4] rfl ?_
                                        have hr21 : (M_135.1 47 21).toInt = (M_135.1 47 21).toInt := rfl
                                        exact ih135 1 _ (show (1 : Int32).toInt = 1 by decide) rq56 _ tq58 M_135 (by first | exact hP13 | exact i13) (by omega) (by omega) I_135 fr_135 (by omega)
                                      · refine g_iload_n X 1 rfl dX7_parses_297 ?_
                                        refine g_bipush X 40 dX7_parses_298 (by decide) ?_
                                        refine g_icmp_eq X tq58 (show (40 : Int32).toInt = 40 by decide) (tgt := 319) dX7_parses_300 (by decide) (fun cq73 => ?_) (fun cq73 => ?_)
                                        · refine g_iconst X 1 dX7_parses_319 (by decide) ?_
                                          refine g_istore_n X (i := 3) [(3, .int 1), (4, .int (M_135.1 64 ((((M_135.1 47 22).toInt) - 1).toNat))), (2, .int rq56), (0, .ref (ad 47)), (1, .int x1)] dX7_parses_320 rfl (by decide) rfl ?_
                                          refine g_goto X (tgt := 135) dX7_parses_321 (by decide) ?_
                                          refine g_sub [0, 2, 3, 4] rfl ?_
                                          have hr21 : (M_135.1 47 21).toInt = (M_135.1 47 21).toInt := rfl
                                          exact ih135 1 _ (show (1 : Int32).toInt = 1 by decide) rq56 _ tq58 M_135 (by first | exact hP13 | exact i13) (by omega) (by omega) I_135 fr_135 (by omega)
                                        · refine g_iload_n X 1 rfl dX7_parses_303 ?_
                                          refine g_callS X m_X7_214 (c_X7_isSlot ad M_135 rq56 tq58) rfl (by decide) (Nat.le_of_ble_eq_true rfl) rfl dX7_parses_304 ?_
                                          rintro _ _ ⟨rq74, aq75, rfl, tq76, hq77, rfl⟩
                                          show G Γ M_135 307 [(4, .int (M_135.1 64 ((((M_135.1 47 22).toInt) - 1).toNat))), (2, .int rq56), (3, .int y3_135), (0, .ref (ad 47)), (1, .int x1)] [.int rq74]
                                          refine g_if_ne X tq76 (tgt := 319) dX7_parses_307 (by decide) (fun cq78 => ?_) (fun cq78 => ?_)
                                          · have pq79 : (97 ≤ aq57 ∧ aq57 ≤ 104) := by omega
                                            clear hq77 cq78 tq76
                                            refine g_iconst X 1 dX7_parses_319 (by decide) ?_
                                            refine g_istore_n X (i := 3) [(3, .int 1), (4, .int (M_135.1 64 ((((M_135.1 47 22).toInt) - 1).toNat))), (2, .int rq56), (0, .ref (ad 47)), (1, .int x1)] dX7_parses_320 rfl (by decide) rfl ?_
                                            refine g_goto X (tgt := 135) dX7_parses_321 (by decide) ?_
                                            refine g_sub [0, 2, 3, 4] rfl ?_
                                            have hr21 : (M_135.1 47 21).toInt = (M_135.1 47 21).toInt := rfl
                                            exact ih135 1 _ (show (1 : Int32).toInt = 1 by decide) rq56 _ tq58 M_135 (by first | exact hP13 | exact i13) (by omega) (by omega) I_135 fr_135 (by omega)
                                          · have pq80 : ¬ (97 ≤ aq57 ∧ aq57 ≤ 104) := by omega
                                            clear hq77 cq78 tq76
                                            refine g_iload_n X 1 rfl dX7_parses_310 ?_
                                            refine g_callS X m_X7_217 (c_X7_isScene ad M_135 rq56 tq58) rfl (by decide) (Nat.le_of_ble_eq_true rfl) rfl dX7_parses_311 ?_
                                            rintro _ _ ⟨rq81, aq82, rfl, tq83, hq84, rfl⟩
                                            show G Γ M_135 314 [(4, .int (M_135.1 64 ((((M_135.1 47 22).toInt) - 1).toNat))), (2, .int rq56), (3, .int y3_135), (0, .ref (ad 47)), (1, .int x1)] [.int rq81]
                                            refine g_if_ne X tq83 (tgt := 319) dX7_parses_314 (by decide) (fun cq85 => ?_) (fun cq85 => ?_)
                                            · have pq86 : (65 ≤ aq57 ∧ aq57 ≤ 72) := by omega
                                              clear hq84 cq85 tq83
                                              refine g_iconst X 1 dX7_parses_319 (by decide) ?_
                                              refine g_istore_n X (i := 3) [(3, .int 1), (4, .int (M_135.1 64 ((((M_135.1 47 22).toInt) - 1).toNat))), (2, .int rq56), (0, .ref (ad 47)), (1, .int x1)] dX7_parses_320 rfl (by decide) rfl ?_
                                              refine g_goto X (tgt := 135) dX7_parses_321 (by decide) ?_
                                              refine g_sub [0, 2, 3, 4] rfl ?_
                                              have hr21 : (M_135.1 47 21).toInt = (M_135.1 47 21).toInt := rfl
                                              exact ih135 1 _ (show (1 : Int32).toInt = 1 by decide) rq56 _ tq58 M_135 (by first | exact hP13 | exact i13) (by omega) (by omega) I_135 fr_135 (by omega)
                                            · have pq87 : ¬ (65 ≤ aq57 ∧ aq57 ≤ 72) := by omega
                                              clear hq84 cq85 tq83
                                              refine g_iconst X 0 dX7_parses_317 (by decide) ?_
                                              exact g_zret X (b01 (show (0 : Int32).toInt = 0 by decide) (by omega)) dX7_parses_318 ⟨_, _, rfl, (show (0 : Int32).toInt = 0 by decide), (by omega), (fun h => absurd h (by decide)), I_135, fr_135⟩
                                  · refine g_aload_n X 3 rfl dX7_parses_276 ?_
                                    refine g_geti X f_X7_207 dX7_parses_277 (x := M_135.1 47 22) rfl ?_
                                    have bq88 := ig_47_22 I_135
                                    refine g_if_ne X rfl (tgt := 285) dX7_parses_280 (by decide) (fun cq89 => ?_) (fun cq89 => ?_)
                                    · refine g_iload_n X 1 rfl dX7_parses_285 ?_
                                      refine g_bipush X 91 dX7_parses_286 (by decide) ?_
                                      refine g_icmp_eq X tq58 (show (91 : Int32).toInt = 91 by decide) (tgt := 319) dX7_parses_288 (by decide) (fun cq90 => ?_) (fun cq90 => ?_)
                                      · exfalso; omega
                                      · refine g_iload_n X 1 rfl dX7_parses_291 ?_
                                        refine g_bipush X 123 dX7_parses_292 (by decide) ?_
                                        refine g_icmp_eq X tq58 (show (123 : Int32).toInt = 123 by decide) (tgt := 319) dX7_parses_294 (by decide) (fun cq91 => ?_) (fun cq91 => ?_)
                                        · exfalso; omega
                                        · refine g_iload_n X 1 rfl dX7_parses_297 ?_
                                          refine g_bipush X 40 dX7_parses_298 (by decide) ?_
                                          refine g_icmp_eq X tq58 (show (40 : Int32).toInt = 40 by decide) (tgt := 319) dX7_parses_300 (by decide) (fun cq92 => ?_) (fun cq92 => ?_)
                                          · exfalso; omega
                                          · refine g_iload_n X 1 rfl dX7_parses_303 ?_
                                            refine g_callS X m_X7_214 (c_X7_isSlot ad M_135 rq56 tq58) rfl (by decide) (Nat.le_of_ble_eq_true rfl) rfl dX7_parses_304 ?_
                                            rintro _ _ ⟨rq93, aq94, rfl, tq95, hq96, rfl⟩
                                            show G Γ M_135 307 [(4, .int (M_135.1 64 ((((M_135.1 47 22).toInt) - 1).toNat))), (2, .int rq56), (3, .int y3_135), (0, .ref (ad 47)), (1, .int x1)] [.int rq93]
                                            refine g_if_ne X tq95 (tgt := 319) dX7_parses_307 (by decide) (fun cq97 => ?_) (fun cq97 => ?_)
                                            · have pq98 : (97 ≤ aq57 ∧ aq57 ≤ 104) := by omega
                                              clear hq96 cq97 tq95
                                              refine g_iconst X 1 dX7_parses_319 (by decide) ?_
                                              refine g_istore_n X (i := 3) [(3, .int 1), (4, .int (M_135.1 64 ((((M_135.1 47 22).toInt) - 1).toNat))), (2, .int rq56), (0, .ref (ad 47)), (1, .int x1)] dX7_parses_320 rfl (by decide) rfl ?_
                                              refine g_goto X (tgt := 135) dX7_parses_321 (by decide) ?_
                                              refine g_sub [0, 2, 3, 4] rfl ?_
                                              have hr21 : (M_135.1 47 21).toInt = (M_135.1 47 21).toInt := rfl
                                              exact ih135 1 _ (show (1 : Int32).toInt = 1 by decide) rq56 _ tq58 M_135 (by first | exact hP13 | exact i13) (by omega) (by omega) I_135 fr_135 (by omega)
                                            · have pq99 : ¬ (97 ≤ aq57 ∧ aq57 ≤ 104) := by omega
                                              clear hq96 cq97 tq95
                                              refine g_iload_n X 1 rfl dX7_parses_310 ?_
                                              refine g_callS X m_X7_217 (c_X7_isScene ad M_135 rq56 tq58) rfl (by decide) (Nat.le_of_ble_eq_true rfl) rfl dX7_parses_311 ?_
                                              rintro _ _ ⟨rq100, aq101, rfl, tq102, hq103, rfl⟩
                                              show G Γ M_135 314 [(4, .int (M_135.1 64 ((((M_135.1 47 22).toInt) - 1).toNat))), (2, .int rq56), (3, .int y3_135), (0, .ref (ad 47)), (1, .int x1)] [.int rq100]
                                              refine g_if_ne X tq102 (tgt := 319) dX7_parses_314 (by decide) (fun cq104 => ?_) (fun cq104 => ?_)
                                              · have pq105 : (65 ≤ aq57 ∧ aq57 ≤ 72) := by omega
                                                clear hq103 cq104 tq102
                                                refine g_iconst X 1 dX7_parses_319 (by decide) ?_
                                                refine g_istore_n X (i := 3) [(3, .int 1), (4, .int (M_135.1 64 ((((M_135.1 47 22).toInt) - 1).toNat))), (2, .int rq56), (0, .ref (ad 47)), (1, .int x1)] dX7_parses_320 rfl (by decide) rfl ?_
                                                refine g_goto X (tgt := 135) dX7_parses_321 (by decide) ?_
                                                refine g_sub [0, 2, 3, 4] rfl ?_
                                                have hr21 : (M_135.1 47 21).toInt = (M_135.1 47 21).toInt := rfl
                                                exact ih135 1 _ (show (1 : Int32).toInt = 1 by decide) rq56 _ tq58 M_135 (by first | exact hP13 | exact i13) (by omega) (by omega) I_135 fr_135 (by omega)
                                              · have pq106 : ¬ (65 ≤ aq57 ∧ aq57 ≤ 72) := by omega
                                                clear hq103 cq104 tq102
                                                refine g_iconst X 0 dX7_parses_317 (by decide) ?_
                                                exact g_zret X (b01 (show (0 : Int32).toInt = 0 by decide) (by omega)) dX7_parses_318 ⟨_, _, rfl, (show (0 : Int32).toInt = 0 by decide), (by omega), (fun h => absurd h (by decide)), I_135, fr_135⟩
                                    · exfalso; omega
                                · refine g_iload X 0 rfl dX7_parses_236 ?_
                                  refine g_bipush X 40 dX7_parses_238 (by decide) ?_
                                  refine g_icmp_ne X rfl (show (40 : Int32).toInt = 40 by decide) (tgt := 271) dX7_parses_240 (by decide) (fun cq107 => ?_) (fun cq107 => ?_)
                                  · refine g_iload_n X 1 rfl dX7_parses_271 ?_
                                    refine g_iconst X (-1) dX7_parses_272 (by decide) ?_
                                    refine g_icmp_ne X tq58 (show ((-1) : Int32).toInt = (-1) by decide) (tgt := 285) dX7_parses_273 (by decide) (fun cq108 => ?_) (fun cq108 => ?_)
                                    · refine g_iload_n X 1 rfl dX7_parses_285 ?_
                                      refine g_bipush X 91 dX7_parses_286 (by decide) ?_
                                      refine g_icmp_eq X tq58 (show (91 : Int32).toInt = 91 by decide) (tgt := 319) dX7_parses_288 (by decide) (fun cq109 => ?_) (fun cq109 => ?_)
                                      · exfalso; omega
                                      · refine g_iload_n X 1 rfl dX7_parses_291 ?_
                                        refine g_bipush X 123 dX7_parses_292 (by decide) ?_
                                        refine g_icmp_eq X tq58 (show (123 : Int32).toInt = 123 by decide) (tgt := 319) dX7_parses_294 (by decide) (fun cq110 => ?_) (fun cq110 => ?_)
                                        · exfalso; omega
                                        · refine g_iload_n X 1 rfl dX7_parses_297 ?_
                                          refine g_bipush X 40 dX7_parses_298 (by decide) ?_
                                          refine g_icmp_eq X tq58 (show (40 : Int32).toInt = 40 by decide) (tgt := 319) dX7_parses_300 (by decide) (fun cq111 => ?_) (fun cq111 => ?_)
                                          · exfalso; omega
                                          · refine g_iload_n X 1 rfl dX7_parses_303 ?_
                                            refine g_callS X m_X7_214 (c_X7_isSlot ad M_135 rq56 tq58) rfl (by decide) (Nat.le_of_ble_eq_true rfl) rfl dX7_parses_304 ?_
                                            rintro _ _ ⟨rq112, aq113, rfl, tq114, hq115, rfl⟩
                                            show G Γ M_135 307 [(4, .int (M_135.1 64 ((((M_135.1 47 22).toInt) - 1).toNat))), (2, .int rq56), (3, .int y3_135), (0, .ref (ad 47)), (1, .int x1)] [.int rq112]
                                            refine g_if_ne X tq114 (tgt := 319) dX7_parses_307 (by decide) (fun cq116 => ?_) (fun cq116 => ?_)
                                            · have pq117 : (97 ≤ aq57 ∧ aq57 ≤ 104) := by omega
                                              clear hq115 cq116 tq114
                                              refine g_iconst X 1 dX7_parses_319 (by decide) ?_
                                              refine g_istore_n X (i := 3) [(3, .int 1), (4, .int (M_135.1 64 ((((M_135.1 47 22).toInt) - 1).toNat))), (2, .int rq56), (0, .ref (ad 47)), (1, .int x1)] dX7_parses_320 rfl (by decide) rfl ?_
                                              refine g_goto X (tgt := 135) dX7_parses_321 (by decide) ?_
                                              refine g_sub [0, 2, 3, 4] rfl ?_
                                              have hr21 : (M_135.1 47 21).toInt = (M_135.1 47 21).toInt := rfl
                                              exact ih135 1 _ (show (1 : Int32).toInt = 1 by decide) rq56 _ tq58 M_135 (by first | exact hP13 | exact i13) (by omega) (by omega) I_135 fr_135 (by omega)
                                            · have pq118 : ¬ (97 ≤ aq57 ∧ aq57 ≤ 104) := by omega
                                              clear hq115 cq116 tq114
                                              refine g_iload_n X 1 rfl dX7_parses_310 ?_
                                              refine g_callS X m_X7_217 (c_X7_isScene ad M_135 rq56 tq58) rfl (by decide) (Nat.le_of_ble_eq_true rfl) rfl dX7_parses_311 ?_
                                              rintro _ _ ⟨rq119, aq120, rfl, tq121, hq122, rfl⟩
                                              show G Γ M_135 314 [(4, .int (M_135.1 64 ((((M_135.1 47 22).toInt) - 1).toNat))), (2, .int rq56), (3, .int y3_135), (0, .ref (ad 47)), (1, .int x1)] [.int rq119]
                                              refine g_if_ne X tq121 (tgt := 319) dX7_parses_314 (by decide) (fun cq123 => ?_) (fun cq123 => ?_)
                                              · have pq124 : (65 ≤ aq57 ∧ aq57 ≤ 72) := by omega
                                                clear hq122 cq123 tq121
                                                refine g_iconst X 1 dX7_parses_319 (by decide) ?_
                                                refine g_istore_n X (i := 3) [(3, .int 1), (4, .int (M_135.1 64 ((((M_135.1 47 22).toInt) - 1).toNat))), (2, .int rq56), (0, .ref (ad 47)), (1, .int x1)] dX7_parses_320 rfl (by decide) rfl ?_
                                                refine g_goto X (tgt := 135) dX7_parses_321 (by decide) ?_
                                                refine g_sub [0, 2, 3, 4] rfl ?_
                                                have hr21 : (M_135.1 47 21).toInt = (M_135.1 47 21).toInt := rfl
                                                exact ih135 1 _ (show (1 : Int32).toInt = 1 by decide) rq56 _ tq58 M_135 (by first | exact hP13 | exact i13) (by omega) (by omega) I_135 fr_135 (by omega)
                                              · have pq125 : ¬ (65 ≤ aq57 ∧ aq57 ≤ 72) := by omega
                                                clear hq122 cq123 tq121
                                                refine g_iconst X 0 dX7_parses_317 (by decide) ?_
                                                exact g_zret X (b01 (show (0 : Int32).toInt = 0 by decide) (by omega)) dX7_parses_318 ⟨_, _, rfl, (show (0 : Int32).toInt = 0 by decide), (by omega), (fun h => absurd h (by decide)), I_135, fr_135⟩
                                    · exfalso; omega
                                  · refine g_aload_n X 3 rfl dX7_parses_243 ?_
                                    refine g_getr X f_X7_58 dX7_parses_244 ?_
                                    refine g_aload_n X 3 rfl dX7_parses_247 ?_
                                    refine g_geti X f_X7_207 dX7_parses_248 (x := M_135.1 47 22) rfl ?_
                                    have bq126 := ig_47_22 I_135
                                    refine g_iconst X 1 dX7_parses_251 (by decide) ?_
                                    refine g_isub X dX7_parses_252 (fun zq127 eq128 => ?_)
                                    have tq129 : zq127.toInt = ((M_135.1 47 22).toInt) - 1 := sub_nw eq128 rfl (show (1 : Int32).toInt = 1 by decide) (by omega)
                                    refine g_bipush X 124 dX7_parses_253 (by decide) ?_
                                    refine g_iast X la_64 tq129 dX7_parses_255 (by omega) ?_
                                    have ltq130 : (124 : Int32).toInt = 124 := by decide
                                    have Iq131 : Iv TM (ui M_135 64 ((((M_135.1 47 22).toInt) - 1).toNat) 124) := I_135.otherA rfl
                                    have frq132 : Fr W_X7_parses Mq (ui M_135 64 ((((M_135.1 47 22).toInt) - 1).toNat) 124) := fr_135.ui rfl
                                    refine g_aload_n X 3 rfl dX7_parses_256 ?_
                                    refine g_dup X dX7_parses_257 rfl ?_
                                    refine g_geti X f_X7_204 dX7_parses_258 (x := M_135.1 47 21) rfl ?_
                                    have bq133 := ig_47_21 I_135
                                    refine g_iconst X 1 dX7_parses_261 (by decide) ?_
                                    refine g_iadd X dX7_parses_262 (fun zq134 eq135 => ?_)
                                    have tq136 : zq134.toInt = ((M_135.1 47 21).toInt) + 1 := add_nw eq135 rfl (show (1 : Int32).toInt = 1 by decide) (by omega)
                                    refine g_puti X p_X7_204 dX7_parses_263 ?_
                                    have Iq137 : Iv TM (ui (ui M_135 64 ((((M_135.1 47 22).toInt) - 1).toNat) 124) 47 21 zq134) := Iq131.put 0 60 tq136 (by omega) rfl
                                    have frq138 : Fr W_X7_parses Mq (ui (ui M_135 64 ((((M_135.1 47 22).toInt) - 1).toNat) 124) 47 21 zq134) := frq132.ui rfl
                                    have hP13 : PI (ui (ui M_135 64 ((((M_135.1 47 22).toInt) - 1).toNat) 124) 47 21 zq134) a1 := PI_bar i13 (by omega) (by omega) (by omega) (by decide) (by assumption)
                                    refine g_iconst X 1 dX7_parses_266 (by decide) ?_
                                    refine g_istore_n X (i := 3) [(3, .int 1), (4, .int (M_135.1 64 ((((M_135.1 47 22).toInt) - 1).toNat))), (2, .int rq56), (0, .ref (ad 47)), (1, .int x1)] dX7_parses_267 rfl (by decide) rfl ?_
                                    refine g_goto X (tgt := 135) dX7_parses_268 (by decide) ?_
                                    refine g_sub [0, 2, 3, 4] rfl ?_
                                    have hr21 : ((ui (ui M_135 64 ((((M_135.1 47 22).toInt) - 1).toNat) 124) 47 21 zq134).1 47 21).toInt = zq134.toInt := rfl
                                    exact ih135 1 _ (show (1 : Int32).toInt = 1 by decide) rq56 _ tq58 (ui (ui M_135 64 ((((M_135.1 47 22).toInt) - 1).toNat) 124) 47 21 zq134) (by first | exact hP13 | exact i13) (show (M_5.1 47 21).toInt < (zq134).toInt by omega) (by omega) Iq137 frq138 (by omega)
                              · refine g_iload X 0 rfl dX7_parses_200 ?_
                                refine g_bipush X 124 dX7_parses_202 (by decide) ?_
                                refine g_icmp_ne X rfl (show (124 : Int32).toInt = 124 by decide) (tgt := 230) dX7_parses_204 (by decide) (fun cq139 => ?_) (fun cq139 => ?_)
                                · refine g_iload_n X 1 rfl dX7_parses_230 ?_
                                  refine g_bipush X 124 dX7_parses_231 (by decide) ?_
                                  refine g_icmp_ne X tq58 (show (124 : Int32).toInt = 124 by decide) (tgt := 271) dX7_parses_233 (by decide) (fun cq140 => ?_) (fun cq140 => ?_)
                                  · refine g_iload_n X 1 rfl dX7_parses_271 ?_
                                    refine g_iconst X (-1) dX7_parses_272 (by decide) ?_
                                    refine g_icmp_ne X tq58 (show ((-1) : Int32).toInt = (-1) by decide) (tgt := 285) dX7_parses_273 (by decide) (fun cq141 => ?_) (fun cq141 => ?_)
                                    · refine g_iload_n X 1 rfl dX7_parses_285 ?_
                                      refine g_bipush X 91 dX7_parses_286 (by decide) ?_
                                      refine g_icmp_eq X tq58 (show (91 : Int32).toInt = 91 by decide) (tgt := 319) dX7_parses_288 (by decide) (fun cq142 => ?_) (fun cq142 => ?_)
                                      · exfalso; omega
                                      · refine g_iload_n X 1 rfl dX7_parses_291 ?_
                                        refine g_bipush X 123 dX7_parses_292 (by decide) ?_
                                        refine g_icmp_eq X tq58 (show (123 : Int32).toInt = 123 by decide) (tgt := 319) dX7_parses_294 (by decide) (fun cq143 => ?_) (fun cq143 => ?_)
                                        · exfalso; omega
                                        · refine g_iload_n X 1 rfl dX7_parses_297 ?_
                                          refine g_bipush X 40 dX7_parses_298 (by decide) ?_
                                          refine g_icmp_eq X tq58 (show (40 : Int32).toInt = 40 by decide) (tgt := 319) dX7_parses_300 (by decide) (fun cq144 => ?_) (fun cq144 => ?_)
                                          · exfalso; omega
                                          · refine g_iload_n X 1 rfl dX7_parses_303 ?_
                                            refine g_callS X m_X7_214 (c_X7_isSlot ad M_135 rq56 tq58) rfl (by decide) (Nat.le_of_ble_eq_true rfl) rfl dX7_parses_304 ?_
                                            rintro _ _ ⟨rq145, aq146, rfl, tq147, hq148, rfl⟩
                                            show G Γ M_135 307 [(4, .int (M_135.1 64 ((((M_135.1 47 22).toInt) - 1).toNat))), (2, .int rq56), (3, .int y3_135), (0, .ref (ad 47)), (1, .int x1)] [.int rq145]
                                            refine g_if_ne X tq147 (tgt := 319) dX7_parses_307 (by decide) (fun cq149 => ?_) (fun cq149 => ?_)
                                            · have pq150 : (97 ≤ aq57 ∧ aq57 ≤ 104) := by omega
                                              clear hq148 cq149 tq147
                                              refine g_iconst X 1 dX7_parses_319 (by decide) ?_
                                              refine g_istore_n X (i := 3) [(3, .int 1), (4, .int (M_135.1 64 ((((M_135.1 47 22).toInt) - 1).toNat))), (2, .int rq56), (0, .ref (ad 47)), (1, .int x1)] dX7_parses_320 rfl (by decide) rfl ?_
                                              refine g_goto X (tgt := 135) dX7_parses_321 (by decide) ?_
                                              refine g_sub [0, 2, 3, 4] rfl ?_
                                              have hr21 : (M_135.1 47 21).toInt = (M_135.1 47 21).toInt := rfl
                                              exact ih135 1 _ (show (1 : Int32).toInt = 1 by decide) rq56 _ tq58 M_135 (by first | exact hP13 | exact i13) (by omega) (by omega) I_135 fr_135 (by omega)
                                            · have pq151 : ¬ (97 ≤ aq57 ∧ aq57 ≤ 104) := by omega
                                              clear hq148 cq149 tq147
                                              refine g_iload_n X 1 rfl dX7_parses_310 ?_
                                              refine g_callS X m_X7_217 (c_X7_isScene ad M_135 rq56 tq58) rfl (by decide) (Nat.le_of_ble_eq_true rfl) rfl dX7_parses_311 ?_
                                              rintro _ _ ⟨rq152, aq153, rfl, tq154, hq155, rfl⟩
                                              show G Γ M_135 314 [(4, .int (M_135.1 64 ((((M_135.1 47 22).toInt) - 1).toNat))), (2, .int rq56), (3, .int y3_135), (0, .ref (ad 47)), (1, .int x1)] [.int rq152]
                                              refine g_if_ne X tq154 (tgt := 319) dX7_parses_314 (by decide) (fun cq156 => ?_) (fun cq156 => ?_)
                                              · have pq157 : (65 ≤ aq57 ∧ aq57 ≤ 72) := by omega
                                                clear hq155 cq156 tq154
                                                refine g_iconst X 1 dX7_parses_319 (by decide) ?_
                                                refine g_istore_n X (i := 3) [(3, .int 1), (4, .int (M_135.1 64 ((((M_135.1 47 22).toInt) - 1).toNat))), (2, .int rq56), (0, .ref (ad 47)), (1, .int x1)] dX7_parses_320 rfl (by decide) rfl ?_
                                                refine g_goto X (tgt := 135) dX7_parses_321 (by decide) ?_
                                                refine g_sub [0, 2, 3, 4] rfl ?_
                                                have hr21 : (M_135.1 47 21).toInt = (M_135.1 47 21).toInt := rfl
                                                exact ih135 1 _ (show (1 : Int32).toInt = 1 by decide) rq56 _ tq58 M_135 (by first | exact hP13 | exact i13) (by omega) (by omega) I_135 fr_135 (by omega)
                                              · have pq158 : ¬ (65 ≤ aq57 ∧ aq57 ≤ 72) := by omega
                                                clear hq155 cq156 tq154
                                                refine g_iconst X 0 dX7_parses_317 (by decide) ?_
                                                exact g_zret X (b01 (show (0 : Int32).toInt = 0 by decide) (by omega)) dX7_parses_318 ⟨_, _, rfl, (show (0 : Int32).toInt = 0 by decide), (by omega), (fun h => absurd h (by decide)), I_135, fr_135⟩
                                    · exfalso; omega
                                  · exfalso; omega
                                · refine g_aload_n X 3 rfl dX7_parses_207 ?_
                                  refine g_dup X dX7_parses_208 rfl ?_
                                  refine g_geti X f_X7_207 dX7_parses_209 (x := M_135.1 47 22) rfl ?_
                                  have bq159 := ig_47_22 I_135
                                  refine g_iconst X 1 dX7_parses_212 (by decide) ?_
                                  refine g_isub X dX7_parses_213 (fun zq160 eq161 => ?_)
                                  have tq162 : zq160.toInt = ((M_135.1 47 22).toInt) - 1 := sub_nw eq161 rfl (show (1 : Int32).toInt = 1 by decide) (by omega)
                                  refine g_puti X p_X7_207 dX7_parses_214 ?_
                                  have Iq163 : Iv TM (ui M_135 47 22 zq160) := I_135.put 0 60 tq162 (by omega) rfl
                                  have frq164 : Fr W_X7_parses Mq (ui M_135 47 22 zq160) := fr_135.ui rfl
                                  refine g_aload_n X 3 rfl dX7_parses_217 ?_
                                  refine g_dup X dX7_parses_218 rfl ?_
                                  refine g_geti X f_X7_204 dX7_parses_219 (x := M_135.1 47 21) rfl ?_
                                  have bq165 := ig_47_21 I_135
                                  refine g_iconst X 1 dX7_parses_222 (by decide) ?_
                                  refine g_iadd X dX7_parses_223 (fun zq166 eq167 => ?_)
                                  have tq168 : zq166.toInt = ((M_135.1 47 21).toInt) + 1 := add_nw eq167 rfl (show (1 : Int32).toInt = 1 by decide) (by omega)
                                  refine g_puti X p_X7_204 dX7_parses_224 ?_
                                  have Iq169 : Iv TM (ui (ui M_135 47 22 zq160) 47 21 zq166) := Iq163.put 0 60 tq168 (by omega) rfl
                                  have frq170 : Fr W_X7_parses Mq (ui (ui M_135 47 22 zq160) 47 21 zq166) := frq164.ui rfl
                                  have hP13 : PI (ui (ui M_135 47 22 zq160) 47 21 zq166) a1 := PI_pop i13 (by omega) (by omega) (by omega) (by assumption) (by assumption)
                                  refine g_goto X (tgt := 135) dX7_parses_227 (by decide) ?_
                                  refine g_sub [2, 1, 3, 4] rfl ?_
                                  have hr21 : ((ui (ui M_135 47 22 zq160) 47 21 zq166).1 47 21).toInt = zq166.toInt := rfl
                                  exact ih135 y3_135 _ e3_135 rq56 _ tq58 (ui (ui M_135 47 22 zq160) 47 21 zq166) (by first | exact hP13 | exact i13) (show (M_5.1 47 21).toInt < (zq166).toInt by omega) (by omega) Iq169 frq170 (by omega)
                            · refine g_iload X 0 rfl dX7_parses_187 ?_
                              refine g_bipush X 123 dX7_parses_189 (by decide) ?_
                              refine g_icmp_eq X rfl (show (123 : Int32).toInt = 123 by decide) (tgt := 207) dX7_parses_191 (by decide) (fun cq171 => ?_) (fun cq171 => ?_)
                              · refine g_aload_n X 3 rfl dX7_parses_207 ?_
                                refine g_dup X dX7_parses_208 rfl ?_
                                refine g_geti X f_X7_207 dX7_parses_209 (x := M_135.1 47 22) rfl ?_
                                have bq172 := ig_47_22 I_135
                                refine g_iconst X 1 dX7_parses_212 (by decide) ?_
                                refine g_isub X dX7_parses_213 (fun zq173 eq174 => ?_)
                                have tq175 : zq173.toInt = ((M_135.1 47 22).toInt) - 1 := sub_nw eq174 rfl (show (1 : Int32).toInt = 1 by decide) (by omega)
                                refine g_puti X p_X7_207 dX7_parses_214 ?_
                                have Iq176 : Iv TM (ui M_135 47 22 zq173) := I_135.put 0 60 tq175 (by omega) rfl
                                have frq177 : Fr W_X7_parses Mq (ui M_135 47 22 zq173) := fr_135.ui rfl
                                refine g_aload_n X 3 rfl dX7_parses_217 ?_
                                refine g_dup X dX7_parses_218 rfl ?_
                                refine g_geti X f_X7_204 dX7_parses_219 (x := M_135.1 47 21) rfl ?_
                                have bq178 := ig_47_21 I_135
                                refine g_iconst X 1 dX7_parses_222 (by decide) ?_
                                refine g_iadd X dX7_parses_223 (fun zq179 eq180 => ?_)
                                have tq181 : zq179.toInt = ((M_135.1 47 21).toInt) + 1 := add_nw eq180 rfl (show (1 : Int32).toInt = 1 by decide) (by omega)
                                refine g_puti X p_X7_204 dX7_parses_224 ?_
                                have Iq182 : Iv TM (ui (ui M_135 47 22 zq173) 47 21 zq179) := Iq176.put 0 60 tq181 (by omega) rfl
                                have frq183 : Fr W_X7_parses Mq (ui (ui M_135 47 22 zq173) 47 21 zq179) := frq177.ui rfl
                                have hP13 : PI (ui (ui M_135 47 22 zq173) 47 21 zq179) a1 := PI_pop i13 (by omega) (by omega) (by omega) (by assumption) (by assumption)
                                refine g_goto X (tgt := 135) dX7_parses_227 (by decide) ?_
                                refine g_sub [2, 1, 3, 4] rfl ?_
                                have hr21 : ((ui (ui M_135 47 22 zq173) 47 21 zq179).1 47 21).toInt = zq179.toInt := rfl
                                exact ih135 y3_135 _ e3_135 rq56 _ tq58 (ui (ui M_135 47 22 zq173) 47 21 zq179) (by first | exact hP13 | exact i13) (show (M_5.1 47 21).toInt < (zq179).toInt by omega) (by omega) Iq182 frq183 (by omega)
                              · refine g_iload_n X 1 rfl dX7_parses_194 ?_
                                refine g_bipush X 41 dX7_parses_195 (by decide) ?_
                                refine g_icmp_ne X tq58 (show (41 : Int32).toInt = 41 by decide) (tgt := 230) dX7_parses_197 (by decide) (fun cq184 => ?_) (fun cq184 => ?_)
                                · refine g_iload_n X 1 rfl dX7_parses_230 ?_
                                  refine g_bipush X 124 dX7_parses_231 (by decide) ?_
                                  refine g_icmp_ne X tq58 (show (124 : Int32).toInt = 124 by decide) (tgt := 271) dX7_parses_233 (by decide) (fun cq185 => ?_) (fun cq185 => ?_)
                                  · refine g_iload_n X 1 rfl dX7_parses_271 ?_
                                    refine g_iconst X (-1) dX7_parses_272 (by decide) ?_
                                    refine g_icmp_ne X tq58 (show ((-1) : Int32).toInt = (-1) by decide) (tgt := 285) dX7_parses_273 (by decide) (fun cq186 => ?_) (fun cq186 => ?_)
                                    · refine g_iload_n X 1 rfl dX7_parses_285 ?_
                                      refine g_bipush X 91 dX7_parses_286 (by decide) ?_
                                      refine g_icmp_eq X tq58 (show (91 : Int32).toInt = 91 by decide) (tgt := 319) dX7_parses_288 (by decide) (fun cq187 => ?_) (fun cq187 => ?_)
                                      · exfalso; omega
                                      · refine g_iload_n X 1 rfl dX7_parses_291 ?_
                                        refine g_bipush X 123 dX7_parses_292 (by decide) ?_
                                        refine g_icmp_eq X tq58 (show (123 : Int32).toInt = 123 by decide) (tgt := 319) dX7_parses_294 (by decide) (fun cq188 => ?_) (fun cq188 => ?_)
                                        · exfalso; omega
                                        · refine g_iload_n X 1 rfl dX7_parses_297 ?_
                                          refine g_bipush X 40 dX7_parses_298 (by decide) ?_
                                          refine g_icmp_eq X tq58 (show (40 : Int32).toInt = 40 by decide) (tgt := 319) dX7_parses_300 (by decide) (fun cq189 => ?_) (fun cq189 => ?_)
                                          · exfalso; omega
                                          · refine g_iload_n X 1 rfl dX7_parses_303 ?_
                                            refine g_callS X m_X7_214 (c_X7_isSlot ad M_135 rq56 tq58) rfl (by decide) (Nat.le_of_ble_eq_true rfl) rfl dX7_parses_304 ?_
                                            rintro _ _ ⟨rq190, aq191, rfl, tq192, hq193, rfl⟩
                                            show G Γ M_135 307 [(4, .int (M_135.1 64 ((((M_135.1 47 22).toInt) - 1).toNat))), (2, .int rq56), (3, .int y3_135), (0, .ref (ad 47)), (1, .int x1)] [.int rq190]
                                            refine g_if_ne X tq192 (tgt := 319) dX7_parses_307 (by decide) (fun cq194 => ?_) (fun cq194 => ?_)
                                            · have pq195 : (97 ≤ aq57 ∧ aq57 ≤ 104) := by omega
                                              clear hq193 cq194 tq192
                                              refine g_iconst X 1 dX7_parses_319 (by decide) ?_
                                              refine g_istore_n X (i := 3) [(3, .int 1), (4, .int (M_135.1 64 ((((M_135.1 47 22).toInt) - 1).toNat))), (2, .int rq56), (0, .ref (ad 47)), (1, .int x1)] dX7_parses_320 rfl (by decide) rfl ?_
                                              refine g_goto X (tgt := 135) dX7_parses_321 (by decide) ?_
                                              refine g_sub [0, 2, 3, 4] rfl ?_
                                              have hr21 : (M_135.1 47 21).toInt = (M_135.1 47 21).toInt := rfl
                                              exact ih135 1 _ (show (1 : Int32).toInt = 1 by decide) rq56 _ tq58 M_135 (by first | exact hP13 | exact i13) (by omega) (by omega) I_135 fr_135 (by omega)
                                            · have pq196 : ¬ (97 ≤ aq57 ∧ aq57 ≤ 104) := by omega
                                              clear hq193 cq194 tq192
                                              refine g_iload_n X 1 rfl dX7_parses_310 ?_
                                              refine g_callS X m_X7_217 (c_X7_isScene ad M_135 rq56 tq58) rfl (by decide) (Nat.le_of_ble_eq_true rfl) rfl dX7_parses_311 ?_
                                              rintro _ _ ⟨rq197, aq198, rfl, tq199, hq200, rfl⟩
                                              show G Γ M_135 314 [(4, .int (M_135.1 64 ((((M_135.1 47 22).toInt) - 1).toNat))), (2, .int rq56), (3, .int y3_135), (0, .ref (ad 47)), (1, .int x1)] [.int rq197]
                                              refine g_if_ne X tq199 (tgt := 319) dX7_parses_314 (by decide) (fun cq201 => ?_) (fun cq201 => ?_)
                                              · have pq202 : (65 ≤ aq57 ∧ aq57 ≤ 72) := by omega
                                                clear hq200 cq201 tq199
                                                refine g_iconst X 1 dX7_parses_319 (by decide) ?_
                                                refine g_istore_n X (i := 3) [(3, .int 1), (4, .int (M_135.1 64 ((((M_135.1 47 22).toInt) - 1).toNat))), (2, .int rq56), (0, .ref (ad 47)), (1, .int x1)] dX7_parses_320 rfl (by decide) rfl ?_
                                                refine g_goto X (tgt := 135) dX7_parses_321 (by decide) ?_
                                                refine g_sub [0, 2, 3, 4] rfl ?_
                                                have hr21 : (M_135.1 47 21).toInt = (M_135.1 47 21).toInt := rfl
                                                exact ih135 1 _ (show (1 : Int32).toInt = 1 by decide) rq56 _ tq58 M_135 (by first | exact hP13 | exact i13) (by omega) (by omega) I_135 fr_135 (by omega)
                                              · have pq203 : ¬ (65 ≤ aq57 ∧ aq57 ≤ 72) := by omega
                                                clear hq200 cq201 tq199
                                                refine g_iconst X 0 dX7_parses_317 (by decide) ?_
                                                exact g_zret X (b01 (show (0 : Int32).toInt = 0 by decide) (by omega)) dX7_parses_318 ⟨_, _, rfl, (show (0 : Int32).toInt = 0 by decide), (by omega), (fun h => absurd h (by decide)), I_135, fr_135⟩
                                    · exfalso; omega
                                  · exfalso; omega
                                · exfalso; omega
                          · refine g_iload X 0 rfl dX7_parses_174 ?_
                            refine g_bipush X 91 dX7_parses_176 (by decide) ?_
                            refine g_icmp_eq X rfl (show (91 : Int32).toInt = 91 by decide) (tgt := 207) dX7_parses_178 (by decide) (fun cq204 => ?_) (fun cq204 => ?_)
                            · refine g_aload_n X 3 rfl dX7_parses_207 ?_
                              refine g_dup X dX7_parses_208 rfl ?_
                              refine g_geti X f_X7_207 dX7_parses_209 (x := M_135.1 47 22) rfl ?_
                              have bq205 := ig_47_22 I_135
                              refine g_iconst X 1 dX7_parses_212 (by decide) ?_
                              refine g_isub X dX7_parses_213 (fun zq206 eq207 => ?_)
                              have tq208 : zq206.toInt = ((M_135.1 47 22).toInt) - 1 := sub_nw eq207 rfl (show (1 : Int32).toInt = 1 by decide) (by omega)
                              refine g_puti X p_X7_207 dX7_parses_214 ?_
                              have Iq209 : Iv TM (ui M_135 47 22 zq206) := I_135.put 0 60 tq208 (by omega) rfl
                              have frq210 : Fr W_X7_parses Mq (ui M_135 47 22 zq206) := fr_135.ui rfl
                              refine g_aload_n X 3 rfl dX7_parses_217 ?_
                              refine g_dup X dX7_parses_218 rfl ?_
                              refine g_geti X f_X7_204 dX7_parses_219 (x := M_135.1 47 21) rfl ?_
                              have bq211 := ig_47_21 I_135
                              refine g_iconst X 1 dX7_parses_222 (by decide) ?_
                              refine g_iadd X dX7_parses_223 (fun zq212 eq213 => ?_)
                              have tq214 : zq212.toInt = ((M_135.1 47 21).toInt) + 1 := add_nw eq213 rfl (show (1 : Int32).toInt = 1 by decide) (by omega)
                              refine g_puti X p_X7_204 dX7_parses_224 ?_
                              have Iq215 : Iv TM (ui (ui M_135 47 22 zq206) 47 21 zq212) := Iq209.put 0 60 tq214 (by omega) rfl
                              have frq216 : Fr W_X7_parses Mq (ui (ui M_135 47 22 zq206) 47 21 zq212) := frq210.ui rfl
                              have hP13 : PI (ui (ui M_135 47 22 zq206) 47 21 zq212) a1 := PI_pop i13 (by omega) (by omega) (by omega) (by assumption) (by assumption)
                              refine g_goto X (tgt := 135) dX7_parses_227 (by decide) ?_
                              refine g_sub [2, 1, 3, 4] rfl ?_
                              have hr21 : ((ui (ui M_135 47 22 zq206) 47 21 zq212).1 47 21).toInt = zq212.toInt := rfl
                              exact ih135 y3_135 _ e3_135 rq56 _ tq58 (ui (ui M_135 47 22 zq206) 47 21 zq212) (by first | exact hP13 | exact i13) (show (M_5.1 47 21).toInt < (zq212).toInt by omega) (by omega) Iq215 frq216 (by omega)
                            · refine g_iload_n X 1 rfl dX7_parses_181 ?_
                              refine g_bipush X 125 dX7_parses_182 (by decide) ?_
                              refine g_icmp_ne X tq58 (show (125 : Int32).toInt = 125 by decide) (tgt := 194) dX7_parses_184 (by decide) (fun cq217 => ?_) (fun cq217 => ?_)
                              · refine g_iload_n X 1 rfl dX7_parses_194 ?_
                                refine g_bipush X 41 dX7_parses_195 (by decide) ?_
                                refine g_icmp_ne X tq58 (show (41 : Int32).toInt = 41 by decide) (tgt := 230) dX7_parses_197 (by decide) (fun cq218 => ?_) (fun cq218 => ?_)
                                · refine g_iload_n X 1 rfl dX7_parses_230 ?_
                                  refine g_bipush X 124 dX7_parses_231 (by decide) ?_
                                  refine g_icmp_ne X tq58 (show (124 : Int32).toInt = 124 by decide) (tgt := 271) dX7_parses_233 (by decide) (fun cq219 => ?_) (fun cq219 => ?_)
                                  · refine g_iload_n X 1 rfl dX7_parses_271 ?_
                                    refine g_iconst X (-1) dX7_parses_272 (by decide) ?_
                                    refine g_icmp_ne X tq58 (show ((-1) : Int32).toInt = (-1) by decide) (tgt := 285) dX7_parses_273 (by decide) (fun cq220 => ?_) (fun cq220 => ?_)
                                    · refine g_iload_n X 1 rfl dX7_parses_285 ?_
                                      refine g_bipush X 91 dX7_parses_286 (by decide) ?_
                                      refine g_icmp_eq X tq58 (show (91 : Int32).toInt = 91 by decide) (tgt := 319) dX7_parses_288 (by decide) (fun cq221 => ?_) (fun cq221 => ?_)
                                      · exfalso; omega
                                      · refine g_iload_n X 1 rfl dX7_parses_291 ?_
                                        refine g_bipush X 123 dX7_parses_292 (by decide) ?_
                                        refine g_icmp_eq X tq58 (show (123 : Int32).toInt = 123 by decide) (tgt := 319) dX7_parses_294 (by decide) (fun cq222 => ?_) (fun cq222 => ?_)
                                        · exfalso; omega
                                        · refine g_iload_n X 1 rfl dX7_parses_297 ?_
                                          refine g_bipush X 40 dX7_parses_298 (by decide) ?_
                                          refine g_icmp_eq X tq58 (show (40 : Int32).toInt = 40 by decide) (tgt := 319) dX7_parses_300 (by decide) (fun cq223 => ?_) (fun cq223 => ?_)
                                          · exfalso; omega
                                          · refine g_iload_n X 1 rfl dX7_parses_303 ?_
                                            refine g_callS X m_X7_214 (c_X7_isSlot ad M_135 rq56 tq58) rfl (by decide) (Nat.le_of_ble_eq_true rfl) rfl dX7_parses_304 ?_
                                            rintro _ _ ⟨rq224, aq225, rfl, tq226, hq227, rfl⟩
                                            show G Γ M_135 307 [(4, .int (M_135.1 64 ((((M_135.1 47 22).toInt) - 1).toNat))), (2, .int rq56), (3, .int y3_135), (0, .ref (ad 47)), (1, .int x1)] [.int rq224]
                                            refine g_if_ne X tq226 (tgt := 319) dX7_parses_307 (by decide) (fun cq228 => ?_) (fun cq228 => ?_)
                                            · have pq229 : (97 ≤ aq57 ∧ aq57 ≤ 104) := by omega
                                              clear hq227 cq228 tq226
                                              refine g_iconst X 1 dX7_parses_319 (by decide) ?_
                                              refine g_istore_n X (i := 3) [(3, .int 1), (4, .int (M_135.1 64 ((((M_135.1 47 22).toInt) - 1).toNat))), (2, .int rq56), (0, .ref (ad 47)), (1, .int x1)] dX7_parses_320 rfl (by decide) rfl ?_
                                              refine g_goto X (tgt := 135) dX7_parses_321 (by decide) ?_
                                              refine g_sub [0, 2, 3, 4] rfl ?_
                                              have hr21 : (M_135.1 47 21).toInt = (M_135.1 47 21).toInt := rfl
                                              exact ih135 1 _ (show (1 : Int32).toInt = 1 by decide) rq56 _ tq58 M_135 (by first | exact hP13 | exact i13) (by omega) (by omega) I_135 fr_135 (by omega)
                                            · have pq230 : ¬ (97 ≤ aq57 ∧ aq57 ≤ 104) := by omega
                                              clear hq227 cq228 tq226
                                              refine g_iload_n X 1 rfl dX7_parses_310 ?_
                                              refine g_callS X m_X7_217 (c_X7_isScene ad M_135 rq56 tq58) rfl (by decide) (Nat.le_of_ble_eq_true rfl) rfl dX7_parses_311 ?_
                                              rintro _ _ ⟨rq231, aq232, rfl, tq233, hq234, rfl⟩
                                              show G Γ M_135 314 [(4, .int (M_135.1 64 ((((M_135.1 47 22).toInt) - 1).toNat))), (2, .int rq56), (3, .int y3_135), (0, .ref (ad 47)), (1, .int x1)] [.int rq231]
                                              refine g_if_ne X tq233 (tgt := 319) dX7_parses_314 (by decide) (fun cq235 => ?_) (fun cq235 => ?_)
                                              · have pq236 : (65 ≤ aq57 ∧ aq57 ≤ 72) := by omega
                                                clear hq234 cq235 tq233
                                                refine g_iconst X 1 dX7_parses_319 (by decide) ?_
                                                refine g_istore_n X (i := 3) [(3, .int 1), (4, .int (M_135.1 64 ((((M_135.1 47 22).toInt) - 1).toNat))), (2, .int rq56), (0, .ref (ad 47)), (1, .int x1)] dX7_parses_320 rfl (by decide) rfl ?_
                                                refine g_goto X (tgt := 135) dX7_parses_321 (by decide) ?_
                                                refine g_sub [0, 2, 3, 4] rfl ?_
                                                have hr21 : (M_135.1 47 21).toInt = (M_135.1 47 21).toInt := rfl
                                                exact ih135 1 _ (show (1 : Int32).toInt = 1 by decide) rq56 _ tq58 M_135 (by first | exact hP13 | exact i13) (by omega) (by omega) I_135 fr_135 (by omega)
                                              · have pq237 : ¬ (65 ≤ aq57 ∧ aq57 ≤ 72) := by omega
                                                clear hq234 cq235 tq233
                                                refine g_iconst X 0 dX7_parses_317 (by decide) ?_
                                                exact g_zret X (b01 (show (0 : Int32).toInt = 0 by decide) (by omega)) dX7_parses_318 ⟨_, _, rfl, (show (0 : Int32).toInt = 0 by decide), (by omega), (fun h => absurd h (by decide)), I_135, fr_135⟩
                                    · exfalso; omega
                                  · exfalso; omega
                                · exfalso; omega
                              · exfalso; omega
                        · refine g_iconst X 0 dX7_parses_151 (by decide) ?_
                          refine g_goto X (tgt := 166) dX7_parses_152 (by decide) ?_
                          refine g_istore X [(4, .int 0), (2, .int rq56), (3, .int y3_135), (0, .ref (ad 47)), (1, .int x1)] dX7_parses_166 (by decide) rfl ?_
                          refine g_iload_n X 1 rfl dX7_parses_168 ?_
                          refine g_bipush X 93 dX7_parses_169 (by decide) ?_
                          refine g_icmp_ne X tq58 (show (93 : Int32).toInt = 93 by decide) (tgt := 181) dX7_parses_171 (by decide) (fun cq238 => ?_) (fun cq238 => ?_)
                          · refine g_iload_n X 1 rfl dX7_parses_181 ?_
                            refine g_bipush X 125 dX7_parses_182 (by decide) ?_
                            refine g_icmp_ne X tq58 (show (125 : Int32).toInt = 125 by decide) (tgt := 194) dX7_parses_184 (by decide) (fun cq239 => ?_) (fun cq239 => ?_)
                            · refine g_iload_n X 1 rfl dX7_parses_194 ?_
                              refine g_bipush X 41 dX7_parses_195 (by decide) ?_
                              refine g_icmp_ne X tq58 (show (41 : Int32).toInt = 41 by decide) (tgt := 230) dX7_parses_197 (by decide) (fun cq240 => ?_) (fun cq240 => ?_)
                              · refine g_iload_n X 1 rfl dX7_parses_230 ?_
                                refine g_bipush X 124 dX7_parses_231 (by decide) ?_
                                refine g_icmp_ne X tq58 (show (124 : Int32).toInt = 124 by decide) (tgt := 271) dX7_parses_233 (by decide) (fun cq241 => ?_) (fun cq241 => ?_)
                                · refine g_iload_n X 1 rfl dX7_parses_271 ?_
                                  refine g_iconst X (-1) dX7_parses_272 (by decide) ?_
                                  refine g_icmp_ne X tq58 (show ((-1) : Int32).toInt = (-1) by decide) (tgt := 285) dX7_parses_273 (by decide) (fun cq242 => ?_) (fun cq242 => ?_)
                                  · refine g_iload_n X 1 rfl dX7_parses_285 ?_
                                    refine g_bipush X 91 dX7_parses_286 (by decide) ?_
                                    refine g_icmp_eq X tq58 (show (91 : Int32).toInt = 91 by decide) (tgt := 319) dX7_parses_288 (by decide) (fun cq243 => ?_) (fun cq243 => ?_)
                                    · refine g_iconst X 1 dX7_parses_319 (by decide) ?_
                                      refine g_istore_n X (i := 3) [(3, .int 1), (4, .int 0), (2, .int rq56), (0, .ref (ad 47)), (1, .int x1)] dX7_parses_320 rfl (by decide) rfl ?_
                                      refine g_goto X (tgt := 135) dX7_parses_321 (by decide) ?_
                                      refine g_sub [0, 2, 3, 4] rfl ?_
                                      have hr21 : (M_135.1 47 21).toInt = (M_135.1 47 21).toInt := rfl
                                      exact ih135 1 _ (show (1 : Int32).toInt = 1 by decide) rq56 _ tq58 M_135 (by first | exact hP13 | exact i13) (by omega) (by omega) I_135 fr_135 (by omega)
                                    · refine g_iload_n X 1 rfl dX7_parses_291 ?_
                                      refine g_bipush X 123 dX7_parses_292 (by decide) ?_
                                      refine g_icmp_eq X tq58 (show (123 : Int32).toInt = 123 by decide) (tgt := 319) dX7_parses_294 (by decide) (fun cq244 => ?_) (fun cq244 => ?_)
                                      · refine g_iconst X 1 dX7_parses_319 (by decide) ?_
                                        refine g_istore_n X (i := 3) [(3, .int 1), (4, .int 0), (2, .int rq56), (0, .ref (ad 47)), (1, .int x1)] dX7_parses_320 rfl (by decide) rfl ?_
                                        refine g_goto X (tgt := 135) dX7_parses_321 (by decide) ?_
                                        refine g_sub [0, 2, 3, 4] rfl ?_
                                        have hr21 : (M_135.1 47 21).toInt = (M_135.1 47 21).toInt := rfl
                                        exact ih135 1 _ (show (1 : Int32).toInt = 1 by decide) rq56 _ tq58 M_135 (by first | exact hP13 | exact i13) (by omega) (by omega) I_135 fr_135 (by omega)
                                      · refine g_iload_n X 1 rfl dX7_parses_297 ?_
                                        refine g_bipush X 40 dX7_parses_298 (by decide) ?_
                                        refine g_icmp_eq X tq58 (show (40 : Int32).toInt = 40 by decide) (tgt := 319) dX7_parses_300 (by decide) (fun cq245 => ?_) (fun cq245 => ?_)
                                        · refine g_iconst X 1 dX7_parses_319 (by decide) ?_
                                          refine g_istore_n X (i := 3) [(3, .int 1), (4, .int 0), (2, .int rq56), (0, .ref (ad 47)), (1, .int x1)] dX7_parses_320 rfl (by decide) rfl ?_
                                          refine g_goto X (tgt := 135) dX7_parses_321 (by decide) ?_
                                          refine g_sub [0, 2, 3, 4] rfl ?_
                                          have hr21 : (M_135.1 47 21).toInt = (M_135.1 47 21).toInt := rfl
                                          exact ih135 1 _ (show (1 : Int32).toInt = 1 by decide) rq56 _ tq58 M_135 (by first | exact hP13 | exact i13) (by omega) (by omega) I_135 fr_135 (by omega)
                                        · refine g_iload_n X 1 rfl dX7_parses_303 ?_
                                          refine g_callS X m_X7_214 (c_X7_isSlot ad M_135 rq56 tq58) rfl (by decide) (Nat.le_of_ble_eq_true rfl) rfl dX7_parses_304 ?_
                                          rintro _ _ ⟨rq246, aq247, rfl, tq248, hq249, rfl⟩
                                          show G Γ M_135 307 [(4, .int 0), (2, .int rq56), (3, .int y3_135), (0, .ref (ad 47)), (1, .int x1)] [.int rq246]
                                          refine g_if_ne X tq248 (tgt := 319) dX7_parses_307 (by decide) (fun cq250 => ?_) (fun cq250 => ?_)
                                          · have pq251 : (97 ≤ aq57 ∧ aq57 ≤ 104) := by omega
                                            clear hq249 cq250 tq248
                                            refine g_iconst X 1 dX7_parses_319 (by decide) ?_
                                            refine g_istore_n X (i := 3) [(3, .int 1), (4, .int 0), (2, .int rq56), (0, .ref (ad 47)), (1, .int x1)] dX7_parses_320 rfl (by decide) rfl ?_
                                            refine g_goto X (tgt := 135) dX7_parses_321 (by decide) ?_
                                            refine g_sub [0, 2, 3, 4] rfl ?_
                                            have hr21 : (M_135.1 47 21).toInt = (M_135.1 47 21).toInt := rfl
                                            exact ih135 1 _ (show (1 : Int32).toInt = 1 by decide) rq56 _ tq58 M_135 (by first | exact hP13 | exact i13) (by omega) (by omega) I_135 fr_135 (by omega)
                                          · have pq252 : ¬ (97 ≤ aq57 ∧ aq57 ≤ 104) := by omega
                                            clear hq249 cq250 tq248
                                            refine g_iload_n X 1 rfl dX7_parses_310 ?_
                                            refine g_callS X m_X7_217 (c_X7_isScene ad M_135 rq56 tq58) rfl (by decide) (Nat.le_of_ble_eq_true rfl) rfl dX7_parses_311 ?_
                                            rintro _ _ ⟨rq253, aq254, rfl, tq255, hq256, rfl⟩
                                            show G Γ M_135 314 [(4, .int 0), (2, .int rq56), (3, .int y3_135), (0, .ref (ad 47)), (1, .int x1)] [.int rq253]
                                            refine g_if_ne X tq255 (tgt := 319) dX7_parses_314 (by decide) (fun cq257 => ?_) (fun cq257 => ?_)
                                            · have pq258 : (65 ≤ aq57 ∧ aq57 ≤ 72) := by omega
                                              clear hq256 cq257 tq255
                                              refine g_iconst X 1 dX7_parses_319 (by decide) ?_
                                              refine g_istore_n X (i := 3) [(3, .int 1), (4, .int 0), (2, .int rq56), (0, .ref (ad 47)), (1, .int x1)] dX7_parses_320 rfl (by decide) rfl ?_
                                              refine g_goto X (tgt := 135) dX7_parses_321 (by decide) ?_
                                              refine g_sub [0, 2, 3, 4] rfl ?_
                                              have hr21 : (M_135.1 47 21).toInt = (M_135.1 47 21).toInt := rfl
                                              exact ih135 1 _ (show (1 : Int32).toInt = 1 by decide) rq56 _ tq58 M_135 (by first | exact hP13 | exact i13) (by omega) (by omega) I_135 fr_135 (by omega)
                                            · have pq259 : ¬ (65 ≤ aq57 ∧ aq57 ≤ 72) := by omega
                                              clear hq256 cq257 tq255
                                              refine g_iconst X 0 dX7_parses_317 (by decide) ?_
                                              exact g_zret X (b01 (show (0 : Int32).toInt = 0 by decide) (by omega)) dX7_parses_318 ⟨_, _, rfl, (show (0 : Int32).toInt = 0 by decide), (by omega), (fun h => absurd h (by decide)), I_135, fr_135⟩
                                  · refine g_aload_n X 3 rfl dX7_parses_276 ?_
                                    refine g_geti X f_X7_207 dX7_parses_277 (x := M_135.1 47 22) rfl ?_
                                    have bq260 := ig_47_22 I_135
                                    refine g_if_ne X rfl (tgt := 285) dX7_parses_280 (by decide) (fun cq261 => ?_) (fun cq261 => ?_)
                                    · exfalso; omega
                                    · refine g_iconst X 1 dX7_parses_283 (by decide) ?_
                                      exact g_zret X (b01 (show (1 : Int32).toInt = 1 by decide) (by omega)) dX7_parses_284 ⟨_, _, rfl, (show (1 : Int32).toInt = 1 by decide), (by omega), (fun _ => PI_done i13 (by omega) (by omega)), I_135, fr_135⟩
                                · refine g_iload X 0 rfl dX7_parses_236 ?_
                                  refine g_bipush X 40 dX7_parses_238 (by decide) ?_
                                  refine g_icmp_ne X (show (0 : Int32).toInt = 0 by decide) (show (40 : Int32).toInt = 40 by decide) (tgt := 271) dX7_parses_240 (by decide) (fun cq262 => ?_) (fun cq262 => ?_)
                                  · refine g_iload_n X 1 rfl dX7_parses_271 ?_
                                    refine g_iconst X (-1) dX7_parses_272 (by decide) ?_
                                    refine g_icmp_ne X tq58 (show ((-1) : Int32).toInt = (-1) by decide) (tgt := 285) dX7_parses_273 (by decide) (fun cq263 => ?_) (fun cq263 => ?_)
                                    · refine g_iload_n X 1 rfl dX7_parses_285 ?_
                                      refine g_bipush X 91 dX7_parses_286 (by decide) ?_
                                      refine g_icmp_eq X tq58 (show (91 : Int32).toInt = 91 by decide) (tgt := 319) dX7_parses_288 (by decide) (fun cq264 => ?_) (fun cq264 => ?_)
                                      · exfalso; omega
                                      · refine g_iload_n X 1 rfl dX7_parses_291 ?_
                                        refine g_bipush X 123 dX7_parses_292 (by decide) ?_
                                        refine g_icmp_eq X tq58 (show (123 : Int32).toInt = 123 by decide) (tgt := 319) dX7_parses_294 (by decide) (fun cq265 => ?_) (fun cq265 => ?_)
                                        · exfalso; omega
                                        · refine g_iload_n X 1 rfl dX7_parses_297 ?_
                                          refine g_bipush X 40 dX7_parses_298 (by decide) ?_
                                          refine g_icmp_eq X tq58 (show (40 : Int32).toInt = 40 by decide) (tgt := 319) dX7_parses_300 (by decide) (fun cq266 => ?_) (fun cq266 => ?_)
                                          · exfalso; omega
                                          · refine g_iload_n X 1 rfl dX7_parses_303 ?_
                                            refine g_callS X m_X7_214 (c_X7_isSlot ad M_135 rq56 tq58) rfl (by decide) (Nat.le_of_ble_eq_true rfl) rfl dX7_parses_304 ?_
                                            rintro _ _ ⟨rq267, aq268, rfl, tq269, hq270, rfl⟩
                                            show G Γ M_135 307 [(4, .int 0), (2, .int rq56), (3, .int y3_135), (0, .ref (ad 47)), (1, .int x1)] [.int rq267]
                                            refine g_if_ne X tq269 (tgt := 319) dX7_parses_307 (by decide) (fun cq271 => ?_) (fun cq271 => ?_)
                                            · have pq272 : (97 ≤ aq57 ∧ aq57 ≤ 104) := by omega
                                              clear hq270 cq271 tq269
                                              refine g_iconst X 1 dX7_parses_319 (by decide) ?_
                                              refine g_istore_n X (i := 3) [(3, .int 1), (4, .int 0), (2, .int rq56), (0, .ref (ad 47)), (1, .int x1)] dX7_parses_320 rfl (by decide) rfl ?_
                                              refine g_goto X (tgt := 135) dX7_parses_321 (by decide) ?_
                                              refine g_sub [0, 2, 3, 4] rfl ?_
                                              have hr21 : (M_135.1 47 21).toInt = (M_135.1 47 21).toInt := rfl
                                              exact ih135 1 _ (show (1 : Int32).toInt = 1 by decide) rq56 _ tq58 M_135 (by first | exact hP13 | exact i13) (by omega) (by omega) I_135 fr_135 (by omega)
                                            · have pq273 : ¬ (97 ≤ aq57 ∧ aq57 ≤ 104) := by omega
                                              clear hq270 cq271 tq269
                                              refine g_iload_n X 1 rfl dX7_parses_310 ?_
                                              refine g_callS X m_X7_217 (c_X7_isScene ad M_135 rq56 tq58) rfl (by decide) (Nat.le_of_ble_eq_true rfl) rfl dX7_parses_311 ?_
                                              rintro _ _ ⟨rq274, aq275, rfl, tq276, hq277, rfl⟩
                                              show G Γ M_135 314 [(4, .int 0), (2, .int rq56), (3, .int y3_135), (0, .ref (ad 47)), (1, .int x1)] [.int rq274]
                                              refine g_if_ne X tq276 (tgt := 319) dX7_parses_314 (by decide) (fun cq278 => ?_) (fun cq278 => ?_)
                                              · have pq279 : (65 ≤ aq57 ∧ aq57 ≤ 72) := by omega
                                                clear hq277 cq278 tq276
                                                refine g_iconst X 1 dX7_parses_319 (by decide) ?_
                                                refine g_istore_n X (i := 3) [(3, .int 1), (4, .int 0), (2, .int rq56), (0, .ref (ad 47)), (1, .int x1)] dX7_parses_320 rfl (by decide) rfl ?_
                                                refine g_goto X (tgt := 135) dX7_parses_321 (by decide) ?_
                                                refine g_sub [0, 2, 3, 4] rfl ?_
                                                have hr21 : (M_135.1 47 21).toInt = (M_135.1 47 21).toInt := rfl
                                                exact ih135 1 _ (show (1 : Int32).toInt = 1 by decide) rq56 _ tq58 M_135 (by first | exact hP13 | exact i13) (by omega) (by omega) I_135 fr_135 (by omega)
                                              · have pq280 : ¬ (65 ≤ aq57 ∧ aq57 ≤ 72) := by omega
                                                clear hq277 cq278 tq276
                                                refine g_iconst X 0 dX7_parses_317 (by decide) ?_
                                                exact g_zret X (b01 (show (0 : Int32).toInt = 0 by decide) (by omega)) dX7_parses_318 ⟨_, _, rfl, (show (0 : Int32).toInt = 0 by decide), (by omega), (fun h => absurd h (by decide)), I_135, fr_135⟩
                                    · exfalso; omega
                                  · exfalso; omega
                              · refine g_iload X 0 rfl dX7_parses_200 ?_
                                refine g_bipush X 124 dX7_parses_202 (by decide) ?_
                                refine g_icmp_ne X (show (0 : Int32).toInt = 0 by decide) (show (124 : Int32).toInt = 124 by decide) (tgt := 230) dX7_parses_204 (by decide) (fun cq281 => ?_) (fun cq281 => ?_)
                                · refine g_iload_n X 1 rfl dX7_parses_230 ?_
                                  refine g_bipush X 124 dX7_parses_231 (by decide) ?_
                                  refine g_icmp_ne X tq58 (show (124 : Int32).toInt = 124 by decide) (tgt := 271) dX7_parses_233 (by decide) (fun cq282 => ?_) (fun cq282 => ?_)
                                  · refine g_iload_n X 1 rfl dX7_parses_271 ?_
                                    refine g_iconst X (-1) dX7_parses_272 (by decide) ?_
                                    refine g_icmp_ne X tq58 (show ((-1) : Int32).toInt = (-1) by decide) (tgt := 285) dX7_parses_273 (by decide) (fun cq283 => ?_) (fun cq283 => ?_)
                                    · refine g_iload_n X 1 rfl dX7_parses_285 ?_
                                      refine g_bipush X 91 dX7_parses_286 (by decide) ?_
                                      refine g_icmp_eq X tq58 (show (91 : Int32).toInt = 91 by decide) (tgt := 319) dX7_parses_288 (by decide) (fun cq284 => ?_) (fun cq284 => ?_)
                                      · exfalso; omega
                                      · refine g_iload_n X 1 rfl dX7_parses_291 ?_
                                        refine g_bipush X 123 dX7_parses_292 (by decide) ?_
                                        refine g_icmp_eq X tq58 (show (123 : Int32).toInt = 123 by decide) (tgt := 319) dX7_parses_294 (by decide) (fun cq285 => ?_) (fun cq285 => ?_)
                                        · exfalso; omega
                                        · refine g_iload_n X 1 rfl dX7_parses_297 ?_
                                          refine g_bipush X 40 dX7_parses_298 (by decide) ?_
                                          refine g_icmp_eq X tq58 (show (40 : Int32).toInt = 40 by decide) (tgt := 319) dX7_parses_300 (by decide) (fun cq286 => ?_) (fun cq286 => ?_)
                                          · exfalso; omega
                                          · refine g_iload_n X 1 rfl dX7_parses_303 ?_
                                            refine g_callS X m_X7_214 (c_X7_isSlot ad M_135 rq56 tq58) rfl (by decide) (Nat.le_of_ble_eq_true rfl) rfl dX7_parses_304 ?_
                                            rintro _ _ ⟨rq287, aq288, rfl, tq289, hq290, rfl⟩
                                            show G Γ M_135 307 [(4, .int 0), (2, .int rq56), (3, .int y3_135), (0, .ref (ad 47)), (1, .int x1)] [.int rq287]
                                            refine g_if_ne X tq289 (tgt := 319) dX7_parses_307 (by decide) (fun cq291 => ?_) (fun cq291 => ?_)
                                            · have pq292 : (97 ≤ aq57 ∧ aq57 ≤ 104) := by omega
                                              clear hq290 cq291 tq289
                                              refine g_iconst X 1 dX7_parses_319 (by decide) ?_
                                              refine g_istore_n X (i := 3) [(3, .int 1), (4, .int 0), (2, .int rq56), (0, .ref (ad 47)), (1, .int x1)] dX7_parses_320 rfl (by decide) rfl ?_
                                              refine g_goto X (tgt := 135) dX7_parses_321 (by decide) ?_
                                              refine g_sub [0, 2, 3, 4] rfl ?_
                                              have hr21 : (M_135.1 47 21).toInt = (M_135.1 47 21).toInt := rfl
                                              exact ih135 1 _ (show (1 : Int32).toInt = 1 by decide) rq56 _ tq58 M_135 (by first | exact hP13 | exact i13) (by omega) (by omega) I_135 fr_135 (by omega)
                                            · have pq293 : ¬ (97 ≤ aq57 ∧ aq57 ≤ 104) := by omega
                                              clear hq290 cq291 tq289
                                              refine g_iload_n X 1 rfl dX7_parses_310 ?_
                                              refine g_callS X m_X7_217 (c_X7_isScene ad M_135 rq56 tq58) rfl (by decide) (Nat.le_of_ble_eq_true rfl) rfl dX7_parses_311 ?_
                                              rintro _ _ ⟨rq294, aq295, rfl, tq296, hq297, rfl⟩
                                              show G Γ M_135 314 [(4, .int 0), (2, .int rq56), (3, .int y3_135), (0, .ref (ad 47)), (1, .int x1)] [.int rq294]
                                              refine g_if_ne X tq296 (tgt := 319) dX7_parses_314 (by decide) (fun cq298 => ?_) (fun cq298 => ?_)
                                              · have pq299 : (65 ≤ aq57 ∧ aq57 ≤ 72) := by omega
                                                clear hq297 cq298 tq296
                                                refine g_iconst X 1 dX7_parses_319 (by decide) ?_
                                                refine g_istore_n X (i := 3) [(3, .int 1), (4, .int 0), (2, .int rq56), (0, .ref (ad 47)), (1, .int x1)] dX7_parses_320 rfl (by decide) rfl ?_
                                                refine g_goto X (tgt := 135) dX7_parses_321 (by decide) ?_
                                                refine g_sub [0, 2, 3, 4] rfl ?_
                                                have hr21 : (M_135.1 47 21).toInt = (M_135.1 47 21).toInt := rfl
                                                exact ih135 1 _ (show (1 : Int32).toInt = 1 by decide) rq56 _ tq58 M_135 (by first | exact hP13 | exact i13) (by omega) (by omega) I_135 fr_135 (by omega)
                                              · have pq300 : ¬ (65 ≤ aq57 ∧ aq57 ≤ 72) := by omega
                                                clear hq297 cq298 tq296
                                                refine g_iconst X 0 dX7_parses_317 (by decide) ?_
                                                exact g_zret X (b01 (show (0 : Int32).toInt = 0 by decide) (by omega)) dX7_parses_318 ⟨_, _, rfl, (show (0 : Int32).toInt = 0 by decide), (by omega), (fun h => absurd h (by decide)), I_135, fr_135⟩
                                    · exfalso; omega
                                  · exfalso; omega
                                · exfalso; omega
                            · refine g_iload X 0 rfl dX7_parses_187 ?_
                              refine g_bipush X 123 dX7_parses_189 (by decide) ?_
                              refine g_icmp_eq X (show (0 : Int32).toInt = 0 by decide) (show (123 : Int32).toInt = 123 by decide) (tgt := 207) dX7_parses_191 (by decide) (fun cq301 => ?_) (fun cq301 => ?_)
                              · exfalso; omega
                              · refine g_iload_n X 1 rfl dX7_parses_194 ?_
                                refine g_bipush X 41 dX7_parses_195 (by decide) ?_
                                refine g_icmp_ne X tq58 (show (41 : Int32).toInt = 41 by decide) (tgt := 230) dX7_parses_197 (by decide) (fun cq302 => ?_) (fun cq302 => ?_)
                                · refine g_iload_n X 1 rfl dX7_parses_230 ?_
                                  refine g_bipush X 124 dX7_parses_231 (by decide) ?_
                                  refine g_icmp_ne X tq58 (show (124 : Int32).toInt = 124 by decide) (tgt := 271) dX7_parses_233 (by decide) (fun cq303 => ?_) (fun cq303 => ?_)
                                  · refine g_iload_n X 1 rfl dX7_parses_271 ?_
                                    refine g_iconst X (-1) dX7_parses_272 (by decide) ?_
                                    refine g_icmp_ne X tq58 (show ((-1) : Int32).toInt = (-1) by decide) (tgt := 285) dX7_parses_273 (by decide) (fun cq304 => ?_) (fun cq304 => ?_)
                                    · refine g_iload_n X 1 rfl dX7_parses_285 ?_
                                      refine g_bipush X 91 dX7_parses_286 (by decide) ?_
                                      refine g_icmp_eq X tq58 (show (91 : Int32).toInt = 91 by decide) (tgt := 319) dX7_parses_288 (by decide) (fun cq305 => ?_) (fun cq305 => ?_)
                                      · exfalso; omega
                                      · refine g_iload_n X 1 rfl dX7_parses_291 ?_
                                        refine g_bipush X 123 dX7_parses_292 (by decide) ?_
                                        refine g_icmp_eq X tq58 (show (123 : Int32).toInt = 123 by decide) (tgt := 319) dX7_parses_294 (by decide) (fun cq306 => ?_) (fun cq306 => ?_)
                                        · exfalso; omega
                                        · refine g_iload_n X 1 rfl dX7_parses_297 ?_
                                          refine g_bipush X 40 dX7_parses_298 (by decide) ?_
                                          refine g_icmp_eq X tq58 (show (40 : Int32).toInt = 40 by decide) (tgt := 319) dX7_parses_300 (by decide) (fun cq307 => ?_) (fun cq307 => ?_)
                                          · exfalso; omega
                                          · refine g_iload_n X 1 rfl dX7_parses_303 ?_
                                            refine g_callS X m_X7_214 (c_X7_isSlot ad M_135 rq56 tq58) rfl (by decide) (Nat.le_of_ble_eq_true rfl) rfl dX7_parses_304 ?_
                                            rintro _ _ ⟨rq308, aq309, rfl, tq310, hq311, rfl⟩
                                            show G Γ M_135 307 [(4, .int 0), (2, .int rq56), (3, .int y3_135), (0, .ref (ad 47)), (1, .int x1)] [.int rq308]
                                            refine g_if_ne X tq310 (tgt := 319) dX7_parses_307 (by decide) (fun cq312 => ?_) (fun cq312 => ?_)
                                            · have pq313 : (97 ≤ aq57 ∧ aq57 ≤ 104) := by omega
                                              clear hq311 cq312 tq310
                                              refine g_iconst X 1 dX7_parses_319 (by decide) ?_
                                              refine g_istore_n X (i := 3) [(3, .int 1), (4, .int 0), (2, .int rq56), (0, .ref (ad 47)), (1, .int x1)] dX7_parses_320 rfl (by decide) rfl ?_
                                              refine g_goto X (tgt := 135) dX7_parses_321 (by decide) ?_
                                              refine g_sub [0, 2, 3, 4] rfl ?_
                                              have hr21 : (M_135.1 47 21).toInt = (M_135.1 47 21).toInt := rfl
                                              exact ih135 1 _ (show (1 : Int32).toInt = 1 by decide) rq56 _ tq58 M_135 (by first | exact hP13 | exact i13) (by omega) (by omega) I_135 fr_135 (by omega)
                                            · have pq314 : ¬ (97 ≤ aq57 ∧ aq57 ≤ 104) := by omega
                                              clear hq311 cq312 tq310
                                              refine g_iload_n X 1 rfl dX7_parses_310 ?_
                                              refine g_callS X m_X7_217 (c_X7_isScene ad M_135 rq56 tq58) rfl (by decide) (Nat.le_of_ble_eq_true rfl) rfl dX7_parses_311 ?_
                                              rintro _ _ ⟨rq315, aq316, rfl, tq317, hq318, rfl⟩
                                              show G Γ M_135 314 [(4, .int 0), (2, .int rq56), (3, .int y3_135), (0, .ref (ad 47)), (1, .int x1)] [.int rq315]
                                              refine g_if_ne X tq317 (tgt := 319) dX7_parses_314 (by decide) (fun cq319 => ?_) (fun cq319 => ?_)
                                              · have pq320 : (65 ≤ aq57 ∧ aq57 ≤ 72) := by omega
                                                clear hq318 cq319 tq317
                                                refine g_iconst X 1 dX7_parses_319 (by decide) ?_
                                                refine g_istore_n X (i := 3) [(3, .int 1), (4, .int 0), (2, .int rq56), (0, .ref (ad 47)), (1, .int x1)] dX7_parses_320 rfl (by decide) rfl ?_
                                                refine g_goto X (tgt := 135) dX7_parses_321 (by decide) ?_
                                                refine g_sub [0, 2, 3, 4] rfl ?_
                                                have hr21 : (M_135.1 47 21).toInt = (M_135.1 47 21).toInt := rfl
                                                exact ih135 1 _ (show (1 : Int32).toInt = 1 by decide) rq56 _ tq58 M_135 (by first | exact hP13 | exact i13) (by omega) (by omega) I_135 fr_135 (by omega)
                                              · have pq321 : ¬ (65 ≤ aq57 ∧ aq57 ≤ 72) := by omega
                                                clear hq318 cq319 tq317
                                                refine g_iconst X 0 dX7_parses_317 (by decide) ?_
                                                exact g_zret X (b01 (show (0 : Int32).toInt = 0 by decide) (by omega)) dX7_parses_318 ⟨_, _, rfl, (show (0 : Int32).toInt = 0 by decide), (by omega), (fun h => absurd h (by decide)), I_135, fr_135⟩
                                    · exfalso; omega
                                  · exfalso; omega
                                · exfalso; omega
                          · refine g_iload X 0 rfl dX7_parses_174 ?_
                            refine g_bipush X 91 dX7_parses_176 (by decide) ?_
                            refine g_icmp_eq X (show (0 : Int32).toInt = 0 by decide) (show (91 : Int32).toInt = 91 by decide) (tgt := 207) dX7_parses_178 (by decide) (fun cq322 => ?_) (fun cq322 => ?_)
                            · exfalso; omega
                            · refine g_iload_n X 1 rfl dX7_parses_181 ?_
                              refine g_bipush X 125 dX7_parses_182 (by decide) ?_
                              refine g_icmp_ne X tq58 (show (125 : Int32).toInt = 125 by decide) (tgt := 194) dX7_parses_184 (by decide) (fun cq323 => ?_) (fun cq323 => ?_)
                              · refine g_iload_n X 1 rfl dX7_parses_194 ?_
                                refine g_bipush X 41 dX7_parses_195 (by decide) ?_
                                refine g_icmp_ne X tq58 (show (41 : Int32).toInt = 41 by decide) (tgt := 230) dX7_parses_197 (by decide) (fun cq324 => ?_) (fun cq324 => ?_)
                                · refine g_iload_n X 1 rfl dX7_parses_230 ?_
                                  refine g_bipush X 124 dX7_parses_231 (by decide) ?_
                                  refine g_icmp_ne X tq58 (show (124 : Int32).toInt = 124 by decide) (tgt := 271) dX7_parses_233 (by decide) (fun cq325 => ?_) (fun cq325 => ?_)
                                  · refine g_iload_n X 1 rfl dX7_parses_271 ?_
                                    refine g_iconst X (-1) dX7_parses_272 (by decide) ?_
                                    refine g_icmp_ne X tq58 (show ((-1) : Int32).toInt = (-1) by decide) (tgt := 285) dX7_parses_273 (by decide) (fun cq326 => ?_) (fun cq326 => ?_)
                                    · refine g_iload_n X 1 rfl dX7_parses_285 ?_
                                      refine g_bipush X 91 dX7_parses_286 (by decide) ?_
                                      refine g_icmp_eq X tq58 (show (91 : Int32).toInt = 91 by decide) (tgt := 319) dX7_parses_288 (by decide) (fun cq327 => ?_) (fun cq327 => ?_)
                                      · exfalso; omega
                                      · refine g_iload_n X 1 rfl dX7_parses_291 ?_
                                        refine g_bipush X 123 dX7_parses_292 (by decide) ?_
                                        refine g_icmp_eq X tq58 (show (123 : Int32).toInt = 123 by decide) (tgt := 319) dX7_parses_294 (by decide) (fun cq328 => ?_) (fun cq328 => ?_)
                                        · exfalso; omega
                                        · refine g_iload_n X 1 rfl dX7_parses_297 ?_
                                          refine g_bipush X 40 dX7_parses_298 (by decide) ?_
                                          refine g_icmp_eq X tq58 (show (40 : Int32).toInt = 40 by decide) (tgt := 319) dX7_parses_300 (by decide) (fun cq329 => ?_) (fun cq329 => ?_)
                                          · exfalso; omega
                                          · refine g_iload_n X 1 rfl dX7_parses_303 ?_
                                            refine g_callS X m_X7_214 (c_X7_isSlot ad M_135 rq56 tq58) rfl (by decide) (Nat.le_of_ble_eq_true rfl) rfl dX7_parses_304 ?_
                                            rintro _ _ ⟨rq330, aq331, rfl, tq332, hq333, rfl⟩
                                            show G Γ M_135 307 [(4, .int 0), (2, .int rq56), (3, .int y3_135), (0, .ref (ad 47)), (1, .int x1)] [.int rq330]
                                            refine g_if_ne X tq332 (tgt := 319) dX7_parses_307 (by decide) (fun cq334 => ?_) (fun cq334 => ?_)
                                            · have pq335 : (97 ≤ aq57 ∧ aq57 ≤ 104) := by omega
                                              clear hq333 cq334 tq332
                                              refine g_iconst X 1 dX7_parses_319 (by decide) ?_
                                              refine g_istore_n X (i := 3) [(3, .int 1), (4, .int 0), (2, .int rq56), (0, .ref (ad 47)), (1, .int x1)] dX7_parses_320 rfl (by decide) rfl ?_
                                              refine g_goto X (tgt := 135) dX7_parses_321 (by decide) ?_
                                              refine g_sub [0, 2, 3, 4] rfl ?_
                                              have hr21 : (M_135.1 47 21).toInt = (M_135.1 47 21).toInt := rfl
                                              exact ih135 1 _ (show (1 : Int32).toInt = 1 by decide) rq56 _ tq58 M_135 (by first | exact hP13 | exact i13) (by omega) (by omega) I_135 fr_135 (by omega)
                                            · have pq336 : ¬ (97 ≤ aq57 ∧ aq57 ≤ 104) := by omega
                                              clear hq333 cq334 tq332
                                              refine g_iload_n X 1 rfl dX7_parses_310 ?_
                                              refine g_callS X m_X7_217 (c_X7_isScene ad M_135 rq56 tq58) rfl (by decide) (Nat.le_of_ble_eq_true rfl) rfl dX7_parses_311 ?_
                                              rintro _ _ ⟨rq337, aq338, rfl, tq339, hq340, rfl⟩
                                              show G Γ M_135 314 [(4, .int 0), (2, .int rq56), (3, .int y3_135), (0, .ref (ad 47)), (1, .int x1)] [.int rq337]
                                              refine g_if_ne X tq339 (tgt := 319) dX7_parses_314 (by decide) (fun cq341 => ?_) (fun cq341 => ?_)
                                              · have pq342 : (65 ≤ aq57 ∧ aq57 ≤ 72) := by omega
                                                clear hq340 cq341 tq339
                                                refine g_iconst X 1 dX7_parses_319 (by decide) ?_
                                                refine g_istore_n X (i := 3) [(3, .int 1), (4, .int 0), (2, .int rq56), (0, .ref (ad 47)), (1, .int x1)] dX7_parses_320 rfl (by decide) rfl ?_
                                                refine g_goto X (tgt := 135) dX7_parses_321 (by decide) ?_
                                                refine g_sub [0, 2, 3, 4] rfl ?_
                                                have hr21 : (M_135.1 47 21).toInt = (M_135.1 47 21).toInt := rfl
                                                exact ih135 1 _ (show (1 : Int32).toInt = 1 by decide) rq56 _ tq58 M_135 (by first | exact hP13 | exact i13) (by omega) (by omega) I_135 fr_135 (by omega)
                                              · have pq343 : ¬ (65 ≤ aq57 ∧ aq57 ≤ 72) := by omega
                                                clear hq340 cq341 tq339
                                                refine g_iconst X 0 dX7_parses_317 (by decide) ?_
                                                exact g_zret X (b01 (show (0 : Int32).toInt = 0 by decide) (by omega)) dX7_parses_318 ⟨_, _, rfl, (show (0 : Int32).toInt = 0 by decide), (by omega), (fun h => absurd h (by decide)), I_135, fr_135⟩
                                    · exfalso; omega
                                  · exfalso; omega
                                · exfalso; omega
                              · exfalso; omega
                  refine g_sub [0, 1, 2, 3] rfl ?_
                  exact lp135 _ 0 _ (show (0 : Int32).toInt = 0 by decide) y2_133 _ e2_133 M_133 p13 (by omega) (by omega) I_133 fr_133 (Nat.lt_succ_self _)
                refine g_iload_n X 0 rfl dX7_parses_66 ?_
                refine g_callS X m_X7_214 (c_X7_isSlot ad M_10 y2_10 e2_10) rfl (by decide) (Nat.le_of_ble_eq_true rfl) rfl dX7_parses_67 ?_
                rintro _ _ ⟨rq344, aq345, rfl, tq346, hq347, rfl⟩
                show G Γ M_10 70 [(2, .int y2_10), (0, .ref (ad 47)), (1, .int x1)] [.int rq344]
                refine g_if_ne X tq346 (tgt := 82) dX7_parses_70 (by decide) (fun cq348 => ?_) (fun cq348 => ?_)
                · have pq349 : (97 ≤ b2_10 ∧ b2_10 ≤ 104) := by omega
                  clear hq347 cq348 tq346
                  refine g_iload_n X 0 rfl dX7_parses_82 ?_
                  refine g_callS X m_X7_217 (c_X7_isScene ad M_10 y2_10 e2_10) rfl (by decide) (Nat.le_of_ble_eq_true rfl) rfl dX7_parses_83 ?_
                  rintro _ _ ⟨rq350, aq351, rfl, tq352, hq353, rfl⟩
                  show G Γ M_10 86 [(2, .int y2_10), (0, .ref (ad 47)), (1, .int x1)] [.int rq350]
                  refine g_if_eq X tq352 (tgt := 123) dX7_parses_86 (by decide) (fun cq354 => ?_) (fun cq354 => ?_)
                  · have pq355 : ¬ (65 ≤ b2_10 ∧ b2_10 ≤ 72) := by omega
                    clear hq353 cq354 tq352
                    refine g_aload_n X 1 rfl dX7_parses_123 ?_
                    refine g_dup X dX7_parses_124 rfl ?_
                    refine g_geti X f_X7_204 dX7_parses_125 (x := M_10.1 47 21) rfl ?_
                    have bq356 := ig_47_21 I_10
                    refine g_iconst X 1 dX7_parses_128 (by decide) ?_
                    refine g_iadd X dX7_parses_129 (fun zq357 eq358 => ?_)
                    have tq359 : zq357.toInt = ((M_10.1 47 21).toInt) + 1 := add_nw eq358 rfl (show (1 : Int32).toInt = 1 by decide) (by omega)
                    refine g_puti X p_X7_204 dX7_parses_130 ?_
                    have Iq360 : Iv TM (ui M_10 47 21 zq357) := I_10.put 0 60 tq359 (by omega) rfl
                    have frq361 : Fr W_X7_parses Mq (ui M_10 47 21 zq357) := fr_10.ui rfl
                    refine g_sub [0, 1, 2] rfl ?_
                    have hP13 : PI (ui M_10 47 21 zq357) a1 := by first | exact PI_let0 i10 (c := b2_10) (by omega) (by omega) (by omega) (by omega) (by assumption) | exact PI_let1 i10 (c := b2_10) (by omega) (by omega) (by omega) (by omega) (by assumption)
                    exact ih133 y2_10 _ e2_10 (ui M_10 47 21 zq357) hP13 (show (M_5.1 47 21).toInt < (zq357).toInt by omega) Iq360 frq361
                  · have pq362 : (65 ≤ b2_10 ∧ b2_10 ≤ 72) := by omega
                    clear hq353 cq354 tq352
                    refine g_aload_n X 1 rfl dX7_parses_89 ?_
                    refine g_iload_n X 0 rfl dX7_parses_90 ?_
                    refine g_bipush X 65 dX7_parses_91 (by decide) ?_
                    refine g_isub X dX7_parses_93 (fun zq363 eq364 => ?_)
                    have tq365 : zq363.toInt = b2_10 - 65 := sub_nw eq364 e2_10 (show (65 : Int32).toInt = 65 by decide) (by omega)
                    refine g_callV X m_X7_220 (c_X7_isTold ad M_10 zq363 tq365) rfl (by decide) (Nat.le_of_ble_eq_true rfl) rfl dX7_parses_94 ?_
                    rintro _ _ ⟨rq366, aq367, rfl, tq368, hq369, rfl⟩
                    show G Γ M_10 97 [(2, .int y2_10), (0, .ref (ad 47)), (1, .int x1)] [.int rq366]
                    refine g_if_eq X tq368 (tgt := 108) dX7_parses_97 (by decide) (fun cq370 => ?_) (fun cq370 => ?_)
                    · have pq371 : ¬ (0 ≤ (b2_10 - 65) ∧ (b2_10 - 65) ≤ 7 ∧ 0 < (M_10.1 63 (b2_10 - 65).toNat).toInt) := by omega
                      clear hq369 cq370 tq368
                      refine g_aload_n X 1 rfl dX7_parses_108 ?_
                      refine g_geti X f_X7_223 dX7_parses_109 (x := M_10.1 47 25) rfl ?_
                      refine g_if_ge X rfl (tgt := 123) dX7_parses_112 (by decide) (fun cq372 => ?_) (fun cq372 => ?_)
                      · refine g_aload_n X 1 rfl dX7_parses_123 ?_
                        refine g_dup X dX7_parses_124 rfl ?_
                        refine g_geti X f_X7_204 dX7_parses_125 (x := M_10.1 47 21) rfl ?_
                        have bq373 := ig_47_21 I_10
                        refine g_iconst X 1 dX7_parses_128 (by decide) ?_
                        refine g_iadd X dX7_parses_129 (fun zq374 eq375 => ?_)
                        have tq376 : zq374.toInt = ((M_10.1 47 21).toInt) + 1 := add_nw eq375 rfl (show (1 : Int32).toInt = 1 by decide) (by omega)
                        refine g_puti X p_X7_204 dX7_parses_130 ?_
                        have Iq377 : Iv TM (ui M_10 47 21 zq374) := I_10.put 0 60 tq376 (by omega) rfl
                        have frq378 : Fr W_X7_parses Mq (ui M_10 47 21 zq374) := fr_10.ui rfl
                        refine g_sub [0, 1, 2] rfl ?_
                        have hP13 : PI (ui M_10 47 21 zq374) a1 := by first | exact PI_let0 i10 (c := b2_10) (by omega) (by omega) (by omega) (by omega) (by assumption) | exact PI_let1 i10 (c := b2_10) (by omega) (by omega) (by omega) (by omega) (by assumption)
                        exact ih133 y2_10 _ e2_10 (ui M_10 47 21 zq374) hP13 (show (M_5.1 47 21).toInt < (zq374).toInt by omega) Iq377 frq378
                      · refine g_aload_n X 1 rfl dX7_parses_115 ?_
                        refine g_aload_n X 1 rfl dX7_parses_116 ?_
                        refine g_geti X f_X7_204 dX7_parses_117 (x := M_10.1 47 21) rfl ?_
                        have bq379 := ig_47_21 I_10
                        refine g_puti X p_X7_223 dX7_parses_120 ?_
                        have Iq380 : Iv TM (ui M_10 47 25 (M_10.1 47 21)) := I_10.other rfl
                        have frq381 : Fr W_X7_parses Mq (ui M_10 47 25 (M_10.1 47 21)) := fr_10.ui rfl
                        refine g_aload_n X 1 rfl dX7_parses_123 ?_
                        refine g_dup X dX7_parses_124 rfl ?_
                        refine g_geti X f_X7_204 dX7_parses_125 (x := M_10.1 47 21) rfl ?_
                        have bq382 := ig_47_21 I_10
                        refine g_iconst X 1 dX7_parses_128 (by decide) ?_
                        refine g_iadd X dX7_parses_129 (fun zq383 eq384 => ?_)
                        have tq385 : zq383.toInt = ((M_10.1 47 21).toInt) + 1 := add_nw eq384 rfl (show (1 : Int32).toInt = 1 by decide) (by omega)
                        refine g_puti X p_X7_204 dX7_parses_130 ?_
                        have Iq386 : Iv TM (ui (ui M_10 47 25 (M_10.1 47 21)) 47 21 zq383) := Iq380.put 0 60 tq385 (by omega) rfl
                        have frq387 : Fr W_X7_parses Mq (ui (ui M_10 47 25 (M_10.1 47 21)) 47 21 zq383) := frq381.ui rfl
                        refine g_sub [0, 1, 2] rfl ?_
                        have hP13 : PI (ui (ui M_10 47 25 (M_10.1 47 21)) 47 21 zq383) a1 := by first | exact PI_let0 i10 (c := b2_10) (by omega) (by omega) (by omega) (by omega) (by assumption) | exact PI_let1 i10 (c := b2_10) (by omega) (by omega) (by omega) (by omega) (by assumption)
                        exact ih133 y2_10 _ e2_10 (ui (ui M_10 47 25 (M_10.1 47 21)) 47 21 zq383) hP13 (show (M_5.1 47 21).toInt < (zq383).toInt by omega) Iq386 frq387
                    · have pq388 : (0 ≤ (b2_10 - 65) ∧ (b2_10 - 65) ≤ 7 ∧ 0 < (M_10.1 63 (b2_10 - 65).toNat).toInt) := by omega
                      clear hq369 cq370 tq368
                      refine g_iload_n X 0 rfl dX7_parses_100 ?_
                      refine g_bipush X 65 dX7_parses_101 (by decide) ?_
                      refine g_isub X dX7_parses_103 (fun zq389 eq390 => ?_)
                      have tq391 : zq389.toInt = b2_10 - 65 := sub_nw eq390 e2_10 (show (65 : Int32).toInt = 65 by decide) (by omega)
                      refine g_iload_n X 2 rfl dX7_parses_104 ?_
                      refine g_icmp_ne X tq391 t1 (tgt := 123) dX7_parses_105 (by decide) (fun cq392 => ?_) (fun cq392 => ?_)
                      · refine g_aload_n X 1 rfl dX7_parses_123 ?_
                        refine g_dup X dX7_parses_124 rfl ?_
                        refine g_geti X f_X7_204 dX7_parses_125 (x := M_10.1 47 21) rfl ?_
                        have bq393 := ig_47_21 I_10
                        refine g_iconst X 1 dX7_parses_128 (by decide) ?_
                        refine g_iadd X dX7_parses_129 (fun zq394 eq395 => ?_)
                        have tq396 : zq394.toInt = ((M_10.1 47 21).toInt) + 1 := add_nw eq395 rfl (show (1 : Int32).toInt = 1 by decide) (by omega)
                        refine g_puti X p_X7_204 dX7_parses_130 ?_
                        have Iq397 : Iv TM (ui M_10 47 21 zq394) := I_10.put 0 60 tq396 (by omega) rfl
                        have frq398 : Fr W_X7_parses Mq (ui M_10 47 21 zq394) := fr_10.ui rfl
                        refine g_sub [0, 1, 2] rfl ?_
                        have hP13 : PI (ui M_10 47 21 zq394) a1 := by first | exact PI_let0 i10 (c := b2_10) (by omega) (by omega) (by omega) (by omega) (by assumption) | exact PI_let1 i10 (c := b2_10) (by omega) (by omega) (by omega) (by omega) (by assumption)
                        exact ih133 y2_10 _ e2_10 (ui M_10 47 21 zq394) hP13 (show (M_5.1 47 21).toInt < (zq394).toInt by omega) Iq397 frq398
                      · refine g_aload_n X 1 rfl dX7_parses_108 ?_
                        refine g_geti X f_X7_223 dX7_parses_109 (x := M_10.1 47 25) rfl ?_
                        refine g_if_ge X rfl (tgt := 123) dX7_parses_112 (by decide) (fun cq399 => ?_) (fun cq399 => ?_)
                        · refine g_aload_n X 1 rfl dX7_parses_123 ?_
                          refine g_dup X dX7_parses_124 rfl ?_
                          refine g_geti X f_X7_204 dX7_parses_125 (x := M_10.1 47 21) rfl ?_
                          have bq400 := ig_47_21 I_10
                          refine g_iconst X 1 dX7_parses_128 (by decide) ?_
                          refine g_iadd X dX7_parses_129 (fun zq401 eq402 => ?_)
                          have tq403 : zq401.toInt = ((M_10.1 47 21).toInt) + 1 := add_nw eq402 rfl (show (1 : Int32).toInt = 1 by decide) (by omega)
                          refine g_puti X p_X7_204 dX7_parses_130 ?_
                          have Iq404 : Iv TM (ui M_10 47 21 zq401) := I_10.put 0 60 tq403 (by omega) rfl
                          have frq405 : Fr W_X7_parses Mq (ui M_10 47 21 zq401) := fr_10.ui rfl
                          refine g_sub [0, 1, 2] rfl ?_
                          have hP13 : PI (ui M_10 47 21 zq401) a1 := by first | exact PI_let0 i10 (c := b2_10) (by omega) (by omega) (by omega) (by omega) (by assumption) | exact PI_let1 i10 (c := b2_10) (by omega) (by omega) (by omega) (by omega) (by assumption)
                          exact ih133 y2_10 _ e2_10 (ui M_10 47 21 zq401) hP13 (show (M_5.1 47 21).toInt < (zq401).toInt by omega) Iq404 frq405
                        · refine g_aload_n X 1 rfl dX7_parses_115 ?_
                          refine g_aload_n X 1 rfl dX7_parses_116 ?_
                          refine g_geti X f_X7_204 dX7_parses_117 (x := M_10.1 47 21) rfl ?_
                          have bq406 := ig_47_21 I_10
                          refine g_puti X p_X7_223 dX7_parses_120 ?_
                          have Iq407 : Iv TM (ui M_10 47 25 (M_10.1 47 21)) := I_10.other rfl
                          have frq408 : Fr W_X7_parses Mq (ui M_10 47 25 (M_10.1 47 21)) := fr_10.ui rfl
                          refine g_aload_n X 1 rfl dX7_parses_123 ?_
                          refine g_dup X dX7_parses_124 rfl ?_
                          refine g_geti X f_X7_204 dX7_parses_125 (x := M_10.1 47 21) rfl ?_
                          have bq409 := ig_47_21 I_10
                          refine g_iconst X 1 dX7_parses_128 (by decide) ?_
                          refine g_iadd X dX7_parses_129 (fun zq410 eq411 => ?_)
                          have tq412 : zq410.toInt = ((M_10.1 47 21).toInt) + 1 := add_nw eq411 rfl (show (1 : Int32).toInt = 1 by decide) (by omega)
                          refine g_puti X p_X7_204 dX7_parses_130 ?_
                          have Iq413 : Iv TM (ui (ui M_10 47 25 (M_10.1 47 21)) 47 21 zq410) := Iq407.put 0 60 tq412 (by omega) rfl
                          have frq414 : Fr W_X7_parses Mq (ui (ui M_10 47 25 (M_10.1 47 21)) 47 21 zq410) := frq408.ui rfl
                          refine g_sub [0, 1, 2] rfl ?_
                          have hP13 : PI (ui (ui M_10 47 25 (M_10.1 47 21)) 47 21 zq410) a1 := by first | exact PI_let0 i10 (c := b2_10) (by omega) (by omega) (by omega) (by omega) (by assumption) | exact PI_let1 i10 (c := b2_10) (by omega) (by omega) (by omega) (by omega) (by assumption)
                          exact ih133 y2_10 _ e2_10 (ui (ui M_10 47 25 (M_10.1 47 21)) 47 21 zq410) hP13 (show (M_5.1 47 21).toInt < (zq410).toInt by omega) Iq413 frq414
                · have pq415 : ¬ (97 ≤ b2_10 ∧ b2_10 ≤ 104) := by omega
                  clear hq347 cq348 tq346
                  refine g_iload_n X 0 rfl dX7_parses_73 ?_
                  refine g_callS X m_X7_217 (c_X7_isScene ad M_10 y2_10 e2_10) rfl (by decide) (Nat.le_of_ble_eq_true rfl) rfl dX7_parses_74 ?_
                  rintro _ _ ⟨rq416, aq417, rfl, tq418, hq419, rfl⟩
                  show G Γ M_10 77 [(2, .int y2_10), (0, .ref (ad 47)), (1, .int x1)] [.int rq416]
                  refine g_if_ne X tq418 (tgt := 82) dX7_parses_77 (by decide) (fun cq420 => ?_) (fun cq420 => ?_)
                  · have pq421 : (65 ≤ b2_10 ∧ b2_10 ≤ 72) := by omega
                    clear hq419 cq420 tq418
                    refine g_iload_n X 0 rfl dX7_parses_82 ?_
                    refine g_callS X m_X7_217 (c_X7_isScene ad M_10 y2_10 e2_10) rfl (by decide) (Nat.le_of_ble_eq_true rfl) rfl dX7_parses_83 ?_
                    rintro _ _ ⟨rq422, aq423, rfl, tq424, hq425, rfl⟩
                    show G Γ M_10 86 [(2, .int y2_10), (0, .ref (ad 47)), (1, .int x1)] [.int rq422]
                    refine g_if_eq X tq424 (tgt := 123) dX7_parses_86 (by decide) (fun cq426 => ?_) (fun cq426 => ?_)
                    · have pq427 : ¬ (65 ≤ b2_10 ∧ b2_10 ≤ 72) := by omega
                      clear hq425 cq426 tq424
                      refine g_aload_n X 1 rfl dX7_parses_123 ?_
                      refine g_dup X dX7_parses_124 rfl ?_
                      refine g_geti X f_X7_204 dX7_parses_125 (x := M_10.1 47 21) rfl ?_
                      have bq428 := ig_47_21 I_10
                      refine g_iconst X 1 dX7_parses_128 (by decide) ?_
                      refine g_iadd X dX7_parses_129 (fun zq429 eq430 => ?_)
                      have tq431 : zq429.toInt = ((M_10.1 47 21).toInt) + 1 := add_nw eq430 rfl (show (1 : Int32).toInt = 1 by decide) (by omega)
                      refine g_puti X p_X7_204 dX7_parses_130 ?_
                      have Iq432 : Iv TM (ui M_10 47 21 zq429) := I_10.put 0 60 tq431 (by omega) rfl
                      have frq433 : Fr W_X7_parses Mq (ui M_10 47 21 zq429) := fr_10.ui rfl
                      refine g_sub [0, 1, 2] rfl ?_
                      have hP13 : PI (ui M_10 47 21 zq429) a1 := by first | exact PI_let0 i10 (c := b2_10) (by omega) (by omega) (by omega) (by omega) (by assumption) | exact PI_let1 i10 (c := b2_10) (by omega) (by omega) (by omega) (by omega) (by assumption)
                      exact ih133 y2_10 _ e2_10 (ui M_10 47 21 zq429) hP13 (show (M_5.1 47 21).toInt < (zq429).toInt by omega) Iq432 frq433
                    · have pq434 : (65 ≤ b2_10 ∧ b2_10 ≤ 72) := by omega
                      clear hq425 cq426 tq424
                      refine g_aload_n X 1 rfl dX7_parses_89 ?_
                      refine g_iload_n X 0 rfl dX7_parses_90 ?_
                      refine g_bipush X 65 dX7_parses_91 (by decide) ?_
                      refine g_isub X dX7_parses_93 (fun zq435 eq436 => ?_)
                      have tq437 : zq435.toInt = b2_10 - 65 := sub_nw eq436 e2_10 (show (65 : Int32).toInt = 65 by decide) (by omega)
                      refine g_callV X m_X7_220 (c_X7_isTold ad M_10 zq435 tq437) rfl (by decide) (Nat.le_of_ble_eq_true rfl) rfl dX7_parses_94 ?_
                      rintro _ _ ⟨rq438, aq439, rfl, tq440, hq441, rfl⟩
                      show G Γ M_10 97 [(2, .int y2_10), (0, .ref (ad 47)), (1, .int x1)] [.int rq438]
                      refine g_if_eq X tq440 (tgt := 108) dX7_parses_97 (by decide) (fun cq442 => ?_) (fun cq442 => ?_)
                      · have pq443 : ¬ (0 ≤ (b2_10 - 65) ∧ (b2_10 - 65) ≤ 7 ∧ 0 < (M_10.1 63 (b2_10 - 65).toNat).toInt) := by omega
                        clear hq441 cq442 tq440
                        refine g_aload_n X 1 rfl dX7_parses_108 ?_
                        refine g_geti X f_X7_223 dX7_parses_109 (x := M_10.1 47 25) rfl ?_
                        refine g_if_ge X rfl (tgt := 123) dX7_parses_112 (by decide) (fun cq444 => ?_) (fun cq444 => ?_)
                        · refine g_aload_n X 1 rfl dX7_parses_123 ?_
                          refine g_dup X dX7_parses_124 rfl ?_
                          refine g_geti X f_X7_204 dX7_parses_125 (x := M_10.1 47 21) rfl ?_
                          have bq445 := ig_47_21 I_10
                          refine g_iconst X 1 dX7_parses_128 (by decide) ?_
                          refine g_iadd X dX7_parses_129 (fun zq446 eq447 => ?_)
                          have tq448 : zq446.toInt = ((M_10.1 47 21).toInt) + 1 := add_nw eq447 rfl (show (1 : Int32).toInt = 1 by decide) (by omega)
                          refine g_puti X p_X7_204 dX7_parses_130 ?_
                          have Iq449 : Iv TM (ui M_10 47 21 zq446) := I_10.put 0 60 tq448 (by omega) rfl
                          have frq450 : Fr W_X7_parses Mq (ui M_10 47 21 zq446) := fr_10.ui rfl
                          refine g_sub [0, 1, 2] rfl ?_
                          have hP13 : PI (ui M_10 47 21 zq446) a1 := by first | exact PI_let0 i10 (c := b2_10) (by omega) (by omega) (by omega) (by omega) (by assumption) | exact PI_let1 i10 (c := b2_10) (by omega) (by omega) (by omega) (by omega) (by assumption)
                          exact ih133 y2_10 _ e2_10 (ui M_10 47 21 zq446) hP13 (show (M_5.1 47 21).toInt < (zq446).toInt by omega) Iq449 frq450
                        · refine g_aload_n X 1 rfl dX7_parses_115 ?_
                          refine g_aload_n X 1 rfl dX7_parses_116 ?_
                          refine g_geti X f_X7_204 dX7_parses_117 (x := M_10.1 47 21) rfl ?_
                          have bq451 := ig_47_21 I_10
                          refine g_puti X p_X7_223 dX7_parses_120 ?_
                          have Iq452 : Iv TM (ui M_10 47 25 (M_10.1 47 21)) := I_10.other rfl
                          have frq453 : Fr W_X7_parses Mq (ui M_10 47 25 (M_10.1 47 21)) := fr_10.ui rfl
                          refine g_aload_n X 1 rfl dX7_parses_123 ?_
                          refine g_dup X dX7_parses_124 rfl ?_
                          refine g_geti X f_X7_204 dX7_parses_125 (x := M_10.1 47 21) rfl ?_
                          have bq454 := ig_47_21 I_10
                          refine g_iconst X 1 dX7_parses_128 (by decide) ?_
                          refine g_iadd X dX7_parses_129 (fun zq455 eq456 => ?_)
                          have tq457 : zq455.toInt = ((M_10.1 47 21).toInt) + 1 := add_nw eq456 rfl (show (1 : Int32).toInt = 1 by decide) (by omega)
                          refine g_puti X p_X7_204 dX7_parses_130 ?_
                          have Iq458 : Iv TM (ui (ui M_10 47 25 (M_10.1 47 21)) 47 21 zq455) := Iq452.put 0 60 tq457 (by omega) rfl
                          have frq459 : Fr W_X7_parses Mq (ui (ui M_10 47 25 (M_10.1 47 21)) 47 21 zq455) := frq453.ui rfl
                          refine g_sub [0, 1, 2] rfl ?_
                          have hP13 : PI (ui (ui M_10 47 25 (M_10.1 47 21)) 47 21 zq455) a1 := by first | exact PI_let0 i10 (c := b2_10) (by omega) (by omega) (by omega) (by omega) (by assumption) | exact PI_let1 i10 (c := b2_10) (by omega) (by omega) (by omega) (by omega) (by assumption)
                          exact ih133 y2_10 _ e2_10 (ui (ui M_10 47 25 (M_10.1 47 21)) 47 21 zq455) hP13 (show (M_5.1 47 21).toInt < (zq455).toInt by omega) Iq458 frq459
                      · have pq460 : (0 ≤ (b2_10 - 65) ∧ (b2_10 - 65) ≤ 7 ∧ 0 < (M_10.1 63 (b2_10 - 65).toNat).toInt) := by omega
                        clear hq441 cq442 tq440
                        refine g_iload_n X 0 rfl dX7_parses_100 ?_
                        refine g_bipush X 65 dX7_parses_101 (by decide) ?_
                        refine g_isub X dX7_parses_103 (fun zq461 eq462 => ?_)
                        have tq463 : zq461.toInt = b2_10 - 65 := sub_nw eq462 e2_10 (show (65 : Int32).toInt = 65 by decide) (by omega)
                        refine g_iload_n X 2 rfl dX7_parses_104 ?_
                        refine g_icmp_ne X tq463 t1 (tgt := 123) dX7_parses_105 (by decide) (fun cq464 => ?_) (fun cq464 => ?_)
                        · refine g_aload_n X 1 rfl dX7_parses_123 ?_
                          refine g_dup X dX7_parses_124 rfl ?_
                          refine g_geti X f_X7_204 dX7_parses_125 (x := M_10.1 47 21) rfl ?_
                          have bq465 := ig_47_21 I_10
                          refine g_iconst X 1 dX7_parses_128 (by decide) ?_
                          refine g_iadd X dX7_parses_129 (fun zq466 eq467 => ?_)
                          have tq468 : zq466.toInt = ((M_10.1 47 21).toInt) + 1 := add_nw eq467 rfl (show (1 : Int32).toInt = 1 by decide) (by omega)
                          refine g_puti X p_X7_204 dX7_parses_130 ?_
                          have Iq469 : Iv TM (ui M_10 47 21 zq466) := I_10.put 0 60 tq468 (by omega) rfl
                          have frq470 : Fr W_X7_parses Mq (ui M_10 47 21 zq466) := fr_10.ui rfl
                          refine g_sub [0, 1, 2] rfl ?_
                          have hP13 : PI (ui M_10 47 21 zq466) a1 := by first | exact PI_let0 i10 (c := b2_10) (by omega) (by omega) (by omega) (by omega) (by assumption) | exact PI_let1 i10 (c := b2_10) (by omega) (by omega) (by omega) (by omega) (by assumption)
                          exact ih133 y2_10 _ e2_10 (ui M_10 47 21 zq466) hP13 (show (M_5.1 47 21).toInt < (zq466).toInt by omega) Iq469 frq470
                        · refine g_aload_n X 1 rfl dX7_parses_108 ?_
                          refine g_geti X f_X7_223 dX7_parses_109 (x := M_10.1 47 25) rfl ?_
                          refine g_if_ge X rfl (tgt := 123) dX7_parses_112 (by decide) (fun cq471 => ?_) (fun cq471 => ?_)
                          · refine g_aload_n X 1 rfl dX7_parses_123 ?_
                            refine g_dup X dX7_parses_124 rfl ?_
                            refine g_geti X f_X7_204 dX7_parses_125 (x := M_10.1 47 21) rfl ?_
                            have bq472 := ig_47_21 I_10
                            refine g_iconst X 1 dX7_parses_128 (by decide) ?_
                            refine g_iadd X dX7_parses_129 (fun zq473 eq474 => ?_)
                            have tq475 : zq473.toInt = ((M_10.1 47 21).toInt) + 1 := add_nw eq474 rfl (show (1 : Int32).toInt = 1 by decide) (by omega)
                            refine g_puti X p_X7_204 dX7_parses_130 ?_
                            have Iq476 : Iv TM (ui M_10 47 21 zq473) := I_10.put 0 60 tq475 (by omega) rfl
                            have frq477 : Fr W_X7_parses Mq (ui M_10 47 21 zq473) := fr_10.ui rfl
                            refine g_sub [0, 1, 2] rfl ?_
                            have hP13 : PI (ui M_10 47 21 zq473) a1 := by first | exact PI_let0 i10 (c := b2_10) (by omega) (by omega) (by omega) (by omega) (by assumption) | exact PI_let1 i10 (c := b2_10) (by omega) (by omega) (by omega) (by omega) (by assumption)
                            exact ih133 y2_10 _ e2_10 (ui M_10 47 21 zq473) hP13 (show (M_5.1 47 21).toInt < (zq473).toInt by omega) Iq476 frq477
                          · refine g_aload_n X 1 rfl dX7_parses_115 ?_
                            refine g_aload_n X 1 rfl dX7_parses_116 ?_
                            refine g_geti X f_X7_204 dX7_parses_117 (x := M_10.1 47 21) rfl ?_
                            have bq478 := ig_47_21 I_10
                            refine g_puti X p_X7_223 dX7_parses_120 ?_
                            have Iq479 : Iv TM (ui M_10 47 25 (M_10.1 47 21)) := I_10.other rfl
                            have frq480 : Fr W_X7_parses Mq (ui M_10 47 25 (M_10.1 47 21)) := fr_10.ui rfl
                            refine g_aload_n X 1 rfl dX7_parses_123 ?_
                            refine g_dup X dX7_parses_124 rfl ?_
                            refine g_geti X f_X7_204 dX7_parses_125 (x := M_10.1 47 21) rfl ?_
                            have bq481 := ig_47_21 I_10
                            refine g_iconst X 1 dX7_parses_128 (by decide) ?_
                            refine g_iadd X dX7_parses_129 (fun zq482 eq483 => ?_)
                            have tq484 : zq482.toInt = ((M_10.1 47 21).toInt) + 1 := add_nw eq483 rfl (show (1 : Int32).toInt = 1 by decide) (by omega)
                            refine g_puti X p_X7_204 dX7_parses_130 ?_
                            have Iq485 : Iv TM (ui (ui M_10 47 25 (M_10.1 47 21)) 47 21 zq482) := Iq479.put 0 60 tq484 (by omega) rfl
                            have frq486 : Fr W_X7_parses Mq (ui (ui M_10 47 25 (M_10.1 47 21)) 47 21 zq482) := frq480.ui rfl
                            refine g_sub [0, 1, 2] rfl ?_
                            have hP13 : PI (ui (ui M_10 47 25 (M_10.1 47 21)) 47 21 zq482) a1 := by first | exact PI_let0 i10 (c := b2_10) (by omega) (by omega) (by omega) (by omega) (by assumption) | exact PI_let1 i10 (c := b2_10) (by omega) (by omega) (by omega) (by omega) (by assumption)
                            exact ih133 y2_10 _ e2_10 (ui (ui M_10 47 25 (M_10.1 47 21)) 47 21 zq482) hP13 (show (M_5.1 47 21).toInt < (zq482).toInt by omega) Iq485 frq486
                  · have pq487 : ¬ (65 ≤ b2_10 ∧ b2_10 ≤ 72) := by omega
                    clear hq419 cq420 tq418
                    refine g_iconst X 0 dX7_parses_80 (by decide) ?_
                    exact g_zret X (b01 (show (0 : Int32).toInt = 0 by decide) (by omega)) dX7_parses_81 ⟨_, _, rfl, (show (0 : Int32).toInt = 0 by decide), (by omega), (fun h => absurd h (by decide)), I_10, fr_10⟩
              · refine g_aload_n X 1 rfl dX7_parses_28 ?_
                refine g_getr X f_X7_58 dX7_parses_29 ?_
                refine g_aload_n X 1 rfl dX7_parses_32 ?_
                refine g_geti X f_X7_207 dX7_parses_33 (x := M_10.1 47 22) rfl ?_
                have bq488 := ig_47_22 I_10
                refine g_iload_n X 0 rfl dX7_parses_36 ?_
                refine g_iast X la_64 rfl dX7_parses_37 (by omega) ?_
                have Iq489 : Iv TM (ui M_10 64 (((M_10.1 47 22).toInt).toNat) y2_10) := I_10.otherA rfl
                have frq490 : Fr W_X7_parses Mq (ui M_10 64 (((M_10.1 47 22).toInt).toNat) y2_10) := fr_10.ui rfl
                refine g_aload_n X 1 rfl dX7_parses_38 ?_
                refine g_dup X dX7_parses_39 rfl ?_
                refine g_geti X f_X7_207 dX7_parses_40 (x := M_10.1 47 22) rfl ?_
                have bq491 := ig_47_22 I_10
                refine g_iconst X 1 dX7_parses_43 (by decide) ?_
                refine g_iadd X dX7_parses_44 (fun zq492 eq493 => ?_)
                have tq494 : zq492.toInt = ((M_10.1 47 22).toInt) + 1 := add_nw eq493 rfl (show (1 : Int32).toInt = 1 by decide) (by omega)
                refine g_puti X p_X7_207 dX7_parses_45 ?_
                have Iq495 : Iv TM (ui (ui M_10 64 (((M_10.1 47 22).toInt).toNat) y2_10) 47 22 zq492) := Iq489.put 0 60 tq494 (by omega) rfl
                have frq496 : Fr W_X7_parses Mq (ui (ui M_10 64 (((M_10.1 47 22).toInt).toNat) y2_10) 47 22 zq492) := frq490.ui rfl
                refine g_aload_n X 1 rfl dX7_parses_48 ?_
                refine g_dup X dX7_parses_49 rfl ?_
                refine g_geti X f_X7_204 dX7_parses_50 (x := M_10.1 47 21) rfl ?_
                have bq497 := ig_47_21 I_10
                refine g_iconst X 1 dX7_parses_53 (by decide) ?_
                refine g_iadd X dX7_parses_54 (fun zq498 eq499 => ?_)
                have tq500 : zq498.toInt = ((M_10.1 47 21).toInt) + 1 := add_nw eq499 rfl (show (1 : Int32).toInt = 1 by decide) (by omega)
                refine g_puti X p_X7_204 dX7_parses_55 ?_
                have Iq501 : Iv TM (ui (ui (ui M_10 64 (((M_10.1 47 22).toInt).toNat) y2_10) 47 22 zq492) 47 21 zq498) := Iq495.put 0 60 tq500 (by omega) rfl
                have frq502 : Fr W_X7_parses Mq (ui (ui (ui M_10 64 (((M_10.1 47 22).toInt).toNat) y2_10) 47 22 zq492) 47 21 zq498) := frq496.ui rfl
                have hP10 : PI (ui (ui (ui M_10 64 (((M_10.1 47 22).toInt).toNat) y2_10) 47 22 zq492) 47 21 zq498) a1 := PI_push i10 (by omega) (by omega) (by omega) (by assumption) (by assumption)
                refine g_aload_n X 1 rfl dX7_parses_58 ?_
                refine g_callV X m_X7_210 (c_X7_sign ad (ui (ui (ui M_10 64 (((M_10.1 47 22).toInt).toNat) y2_10) 47 22 zq492) 47 21 zq498) Iq501) rfl (by decide) (Nat.le_of_ble_eq_true rfl) rfl dX7_parses_59 ?_
                rintro _ _ ⟨rq503, aq504, rfl, tq505, hq506, rfl⟩
                have hq507 : ((zq498).toInt < ((M_10.1 47 20)).toInt ∧ aq504 = ((ui (ui (ui M_10 64 (((M_10.1 47 22).toInt).toNat) y2_10) 47 22 zq492) 47 21 zq498).1 60 ((zq498).toInt).toNat).toInt ∧ 0 ≤ aq504 ∧ aq504 ≤ 255) ∨ (((M_10.1 47 20)).toInt ≤ (zq498).toInt ∧ aq504 = -1) := hq506
                clear hq506
                show G Γ (ui (ui (ui M_10 64 (((M_10.1 47 22).toInt).toNat) y2_10) 47 22 zq492) 47 21 zq498) 62 [(2, .int y2_10), (0, .ref (ad 47)), (1, .int x1)] [.int rq503]
                refine g_istore_n X (i := 2) [(2, .int rq503), (0, .ref (ad 47)), (1, .int x1)] dX7_parses_62 rfl (by decide) rfl ?_
                refine g_goto X (tgt := 10) dX7_parses_63 (by decide) ?_
                refine g_sub [0, 1, 2] rfl ?_
                have hr21 : ((ui (ui (ui M_10 64 (((M_10.1 47 22).toInt).toNat) y2_10) 47 22 zq492) 47 21 zq498).1 47 21).toInt = zq498.toInt := rfl
                exact ih10 rq503 _ tq505 (ui (ui (ui M_10 64 (((M_10.1 47 22).toInt).toNat) y2_10) 47 22 zq492) 47 21 zq498) hP10 (show ((zq498).toInt < ((M_10.1 47 20)).toInt ∧ aq504 = ((ui (ui (ui M_10 64 (((M_10.1 47 22).toInt).toNat) y2_10) 47 22 zq492) 47 21 zq498).1 60 ((zq498).toInt).toNat).toInt ∧ 0 ≤ aq504) ∨ (((M_10.1 47 20)).toInt ≤ (zq498).toInt ∧ aq504 = -1) by omega) (show (M_5.1 47 21).toInt ≤ (zq498).toInt by omega) Iq501 frq502 (by omega)
      refine g_sub [0, 1, 2] rfl ?_
      exact lp10 _ rq5 _ tq7 M_5 i5 (by omega) (by omega) I_5 fr_5 (Nat.lt_succ_self _)
  refine g_sub [0, 1] rfl ?_
  exact lp5 _ (ui Mq 47 22 0) (PI_0 hA Iq0 (by decide)) Iq2 frq3 (Nat.lt_succ_self _)
def NSk (M : Mem) (sc : Int) (x n : Nat) : Prop := 0 < tel M x → ∀ k, k < n → txt M x k ≠ 65 + sc
def NSx (M : Mem) (sc : Int) (n : Nat) : Prop := ∀ x, x < n → NSk M sc x (tsz M x).toNat
theorem NSk_0 {M : Mem} {sc : Int} {x : Nat} : NSk M sc x 0 := fun _ k hk => absurd hk (Nat.not_lt_zero _)
theorem NSx_0 {M : Mem} {sc : Int} : NSx M sc 0 := fun k hk => absurd hk (Nat.not_lt_zero _)
theorem NSk_s {M : Mem} {sc x k : Int} (h : NSk M sc x.toNat k.toNat) (hx : 0 ≤ x) (hk : 0 ≤ k) (hn : (M.1 61 (60 * x + k).toNat).toInt ≠ 65 + sc) : NSk M sc x.toNat (k + 1).toNat := by
  intro h0 j hj
  by_cases q : j = k.toNat
  · rw [q, txt_at hx hk]; exact hn
  · exact h h0 j (by omega)
theorem NSx_s {M : Mem} {sc x k : Int} (h : NSx M sc x.toNat) (hk : NSk M sc x.toNat k.toNat) (hx : 0 ≤ x) (he : (M.1 62 x.toNat).toInt ≤ k ∨ ¬ (0 ≤ x ∧ x ≤ 7 ∧ 0 < (M.1 63 x.toNat).toInt)) (h7 : x ≤ 7) : NSx M sc (x + 1).toNat := by
  intro y hy
  by_cases q : y = x.toNat
  · subst q
    intro h0 j hj
    rcases he with he | he
    · refine hk h0 j ?_
      have : (tsz M x.toNat).toNat = ((M.1 62 x.toNat).toInt).toNat := rfl
      omega
    · exact absurd ⟨hx, h7, h0⟩ he
  · exact h y (by omega)
set_option maxHeartbeats 4000000 in
set_option maxRecDepth 4000 in
theorem c_X7_standsInOther (ad : Nat → Nat) (Mq : Mem) (x1 : Int32) {a1 : Int} (t1 : x1.toInt = a1) (Iq0 : Iv TM Mq) (h1 : 0 ≤ a1 ∧ a1 ≤ 7) : Ctr ad yX7_standsInOther cX7_standsInOther 5 (some .boolean) 2 [.ref (ad 47), .int x1] Mq (fun v M' => ∃ (r : Int32) (a : Int), v = some (.int r) ∧ r.toInt = a ∧ (a = 1 ∨ (a = 0 ∧ NSx Mq a1 8)) ∧ Mq = M') := by
  refine ctr_of (L := [(0, .ref (ad 47)), (1, .int x1)]) (by decide) (Nat.le_of_ble_eq_true rfl) rfl ?_
  intro Γ X
  have X : gX Γ cX7_standsInOther RX7 5 (some .boolean) 2 ad _ := X
  have g20 := ig_47_20 Iq0
  have g21 := ig_47_21 Iq0
  have g22 := ig_47_22 Iq0
  refine g_iconst X 0 dX7_standsInOther_0 (by decide) ?_
  refine g_istore_n X (i := 2) [(2, .int 0), (0, .ref (ad 47)), (1, .int x1)] dX7_standsInOther_1 rfl (by decide) rfl ?_
  refine g_iconst X 0 dX7_standsInOther_2 (by decide) ?_
  refine g_istore_n X (i := 3) [(3, .int 0), (2, .int 0), (0, .ref (ad 47)), (1, .int x1)] dX7_standsInOther_3 rfl (by decide) rfl ?_
  have lp4 : ∀ n : Nat, ∀ (y3_4 : Int32) (b3_4 : Int), y3_4.toInt = b3_4 → ∀ (y2_4 : Int32) (b2_4 : Int), y2_4.toInt = b2_4 → (0 ≤ b3_4 ∧ b3_4 ≤ 8) → (b2_4 = 1 ∨ (b2_4 = 0 ∧ NSx Mq a1 (b3_4).toNat)) → (8 - b3_4).toNat < n → G Γ Mq 4 [(3, .int y3_4), (2, .int y2_4), (0, .ref (ad 47)), (1, .int x1)] [] := by
    intro n
    induction n with
    | zero => intro y3_4 b3_4 e3_4 y2_4 b2_4 e2_4 i1 i2 hm; exact absurd hm (Nat.not_lt_zero _)
    | succ n ih4 =>
      intro y3_4 b3_4 e3_4 y2_4 b2_4 e2_4 i1 i2 hm4
      refine g_iload_n X 0 rfl dX7_standsInOther_4 ?_
      refine g_bipush X 8 dX7_standsInOther_5 (by decide) ?_
      refine g_icmp_ge X e3_4 (show (8 : Int32).toInt = 8 by decide) (tgt := 73) dX7_standsInOther_7 (by decide) (fun cq1 => ?_) (fun cq1 => ?_)
      · refine g_iload_n X 1 rfl dX7_standsInOther_73 ?_
        exact g_zret X (b01 e2_4 (by omega)) dX7_standsInOther_74 ⟨_, _, rfl, e2_4, (by rcases i2 with e | ⟨e, h3⟩; exact Or.inl e; exact Or.inr ⟨e, by have q : b3_4 = 8 := (by omega); rw [q] at h3; exact h3⟩), rfl⟩
      · refine g_iconst X 0 dX7_standsInOther_10 (by decide) ?_
        refine g_istore X [(4, .int 0), (3, .int y3_4), (2, .int y2_4), (0, .ref (ad 47)), (1, .int x1)] dX7_standsInOther_11 (by decide) rfl ?_
        have lp13 : ∀ n : Nat, ∀ (y4_13 : Int32) (b4_13 : Int), y4_13.toInt = b4_13 → ∀ (y2_13 : Int32) (b2_13 : Int), y2_13.toInt = b2_13 → (0 ≤ b4_13 ∧ b4_13 ≤ 60) → (b2_13 = 1 ∨ (b2_13 = 0 ∧ NSx Mq a1 (b3_4).toNat ∧ NSk Mq a1 (b3_4).toNat (b4_13).toNat)) → (60 - b4_13).toNat < n → G Γ Mq 13 [(4, .int y4_13), (3, .int y3_4), (2, .int y2_13), (0, .ref (ad 47)), (1, .int x1)] [] := by
          intro n
          induction n with
          | zero => intro y4_13 b4_13 e4_13 y2_13 b2_13 e2_13 j1 j2 hm; exact absurd hm (Nat.not_lt_zero _)
          | succ n ih13 =>
            intro y4_13 b4_13 e4_13 y2_13 b2_13 e2_13 j1 j2 hm13
            refine g_iload X 0 rfl dX7_standsInOther_13 ?_
            refine g_aload_n X 3 rfl dX7_standsInOther_15 ?_
            refine g_getr X f_X7_52 dX7_standsInOther_16 ?_
            refine g_iload_n X 1 rfl dX7_standsInOther_19 ?_
            refine g_iald X la_62 e3_4 dX7_standsInOther_20 (by omega) (x := Mq.1 62 b3_4.toNat) rfl ?_
            have bq2 := ig_62 Iq0 b3_4.toNat (by omega)
            refine g_icmp_ge X e4_13 rfl (tgt := 67) dX7_standsInOther_21 (by decide) (fun cq3 => ?_) (fun cq3 => ?_)
            · refine g_iinc X 1 (fun v => [(3, .int v), (4, .int y4_13), (2, .int y2_13), (0, .ref (ad 47)), (1, .int x1)]) dX7_standsInOther_67 rfl (by decide) (fun _ => rfl) (fun zq4 eq5 => ?_)
              have tq6 : zq4.toInt = b3_4 + 1 := add_nw eq5 e3_4 (show (Int32.ofInt 1).toInt = 1 by decide) (by omega)
              refine g_goto X (tgt := 4) dX7_standsInOther_70 (by decide) ?_
              refine g_sub [0, 2, 3, 4] rfl ?_
              exact ih4 zq4 _ tq6 y2_13 _ e2_13 (by omega) (by rcases j2 with e | ⟨e, h3, h4⟩; exact Or.inl e; exact Or.inr ⟨e, NSx_s h3 h4 i1.1 (by omega) (by omega)⟩) (by omega)
            · refine g_aload_n X 3 rfl dX7_standsInOther_24 ?_
              refine g_iload_n X 1 rfl dX7_standsInOther_25 ?_
              refine g_callV X m_X7_220 (c_X7_isTold ad Mq y3_4 e3_4) rfl (by decide) (Nat.le_of_ble_eq_true rfl) rfl dX7_standsInOther_26 ?_
              rintro _ _ ⟨rq7, aq8, rfl, tq9, hq10, rfl⟩
              show G Γ Mq 29 [(4, .int y4_13), (3, .int y3_4), (2, .int y2_13), (0, .ref (ad 47)), (1, .int x1)] [.int rq7]
              refine g_if_eq X tq9 (tgt := 67) dX7_standsInOther_29 (by decide) (fun cq11 => ?_) (fun cq11 => ?_)
              · have pq12 : ¬ (0 ≤ b3_4 ∧ b3_4 ≤ 7 ∧ 0 < (Mq.1 63 b3_4.toNat).toInt) := by omega
                clear hq10 cq11 tq9
                refine g_iinc X 1 (fun v => [(3, .int v), (4, .int y4_13), (2, .int y2_13), (0, .ref (ad 47)), (1, .int x1)]) dX7_standsInOther_67 rfl (by decide) (fun _ => rfl) (fun zq13 eq14 => ?_)
                have tq15 : zq13.toInt = b3_4 + 1 := add_nw eq14 e3_4 (show (Int32.ofInt 1).toInt = 1 by decide) (by omega)
                refine g_goto X (tgt := 4) dX7_standsInOther_70 (by decide) ?_
                refine g_sub [0, 2, 3, 4] rfl ?_
                exact ih4 zq13 _ tq15 y2_13 _ e2_13 (by omega) (by rcases j2 with e | ⟨e, h3, h4⟩; exact Or.inl e; exact Or.inr ⟨e, NSx_s h3 h4 i1.1 (by omega) (by omega)⟩) (by omega)
              · have pq16 : (0 ≤ b3_4 ∧ b3_4 ≤ 7 ∧ 0 < (Mq.1 63 b3_4.toNat).toInt) := by omega
                clear hq10 cq11 tq9
                refine g_iload_n X 2 rfl dX7_standsInOther_32 ?_
                refine g_if_ne X e2_13 (tgt := 55) dX7_standsInOther_33 (by decide) (fun cq17 => ?_) (fun cq17 => ?_)
                · refine g_iconst X 1 dX7_standsInOther_55 (by decide) ?_
                  refine g_goto X (tgt := 60) dX7_standsInOther_56 (by decide) ?_
                  refine g_istore_n X (i := 2) [(2, .int 1), (4, .int y4_13), (3, .int y3_4), (0, .ref (ad 47)), (1, .int x1)] dX7_standsInOther_60 rfl (by decide) rfl ?_
                  refine g_iinc X 1 (fun v => [(4, .int v), (2, .int 1), (3, .int y3_4), (0, .ref (ad 47)), (1, .int x1)]) dX7_standsInOther_61 rfl (by decide) (fun _ => rfl) (fun zq18 eq19 => ?_)
                  have tq20 : zq18.toInt = b4_13 + 1 := add_nw eq19 e4_13 (show (Int32.ofInt 1).toInt = 1 by decide) (by omega)
                  refine g_goto X (tgt := 13) dX7_standsInOther_64 (by decide) ?_
                  refine g_sub [0, 2, 1, 3, 4] rfl ?_
                  exact ih13 zq18 _ tq20 1 _ (show (1 : Int32).toInt = 1 by decide) (by omega) (by first | exact Or.inl (by omega) | (rcases j2 with e | ⟨e, h3, h4⟩; omega; exact Or.inr ⟨by omega, h3, NSk_s h4 i1.1 j1.1 (by omega)⟩)) (by omega)
                · refine g_aload_n X 3 rfl dX7_standsInOther_36 ?_
                  refine g_getr X f_X7_49 dX7_standsInOther_37 ?_
                  refine g_bipush X 60 dX7_standsInOther_40 (by decide) ?_
                  refine g_iload_n X 1 rfl dX7_standsInOther_42 ?_
                  refine g_imul X dX7_standsInOther_43 (fun zq21 eq22 => ?_)
                  have tq23 : zq21.toInt = 60 * b3_4 := mul_nw eq22 (show (60 : Int32).toInt = 60 by decide) e3_4 (by omega)
                  refine g_iload X 0 rfl dX7_standsInOther_44 ?_
                  refine g_iadd X dX7_standsInOther_46 (fun zq24 eq25 => ?_)
                  have tq26 : zq24.toInt = (60 * b3_4) + b4_13 := add_nw eq25 tq23 e4_13 (by omega)
                  refine g_iald X la_61 tq26 dX7_standsInOther_47 (by omega) (x := Mq.1 61 (((60 * b3_4) + b4_13).toNat)) rfl ?_
                  refine g_bipush X 65 dX7_standsInOther_48 (by decide) ?_
                  refine g_iload_n X 4 rfl dX7_standsInOther_50 ?_
                  refine g_iadd X dX7_standsInOther_51 (fun zq27 eq28 => ?_)
                  have tq29 : zq27.toInt = 65 + a1 := add_nw eq28 (show (65 : Int32).toInt = 65 by decide) t1 (by omega)
                  refine g_icmp_ne X rfl tq29 (tgt := 59) dX7_standsInOther_52 (by decide) (fun cq30 => ?_) (fun cq30 => ?_)
                  · refine g_iconst X 0 dX7_standsInOther_59 (by decide) ?_
                    refine g_istore_n X (i := 2) [(2, .int 0), (4, .int y4_13), (3, .int y3_4), (0, .ref (ad 47)), (1, .int x1)] dX7_standsInOther_60 rfl (by decide) rfl ?_
                    refine g_iinc X 1 (fun v => [(4, .int v), (2, .int 0), (3, .int y3_4), (0, .ref (ad 47)), (1, .int x1)]) dX7_standsInOther_61 rfl (by decide) (fun _ => rfl) (fun zq31 eq32 => ?_)
                    have tq33 : zq31.toInt = b4_13 + 1 := add_nw eq32 e4_13 (show (Int32.ofInt 1).toInt = 1 by decide) (by omega)
                    refine g_goto X (tgt := 13) dX7_standsInOther_64 (by decide) ?_
                    refine g_sub [0, 2, 1, 3, 4] rfl ?_
                    exact ih13 zq31 _ tq33 0 _ (show (0 : Int32).toInt = 0 by decide) (by omega) (by first | exact Or.inl (by omega) | (rcases j2 with e | ⟨e, h3, h4⟩; omega; exact Or.inr ⟨by omega, h3, NSk_s h4 i1.1 j1.1 (by omega)⟩)) (by omega)
                  · refine g_iconst X 1 dX7_standsInOther_55 (by decide) ?_
                    refine g_goto X (tgt := 60) dX7_standsInOther_56 (by decide) ?_
                    refine g_istore_n X (i := 2) [(2, .int 1), (4, .int y4_13), (3, .int y3_4), (0, .ref (ad 47)), (1, .int x1)] dX7_standsInOther_60 rfl (by decide) rfl ?_
                    refine g_iinc X 1 (fun v => [(4, .int v), (2, .int 1), (3, .int y3_4), (0, .ref (ad 47)), (1, .int x1)]) dX7_standsInOther_61 rfl (by decide) (fun _ => rfl) (fun zq34 eq35 => ?_)
                    have tq36 : zq34.toInt = b4_13 + 1 := add_nw eq35 e4_13 (show (Int32.ofInt 1).toInt = 1 by decide) (by omega)
                    refine g_goto X (tgt := 13) dX7_standsInOther_64 (by decide) ?_
                    refine g_sub [0, 2, 1, 3, 4] rfl ?_
                    exact ih13 zq34 _ tq36 1 _ (show (1 : Int32).toInt = 1 by decide) (by omega) (by first | exact Or.inl (by omega) | (rcases j2 with e | ⟨e, h3, h4⟩; omega; exact Or.inr ⟨by omega, h3, NSk_s h4 i1.1 j1.1 (by omega)⟩)) (by omega)
        refine g_sub [0, 1, 2, 3, 4] rfl ?_
        exact lp13 _ 0 _ (show (0 : Int32).toInt = 0 by decide) y2_4 _ e2_4 (by omega) (by rcases i2 with e | ⟨e, h3⟩; exact Or.inl e; exact Or.inr ⟨e, h3, NSk_0⟩) (Nat.lt_succ_self _)
  refine g_sub [0, 1, 2, 3] rfl ?_
  exact lp4 _ 0 _ (show (0 : Int32).toInt = 0 by decide) 0 _ (show (0 : Int32).toInt = 0 by decide) (by omega) (Or.inr ⟨rfl, NSx_0⟩) (Nat.lt_succ_self _)
end
