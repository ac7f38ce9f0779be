section
set_option maxHeartbeats 4000000 in
set_option maxRecDepth 4000 in
theorem c_X5_isHalf (ad : Nat → Nat) (Mq : Mem) (x1 : Int32) {a1 : Int} (t1 : x1.toInt = a1) : Ctr ad yX5_isHalf cX5_isHalf 2 (some .boolean) 0 [.ref (ad 1), .int x1] Mq (fun v M' => ∃ (r : Int32) (a : Int), v = some (.int r) ∧ r.toInt = a ∧ ((a = 1 ∧ (0 ≤ a1 ∧ a1 < (Mq.1 1 3).toInt)) ∨ (a = 0 ∧ ¬ (0 ≤ a1 ∧ a1 < (Mq.1 1 3).toInt))) ∧ Mq = M') := by
  refine ctr_of (L := [(0, .ref (ad 1)), (1, .int x1)]) (by decide) (Nat.le_of_ble_eq_true rfl) rfl ?_
  intro Γ X
  have X : gX Γ cX5_isHalf RX5 2 (some .boolean) 0 ad _ := X
  refine g_iload_n X 1 rfl dX5_isHalf_0 ?_
  refine g_if_lt X t1 (tgt := 16) dX5_isHalf_1 (by decide) (fun cq1 => ?_) (fun cq1 => ?_)
  · refine g_iconst X 0 dX5_isHalf_16 (by decide) ?_
    exact g_zret X (b01 (show (0 : Int32).toInt = 0 by decide) (by omega)) dX5_isHalf_17 ⟨_, _, rfl, (show (0 : Int32).toInt = 0 by decide), (by omega), rfl⟩
  · refine g_iload_n X 1 rfl dX5_isHalf_4 ?_
    refine g_aload_n X 0 rfl dX5_isHalf_5 ?_
    refine g_geti X f_X5_21 dX5_isHalf_6 (x := Mq.1 1 3) rfl ?_
    refine g_icmp_ge X t1 rfl (tgt := 16) dX5_isHalf_9 (by decide) (fun cq2 => ?_) (fun cq2 => ?_)
    · refine g_iconst X 0 dX5_isHalf_16 (by decide) ?_
      exact g_zret X (b01 (show (0 : Int32).toInt = 0 by decide) (by omega)) dX5_isHalf_17 ⟨_, _, rfl, (show (0 : Int32).toInt = 0 by decide), (by omega), rfl⟩
    · refine g_iconst X 1 dX5_isHalf_12 (by decide) ?_
      refine g_goto X (tgt := 17) dX5_isHalf_13 (by decide) ?_
      exact g_zret X (b01 (show (1 : Int32).toInt = 1 by decide) (by omega)) dX5_isHalf_17 ⟨_, _, rfl, (show (1 : Int32).toInt = 1 by decide), (by omega), rfl⟩
set_option maxHeartbeats 4000000 in
set_option maxRecDepth 4000 in
theorem c_X5_isLine (ad : Nat → Nat) (Mq : Mem) (x1 : Int32) {a1 : Int} (t1 : x1.toInt = a1) : Ctr ad yX5_isLine cX5_isLine 2 (some .boolean) 0 [.ref (ad 1), .int x1] Mq (fun v M' => ∃ (r : Int32) (a : Int), v = some (.int r) ∧ r.toInt = a ∧ ((a = 1 ∧ (0 ≤ a1 ∧ a1 < (Mq.1 1 12).toInt)) ∨ (a = 0 ∧ ¬ (0 ≤ a1 ∧ a1 < (Mq.1 1 12).toInt))) ∧ Mq = M') := by
  refine ctr_of (L := [(0, .ref (ad 1)), (1, .int x1)]) (by decide) (Nat.le_of_ble_eq_true rfl) rfl ?_
  intro Γ X
  have X : gX Γ cX5_isLine RX5 2 (some .boolean) 0 ad _ := X
  refine g_iload_n X 1 rfl dX5_isLine_0 ?_
  refine g_if_lt X t1 (tgt := 16) dX5_isLine_1 (by decide) (fun cq1 => ?_) (fun cq1 => ?_)
  · refine g_iconst X 0 dX5_isLine_16 (by decide) ?_
    exact g_zret X (b01 (show (0 : Int32).toInt = 0 by decide) (by omega)) dX5_isLine_17 ⟨_, _, rfl, (show (0 : Int32).toInt = 0 by decide), (by omega), rfl⟩
  · refine g_iload_n X 1 rfl dX5_isLine_4 ?_
    refine g_aload_n X 0 rfl dX5_isLine_5 ?_
    refine g_geti X f_X5_51 dX5_isLine_6 (x := Mq.1 1 12) rfl ?_
    refine g_icmp_ge X t1 rfl (tgt := 16) dX5_isLine_9 (by decide) (fun cq2 => ?_) (fun cq2 => ?_)
    · refine g_iconst X 0 dX5_isLine_16 (by decide) ?_
      exact g_zret X (b01 (show (0 : Int32).toInt = 0 by decide) (by omega)) dX5_isLine_17 ⟨_, _, rfl, (show (0 : Int32).toInt = 0 by decide), (by omega), rfl⟩
    · refine g_iconst X 1 dX5_isLine_12 (by decide) ?_
      refine g_goto X (tgt := 17) dX5_isLine_13 (by decide) ?_
      exact g_zret X (b01 (show (1 : Int32).toInt = 1 by decide) (by omega)) dX5_isLine_17 ⟨_, _, rfl, (show (1 : Int32).toInt = 1 by decide), (by omega), rfl⟩
abbrev W_X5_addHalf : List (Nat × Nat) := [(1, 3), (2, 99), (3, 99), (4, 99)]
set_option maxHeartbeats 4000000 in
set_option maxRecDepth 4000 in
theorem c_X5_addHalf (ad : Nat → Nat) (Mq : Mem) (x1 : Int32) {a1 : Int} (t1 : x1.toInt = a1) (x2 : Int32) {a2 : Int} (t2 : x2.toInt = a2) (x3 : Int32) {a3 : Int} (t3 : x3.toInt = a3) (Iq0 : Iv TX Mq) (h1 : (Mq.1 1 3).toInt < 40) : Ctr ad yX5_addHalf cX5_addHalf 4 (some .int) 0 [.ref (ad 1), .int x1, .int x2, .int x3] Mq (fun v M' => ∃ (r : Int32) (a : Int), v = some (.int r) ∧ r.toInt = a ∧ (a = (Mq.1 1 3).toInt) ∧ ((M'.1 1 3).toInt = (Mq.1 1 3).toInt + 1) ∧ Iv TX M' ∧ Fr W_X5_addHalf Mq M') := by
  refine ctr_of (L := [(0, .ref (ad 1)), (1, .int x1), (2, .int x2), (3, .int x3)]) (by decide) (Nat.le_of_ble_eq_true rfl) rfl ?_
  intro Γ X
  have X : gX Γ cX5_addHalf RX5 4 (some .int) 0 ad _ := X
  have frq0 : Fr W_X5_addHalf Mq Mq := Fr.rf
  refine g_aload_n X 0 rfl dX5_addHalf_0 ?_
  refine g_getr X f_X5_9 dX5_addHalf_1 ?_
  refine g_aload_n X 0 rfl dX5_addHalf_4 ?_
  refine g_geti X f_X5_21 dX5_addHalf_5 (x := Mq.1 1 3) rfl ?_
  have bq1 := ig_1_3 Iq0
  refine g_iload_n X 1 rfl dX5_addHalf_8 ?_
  refine g_iast X la_2 rfl dX5_addHalf_9 (by omega) ?_
  have Iq2 : Iv TX (ui Mq 2 (((Mq.1 1 3).toInt).toNat) x1) := Iq0.otherA rfl
  have frq3 : Fr W_X5_addHalf Mq (ui Mq 2 (((Mq.1 1 3).toInt).toNat) x1) := frq0.ui rfl
  refine g_aload_n X 0 rfl dX5_addHalf_10 ?_
  refine g_getr X f_X5_15 dX5_addHalf_11 ?_
  refine g_aload_n X 0 rfl dX5_addHalf_14 ?_
  refine g_geti X f_X5_21 dX5_addHalf_15 (x := Mq.1 1 3) rfl ?_
  have bq4 := ig_1_3 Iq0
  refine g_iload_n X 2 rfl dX5_addHalf_18 ?_
  refine g_iast X la_3 rfl dX5_addHalf_19 (by omega) ?_
  have Iq5 : Iv TX (ui (ui Mq 2 (((Mq.1 1 3).toInt).toNat) x1) 3 (((Mq.1 1 3).toInt).toNat) x2) := Iq2.otherA rfl
  have frq6 : Fr W_X5_addHalf Mq (ui (ui Mq 2 (((Mq.1 1 3).toInt).toNat) x1) 3 (((Mq.1 1 3).toInt).toNat) x2) := frq3.ui rfl
  refine g_aload_n X 0 rfl dX5_addHalf_20 ?_
  refine g_getr X f_X5_18 dX5_addHalf_21 ?_
  refine g_aload_n X 0 rfl dX5_addHalf_24 ?_
  refine g_geti X f_X5_21 dX5_addHalf_25 (x := Mq.1 1 3) rfl ?_
  have bq7 := ig_1_3 Iq0
  refine g_iload_n X 3 rfl dX5_addHalf_28 ?_
  refine g_iast X la_4 rfl dX5_addHalf_29 (by omega) ?_
  have Iq8 : Iv TX (ui (ui (ui Mq 2 (((Mq.1 1 3).toInt).toNat) x1) 3 (((Mq.1 1 3).toInt).toNat) x2) 4 (((Mq.1 1 3).toInt).toNat) x3) := Iq5.otherA rfl
  have frq9 : Fr W_X5_addHalf Mq (ui (ui (ui Mq 2 (((Mq.1 1 3).toInt).toNat) x1) 3 (((Mq.1 1 3).toInt).toNat) x2) 4 (((Mq.1 1 3).toInt).toNat) x3) := frq6.ui rfl
  refine g_aload_n X 0 rfl dX5_addHalf_30 ?_
  refine g_dup X dX5_addHalf_31 rfl ?_
  refine g_geti X f_X5_21 dX5_addHalf_32 (x := Mq.1 1 3) rfl ?_
  have bq10 := ig_1_3 Iq0
  refine g_iconst X 1 dX5_addHalf_35 (by decide) ?_
  refine g_iadd X dX5_addHalf_36 (fun zq11 eq12 => ?_)
  have tq13 : zq11.toInt = ((Mq.1 1 3).toInt) + 1 := add_nw eq12 rfl (show (1 : Int32).toInt = 1 by decide) (by omega)
  refine g_puti X p_X5_21 dX5_addHalf_37 ?_
  have Iq14 : Iv TX (ui (ui (ui (ui Mq 2 (((Mq.1 1 3).toInt).toNat) x1) 3 (((Mq.1 1 3).toInt).toNat) x2) 4 (((Mq.1 1 3).toInt).toNat) x3) 1 3 zq11) := Iq8.put 0 40 tq13 (by omega) rfl
  have frq15 : Fr W_X5_addHalf Mq (ui (ui (ui (ui Mq 2 (((Mq.1 1 3).toInt).toNat) x1) 3 (((Mq.1 1 3).toInt).toNat) x2) 4 (((Mq.1 1 3).toInt).toNat) x3) 1 3 zq11) := frq9.ui rfl
  refine g_aload_n X 0 rfl dX5_addHalf_40 ?_
  refine g_geti X f_X5_21 dX5_addHalf_41 (x := zq11) rfl ?_
  refine g_iconst X 1 dX5_addHalf_44 (by decide) ?_
  refine g_isub X dX5_addHalf_45 (fun zq16 eq17 => ?_)
  have tq18 : zq16.toInt = (((Mq.1 1 3).toInt) + 1) - 1 := sub_nw eq17 tq13 (show (1 : Int32).toInt = 1 by decide) (by omega)
  exact g_iret X dX5_addHalf_46 ⟨_, _, rfl, tq18, (by omega), (by rw [ui_eq]; omega), Iq14, frq15⟩
abbrev W_X5_addLine : List (Nat × Nat) := [(1, 12), (1, 11), (7, 99), (8, 99), (9, 99), (10, 99), (11, 99)]
set_option maxHeartbeats 4000000 in
set_option maxRecDepth 4000 in
theorem c_X5_addLine (ad : Nat → Nat) (Mq : Mem) (x1 : Int32) {a1 : Int} (t1 : x1.toInt = a1) (x2 : Int32) {a2 : Int} (t2 : x2.toInt = a2) (x3 : Int32) {a3 : Int} (t3 : x3.toInt = a3) (x4 : Int32) {a4 : Int} (t4 : x4.toInt = a4) (x5 : Int32) {a5 : Int} (t5 : x5.toInt = a5) (Iq0 : Iv TX Mq) (h1 : (Mq.1 1 12).toInt < 40) (h2 : 0 ≤ a1 ∧ a1 < 40) (h3 : 0 ≤ a2 ∧ a2 < 40) (h4 : 0 ≤ a3 ∧ a3 < 8) (h5 : 0 ≤ a4 ∧ a4 ≤ 9) : Ctr ad yX5_addLine cX5_addLine 6 (some .int) 0 [.ref (ad 1), .int x1, .int x2, .int x3, .int x4, .int x5] Mq (fun v M' => ∃ (r : Int32) (a : Int), v = some (.int r) ∧ r.toInt = a ∧ (a = (Mq.1 1 12).toInt) ∧ ((M'.1 1 12).toInt = (Mq.1 1 12).toInt + 1) ∧ Iv TX M' ∧ Fr W_X5_addLine Mq M') := by
  refine ctr_of (L := [(0, .ref (ad 1)), (1, .int x1), (2, .int x2), (3, .int x3), (4, .int x4), (5, .int x5)]) (by decide) (Nat.le_of_ble_eq_true rfl) rfl ?_
  intro Γ X
  have X : gX Γ cX5_addLine RX5 6 (some .int) 0 ad _ := X
  have frq0 : Fr W_X5_addLine Mq Mq := Fr.rf
  refine g_aload_n X 0 rfl dX5_addLine_0 ?_
  refine g_getr X f_X5_31 dX5_addLine_1 ?_
  refine g_aload_n X 0 rfl dX5_addLine_4 ?_
  refine g_geti X f_X5_51 dX5_addLine_5 (x := Mq.1 1 12) rfl ?_
  have bq1 := ig_1_12 Iq0
  refine g_iload_n X 1 rfl dX5_addLine_8 ?_
  refine g_iast X la_7 rfl dX5_addLine_9 (by omega) ?_
  have Iq2 : Iv TX (ui Mq 7 (((Mq.1 1 12).toInt).toNat) x1) := Iq0.putA 0 39 t1 (by omega) rfl
  have frq3 : Fr W_X5_addLine Mq (ui Mq 7 (((Mq.1 1 12).toInt).toNat) x1) := frq0.ui rfl
  refine g_aload_n X 0 rfl dX5_addLine_10 ?_
  refine g_getr X f_X5_34 dX5_addLine_11 ?_
  refine g_aload_n X 0 rfl dX5_addLine_14 ?_
  refine g_geti X f_X5_51 dX5_addLine_15 (x := Mq.1 1 12) rfl ?_
  have bq4 := ig_1_12 Iq0
  refine g_iload_n X 2 rfl dX5_addLine_18 ?_
  refine g_iast X la_8 rfl dX5_addLine_19 (by omega) ?_
  have Iq5 : Iv TX (ui (ui Mq 7 (((Mq.1 1 12).toInt).toNat) x1) 8 (((Mq.1 1 12).toInt).toNat) x2) := Iq2.putA 0 39 t2 (by omega) rfl
  have frq6 : Fr W_X5_addLine Mq (ui (ui Mq 7 (((Mq.1 1 12).toInt).toNat) x1) 8 (((Mq.1 1 12).toInt).toNat) x2) := frq3.ui rfl
  refine g_aload_n X 0 rfl dX5_addLine_20 ?_
  refine g_getr X f_X5_37 dX5_addLine_21 ?_
  refine g_aload_n X 0 rfl dX5_addLine_24 ?_
  refine g_geti X f_X5_51 dX5_addLine_25 (x := Mq.1 1 12) rfl ?_
  have bq7 := ig_1_12 Iq0
  refine g_iload_n X 3 rfl dX5_addLine_28 ?_
  refine g_iast X la_9 rfl dX5_addLine_29 (by omega) ?_
  have Iq8 : Iv TX (ui (ui (ui Mq 7 (((Mq.1 1 12).toInt).toNat) x1) 8 (((Mq.1 1 12).toInt).toNat) x2) 9 (((Mq.1 1 12).toInt).toNat) x3) := Iq5.otherA rfl
  have frq9 : Fr W_X5_addLine Mq (ui (ui (ui Mq 7 (((Mq.1 1 12).toInt).toNat) x1) 8 (((Mq.1 1 12).toInt).toNat) x2) 9 (((Mq.1 1 12).toInt).toNat) x3) := frq6.ui rfl
  refine g_aload_n X 0 rfl dX5_addLine_30 ?_
  refine g_getr X f_X5_40 dX5_addLine_31 ?_
  refine g_aload_n X 0 rfl dX5_addLine_34 ?_
  refine g_geti X f_X5_51 dX5_addLine_35 (x := Mq.1 1 12) rfl ?_
  have bq10 := ig_1_12 Iq0
  refine g_iload X 4 rfl dX5_addLine_38 ?_
  refine g_iast X la_10 rfl dX5_addLine_40 (by omega) ?_
  have Iq11 : Iv TX (ui (ui (ui (ui Mq 7 (((Mq.1 1 12).toInt).toNat) x1) 8 (((Mq.1 1 12).toInt).toNat) x2) 9 (((Mq.1 1 12).toInt).toNat) x3) 10 (((Mq.1 1 12).toInt).toNat) x4) := Iq8.putA 0 9 t4 (by omega) rfl
  have frq12 : Fr W_X5_addLine Mq (ui (ui (ui (ui Mq 7 (((Mq.1 1 12).toInt).toNat) x1) 8 (((Mq.1 1 12).toInt).toNat) x2) 9 (((Mq.1 1 12).toInt).toNat) x3) 10 (((Mq.1 1 12).toInt).toNat) x4) := frq9.ui rfl
  refine g_aload_n X 0 rfl dX5_addLine_41 ?_
  refine g_getr X f_X5_43 dX5_addLine_42 ?_
  refine g_iload_n X 3 rfl dX5_addLine_45 ?_
  refine g_dup2 X dX5_addLine_46 rfl rfl ?_
  refine g_lald X la_11 t3 dX5_addLine_47 (by omega) (x := Mq.2 11 a3.toNat) rfl ?_
  refine g_lconst X 1 dX5_addLine_48 (by decide) ?_
  refine g_aload_n X 0 rfl dX5_addLine_49 ?_
  refine g_geti X f_X5_51 dX5_addLine_50 (x := Mq.1 1 12) rfl ?_
  have bq13 := ig_1_12 Iq0
  refine g_lshl X dX5_addLine_53 (fun zq14 eq15 => ?_)
  refine g_lor X dX5_addLine_54 (fun zq16 eq17 => ?_)
  refine g_last X la_11 t3 dX5_addLine_55 (by omega) ?_
  have Iq18 : Iv TX (ul (ui (ui (ui (ui Mq 7 (((Mq.1 1 12).toInt).toNat) x1) 8 (((Mq.1 1 12).toInt).toNat) x2) 9 (((Mq.1 1 12).toInt).toNat) x3) 10 (((Mq.1 1 12).toInt).toNat) x4) 11 a3.toNat zq16) := Iq11.long
  have frq19 : Fr W_X5_addLine Mq (ul (ui (ui (ui (ui Mq 7 (((Mq.1 1 12).toInt).toNat) x1) 8 (((Mq.1 1 12).toInt).toNat) x2) 9 (((Mq.1 1 12).toInt).toNat) x3) 10 (((Mq.1 1 12).toInt).toNat) x4) 11 a3.toNat zq16) := frq12.ul rfl
  refine g_aload_n X 0 rfl dX5_addLine_56 ?_
  refine g_dup X dX5_addLine_57 rfl ?_
  refine g_getl X f_X5_47 dX5_addLine_58 (x := Mq.2 1 11) rfl ?_
  refine g_iload X 5 rfl dX5_addLine_61 ?_
  refine g_i2l X dX5_addLine_63 (fun zq20 eq21 => ?_)
  have tq22 : zq20.toInt = a5 := i2l_nw eq21 t5
  refine g_aload_n X 0 rfl dX5_addLine_64 ?_
  refine g_geti X f_X5_51 dX5_addLine_65 (x := Mq.1 1 12) rfl ?_
  have bq23 := ig_1_12 Iq0
  refine g_lshl X dX5_addLine_68 (fun zq24 eq25 => ?_)
  refine g_lor X dX5_addLine_69 (fun zq26 eq27 => ?_)
  refine g_putl X p_X5_47 dX5_addLine_70 ?_
  have Iq28 : Iv TX (ul (ul (ui (ui (ui (ui Mq 7 (((Mq.1 1 12).toInt).toNat) x1) 8 (((Mq.1 1 12).toInt).toNat) x2) 9 (((Mq.1 1 12).toInt).toNat) x3) 10 (((Mq.1 1 12).toInt).toNat) x4) 11 a3.toNat zq16) 1 11 zq26) := Iq18.long
  have frq29 : Fr W_X5_addLine Mq (ul (ul (ui (ui (ui (ui Mq 7 (((Mq.1 1 12).toInt).toNat) x1) 8 (((Mq.1 1 12).toInt).toNat) x2) 9 (((Mq.1 1 12).toInt).toNat) x3) 10 (((Mq.1 1 12).toInt).toNat) x4) 11 a3.toNat zq16) 1 11 zq26) := frq19.ul rfl
  refine g_aload_n X 0 rfl dX5_addLine_73 ?_
  refine g_dup X dX5_addLine_74 rfl ?_
  refine g_geti X f_X5_51 dX5_addLine_75 (x := Mq.1 1 12) rfl ?_
  have bq30 := ig_1_12 Iq0
  refine g_iconst X 1 dX5_addLine_78 (by decide) ?_
  refine g_iadd X dX5_addLine_79 (fun zq31 eq32 => ?_)
  have tq33 : zq31.toInt = ((Mq.1 1 12).toInt) + 1 := add_nw eq32 rfl (show (1 : Int32).toInt = 1 by decide) (by omega)
  refine g_puti X p_X5_51 dX5_addLine_80 ?_
  have Iq34 : Iv TX (ui (ul (ul (ui (ui (ui (ui Mq 7 (((Mq.1 1 12).toInt).toNat) x1) 8 (((Mq.1 1 12).toInt).toNat) x2) 9 (((Mq.1 1 12).toInt).toNat) x3) 10 (((Mq.1 1 12).toInt).toNat) x4) 11 a3.toNat zq16) 1 11 zq26) 1 12 zq31) := Iq28.put 0 40 tq33 (by omega) rfl
  have frq35 : Fr W_X5_addLine Mq (ui (ul (ul (ui (ui (ui (ui Mq 7 (((Mq.1 1 12).toInt).toNat) x1) 8 (((Mq.1 1 12).toInt).toNat) x2) 9 (((Mq.1 1 12).toInt).toNat) x3) 10 (((Mq.1 1 12).toInt).toNat) x4) 11 a3.toNat zq16) 1 11 zq26) 1 12 zq31) := frq29.ui rfl
  refine g_aload_n X 0 rfl dX5_addLine_83 ?_
  refine g_geti X f_X5_51 dX5_addLine_84 (x := zq31) rfl ?_
  refine g_iconst X 1 dX5_addLine_87 (by decide) ?_
  refine g_isub X dX5_addLine_88 (fun zq36 eq37 => ?_)
  have tq38 : zq36.toInt = (((Mq.1 1 12).toInt) + 1) - 1 := sub_nw eq37 tq33 (show (1 : Int32).toInt = 1 by decide) (by omega)
  exact g_iret X dX5_addLine_89 ⟨_, _, rfl, tq38, (by omega), (by rw [ui_eq]; omega), Iq34, frq35⟩
set_option maxHeartbeats 4000000 in
set_option maxRecDepth 4000 in
theorem c_X5_sungBeats (ad : Nat → Nat) (Mq : Mem) (x1 : Int32) {a1 : Int} (t1 : x1.toInt = a1) (x2 : Int32) {a2 : Int} (t2 : x2.toInt = a2) (h1 : 0 ≤ a1 ∧ a1 < 40) (h2 : 0 ≤ a2 ∧ a2 ≤ 9) : Ctr ad yX5_sungBeats cX5_sungBeats 3 (some .int) 0 [.ref (ad 1), .int x1, .int x2] Mq (fun v M' => ∃ (r : Int32) (a : Int), v = some (.int r) ∧ r.toInt = a ∧ (True) ∧ Mq = M') := by
  refine ctr_of (L := [(0, .ref (ad 1)), (1, .int x1), (2, .int x2)]) (by decide) (Nat.le_of_ble_eq_true rfl) rfl ?_
  intro Γ X
  have X : gX Γ cX5_sungBeats RX5 3 (some .int) 0 ad _ := X
  refine g_aload_n X 0 rfl dX5_sungBeats_0 ?_
  refine g_getr X f_X5_18 dX5_sungBeats_1 ?_
  refine g_iload_n X 1 rfl dX5_sungBeats_4 ?_
  refine g_iald X la_4 t1 dX5_sungBeats_5 (by omega) (x := Mq.1 4 a1.toNat) rfl ?_
  refine g_if_ge X rfl (tgt := 18) dX5_sungBeats_6 (by decide) (fun cq1 => ?_) (fun cq1 => ?_)
  · refine g_aload_n X 0 rfl dX5_sungBeats_18 ?_
    refine g_getr X f_X5_9 dX5_sungBeats_19 ?_
    refine g_iload_n X 1 rfl dX5_sungBeats_22 ?_
    refine g_iald X la_2 t1 dX5_sungBeats_23 (by omega) (x := Mq.1 2 a1.toNat) rfl ?_
    refine g_aload_n X 0 rfl dX5_sungBeats_24 ?_
    refine g_getr X f_X5_25 dX5_sungBeats_25 ?_
    refine g_iload_n X 2 rfl dX5_sungBeats_28 ?_
    refine g_iald X la_5 t2 dX5_sungBeats_29 (by omega) (x := Mq.1 5 a2.toNat) rfl ?_
    refine g_iadd X dX5_sungBeats_30 (fun zq2 eq3 => ?_)
    exact g_iret X dX5_sungBeats_31 ⟨_, _, rfl, rfl, trivial, rfl⟩
  · refine g_aload_n X 0 rfl dX5_sungBeats_9 ?_
    refine g_getr X f_X5_9 dX5_sungBeats_10 ?_
    refine g_iload_n X 1 rfl dX5_sungBeats_13 ?_
    refine g_iald X la_2 t1 dX5_sungBeats_14 (by omega) (x := Mq.1 2 a1.toNat) rfl ?_
    refine g_goto X (tgt := 31) dX5_sungBeats_15 (by decide) ?_
    exact g_iret X dX5_sungBeats_31 ⟨_, _, rfl, rfl, trivial, rfl⟩
set_option maxHeartbeats 4000000 in
set_option maxRecDepth 4000 in
theorem c_X5_sungHeavy (ad : Nat → Nat) (Mq : Mem) (x1 : Int32) {a1 : Int} (t1 : x1.toInt = a1) (x2 : Int32) {a2 : Int} (t2 : x2.toInt = a2) (h1 : 0 ≤ a1 ∧ a1 < 40) (h2 : 0 ≤ a2 ∧ a2 ≤ 9) : Ctr ad yX5_sungHeavy cX5_sungHeavy 7 (some .int) 0 [.ref (ad 1), .int x1, .int x2] Mq (fun v M' => ∃ (r : Int32) (a : Int), v = some (.int r) ∧ r.toInt = a ∧ (True) ∧ Mq = M') := by
  refine ctr_of (L := [(0, .ref (ad 1)), (1, .int x1), (2, .int x2)]) (by decide) (Nat.le_of_ble_eq_true rfl) rfl ?_
  intro Γ X
  have X : gX Γ cX5_sungHeavy RX5 7 (some .int) 0 ad _ := X
  refine g_aload_n X 0 rfl dX5_sungHeavy_0 ?_
  refine g_getr X f_X5_18 dX5_sungHeavy_1 ?_
  refine g_iload_n X 1 rfl dX5_sungHeavy_4 ?_
  refine g_iald X la_4 t1 dX5_sungHeavy_5 (by omega) (x := Mq.1 4 a1.toNat) rfl ?_
  refine g_istore_n X (i := 3) [(3, .int (Mq.1 4 a1.toNat)), (0, .ref (ad 1)), (1, .int x1), (2, .int x2)] dX5_sungHeavy_6 rfl (by decide) rfl ?_
  refine g_aload_n X 1 rfl dX5_sungHeavy_7 ?_
  refine g_getr X f_X5_15 dX5_sungHeavy_8 ?_
  refine g_iload_n X 2 rfl dX5_sungHeavy_11 ?_
  refine g_iald X la_3 t1 dX5_sungHeavy_12 (by omega) (x := Mq.1 3 a1.toNat) rfl ?_
  refine g_istore X [(4, .int (Mq.1 3 a1.toNat)), (3, .int (Mq.1 4 a1.toNat)), (0, .ref (ad 1)), (1, .int x1), (2, .int x2)] dX5_sungHeavy_13 (by decide) rfl ?_
  refine g_iload_n X 1 rfl dX5_sungHeavy_15 ?_
  refine g_if_ge X rfl (tgt := 22) dX5_sungHeavy_16 (by decide) (fun cq1 => ?_) (fun cq1 => ?_)
  · refine g_iload X 0 rfl dX5_sungHeavy_22 ?_
    refine g_iconst X 1 dX5_sungHeavy_24 (by decide) ?_
    refine g_iload_n X 1 rfl dX5_sungHeavy_25 ?_
    refine g_ishl X dX5_sungHeavy_26 (fun zq2 eq3 => ?_)
    refine g_iconst X 1 dX5_sungHeavy_27 (by decide) ?_
    refine g_isub X dX5_sungHeavy_28 (fun zq5 eq6 => ?_)
    refine g_iand X dX5_sungHeavy_29 (fun zq8 eq9 => ?_)
    refine g_istore X [(5, .int zq8), (4, .int (Mq.1 3 a1.toNat)), (3, .int (Mq.1 4 a1.toNat)), (0, .ref (ad 1)), (1, .int x1), (2, .int x2)] dX5_sungHeavy_30 (by decide) rfl ?_
    refine g_iload X 1 rfl dX5_sungHeavy_32 ?_
    refine g_iload_n X 2 rfl dX5_sungHeavy_34 ?_
    refine g_ishr X dX5_sungHeavy_35 (fun zq11 eq12 => ?_)
    refine g_istore X [(6, .int zq11), (5, .int zq8), (4, .int (Mq.1 3 a1.toNat)), (3, .int (Mq.1 4 a1.toNat)), (0, .ref (ad 1)), (1, .int x1), (2, .int x2)] dX5_sungHeavy_36 (by decide) rfl ?_
    refine g_iload X 1 rfl dX5_sungHeavy_38 ?_
    refine g_aload_n X 4 rfl dX5_sungHeavy_40 ?_
    refine g_getr X f_X5_28 dX5_sungHeavy_41 ?_
    refine g_iload_n X 6 rfl dX5_sungHeavy_44 ?_
    refine g_iald X la_6 t2 dX5_sungHeavy_45 (by omega) (x := Mq.1 6 a2.toNat) rfl ?_
    refine g_iload_n X 3 rfl dX5_sungHeavy_46 ?_
    refine g_ishl X dX5_sungHeavy_47 (fun zq14 eq15 => ?_)
    refine g_ior X dX5_sungHeavy_48 (fun zq17 eq18 => ?_)
    refine g_iload X 0 rfl dX5_sungHeavy_49 ?_
    refine g_iload_n X 3 rfl dX5_sungHeavy_51 ?_
    refine g_aload_n X 4 rfl dX5_sungHeavy_52 ?_
    refine g_getr X f_X5_25 dX5_sungHeavy_53 ?_
    refine g_iload_n X 6 rfl dX5_sungHeavy_56 ?_
    refine g_iald X la_5 t2 dX5_sungHeavy_57 (by omega) (x := Mq.1 5 a2.toNat) rfl ?_
    refine g_iadd X dX5_sungHeavy_58 (fun zq20 eq21 => ?_)
    refine g_ishl X dX5_sungHeavy_59 (fun zq23 eq24 => ?_)
    refine g_ior X dX5_sungHeavy_60 (fun zq26 eq27 => ?_)
    exact g_iret X dX5_sungHeavy_61 ⟨_, _, rfl, rfl, trivial, rfl⟩
  · refine g_iload X 0 rfl dX5_sungHeavy_19 ?_
    exact g_iret X dX5_sungHeavy_21 ⟨_, _, rfl, rfl, trivial, rfl⟩
set_option maxHeartbeats 4000000 in
set_option maxRecDepth 4000 in
theorem c_X5_lineBeats (ad : Nat → Nat) (Mq : Mem) (x1 : Int32) {a1 : Int} (t1 : x1.toInt = a1) (Iq0 : Iv TX Mq) (h1 : 0 ≤ a1 ∧ a1 < 40) : Ctr ad yX5_lineBeats cX5_lineBeats 3 (some .int) 1 [.ref (ad 1), .int x1] Mq (fun v M' => ∃ (r : Int32) (a : Int), v = some (.int r) ∧ r.toInt = a ∧ (True) ∧ Mq = M') := by
  refine ctr_of (L := [(0, .ref (ad 1)), (1, .int x1)]) (by decide) (Nat.le_of_ble_eq_true rfl) rfl ?_
  intro Γ X
  have X : gX Γ cX5_lineBeats RX5 3 (some .int) 1 ad _ := X
  refine g_aload_n X 0 rfl dX5_lineBeats_0 ?_
  refine g_getr X f_X5_40 dX5_lineBeats_1 ?_
  refine g_iload_n X 1 rfl dX5_lineBeats_4 ?_
  refine g_iald X la_10 t1 dX5_lineBeats_5 (by omega) (x := Mq.1 10 a1.toNat) rfl ?_
  have bq1 := ig_10 Iq0 a1.toNat (by omega)
  refine g_istore_n X (i := 2) [(2, .int (Mq.1 10 a1.toNat)), (0, .ref (ad 1)), (1, .int x1)] dX5_lineBeats_6 rfl (by decide) rfl ?_
  refine g_aload_n X 1 rfl dX5_lineBeats_7 ?_
  refine g_aload_n X 1 rfl dX5_lineBeats_8 ?_
  refine g_getr X f_X5_31 dX5_lineBeats_9 ?_
  refine g_iload_n X 2 rfl dX5_lineBeats_12 ?_
  refine g_iald X la_7 t1 dX5_lineBeats_13 (by omega) (x := Mq.1 7 a1.toNat) rfl ?_
  have bq2 := ig_7 Iq0 a1.toNat (by omega)
  refine g_iload_n X 0 rfl dX5_lineBeats_14 ?_
  refine g_callV X m_X5_69 (c_X5_sungBeats ad Mq (Mq.1 7 a1.toNat) rfl (Mq.1 10 a1.toNat) rfl (by omega) (by omega)) rfl (by decide) (Nat.le_of_ble_eq_true rfl) rfl dX5_lineBeats_15 ?_
  rintro _ _ ⟨rq3, aq4, rfl, tq5, hq6, rfl⟩
  show G Γ Mq 18 [(2, .int (Mq.1 10 a1.toNat)), (0, .ref (ad 1)), (1, .int x1)] [.int rq3]
  refine g_aload_n X 1 rfl dX5_lineBeats_18 ?_
  refine g_aload_n X 1 rfl dX5_lineBeats_19 ?_
  refine g_getr X f_X5_34 dX5_lineBeats_20 ?_
  refine g_iload_n X 2 rfl dX5_lineBeats_23 ?_
  refine g_iald X la_8 t1 dX5_lineBeats_24 (by omega) (x := Mq.1 8 a1.toNat) rfl ?_
  have bq7 := ig_8 Iq0 a1.toNat (by omega)
  refine g_iload_n X 0 rfl dX5_lineBeats_25 ?_
  refine g_callV X m_X5_69 (c_X5_sungBeats ad Mq (Mq.1 8 a1.toNat) rfl (Mq.1 10 a1.toNat) rfl (by omega) (by omega)) rfl (by decide) (Nat.le_of_ble_eq_true rfl) rfl dX5_lineBeats_26 ?_
  rintro _ _ ⟨rq8, aq9, rfl, tq10, hq11, rfl⟩
  show G Γ Mq 29 [(2, .int (Mq.1 10 a1.toNat)), (0, .ref (ad 1)), (1, .int x1)] [.int rq8, .int rq3]
  refine g_iadd X dX5_lineBeats_29 (fun zq12 eq13 => ?_)
  exact g_iret X dX5_lineBeats_30 ⟨_, _, rfl, rfl, trivial, rfl⟩
set_option maxHeartbeats 4000000 in
set_option maxRecDepth 4000 in
theorem c_X5_lineHeavy (ad : Nat → Nat) (Mq : Mem) (x1 : Int32) {a1 : Int} (t1 : x1.toInt = a1) (Iq0 : Iv TX Mq) (h1 : 0 ≤ a1 ∧ a1 < 40) : Ctr ad yX5_lineHeavy cX5_lineHeavy 4 (some .int) 1 [.ref (ad 1), .int x1] Mq (fun v M' => ∃ (r : Int32) (a : Int), v = some (.int r) ∧ r.toInt = a ∧ (True) ∧ Mq = M') := by
  refine ctr_of (L := [(0, .ref (ad 1)), (1, .int x1)]) (by decide) (Nat.le_of_ble_eq_true rfl) rfl ?_
  intro Γ X
  have X : gX Γ cX5_lineHeavy RX5 4 (some .int) 1 ad _ := X
  refine g_aload_n X 0 rfl dX5_lineHeavy_0 ?_
  refine g_getr X f_X5_40 dX5_lineHeavy_1 ?_
  refine g_iload_n X 1 rfl dX5_lineHeavy_4 ?_
  refine g_iald X la_10 t1 dX5_lineHeavy_5 (by omega) (x := Mq.1 10 a1.toNat) rfl ?_
  have bq1 := ig_10 Iq0 a1.toNat (by omega)
  refine g_istore_n X (i := 2) [(2, .int (Mq.1 10 a1.toNat)), (0, .ref (ad 1)), (1, .int x1)] dX5_lineHeavy_6 rfl (by decide) rfl ?_
  refine g_aload_n X 1 rfl dX5_lineHeavy_7 ?_
  refine g_aload_n X 1 rfl dX5_lineHeavy_8 ?_
  refine g_getr X f_X5_31 dX5_lineHeavy_9 ?_
  refine g_iload_n X 2 rfl dX5_lineHeavy_12 ?_
  refine g_iald X la_7 t1 dX5_lineHeavy_13 (by omega) (x := Mq.1 7 a1.toNat) rfl ?_
  have bq2 := ig_7 Iq0 a1.toNat (by omega)
  refine g_iload_n X 0 rfl dX5_lineHeavy_14 ?_
  refine g_callV X m_X5_69 (c_X5_sungBeats ad Mq (Mq.1 7 a1.toNat) rfl (Mq.1 10 a1.toNat) rfl (by omega) (by omega)) rfl (by decide) (Nat.le_of_ble_eq_true rfl) rfl dX5_lineHeavy_15 ?_
  rintro _ _ ⟨rq3, aq4, rfl, tq5, hq6, rfl⟩
  show G Γ Mq 18 [(2, .int (Mq.1 10 a1.toNat)), (0, .ref (ad 1)), (1, .int x1)] [.int rq3]
  refine g_istore_n X (i := 3) [(3, .int rq3), (2, .int (Mq.1 10 a1.toNat)), (0, .ref (ad 1)), (1, .int x1)] dX5_lineHeavy_18 rfl (by decide) rfl ?_
  refine g_aload_n X 2 rfl dX5_lineHeavy_19 ?_
  refine g_aload_n X 2 rfl dX5_lineHeavy_20 ?_
  refine g_getr X f_X5_31 dX5_lineHeavy_21 ?_
  refine g_iload_n X 3 rfl dX5_lineHeavy_24 ?_
  refine g_iald X la_7 t1 dX5_lineHeavy_25 (by omega) (x := Mq.1 7 a1.toNat) rfl ?_
  have bq7 := ig_7 Iq0 a1.toNat (by omega)
  refine g_iload_n X 1 rfl dX5_lineHeavy_26 ?_
  refine g_callV X m_X5_73 (c_X5_sungHeavy ad Mq (Mq.1 7 a1.toNat) rfl (Mq.1 10 a1.toNat) rfl (by omega) (by omega)) rfl (by decide) (Nat.le_of_ble_eq_true rfl) rfl dX5_lineHeavy_27 ?_
  rintro _ _ ⟨rq8, aq9, rfl, tq10, hq11, rfl⟩
  show G Γ Mq 30 [(3, .int rq3), (2, .int (Mq.1 10 a1.toNat)), (0, .ref (ad 1)), (1, .int x1)] [.int rq8]
  refine g_aload_n X 2 rfl dX5_lineHeavy_30 ?_
  refine g_aload_n X 2 rfl dX5_lineHeavy_31 ?_
  refine g_getr X f_X5_34 dX5_lineHeavy_32 ?_
  refine g_iload_n X 3 rfl dX5_lineHeavy_35 ?_
  refine g_iald X la_8 t1 dX5_lineHeavy_36 (by omega) (x := Mq.1 8 a1.toNat) rfl ?_
  have bq12 := ig_8 Iq0 a1.toNat (by omega)
  refine g_iload_n X 1 rfl dX5_lineHeavy_37 ?_
  refine g_callV X m_X5_73 (c_X5_sungHeavy ad Mq (Mq.1 8 a1.toNat) rfl (Mq.1 10 a1.toNat) rfl (by omega) (by omega)) rfl (by decide) (Nat.le_of_ble_eq_true rfl) rfl dX5_lineHeavy_38 ?_
  rintro _ _ ⟨rq13, aq14, rfl, tq15, hq16, rfl⟩
  show G Γ Mq 41 [(3, .int rq3), (2, .int (Mq.1 10 a1.toNat)), (0, .ref (ad 1)), (1, .int x1)] [.int rq13, .int rq8]
  refine g_iload_n X 0 rfl dX5_lineHeavy_41 ?_
  refine g_ishl X dX5_lineHeavy_42 (fun zq17 eq18 => ?_)
  refine g_ior X dX5_lineHeavy_43 (fun zq20 eq21 => ?_)
  exact g_iret X dX5_lineHeavy_44 ⟨_, _, rfl, rfl, trivial, rfl⟩
set_option maxHeartbeats 4000000 in
set_option maxRecDepth 4000 in
theorem c_X5_fitsFirst (ad : Nat → Nat) (Mq : Mem) (x1 : Int32) {a1 : Int} (t1 : x1.toInt = a1) (x2 : Int32) {a2 : Int} (t2 : x2.toInt = a2) (h1 : 0 ≤ a1 ∧ a1 < 40) (h2 : 0 ≤ a2 ∧ a2 ≤ 9) : Ctr ad yX5_fitsFirst cX5_fitsFirst 4 (some .boolean) 1 [.ref (ad 1), .int x1, .int x2] Mq (fun v M' => ∃ (r : Int32) (a : Int), v = some (.int r) ∧ r.toInt = a ∧ (a = 0 ∨ a = 1) ∧ Mq = M') := by
  refine ctr_of (L := [(0, .ref (ad 1)), (1, .int x1), (2, .int x2)]) (by decide) (Nat.le_of_ble_eq_true rfl) rfl ?_
  intro Γ X
  have X : gX Γ cX5_fitsFirst RX5 4 (some .boolean) 1 ad _ := X
  refine g_aload_n X 0 rfl dX5_fitsFirst_0 ?_
  refine g_getr X f_X5_54 dX5_fitsFirst_1 ?_
  refine g_iconst X 2 dX5_fitsFirst_4 (by decide) ?_
  refine g_iald X la_12 (show (2 : Int32).toInt = 2 by decide) dX5_fitsFirst_5 (by omega) (x := Mq.1 12 2) rfl ?_
  refine g_iconst X 1 dX5_fitsFirst_6 (by decide) ?_
  refine g_aload_n X 0 rfl dX5_fitsFirst_7 ?_
  refine g_getr X f_X5_54 dX5_fitsFirst_8 ?_
  refine g_iconst X 0 dX5_fitsFirst_11 (by decide) ?_
  refine g_iald X la_12 (show (0 : Int32).toInt = 0 by decide) dX5_fitsFirst_12 (by omega) (x := Mq.1 12 0) rfl ?_
  refine g_ishl X dX5_fitsFirst_13 (fun zq1 eq2 => ?_)
  refine g_iconst X 1 dX5_fitsFirst_14 (by decide) ?_
  refine g_isub X dX5_fitsFirst_15 (fun zq4 eq5 => ?_)
  refine g_iand X dX5_fitsFirst_16 (fun zq7 eq8 => ?_)
  refine g_istore_n X (i := 3) [(3, .int zq7), (0, .ref (ad 1)), (1, .int x1), (2, .int x2)] dX5_fitsFirst_17 rfl (by decide) rfl ?_
  refine g_aload_n X 1 rfl dX5_fitsFirst_18 ?_
  refine g_iload_n X 2 rfl dX5_fitsFirst_19 ?_
  refine g_iload_n X 3 rfl dX5_fitsFirst_20 ?_
  refine g_callV X m_X5_69 (c_X5_sungBeats ad Mq x1 t1 x2 t2 (by omega) (by omega)) rfl (by decide) (Nat.le_of_ble_eq_true rfl) rfl dX5_fitsFirst_21 ?_
  rintro _ _ ⟨rq10, aq11, rfl, tq12, hq13, rfl⟩
  show G Γ Mq 24 [(3, .int zq7), (0, .ref (ad 1)), (1, .int x1), (2, .int x2)] [.int rq10]
  refine g_aload_n X 1 rfl dX5_fitsFirst_24 ?_
  refine g_getr X f_X5_54 dX5_fitsFirst_25 ?_
  refine g_iconst X 0 dX5_fitsFirst_28 (by decide) ?_
  refine g_iald X la_12 (show (0 : Int32).toInt = 0 by decide) dX5_fitsFirst_29 (by omega) (x := Mq.1 12 0) rfl ?_
  refine g_icmp_ne X tq12 rfl (tgt := 50) dX5_fitsFirst_30 (by decide) (fun cq14 => ?_) (fun cq14 => ?_)
  · refine g_iconst X 0 dX5_fitsFirst_50 (by decide) ?_
    exact g_zret X (b01 (show (0 : Int32).toInt = 0 by decide) (by omega)) dX5_fitsFirst_51 ⟨_, _, rfl, (show (0 : Int32).toInt = 0 by decide), (by omega), rfl⟩
  · refine g_iload_n X 0 rfl dX5_fitsFirst_33 ?_
    refine g_aload_n X 1 rfl dX5_fitsFirst_34 ?_
    refine g_iload_n X 2 rfl dX5_fitsFirst_35 ?_
    refine g_iload_n X 3 rfl dX5_fitsFirst_36 ?_
    refine g_callV X m_X5_73 (c_X5_sungHeavy ad Mq x1 t1 x2 t2 (by omega) (by omega)) rfl (by decide) (Nat.le_of_ble_eq_true rfl) rfl dX5_fitsFirst_37 ?_
    rintro _ _ ⟨rq15, aq16, rfl, tq17, hq18, rfl⟩
    show G Γ Mq 40 [(3, .int zq7), (0, .ref (ad 1)), (1, .int x1), (2, .int x2)] [.int rq15, .int zq7]
    refine g_iconst X (-1) dX5_fitsFirst_40 (by decide) ?_
    refine g_ixor X dX5_fitsFirst_41 (fun zq19 eq20 => ?_)
    refine g_iand X dX5_fitsFirst_42 (fun zq22 eq23 => ?_)
    refine g_if_ne X rfl (tgt := 50) dX5_fitsFirst_43 (by decide) (fun cq25 => ?_) (fun cq25 => ?_)
    · refine g_iconst X 0 dX5_fitsFirst_50 (by decide) ?_
      exact g_zret X (b01 (show (0 : Int32).toInt = 0 by decide) (by omega)) dX5_fitsFirst_51 ⟨_, _, rfl, (show (0 : Int32).toInt = 0 by decide), (by omega), rfl⟩
    · refine g_iconst X 1 dX5_fitsFirst_46 (by decide) ?_
      refine g_goto X (tgt := 51) dX5_fitsFirst_47 (by decide) ?_
      exact g_zret X (b01 (show (1 : Int32).toInt = 1 by decide) (by omega)) dX5_fitsFirst_51 ⟨_, _, rfl, (show (1 : Int32).toInt = 1 by decide), (by omega), rfl⟩
set_option maxHeartbeats 4000000 in
set_option maxRecDepth 4000 in
theorem c_X5_fitsSecond (ad : Nat → Nat) (Mq : Mem) (x1 : Int32) {a1 : Int} (t1 : x1.toInt = a1) (x2 : Int32) {a2 : Int} (t2 : x2.toInt = a2) (h1 : 0 ≤ a1 ∧ a1 < 40) (h2 : 0 ≤ a2 ∧ a2 ≤ 9) : Ctr ad yX5_fitsSecond cX5_fitsSecond 4 (some .boolean) 1 [.ref (ad 1), .int x1, .int x2] Mq (fun v M' => ∃ (r : Int32) (a : Int), v = some (.int r) ∧ r.toInt = a ∧ (a = 0 ∨ a = 1) ∧ Mq = M') := by
  refine ctr_of (L := [(0, .ref (ad 1)), (1, .int x1), (2, .int x2)]) (by decide) (Nat.le_of_ble_eq_true rfl) rfl ?_
  intro Γ X
  have X : gX Γ cX5_fitsSecond RX5 4 (some .boolean) 1 ad _ := X
  refine g_aload_n X 0 rfl dX5_fitsSecond_0 ?_
  refine g_getr X f_X5_54 dX5_fitsSecond_1 ?_
  refine g_iconst X 2 dX5_fitsSecond_4 (by decide) ?_
  refine g_iald X la_12 (show (2 : Int32).toInt = 2 by decide) dX5_fitsSecond_5 (by omega) (x := Mq.1 12 2) rfl ?_
  refine g_aload_n X 0 rfl dX5_fitsSecond_6 ?_
  refine g_getr X f_X5_54 dX5_fitsSecond_7 ?_
  refine g_iconst X 0 dX5_fitsSecond_10 (by decide) ?_
  refine g_iald X la_12 (show (0 : Int32).toInt = 0 by decide) dX5_fitsSecond_11 (by omega) (x := Mq.1 12 0) rfl ?_
  refine g_ishr X dX5_fitsSecond_12 (fun zq1 eq2 => ?_)
  refine g_istore_n X (i := 3) [(3, .int zq1), (0, .ref (ad 1)), (1, .int x1), (2, .int x2)] dX5_fitsSecond_13 rfl (by decide) rfl ?_
  refine g_aload_n X 1 rfl dX5_fitsSecond_14 ?_
  refine g_iload_n X 2 rfl dX5_fitsSecond_15 ?_
  refine g_iload_n X 3 rfl dX5_fitsSecond_16 ?_
  refine g_callV X m_X5_69 (c_X5_sungBeats ad Mq x1 t1 x2 t2 (by omega) (by omega)) rfl (by decide) (Nat.le_of_ble_eq_true rfl) rfl dX5_fitsSecond_17 ?_
  rintro _ _ ⟨rq4, aq5, rfl, tq6, hq7, rfl⟩
  show G Γ Mq 20 [(3, .int zq1), (0, .ref (ad 1)), (1, .int x1), (2, .int x2)] [.int rq4]
  refine g_aload_n X 1 rfl dX5_fitsSecond_20 ?_
  refine g_getr X f_X5_54 dX5_fitsSecond_21 ?_
  refine g_iconst X 1 dX5_fitsSecond_24 (by decide) ?_
  refine g_iald X la_12 (show (1 : Int32).toInt = 1 by decide) dX5_fitsSecond_25 (by omega) (x := Mq.1 12 1) rfl ?_
  refine g_icmp_ne X tq6 rfl (tgt := 46) dX5_fitsSecond_26 (by decide) (fun cq8 => ?_) (fun cq8 => ?_)
  · refine g_iconst X 0 dX5_fitsSecond_46 (by decide) ?_
    exact g_zret X (b01 (show (0 : Int32).toInt = 0 by decide) (by omega)) dX5_fitsSecond_47 ⟨_, _, rfl, (show (0 : Int32).toInt = 0 by decide), (by omega), rfl⟩
  · refine g_iload_n X 0 rfl dX5_fitsSecond_29 ?_
    refine g_aload_n X 1 rfl dX5_fitsSecond_30 ?_
    refine g_iload_n X 2 rfl dX5_fitsSecond_31 ?_
    refine g_iload_n X 3 rfl dX5_fitsSecond_32 ?_
    refine g_callV X m_X5_73 (c_X5_sungHeavy ad Mq x1 t1 x2 t2 (by omega) (by omega)) rfl (by decide) (Nat.le_of_ble_eq_true rfl) rfl dX5_fitsSecond_33 ?_
    rintro _ _ ⟨rq9, aq10, rfl, tq11, hq12, rfl⟩
    show G Γ Mq 36 [(3, .int zq1), (0, .ref (ad 1)), (1, .int x1), (2, .int x2)] [.int rq9, .int zq1]
    refine g_iconst X (-1) dX5_fitsSecond_36 (by decide) ?_
    refine g_ixor X dX5_fitsSecond_37 (fun zq13 eq14 => ?_)
    refine g_iand X dX5_fitsSecond_38 (fun zq16 eq17 => ?_)
    refine g_if_ne X rfl (tgt := 46) dX5_fitsSecond_39 (by decide) (fun cq19 => ?_) (fun cq19 => ?_)
    · refine g_iconst X 0 dX5_fitsSecond_46 (by decide) ?_
      exact g_zret X (b01 (show (0 : Int32).toInt = 0 by decide) (by omega)) dX5_fitsSecond_47 ⟨_, _, rfl, (show (0 : Int32).toInt = 0 by decide), (by omega), rfl⟩
    · refine g_iconst X 1 dX5_fitsSecond_42 (by decide) ?_
      refine g_goto X (tgt := 47) dX5_fitsSecond_43 (by decide) ?_
      exact g_zret X (b01 (show (1 : Int32).toInt = 1 by decide) (by omega)) dX5_fitsSecond_47 ⟨_, _, rfl, (show (1 : Int32).toInt = 1 by decide), (by omega), rfl⟩
set_option maxHeartbeats 4000000 in
set_option maxRecDepth 4000 in
theorem c_X5_scans (ad : Nat → Nat) (Mq : Mem) (x1 : Int32) {a1 : Int} (t1 : x1.toInt = a1) (Iq0 : Iv TX Mq) (h1 : 0 ≤ a1 ∧ a1 < 40) : Ctr ad yX5_scans cX5_scans 3 (some .boolean) 2 [.ref (ad 1), .int x1] Mq (fun v M' => ∃ (r : Int32) (a : Int), v = some (.int r) ∧ r.toInt = a ∧ (a = 0 ∨ a = 1) ∧ Mq = M') := by
  refine ctr_of (L := [(0, .ref (ad 1)), (1, .int x1)]) (by decide) (Nat.le_of_ble_eq_true rfl) rfl ?_
  intro Γ X
  have X : gX Γ cX5_scans RX5 3 (some .boolean) 2 ad _ := X
  refine g_aload_n X 0 rfl dX5_scans_0 ?_
  refine g_getr X f_X5_40 dX5_scans_1 ?_
  refine g_iload_n X 1 rfl dX5_scans_4 ?_
  refine g_iald X la_10 t1 dX5_scans_5 (by omega) (x := Mq.1 10 a1.toNat) rfl ?_
  have bq1 := ig_10 Iq0 a1.toNat (by omega)
  refine g_istore_n X (i := 2) [(2, .int (Mq.1 10 a1.toNat)), (0, .ref (ad 1)), (1, .int x1)] dX5_scans_6 rfl (by decide) rfl ?_
  refine g_aload_n X 1 rfl dX5_scans_7 ?_
  refine g_aload_n X 1 rfl dX5_scans_8 ?_
  refine g_getr X f_X5_31 dX5_scans_9 ?_
  refine g_iload_n X 2 rfl dX5_scans_12 ?_
  refine g_iald X la_7 t1 dX5_scans_13 (by omega) (x := Mq.1 7 a1.toNat) rfl ?_
  have bq2 := ig_7 Iq0 a1.toNat (by omega)
  refine g_iload_n X 0 rfl dX5_scans_14 ?_
  refine g_callV X m_X5_76 (c_X5_fitsFirst ad Mq (Mq.1 7 a1.toNat) rfl (Mq.1 10 a1.toNat) rfl (by omega) (by omega)) rfl (by decide) (Nat.le_of_ble_eq_true rfl) rfl dX5_scans_15 ?_
  rintro _ _ ⟨rq3, aq4, rfl, tq5, hq6, rfl⟩
  show G Γ Mq 18 [(2, .int (Mq.1 10 a1.toNat)), (0, .ref (ad 1)), (1, .int x1)] [.int rq3]
  refine g_if_eq X tq5 (tgt := 39) dX5_scans_18 (by decide) (fun cq7 => ?_) (fun cq7 => ?_)
  · refine g_iconst X 0 dX5_scans_39 (by decide) ?_
    exact g_zret X (b01 (show (0 : Int32).toInt = 0 by decide) (by omega)) dX5_scans_40 ⟨_, _, rfl, (show (0 : Int32).toInt = 0 by decide), (by omega), rfl⟩
  · refine g_aload_n X 1 rfl dX5_scans_21 ?_
    refine g_aload_n X 1 rfl dX5_scans_22 ?_
    refine g_getr X f_X5_34 dX5_scans_23 ?_
    refine g_iload_n X 2 rfl dX5_scans_26 ?_
    refine g_iald X la_8 t1 dX5_scans_27 (by omega) (x := Mq.1 8 a1.toNat) rfl ?_
    have bq8 := ig_8 Iq0 a1.toNat (by omega)
    refine g_iload_n X 0 rfl dX5_scans_28 ?_
    refine g_callV X m_X5_80 (c_X5_fitsSecond ad Mq (Mq.1 8 a1.toNat) rfl (Mq.1 10 a1.toNat) rfl (by omega) (by omega)) rfl (by decide) (Nat.le_of_ble_eq_true rfl) rfl dX5_scans_29 ?_
    rintro _ _ ⟨rq9, aq10, rfl, tq11, hq12, rfl⟩
    show G Γ Mq 32 [(2, .int (Mq.1 10 a1.toNat)), (0, .ref (ad 1)), (1, .int x1)] [.int rq9]
    refine g_if_eq X tq11 (tgt := 39) dX5_scans_32 (by decide) (fun cq13 => ?_) (fun cq13 => ?_)
    · refine g_iconst X 0 dX5_scans_39 (by decide) ?_
      exact g_zret X (b01 (show (0 : Int32).toInt = 0 by decide) (by omega)) dX5_scans_40 ⟨_, _, rfl, (show (0 : Int32).toInt = 0 by decide), (by omega), rfl⟩
    · refine g_iconst X 1 dX5_scans_35 (by decide) ?_
      refine g_goto X (tgt := 40) dX5_scans_36 (by decide) ?_
      exact g_zret X (b01 (show (1 : Int32).toInt = 1 by decide) (by omega)) dX5_scans_40 ⟨_, _, rfl, (show (1 : Int32).toInt = 1 by decide), (by omega), rfl⟩
set_option maxHeartbeats 4000000 in
set_option maxRecDepth 4000 in
theorem c_X5_scanning (ad : Nat → Nat) (Mq : Mem) (Iq0 : Iv TX Mq) : Ctr ad yX5_scanning cX5_scanning 3 (some .int) 3 [.ref (ad 1)] Mq (fun v M' => ∃ (r : Int32) (a : Int), v = some (.int r) ∧ r.toInt = a ∧ (True) ∧ Mq = M') := by
  refine ctr_of (L := [(0, .ref (ad 1))]) (by decide) (Nat.le_of_ble_eq_true rfl) rfl ?_
  intro Γ X
  have X : gX Γ cX5_scanning RX5 3 (some .int) 3 ad _ := X
  refine g_iconst X 0 dX5_scanning_0 (by decide) ?_
  refine g_istore_n X (i := 1) [(1, .int 0), (0, .ref (ad 1))] dX5_scanning_1 rfl (by decide) rfl ?_
  refine g_iconst X 0 dX5_scanning_2 (by decide) ?_
  refine g_istore_n X (i := 2) [(2, .int 0), (1, .int 0), (0, .ref (ad 1))] dX5_scanning_3 rfl (by decide) rfl ?_
  have lp4 : ∀ n : Nat, ∀ (y2_4 : Int32) (b2_4 : Int), y2_4.toInt = b2_4 → ∀ (y1_4 : Int32) (b1_4 : Int), y1_4.toInt = b1_4 → (0 ≤ b2_4) → ((Mq.1 1 12).toInt - b2_4).toNat < n → G Γ Mq 4 [(2, .int y2_4), (1, .int y1_4), (0, .ref (ad 1))] [] := by
    intro n
    induction n with
    | zero => intro y2_4 b2_4 e2_4 y1_4 b1_4 e1_4 i1 hm; exact absurd hm (Nat.not_lt_zero _)
    | succ n ih4 =>
      intro y2_4 b2_4 e2_4 y1_4 b1_4 e1_4 i1 hm4
      refine g_iload_n X 0 rfl dX5_scanning_4 ?_
      refine g_aload_n X 2 rfl dX5_scanning_5 ?_
      refine g_geti X f_X5_51 dX5_scanning_6 (x := Mq.1 1 12) rfl ?_
      have bq1 := ig_1_12 Iq0
      refine g_icmp_ge X e2_4 rfl (tgt := 29) dX5_scanning_9 (by decide) (fun cq2 => ?_) (fun cq2 => ?_)
      · refine g_iload_n X 1 rfl dX5_scanning_29 ?_
        exact g_iret X dX5_scanning_30 ⟨_, _, rfl, e1_4, trivial, rfl⟩
      · refine g_aload_n X 2 rfl dX5_scanning_12 ?_
        refine g_iload_n X 0 rfl dX5_scanning_13 ?_
        refine g_callV X m_X5_83 (c_X5_scans ad Mq y2_4 e2_4 Iq0 (by omega)) rfl (by decide) (Nat.le_of_ble_eq_true rfl) rfl dX5_scanning_14 ?_
        rintro _ _ ⟨rq3, aq4, rfl, tq5, hq6, rfl⟩
        show G Γ Mq 17 [(2, .int y2_4), (1, .int y1_4), (0, .ref (ad 1))] [.int rq3]
        refine g_if_eq X tq5 (tgt := 23) dX5_scanning_17 (by decide) (fun cq7 => ?_) (fun cq7 => ?_)
        · refine g_iinc X 0 (fun v => [(2, .int v), (1, .int y1_4), (0, .ref (ad 1))]) dX5_scanning_23 rfl (by decide) (fun _ => rfl) (fun zq8 eq9 => ?_)
          have tq10 : zq8.toInt = b2_4 + 1 := add_nw eq9 e2_4 (show (Int32.ofInt 1).toInt = 1 by decide) (by omega)
          refine g_goto X (tgt := 4) dX5_scanning_26 (by decide) ?_
          refine g_sub [0, 1, 2] rfl ?_
          exact ih4 zq8 _ tq10 y1_4 _ e1_4 (by omega) (by omega)
        · refine g_iinc X 1 (fun v => [(1, .int v), (2, .int y2_4), (0, .ref (ad 1))]) dX5_scanning_20 rfl (by decide) (fun _ => rfl) (fun zq11 eq12 => ?_)
          refine g_iinc X 1 (fun v => [(2, .int v), (1, .int zq11), (0, .ref (ad 1))]) dX5_scanning_23 rfl (by decide) (fun _ => rfl) (fun zq14 eq15 => ?_)
          have tq16 : zq14.toInt = b2_4 + 1 := add_nw eq15 e2_4 (show (Int32.ofInt 1).toInt = 1 by decide) (by omega)
          refine g_goto X (tgt := 4) dX5_scanning_26 (by decide) ?_
          refine g_sub [0, 1, 2] rfl ?_
          exact ih4 zq14 _ tq16 zq11 _ rfl (by omega) (by omega)
  refine g_sub [0, 1, 2] rfl ?_
  exact lp4 _ 0 _ (show (0 : Int32).toInt = 0 by decide) 0 _ (show (0 : Int32).toInt = 0 by decide) (by omega) (Nat.lt_succ_self _)
set_option maxHeartbeats 4000000 in
set_option maxRecDepth 4000 in
theorem c_X5_leastFirst (ad : Nat → Nat) (Mq : Mem) (x1 : Int32) {a1 : Int} (t1 : x1.toInt = a1) (Iq0 : Iv TX Mq) (h1 : 0 ≤ a1 ∧ a1 ≤ 9) : Ctr ad yX5_leastFirst cX5_leastFirst 3 (some .int) 2 [.ref (ad 1), .int x1] Mq (fun v M' => ∃ (r : Int32) (a : Int), v = some (.int r) ∧ r.toInt = a ∧ (a = -1 ∨ (0 ≤ a ∧ a < 40)) ∧ Mq = M') := by
  refine ctr_of (L := [(0, .ref (ad 1)), (1, .int x1)]) (by decide) (Nat.le_of_ble_eq_true rfl) rfl ?_
  intro Γ X
  have X : gX Γ cX5_leastFirst RX5 3 (some .int) 2 ad _ := X
  refine g_iconst X 0 dX5_leastFirst_0 (by decide) ?_
  refine g_istore_n X (i := 2) [(2, .int 0), (0, .ref (ad 1)), (1, .int x1)] dX5_leastFirst_1 rfl (by decide) rfl ?_
  have lp2 : ∀ n : Nat, ∀ (y2_2 : Int32) (b2_2 : Int), y2_2.toInt = b2_2 → (0 ≤ b2_2) → ((Mq.1 1 3).toInt - b2_2).toNat < n → G Γ Mq 2 [(2, .int y2_2), (0, .ref (ad 1)), (1, .int x1)] [] := by
    intro n
    induction n with
    | zero => intro y2_2 b2_2 e2_2 i1 hm; exact absurd hm (Nat.not_lt_zero _)
    | succ n ih2 =>
      intro y2_2 b2_2 e2_2 i1 hm2
      refine g_iload_n X 0 rfl dX5_leastFirst_2 ?_
      refine g_aload_n X 1 rfl dX5_leastFirst_3 ?_
      refine g_geti X f_X5_21 dX5_leastFirst_4 (x := Mq.1 1 3) rfl ?_
      have bq1 := ig_1_3 Iq0
      refine g_icmp_ge X e2_2 rfl (tgt := 27) dX5_leastFirst_7 (by decide) (fun cq2 => ?_) (fun cq2 => ?_)
      · refine g_iconst X (-1) dX5_leastFirst_27 (by decide) ?_
        exact g_iret X dX5_leastFirst_28 ⟨_, _, rfl, (show ((-1) : Int32).toInt = (-1) by decide), (by omega), rfl⟩
      · refine g_aload_n X 1 rfl dX5_leastFirst_10 ?_
        refine g_iload_n X 0 rfl dX5_leastFirst_11 ?_
        refine g_iload_n X 2 rfl dX5_leastFirst_12 ?_
        refine g_callV X m_X5_76 (c_X5_fitsFirst ad Mq y2_2 e2_2 x1 t1 (by omega) (by omega)) rfl (by decide) (Nat.le_of_ble_eq_true rfl) rfl dX5_leastFirst_13 ?_
        rintro _ _ ⟨rq3, aq4, rfl, tq5, hq6, rfl⟩
        show G Γ Mq 16 [(2, .int y2_2), (0, .ref (ad 1)), (1, .int x1)] [.int rq3]
        refine g_if_eq X tq5 (tgt := 21) dX5_leastFirst_16 (by decide) (fun cq7 => ?_) (fun cq7 => ?_)
        · refine g_iinc X 0 (fun v => [(2, .int v), (0, .ref (ad 1)), (1, .int x1)]) dX5_leastFirst_21 rfl (by decide) (fun _ => rfl) (fun zq8 eq9 => ?_)
          have tq10 : zq8.toInt = b2_2 + 1 := add_nw eq9 e2_2 (show (Int32.ofInt 1).toInt = 1 by decide) (by omega)
          refine g_goto X (tgt := 2) dX5_leastFirst_24 (by decide) ?_
          refine g_sub [0, 1, 2] rfl ?_
          exact ih2 zq8 _ tq10 (by omega) (by omega)
        · refine g_iload_n X 0 rfl dX5_leastFirst_19 ?_
          exact g_iret X dX5_leastFirst_20 ⟨_, _, rfl, e2_2, (by omega), rfl⟩
  refine g_sub [0, 1, 2] rfl ?_
  exact lp2 _ 0 _ (show (0 : Int32).toInt = 0 by decide) (by omega) (Nat.lt_succ_self _)
set_option maxHeartbeats 4000000 in
set_option maxRecDepth 4000 in
theorem c_X5_leastSecond (ad : Nat → Nat) (Mq : Mem) (x1 : Int32) {a1 : Int} (t1 : x1.toInt = a1) (Iq0 : Iv TX Mq) (h1 : 0 ≤ a1 ∧ a1 ≤ 9) : Ctr ad yX5_leastSecond cX5_leastSecond 3 (some .int) 2 [.ref (ad 1), .int x1] Mq (fun v M' => ∃ (r : Int32) (a : Int), v = some (.int r) ∧ r.toInt = a ∧ (a = -1 ∨ (0 ≤ a ∧ a < 40)) ∧ Mq = M') := by
  refine ctr_of (L := [(0, .ref (ad 1)), (1, .int x1)]) (by decide) (Nat.le_of_ble_eq_true rfl) rfl ?_
  intro Γ X
  have X : gX Γ cX5_leastSecond RX5 3 (some .int) 2 ad _ := X
  refine g_iconst X 0 dX5_leastSecond_0 (by decide) ?_
  refine g_istore_n X (i := 2) [(2, .int 0), (0, .ref (ad 1)), (1, .int x1)] dX5_leastSecond_1 rfl (by decide) rfl ?_
  have lp2 : ∀ n : Nat, ∀ (y2_2 : Int32) (b2_2 : Int), y2_2.toInt = b2_2 → (0 ≤ b2_2) → ((Mq.1 1 3).toInt - b2_2).toNat < n → G Γ Mq 2 [(2, .int y2_2), (0, .ref (ad 1)), (1, .int x1)] [] := by
    intro n
    induction n with
    | zero => intro y2_2 b2_2 e2_2 i1 hm; exact absurd hm (Nat.not_lt_zero _)
    | succ n ih2 =>
      intro y2_2 b2_2 e2_2 i1 hm2
      refine g_iload_n X 0 rfl dX5_leastSecond_2 ?_
      refine g_aload_n X 1 rfl dX5_leastSecond_3 ?_
      refine g_geti X f_X5_21 dX5_leastSecond_4 (x := Mq.1 1 3) rfl ?_
      have bq1 := ig_1_3 Iq0
      refine g_icmp_ge X e2_2 rfl (tgt := 27) dX5_leastSecond_7 (by decide) (fun cq2 => ?_) (fun cq2 => ?_)
      · refine g_iconst X (-1) dX5_leastSecond_27 (by decide) ?_
        exact g_iret X dX5_leastSecond_28 ⟨_, _, rfl, (show ((-1) : Int32).toInt = (-1) by decide), (by omega), rfl⟩
      · refine g_aload_n X 1 rfl dX5_leastSecond_10 ?_
        refine g_iload_n X 0 rfl dX5_leastSecond_11 ?_
        refine g_iload_n X 2 rfl dX5_leastSecond_12 ?_
        refine g_callV X m_X5_80 (c_X5_fitsSecond ad Mq y2_2 e2_2 x1 t1 (by omega) (by omega)) rfl (by decide) (Nat.le_of_ble_eq_true rfl) rfl dX5_leastSecond_13 ?_
        rintro _ _ ⟨rq3, aq4, rfl, tq5, hq6, rfl⟩
        show G Γ Mq 16 [(2, .int y2_2), (0, .ref (ad 1)), (1, .int x1)] [.int rq3]
        refine g_if_eq X tq5 (tgt := 21) dX5_leastSecond_16 (by decide) (fun cq7 => ?_) (fun cq7 => ?_)
        · refine g_iinc X 0 (fun v => [(2, .int v), (0, .ref (ad 1)), (1, .int x1)]) dX5_leastSecond_21 rfl (by decide) (fun _ => rfl) (fun zq8 eq9 => ?_)
          have tq10 : zq8.toInt = b2_2 + 1 := add_nw eq9 e2_2 (show (Int32.ofInt 1).toInt = 1 by decide) (by omega)
          refine g_goto X (tgt := 2) dX5_leastSecond_24 (by decide) ?_
          refine g_sub [0, 1, 2] rfl ?_
          exact ih2 zq8 _ tq10 (by omega) (by omega)
        · refine g_iload_n X 0 rfl dX5_leastSecond_19 ?_
          exact g_iret X dX5_leastSecond_20 ⟨_, _, rfl, e2_2, (by omega), rfl⟩
  refine g_sub [0, 1, 2] rfl ?_
  exact lp2 _ 0 _ (show (0 : Int32).toInt = 0 by decide) (by omega) (Nat.lt_succ_self _)
abbrev W_X5_mend : List (Nat × Nat) := [(7, 99), (8, 99)]
set_option maxHeartbeats 4000000 in
set_option maxRecDepth 4000 in
theorem c_X5_mend (ad : Nat → Nat) (Mq : Mem) (x1 : Int32) {a1 : Int} (t1 : x1.toInt = a1) (x2 : Int32) {a2 : Int} (t2 : x2.toInt = a2) (x3 : Int32) {a3 : Int} (t3 : x3.toInt = a3) (Iq0 : Iv TX Mq) (h1 : 0 ≤ a1 ∧ a1 < 40) (h2 : a2 = -1 ∨ (0 ≤ a2 ∧ a2 < 40)) (h3 : a3 = -1 ∨ (0 ≤ a3 ∧ a3 < 40)) : Ctr ad yX5_mend cX5_mend 5 (some .boolean) 2 [.ref (ad 1), .int x1, .int x2, .int x3] Mq (fun v M' => ∃ (r : Int32) (a : Int), v = some (.int r) ∧ r.toInt = a ∧ (a = 0 ∨ a = 1) ∧ Iv TX M' ∧ Fr W_X5_mend Mq M') := by
  refine ctr_of (L := [(0, .ref (ad 1)), (1, .int x1), (2, .int x2), (3, .int x3)]) (by decide) (Nat.le_of_ble_eq_true rfl) rfl ?_
  intro Γ X
  have X : gX Γ cX5_mend RX5 5 (some .boolean) 2 ad _ := X
  have frq0 : Fr W_X5_mend Mq Mq := Fr.rf
  refine g_iload_n X 2 rfl dX5_mend_0 ?_
  refine g_iconst X (-1) dX5_mend_1 (by decide) ?_
  refine g_icmp_eq X t2 (show ((-1) : Int32).toInt = (-1) by decide) (tgt := 10) dX5_mend_2 (by decide) (fun cq1 => ?_) (fun cq1 => ?_)
  · refine g_iconst X 0 dX5_mend_10 (by decide) ?_
    exact g_zret X (b01 (show (0 : Int32).toInt = 0 by decide) (by omega)) dX5_mend_11 ⟨_, _, rfl, (show (0 : Int32).toInt = 0 by decide), (by omega), Iq0, frq0⟩
  · refine g_iload_n X 3 rfl dX5_mend_5 ?_
    refine g_iconst X (-1) dX5_mend_6 (by decide) ?_
    refine g_icmp_ne X t3 (show ((-1) : Int32).toInt = (-1) by decide) (tgt := 12) dX5_mend_7 (by decide) (fun cq2 => ?_) (fun cq2 => ?_)
    · refine g_aload_n X 0 rfl dX5_mend_12 ?_
      refine g_getr X f_X5_40 dX5_mend_13 ?_
      refine g_iload_n X 1 rfl dX5_mend_16 ?_
      refine g_iald X la_10 t1 dX5_mend_17 (by omega) (x := Mq.1 10 a1.toNat) rfl ?_
      have bq3 := ig_10 Iq0 a1.toNat (by omega)
      refine g_istore X [(4, .int (Mq.1 10 a1.toNat)), (0, .ref (ad 1)), (1, .int x1), (2, .int x2), (3, .int x3)] dX5_mend_18 (by decide) rfl ?_
      refine g_aload_n X 1 rfl dX5_mend_20 ?_
      refine g_aload_n X 1 rfl dX5_mend_21 ?_
      refine g_getr X f_X5_31 dX5_mend_22 ?_
      refine g_iload_n X 2 rfl dX5_mend_25 ?_
      refine g_iald X la_7 t1 dX5_mend_26 (by omega) (x := Mq.1 7 a1.toNat) rfl ?_
      have bq4 := ig_7 Iq0 a1.toNat (by omega)
      refine g_iload X 0 rfl dX5_mend_27 ?_
      refine g_callV X m_X5_76 (c_X5_fitsFirst ad Mq (Mq.1 7 a1.toNat) rfl (Mq.1 10 a1.toNat) rfl (by omega) (by omega)) rfl (by decide) (Nat.le_of_ble_eq_true rfl) rfl dX5_mend_29 ?_
      rintro _ _ ⟨rq5, aq6, rfl, tq7, hq8, rfl⟩
      show G Γ Mq 32 [(4, .int (Mq.1 10 a1.toNat)), (0, .ref (ad 1)), (1, .int x1), (2, .int x2), (3, .int x3)] [.int rq5]
      refine g_if_ne X tq7 (tgt := 42) dX5_mend_32 (by decide) (fun cq9 => ?_) (fun cq9 => ?_)
      · refine g_aload_n X 1 rfl dX5_mend_42 ?_
        refine g_aload_n X 1 rfl dX5_mend_43 ?_
        refine g_getr X f_X5_34 dX5_mend_44 ?_
        refine g_iload_n X 2 rfl dX5_mend_47 ?_
        refine g_iald X la_8 t1 dX5_mend_48 (by omega) (x := Mq.1 8 a1.toNat) rfl ?_
        have bq10 := ig_8 Iq0 a1.toNat (by omega)
        refine g_iload X 0 rfl dX5_mend_49 ?_
        refine g_callV X m_X5_80 (c_X5_fitsSecond ad Mq (Mq.1 8 a1.toNat) rfl (Mq.1 10 a1.toNat) rfl (by omega) (by omega)) rfl (by decide) (Nat.le_of_ble_eq_true rfl) rfl dX5_mend_51 ?_
        rintro _ _ ⟨rq11, aq12, rfl, tq13, hq14, rfl⟩
        show G Γ Mq 54 [(4, .int (Mq.1 10 a1.toNat)), (0, .ref (ad 1)), (1, .int x1), (2, .int x2), (3, .int x3)] [.int rq11]
        refine g_if_ne X tq13 (tgt := 64) dX5_mend_54 (by decide) (fun cq15 => ?_) (fun cq15 => ?_)
        · refine g_iconst X 1 dX5_mend_64 (by decide) ?_
          exact g_zret X (b01 (show (1 : Int32).toInt = 1 by decide) (by omega)) dX5_mend_65 ⟨_, _, rfl, (show (1 : Int32).toInt = 1 by decide), (by omega), Iq0, frq0⟩
        · refine g_aload_n X 1 rfl dX5_mend_57 ?_
          refine g_getr X f_X5_34 dX5_mend_58 ?_
          refine g_iload_n X 2 rfl dX5_mend_61 ?_
          refine g_iload_n X 4 rfl dX5_mend_62 ?_
          refine g_iast X la_8 t1 dX5_mend_63 (by omega) ?_
          have Iq16 : Iv TX (ui Mq 8 a1.toNat x3) := Iq0.putA 0 39 t3 (by omega) rfl
          have frq17 : Fr W_X5_mend Mq (ui Mq 8 a1.toNat x3) := frq0.ui rfl
          refine g_iconst X 1 dX5_mend_64 (by decide) ?_
          exact g_zret X (b01 (show (1 : Int32).toInt = 1 by decide) (by omega)) dX5_mend_65 ⟨_, _, rfl, (show (1 : Int32).toInt = 1 by decide), (by omega), Iq16, frq17⟩
      · refine g_aload_n X 1 rfl dX5_mend_35 ?_
        refine g_getr X f_X5_31 dX5_mend_36 ?_
        refine g_iload_n X 2 rfl dX5_mend_39 ?_
        refine g_iload_n X 3 rfl dX5_mend_40 ?_
        refine g_iast X la_7 t1 dX5_mend_41 (by omega) ?_
        have Iq18 : Iv TX (ui Mq 7 a1.toNat x2) := Iq0.putA 0 39 t2 (by omega) rfl
        have frq19 : Fr W_X5_mend Mq (ui Mq 7 a1.toNat x2) := frq0.ui rfl
        refine g_aload_n X 1 rfl dX5_mend_42 ?_
        refine g_aload_n X 1 rfl dX5_mend_43 ?_
        refine g_getr X f_X5_34 dX5_mend_44 ?_
        refine g_iload_n X 2 rfl dX5_mend_47 ?_
        refine g_iald X la_8 t1 dX5_mend_48 (by omega) (x := Mq.1 8 a1.toNat) rfl ?_
        have bq20 := ig_8 Iq0 a1.toNat (by omega)
        refine g_iload X 0 rfl dX5_mend_49 ?_
        refine g_callV X m_X5_80 (c_X5_fitsSecond ad (ui Mq 7 a1.toNat x2) (Mq.1 8 a1.toNat) rfl (Mq.1 10 a1.toNat) rfl (by omega) (by omega)) rfl (by decide) (Nat.le_of_ble_eq_true rfl) rfl dX5_mend_51 ?_
        rintro _ _ ⟨rq21, aq22, rfl, tq23, hq24, rfl⟩
        show G Γ (ui Mq 7 a1.toNat x2) 54 [(4, .int (Mq.1 10 a1.toNat)), (0, .ref (ad 1)), (1, .int x1), (2, .int x2), (3, .int x3)] [.int rq21]
        refine g_if_ne X tq23 (tgt := 64) dX5_mend_54 (by decide) (fun cq25 => ?_) (fun cq25 => ?_)
        · refine g_iconst X 1 dX5_mend_64 (by decide) ?_
          exact g_zret X (b01 (show (1 : Int32).toInt = 1 by decide) (by omega)) dX5_mend_65 ⟨_, _, rfl, (show (1 : Int32).toInt = 1 by decide), (by omega), Iq18, frq19⟩
        · refine g_aload_n X 1 rfl dX5_mend_57 ?_
          refine g_getr X f_X5_34 dX5_mend_58 ?_
          refine g_iload_n X 2 rfl dX5_mend_61 ?_
          refine g_iload_n X 4 rfl dX5_mend_62 ?_
          refine g_iast X la_8 t1 dX5_mend_63 (by omega) ?_
          have Iq26 : Iv TX (ui (ui Mq 7 a1.toNat x2) 8 a1.toNat x3) := Iq18.putA 0 39 t3 (by omega) rfl
          have frq27 : Fr W_X5_mend Mq (ui (ui Mq 7 a1.toNat x2) 8 a1.toNat x3) := frq19.ui rfl
          refine g_iconst X 1 dX5_mend_64 (by decide) ?_
          exact g_zret X (b01 (show (1 : Int32).toInt = 1 by decide) (by omega)) dX5_mend_65 ⟨_, _, rfl, (show (1 : Int32).toInt = 1 by decide), (by omega), Iq26, frq27⟩
    · refine g_iconst X 0 dX5_mend_10 (by decide) ?_
      exact g_zret X (b01 (show (0 : Int32).toInt = 0 by decide) (by omega)) dX5_mend_11 ⟨_, _, rfl, (show (0 : Int32).toInt = 0 by decide), (by omega), Iq0, frq0⟩
abbrev W_X5_noteBroken : List (Nat × Nat) := [(1, 15), (13, 99)]
set_option maxHeartbeats 4000000 in
set_option maxRecDepth 4000 in
theorem c_X5_noteBroken (ad : Nat → Nat) (Mq : Mem) (x1 : Int32) {a1 : Int} (t1 : x1.toInt = a1) (Iq0 : Iv TX Mq) : Ctr ad yX5_noteBroken cX5_noteBroken 2 none 0 [.ref (ad 1), .int x1] Mq (fun v M' => v = none ∧ (True) ∧ Iv TX M' ∧ Fr W_X5_noteBroken Mq M') := by
  refine ctr_of (L := [(0, .ref (ad 1)), (1, .int x1)]) (by decide) (Nat.le_of_ble_eq_true rfl) rfl ?_
  intro Γ X
  have X : gX Γ cX5_noteBroken RX5 2 none 0 ad _ := X
  have frq0 : Fr W_X5_noteBroken Mq Mq := Fr.rf
  refine g_aload_n X 0 rfl dX5_noteBroken_0 ?_
  refine g_geti X f_X5_60 dX5_noteBroken_1 (x := Mq.1 1 15) rfl ?_
  have bq1 := ig_1_15 Iq0
  refine g_bipush X 40 dX5_noteBroken_4 (by decide) ?_
  refine g_icmp_ge X rfl (show (40 : Int32).toInt = 40 by decide) (tgt := 29) dX5_noteBroken_6 (by decide) (fun cq2 => ?_) (fun cq2 => ?_)
  · exact g_vret X dX5_noteBroken_29 ⟨rfl, trivial, Iq0, frq0⟩
  · refine g_aload_n X 0 rfl dX5_noteBroken_9 ?_
    refine g_getr X f_X5_57 dX5_noteBroken_10 ?_
    refine g_aload_n X 0 rfl dX5_noteBroken_13 ?_
    refine g_geti X f_X5_60 dX5_noteBroken_14 (x := Mq.1 1 15) rfl ?_
    have bq3 := ig_1_15 Iq0
    refine g_iload_n X 1 rfl dX5_noteBroken_17 ?_
    refine g_iast X la_13 rfl dX5_noteBroken_18 (by omega) ?_
    have Iq4 : Iv TX (ui Mq 13 (((Mq.1 1 15).toInt).toNat) x1) := Iq0.otherA rfl
    have frq5 : Fr W_X5_noteBroken Mq (ui Mq 13 (((Mq.1 1 15).toInt).toNat) x1) := frq0.ui rfl
    refine g_aload_n X 0 rfl dX5_noteBroken_19 ?_
    refine g_dup X dX5_noteBroken_20 rfl ?_
    refine g_geti X f_X5_60 dX5_noteBroken_21 (x := Mq.1 1 15) rfl ?_
    have bq6 := ig_1_15 Iq0
    refine g_iconst X 1 dX5_noteBroken_24 (by decide) ?_
    refine g_iadd X dX5_noteBroken_25 (fun zq7 eq8 => ?_)
    have tq9 : zq7.toInt = ((Mq.1 1 15).toInt) + 1 := add_nw eq8 rfl (show (1 : Int32).toInt = 1 by decide) (by omega)
    refine g_puti X p_X5_60 dX5_noteBroken_26 ?_
    have Iq10 : Iv TX (ui (ui Mq 13 (((Mq.1 1 15).toInt).toNat) x1) 1 15 zq7) := Iq4.put 0 40 tq9 (by omega) rfl
    have frq11 : Fr W_X5_noteBroken Mq (ui (ui Mq 13 (((Mq.1 1 15).toInt).toNat) x1) 1 15 zq7) := frq5.ui rfl
    exact g_vret X dX5_noteBroken_29 ⟨rfl, trivial, Iq10, frq11⟩
abbrev W_X5_putInPlace : List (Nat × Nat) := [(1, 15), (13, 99), (7, 99), (8, 99), (10, 99)]
set_option maxHeartbeats 4000000 in
set_option maxRecDepth 4000 in
theorem c_X5_putInPlace (ad : Nat → Nat) (Mq : Mem) (x1 : Int32) {a1 : Int} (t1 : x1.toInt = a1) (x2 : Int32) {a2 : Int} (t2 : x2.toInt = a2) (Iq0 : Iv TX Mq) (h1 : 0 ≤ a1 ∧ a1 ≤ 9) (h2 : 0 ≤ a2 ∧ a2 ≤ 9) : Ctr ad yX5_putInPlace cX5_putInPlace 7 (some .int) 3 [.ref (ad 1), .int x1, .int x2] Mq (fun v M' => ∃ (r : Int32) (a : Int), v = some (.int r) ∧ r.toInt = a ∧ (True) ∧ Iv TX M' ∧ Fr W_X5_putInPlace Mq M') := by
  refine ctr_of (L := [(0, .ref (ad 1)), (1, .int x1), (2, .int x2)]) (by decide) (Nat.le_of_ble_eq_true rfl) rfl ?_
  intro Γ X
  have X : gX Γ cX5_putInPlace RX5 7 (some .int) 3 ad _ := X
  have frq0 : Fr W_X5_putInPlace Mq Mq := Fr.rf
  refine g_aload_n X 0 rfl dX5_putInPlace_0 ?_
  refine g_iload_n X 2 rfl dX5_putInPlace_1 ?_
  refine g_callV X m_X5_87 (c_X5_leastFirst ad Mq x2 t2 Iq0 (by omega)) rfl (by decide) (Nat.le_of_ble_eq_true rfl) rfl dX5_putInPlace_2 ?_
  rintro _ _ ⟨rq1, aq2, rfl, tq3, hq4, rfl⟩
  show G Γ Mq 5 [(0, .ref (ad 1)), (1, .int x1), (2, .int x2)] [.int rq1]
  refine g_istore_n X (i := 3) [(3, .int rq1), (0, .ref (ad 1)), (1, .int x1), (2, .int x2)] dX5_putInPlace_5 rfl (by decide) rfl ?_
  refine g_aload_n X 1 rfl dX5_putInPlace_6 ?_
  refine g_iload_n X 3 rfl dX5_putInPlace_7 ?_
  refine g_callV X m_X5_91 (c_X5_leastSecond ad Mq x2 t2 Iq0 (by omega)) rfl (by decide) (Nat.le_of_ble_eq_true rfl) rfl dX5_putInPlace_8 ?_
  rintro _ _ ⟨rq5, aq6, rfl, tq7, hq8, rfl⟩
  show G Γ Mq 11 [(3, .int rq1), (0, .ref (ad 1)), (1, .int x1), (2, .int x2)] [.int rq5]
  refine g_istore X [(4, .int rq5), (3, .int rq1), (0, .ref (ad 1)), (1, .int x1), (2, .int x2)] dX5_putInPlace_11 (by decide) rfl ?_
  refine g_iconst X 0 dX5_putInPlace_13 (by decide) ?_
  refine g_istore X [(5, .int 0), (4, .int rq5), (3, .int rq1), (0, .ref (ad 1)), (1, .int x1), (2, .int x2)] dX5_putInPlace_14 (by decide) rfl ?_
  refine g_aload_n X 3 rfl dX5_putInPlace_16 ?_
  refine g_iconst X 0 dX5_putInPlace_17 (by decide) ?_
  refine g_puti X p_X5_60 dX5_putInPlace_18 ?_
  have Iq9 : Iv TX (ui Mq 1 15 0) := Iq0.put 0 40 (show (0 : Int32).toInt = 0 by decide) (by omega) rfl
  have frq10 : Fr W_X5_putInPlace Mq (ui Mq 1 15 0) := frq0.ui rfl
  refine g_iconst X 0 dX5_putInPlace_21 (by decide) ?_
  refine g_istore X [(6, .int 0), (5, .int 0), (4, .int rq5), (3, .int rq1), (0, .ref (ad 1)), (1, .int x1), (2, .int x2)] dX5_putInPlace_22 (by decide) rfl ?_
  have lp24 : ∀ n : Nat, ∀ (y6_24 : Int32) (b6_24 : Int), y6_24.toInt = b6_24 → ∀ (y5_24 : Int32) (b5_24 : Int), y5_24.toInt = b5_24 → ∀ (M_24 : Mem), (0 ≤ b6_24) → (Iv TX M_24) → (Fr W_X5_putInPlace Mq M_24) → ((Mq.1 1 12).toInt - b6_24).toNat < n → G Γ M_24 24 [(6, .int y6_24), (5, .int y5_24), (4, .int rq5), (3, .int rq1), (0, .ref (ad 1)), (1, .int x1), (2, .int x2)] [] := by
    intro n
    induction n with
    | zero => intro y6_24 b6_24 e6_24 y5_24 b5_24 e5_24 M_24 i1 I_24 fr_24 hm; exact absurd hm (Nat.not_lt_zero _)
    | succ n ih24 =>
      intro y6_24 b6_24 e6_24 y5_24 b5_24 e5_24 M_24 i1 I_24 fr_24 hm24
      have q1 : (M_24.1 1 12).toInt = (Mq.1 1 12).toInt := congrArg Int32.toInt (fr_24.at 1 12 rfl)
      refine g_iload X 0 rfl dX5_putInPlace_24 ?_
      refine g_aload_n X 4 rfl dX5_putInPlace_26 ?_
      refine g_geti X f_X5_51 dX5_putInPlace_27 (x := M_24.1 1 12) rfl ?_
      have bq11 := ig_1_12 I_24
      refine g_icmp_ge X e6_24 rfl (tgt := 91) dX5_putInPlace_30 (by decide) (fun cq12 => ?_) (fun cq12 => ?_)
      · refine g_iload X 1 rfl dX5_putInPlace_91 ?_
        exact g_iret X dX5_putInPlace_93 ⟨_, _, rfl, e5_24, trivial, I_24, fr_24⟩
      · refine g_aload_n X 4 rfl dX5_putInPlace_33 ?_
        refine g_getr X f_X5_40 dX5_putInPlace_34 ?_
        refine g_iload X 0 rfl dX5_putInPlace_37 ?_
        refine g_iald X la_10 e6_24 dX5_putInPlace_39 (by omega) (x := M_24.1 10 b6_24.toNat) rfl ?_
        have bq13 := ig_10 I_24 b6_24.toNat (by omega)
        refine g_iload_n X 5 rfl dX5_putInPlace_40 ?_
        refine g_icmp_ne X rfl t1 (tgt := 85) dX5_putInPlace_41 (by decide) (fun cq14 => ?_) (fun cq14 => ?_)
        · refine g_iinc X 0 (fun v => [(6, .int v), (5, .int y5_24), (4, .int rq5), (3, .int rq1), (0, .ref (ad 1)), (1, .int x1), (2, .int x2)]) dX5_putInPlace_85 rfl (by decide) (fun _ => rfl) (fun zq15 eq16 => ?_)
          have tq17 : zq15.toInt = b6_24 + 1 := add_nw eq16 e6_24 (show (Int32.ofInt 1).toInt = 1 by decide) (by omega)
          refine g_goto X (tgt := 24) dX5_putInPlace_88 (by decide) ?_
          refine g_sub [0, 1, 2, 3, 4, 5, 6] rfl ?_
          exact ih24 zq15 _ tq17 y5_24 _ e5_24 M_24 (by omega) I_24 fr_24 (by omega)
        · refine g_aload_n X 4 rfl dX5_putInPlace_44 ?_
          refine g_getr X f_X5_40 dX5_putInPlace_45 ?_
          refine g_iload X 0 rfl dX5_putInPlace_48 ?_
          refine g_iload_n X 6 rfl dX5_putInPlace_50 ?_
          refine g_iast X la_10 e6_24 dX5_putInPlace_51 (by omega) ?_
          have Iq18 : Iv TX (ui M_24 10 b6_24.toNat x2) := I_24.putA 0 9 t2 (by omega) rfl
          have frq19 : Fr W_X5_putInPlace Mq (ui M_24 10 b6_24.toNat x2) := fr_24.ui rfl
          refine g_aload_n X 4 rfl dX5_putInPlace_52 ?_
          refine g_iload X 0 rfl dX5_putInPlace_53 ?_
          refine g_callV X m_X5_83 (c_X5_scans ad (ui M_24 10 b6_24.toNat x2) y6_24 e6_24 Iq18 (by omega)) rfl (by decide) (Nat.le_of_ble_eq_true rfl) rfl dX5_putInPlace_55 ?_
          rintro _ _ ⟨rq20, aq21, rfl, tq22, hq23, rfl⟩
          show G Γ (ui M_24 10 b6_24.toNat x2) 58 [(6, .int y6_24), (5, .int y5_24), (4, .int rq5), (3, .int rq1), (0, .ref (ad 1)), (1, .int x1), (2, .int x2)] [.int rq20]
          refine g_if_ne X tq22 (tgt := 85) dX5_putInPlace_58 (by decide) (fun cq24 => ?_) (fun cq24 => ?_)
          · refine g_iinc X 0 (fun v => [(6, .int v), (5, .int y5_24), (4, .int rq5), (3, .int rq1), (0, .ref (ad 1)), (1, .int x1), (2, .int x2)]) dX5_putInPlace_85 rfl (by decide) (fun _ => rfl) (fun zq25 eq26 => ?_)
            have tq27 : zq25.toInt = b6_24 + 1 := add_nw eq26 e6_24 (show (Int32.ofInt 1).toInt = 1 by decide) (by omega)
            refine g_goto X (tgt := 24) dX5_putInPlace_88 (by decide) ?_
            refine g_sub [0, 1, 2, 3, 4, 5, 6] rfl ?_
            exact ih24 zq25 _ tq27 y5_24 _ e5_24 (ui M_24 10 b6_24.toNat x2) (by omega) Iq18 frq19 (by omega)
          · refine g_aload_n X 4 rfl dX5_putInPlace_61 ?_
            refine g_iload X 0 rfl dX5_putInPlace_62 ?_
            refine g_iload_n X 3 rfl dX5_putInPlace_64 ?_
            refine g_iload X 2 rfl dX5_putInPlace_65 ?_
            refine g_callV X m_X5_94 (c_X5_mend ad (ui M_24 10 b6_24.toNat x2) y6_24 e6_24 rq1 tq3 rq5 tq7 Iq18 (by omega) (by omega) (by omega)) rfl (by decide) (Nat.le_of_ble_eq_true rfl) rfl dX5_putInPlace_67 ?_
            rintro _ Mq32 ⟨rq28, aq29, rfl, tq30, hq31, Iq33, frq34⟩
            have frq35 : Fr W_X5_putInPlace Mq Mq32 := frq19.trans frq34 rfl
            show G Γ Mq32 70 [(6, .int y6_24), (5, .int y5_24), (4, .int rq5), (3, .int rq1), (0, .ref (ad 1)), (1, .int x1), (2, .int x2)] [.int rq28]
            refine g_if_eq X tq30 (tgt := 79) dX5_putInPlace_70 (by decide) (fun cq36 => ?_) (fun cq36 => ?_)
            · refine g_aload_n X 4 rfl dX5_putInPlace_79 ?_
              refine g_iload X 0 rfl dX5_putInPlace_80 ?_
              refine g_callV X m_X5_98 (c_X5_noteBroken ad Mq32 y6_24 e6_24 Iq33) rfl (by decide) (Nat.le_of_ble_eq_true rfl) rfl dX5_putInPlace_82 ?_
              rintro _ Mq41 ⟨rfl, hq40, Iq42, frq43⟩
              have frq44 : Fr W_X5_putInPlace Mq Mq41 := frq35.trans frq43 rfl
              show G Γ Mq41 85 [(6, .int y6_24), (5, .int y5_24), (4, .int rq5), (3, .int rq1), (0, .ref (ad 1)), (1, .int x1), (2, .int x2)] []
              refine g_iinc X 0 (fun v => [(6, .int v), (5, .int y5_24), (4, .int rq5), (3, .int rq1), (0, .ref (ad 1)), (1, .int x1), (2, .int x2)]) dX5_putInPlace_85 rfl (by decide) (fun _ => rfl) (fun zq45 eq46 => ?_)
              have tq47 : zq45.toInt = b6_24 + 1 := add_nw eq46 e6_24 (show (Int32.ofInt 1).toInt = 1 by decide) (by omega)
              refine g_goto X (tgt := 24) dX5_putInPlace_88 (by decide) ?_
              refine g_sub [0, 1, 2, 3, 4, 5, 6] rfl ?_
              exact ih24 zq45 _ tq47 y5_24 _ e5_24 Mq41 (by omega) Iq42 frq44 (by omega)
            · refine g_iinc X 1 (fun v => [(5, .int v), (6, .int y6_24), (4, .int rq5), (3, .int rq1), (0, .ref (ad 1)), (1, .int x1), (2, .int x2)]) dX5_putInPlace_73 rfl (by decide) (fun _ => rfl) (fun zq48 eq49 => ?_)
              refine g_goto X (tgt := 85) dX5_putInPlace_76 (by decide) ?_
              refine g_iinc X 1 (fun v => [(6, .int v), (5, .int zq48), (4, .int rq5), (3, .int rq1), (0, .ref (ad 1)), (1, .int x1), (2, .int x2)]) dX5_putInPlace_85 rfl (by decide) (fun _ => rfl) (fun zq51 eq52 => ?_)
              have tq53 : zq51.toInt = b6_24 + 1 := add_nw eq52 e6_24 (show (Int32.ofInt 1).toInt = 1 by decide) (by omega)
              refine g_goto X (tgt := 24) dX5_putInPlace_88 (by decide) ?_
              refine g_sub [0, 1, 2, 3, 4, 5, 6] rfl ?_
              exact ih24 zq51 _ tq53 zq48 _ rfl Mq32 (by omega) Iq33 frq35 (by omega)
  refine g_sub [0, 1, 2, 3, 4, 5, 6] rfl ?_
  exact lp24 _ 0 _ (show (0 : Int32).toInt = 0 by decide) 0 _ (show (0 : Int32).toInt = 0 by decide) (ui Mq 1 15 0) (by omega) Iq9 frq10 (Nat.lt_succ_self _)
end
