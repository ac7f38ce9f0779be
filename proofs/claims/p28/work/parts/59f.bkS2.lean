section
abbrev W_X5_addLine_E : List (Nat × Nat) := [(1, 12), (1, 11), (7, 99), (8, 99), (9, 99), (10, 99), (11, 99)]
set_option maxHeartbeats 4000000 in
set_option maxRecDepth 4000 in
theorem c_X5_addLine_E (ad : Nat → Nat) (Mq : Mem) (x1 : Int32) {a1 : Int} (t1 : x1.toInt = a1) (x2 : Int32) {a2 : Int} (t2 : x2.toInt = a2) (x3 : Int32) {a3 : Int} (t3 : x3.toInt = a3) (x4 : Int32) {a4 : Int} (t4 : x4.toInt = a4) (x5 : Int32) {a5 : Int} (t5 : x5.toInt = a5) (Iq0 : Iv TX Mq) (h1 : (Mq.1 1 12).toInt < 40) (h2 : 0 ≤ a1 ∧ a1 < 40) (h3 : 0 ≤ a2 ∧ a2 < 40) (h4 : 0 ≤ a3 ∧ a3 < 8) (h5 : 0 ≤ a4 ∧ a4 ≤ 9) (h6 : a5 = 0 ∨ a5 = 1) : Ctr ad yX5_addLine cX5_addLine 6 (some .int) 0 [.ref (ad 1), .int x1, .int x2, .int x3, .int x4, .int x5] Mq (fun v M' => ∃ (r : Int32) (a : Int), v = some (.int r) ∧ r.toInt = a ∧ (a = (Mq.1 1 12).toInt) ∧ ((M'.1 1 12).toInt = (Mq.1 1 12).toInt + 1 ∧ (∀ l : Nat, l < 64 → b64 (M'.2 1 11) l = (b64 (Mq.2 1 11) l || (decide ((l : Int) = (Mq.1 1 12).toInt) && decide (a5 = 1))))) ∧ Iv TX M' ∧ Fr W_X5_addLine_E Mq M') := by
  refine ctr_of (L := [(0, .ref (ad 1)), (1, .int x1), (2, .int x2), (3, .int x3), (4, .int x4), (5, .int x5)]) (by decide) (Nat.le_of_ble_eq_true rfl) rfl ?_
  intro Γ X
  have X : gX Γ cX5_addLine RX5 6 (some .int) 0 ad _ := X
  have frq0 : Fr W_X5_addLine_E Mq Mq := Fr.rf
  have hgl := ig_1_12 Iq0
  refine g_aload_n X 0 rfl dX5_addLine_0 ?_
  refine g_getr X f_X5_31 dX5_addLine_1 ?_
  refine g_aload_n X 0 rfl dX5_addLine_4 ?_
  refine g_geti X f_X5_51 dX5_addLine_5 (x := Mq.1 1 12) rfl ?_
  have bq1 := ig_1_12 Iq0
  refine g_iload_n X 1 rfl dX5_addLine_8 ?_
  refine g_iast X la_7 rfl dX5_addLine_9 (by omega) ?_
  have Iq2 : Iv TX (ui Mq 7 (((Mq.1 1 12).toInt).toNat) x1) := Iq0.putA 0 39 t1 (by omega) rfl
  have frq3 : Fr W_X5_addLine_E Mq (ui Mq 7 (((Mq.1 1 12).toInt).toNat) x1) := frq0.ui rfl
  refine g_aload_n X 0 rfl dX5_addLine_10 ?_
  refine g_getr X f_X5_34 dX5_addLine_11 ?_
  refine g_aload_n X 0 rfl dX5_addLine_14 ?_
  refine g_geti X f_X5_51 dX5_addLine_15 (x := Mq.1 1 12) rfl ?_
  have bq4 := ig_1_12 Iq0
  refine g_iload_n X 2 rfl dX5_addLine_18 ?_
  refine g_iast X la_8 rfl dX5_addLine_19 (by omega) ?_
  have Iq5 : Iv TX (ui (ui Mq 7 (((Mq.1 1 12).toInt).toNat) x1) 8 (((Mq.1 1 12).toInt).toNat) x2) := Iq2.putA 0 39 t2 (by omega) rfl
  have frq6 : Fr W_X5_addLine_E Mq (ui (ui Mq 7 (((Mq.1 1 12).toInt).toNat) x1) 8 (((Mq.1 1 12).toInt).toNat) x2) := frq3.ui rfl
  refine g_aload_n X 0 rfl dX5_addLine_20 ?_
  refine g_getr X f_X5_37 dX5_addLine_21 ?_
  refine g_aload_n X 0 rfl dX5_addLine_24 ?_
  refine g_geti X f_X5_51 dX5_addLine_25 (x := Mq.1 1 12) rfl ?_
  have bq7 := ig_1_12 Iq0
  refine g_iload_n X 3 rfl dX5_addLine_28 ?_
  refine g_iast X la_9 rfl dX5_addLine_29 (by omega) ?_
  have Iq8 : Iv TX (ui (ui (ui Mq 7 (((Mq.1 1 12).toInt).toNat) x1) 8 (((Mq.1 1 12).toInt).toNat) x2) 9 (((Mq.1 1 12).toInt).toNat) x3) := Iq5.otherA rfl
  have frq9 : Fr W_X5_addLine_E Mq (ui (ui (ui Mq 7 (((Mq.1 1 12).toInt).toNat) x1) 8 (((Mq.1 1 12).toInt).toNat) x2) 9 (((Mq.1 1 12).toInt).toNat) x3) := frq6.ui rfl
  refine g_aload_n X 0 rfl dX5_addLine_30 ?_
  refine g_getr X f_X5_40 dX5_addLine_31 ?_
  refine g_aload_n X 0 rfl dX5_addLine_34 ?_
  refine g_geti X f_X5_51 dX5_addLine_35 (x := Mq.1 1 12) rfl ?_
  have bq10 := ig_1_12 Iq0
  refine g_iload X 4 rfl dX5_addLine_38 ?_
  refine g_iast X la_10 rfl dX5_addLine_40 (by omega) ?_
  have Iq11 : Iv TX (ui (ui (ui (ui Mq 7 (((Mq.1 1 12).toInt).toNat) x1) 8 (((Mq.1 1 12).toInt).toNat) x2) 9 (((Mq.1 1 12).toInt).toNat) x3) 10 (((Mq.1 1 12).toInt).toNat) x4) := Iq8.putA 0 9 t4 (by omega) rfl
  have frq12 : Fr W_X5_addLine_E Mq (ui (ui (ui (ui Mq 7 (((Mq.1 1 12).toInt).toNat) x1) 8 (((Mq.1 1 12).toInt).toNat) x2) 9 (((Mq.1 1 12).toInt).toNat) x3) 10 (((Mq.1 1 12).toInt).toNat) x4) := frq9.ui rfl
  refine g_aload_n X 0 rfl dX5_addLine_41 ?_
  refine g_getr X f_X5_43 dX5_addLine_42 ?_
  refine g_iload_n X 3 rfl dX5_addLine_45 ?_
  refine g_dup2 X dX5_addLine_46 rfl rfl ?_
  refine g_lald X la_11 t3 dX5_addLine_47 (by omega) (x := Mq.2 11 a3.toNat) rfl ?_
  refine g_lconst X 1 dX5_addLine_48 (by decide) ?_
  refine g_aload_n X 0 rfl dX5_addLine_49 ?_
  refine g_geti X f_X5_51 dX5_addLine_50 (x := Mq.1 1 12) rfl ?_
  have bq13 := ig_1_12 Iq0
  refine g_lshl X dX5_addLine_53 (fun zq14 eq15 => ?_)
  refine g_lor X dX5_addLine_54 (fun zq16 eq17 => ?_)
  refine g_last X la_11 t3 dX5_addLine_55 (by omega) ?_
  have Iq18 : Iv TX (ul (ui (ui (ui (ui Mq 7 (((Mq.1 1 12).toInt).toNat) x1) 8 (((Mq.1 1 12).toInt).toNat) x2) 9 (((Mq.1 1 12).toInt).toNat) x3) 10 (((Mq.1 1 12).toInt).toNat) x4) 11 a3.toNat zq16) := Iq11.long
  have frq19 : Fr W_X5_addLine_E Mq (ul (ui (ui (ui (ui Mq 7 (((Mq.1 1 12).toInt).toNat) x1) 8 (((Mq.1 1 12).toInt).toNat) x2) 9 (((Mq.1 1 12).toInt).toNat) x3) 10 (((Mq.1 1 12).toInt).toNat) x4) 11 a3.toNat zq16) := frq12.ul rfl
  refine g_aload_n X 0 rfl dX5_addLine_56 ?_
  refine g_dup X dX5_addLine_57 rfl ?_
  refine g_getl X f_X5_47 dX5_addLine_58 (x := Mq.2 1 11) rfl ?_
  refine g_iload X 5 rfl dX5_addLine_61 ?_
  refine g_i2l X dX5_addLine_63 (fun zq20 eq21 => ?_)
  have tq22 : zq20.toInt = a5 := i2l_nw eq21 t5
  refine g_aload_n X 0 rfl dX5_addLine_64 ?_
  refine g_geti X f_X5_51 dX5_addLine_65 (x := Mq.1 1 12) rfl ?_
  have bq23 := ig_1_12 Iq0
  refine g_lshl X dX5_addLine_68 (fun zq24 eq25 => ?_)
  have hq1 := eq25
  have hz1 := tq22
  refine g_lor X dX5_addLine_69 (fun zq26 eq27 => ?_)
  have hq2 := eq27
  refine g_putl X p_X5_47 dX5_addLine_70 ?_
  have Iq28 : Iv TX (ul (ul (ui (ui (ui (ui Mq 7 (((Mq.1 1 12).toInt).toNat) x1) 8 (((Mq.1 1 12).toInt).toNat) x2) 9 (((Mq.1 1 12).toInt).toNat) x3) 10 (((Mq.1 1 12).toInt).toNat) x4) 11 a3.toNat zq16) 1 11 zq26) := Iq18.long
  have frq29 : Fr W_X5_addLine_E Mq (ul (ul (ui (ui (ui (ui Mq 7 (((Mq.1 1 12).toInt).toNat) x1) 8 (((Mq.1 1 12).toInt).toNat) x2) 9 (((Mq.1 1 12).toInt).toNat) x3) 10 (((Mq.1 1 12).toInt).toNat) x4) 11 a3.toNat zq16) 1 11 zq26) := frq19.ul rfl
  refine g_aload_n X 0 rfl dX5_addLine_73 ?_
  refine g_dup X dX5_addLine_74 rfl ?_
  refine g_geti X f_X5_51 dX5_addLine_75 (x := Mq.1 1 12) rfl ?_
  have bq30 := ig_1_12 Iq0
  refine g_iconst X 1 dX5_addLine_78 (by decide) ?_
  refine g_iadd X dX5_addLine_79 (fun zq31 eq32 => ?_)
  have tq33 : zq31.toInt = ((Mq.1 1 12).toInt) + 1 := add_nw eq32 rfl (show (1 : Int32).toInt = 1 by decide) (by omega)
  refine g_puti X p_X5_51 dX5_addLine_80 ?_
  have Iq34 : Iv TX (ui (ul (ul (ui (ui (ui (ui Mq 7 (((Mq.1 1 12).toInt).toNat) x1) 8 (((Mq.1 1 12).toInt).toNat) x2) 9 (((Mq.1 1 12).toInt).toNat) x3) 10 (((Mq.1 1 12).toInt).toNat) x4) 11 a3.toNat zq16) 1 11 zq26) 1 12 zq31) := Iq28.put 0 40 tq33 (by omega) rfl
  have frq35 : Fr W_X5_addLine_E Mq (ui (ul (ul (ui (ui (ui (ui Mq 7 (((Mq.1 1 12).toInt).toNat) x1) 8 (((Mq.1 1 12).toInt).toNat) x2) 9 (((Mq.1 1 12).toInt).toNat) x3) 10 (((Mq.1 1 12).toInt).toNat) x4) 11 a3.toNat zq16) 1 11 zq26) 1 12 zq31) := frq29.ui rfl
  refine g_aload_n X 0 rfl dX5_addLine_83 ?_
  refine g_geti X f_X5_51 dX5_addLine_84 (x := zq31) rfl ?_
  refine g_iconst X 1 dX5_addLine_87 (by decide) ?_
  refine g_isub X dX5_addLine_88 (fun zq36 eq37 => ?_)
  have tq38 : zq36.toInt = (((Mq.1 1 12).toInt) + 1) - 1 := sub_nw eq37 tq33 (show (1 : Int32).toInt = 1 by decide) (by omega)
  exact g_iret X dX5_addLine_89 ⟨_, _, rfl, tq38, (by omega), (⟨by rw [ui_eq]; omega, fun l hl => slip_or hz1 h6 rfl (by omega) hq1 hq2 l hl⟩), Iq34, frq35⟩
abbrev W_X6_line_E : List (Nat × Nat) := [(1, 12), (1, 11), (7, 99), (8, 99), (9, 99), (10, 99), (11, 99)]
set_option maxHeartbeats 4000000 in
set_option maxRecDepth 4000 in
theorem c_X6_line_E (ad : Nat → Nat) (Mq : Mem) (x1 : Int32) {a1 : Int} (t1 : x1.toInt = a1) (x2 : Int32) {a2 : Int} (t2 : x2.toInt = a2) (x3 : Int32) {a3 : Int} (t3 : x3.toInt = a3) (x4 : Int32) {a4 : Int} (t4 : x4.toInt = a4) (x5 : Int32) {a5 : Int} (t5 : x5.toInt = a5) (Iq0 : Iv TX Mq) : Ctr ad yX6_line cX6_line 6 (some .int) 1 [.ref (ad 0), .int x1, .int x2, .int x3, .int x4, .int x5] Mq (fun v M' => ∃ (r : Int32) (a : Int), v = some (.int r) ∧ r.toInt = a ∧ (((¬ ((0 ≤ a1 ∧ a1 < (Mq.1 1 3).toInt) ∧ (0 ≤ a2 ∧ a2 < (Mq.1 1 3).toInt) ∧ 0 ≤ a3 ∧ a3 ≤ 7 ∧ 0 ≤ a4 ∧ a4 ≤ 9)) ∧ (a = -1)) ∨ (¬ (¬ ((0 ≤ a1 ∧ a1 < (Mq.1 1 3).toInt) ∧ (0 ≤ a2 ∧ a2 < (Mq.1 1 3).toInt) ∧ 0 ≤ a3 ∧ a3 ≤ 7 ∧ 0 ≤ a4 ∧ a4 ≤ 9)) ∧ (¬ (0 ≤ a5 ∧ a5 ≤ 1)) ∧ (a = -2)) ∨ (¬ (¬ ((0 ≤ a1 ∧ a1 < (Mq.1 1 3).toInt) ∧ (0 ≤ a2 ∧ a2 < (Mq.1 1 3).toInt) ∧ 0 ≤ a3 ∧ a3 ≤ 7 ∧ 0 ≤ a4 ∧ a4 ≤ 9)) ∧ ¬ (¬ (0 ≤ a5 ∧ a5 ≤ 1)) ∧ (40 ≤ (Mq.1 1 12).toInt) ∧ (a = -4)) ∨ (¬ (¬ ((0 ≤ a1 ∧ a1 < (Mq.1 1 3).toInt) ∧ (0 ≤ a2 ∧ a2 < (Mq.1 1 3).toInt) ∧ 0 ≤ a3 ∧ a3 ≤ 7 ∧ 0 ≤ a4 ∧ a4 ≤ 9)) ∧ ¬ (¬ (0 ≤ a5 ∧ a5 ≤ 1)) ∧ ¬ (40 ≤ (Mq.1 1 12).toInt) ∧ (a = (Mq.1 1 12).toInt))) ∧ (((((¬ ((0 ≤ a1 ∧ a1 < (Mq.1 1 3).toInt) ∧ (0 ≤ a2 ∧ a2 < (Mq.1 1 3).toInt) ∧ 0 ≤ a3 ∧ a3 ≤ 7 ∧ 0 ≤ a4 ∧ a4 ≤ 9)) ∨ (¬ (0 ≤ a5 ∧ a5 ≤ 1)) ∨ (40 ≤ (Mq.1 1 12).toInt)) ∧ (M'.1 1 12).toInt = (Mq.1 1 12).toInt) ∨ (¬ ((¬ ((0 ≤ a1 ∧ a1 < (Mq.1 1 3).toInt) ∧ (0 ≤ a2 ∧ a2 < (Mq.1 1 3).toInt) ∧ 0 ≤ a3 ∧ a3 ≤ 7 ∧ 0 ≤ a4 ∧ a4 ≤ 9)) ∨ (¬ (0 ≤ a5 ∧ a5 ≤ 1)) ∨ (40 ≤ (Mq.1 1 12).toInt)) ∧ (M'.1 1 12).toInt = (Mq.1 1 12).toInt + 1)) ∧ ((((¬ ((0 ≤ a1 ∧ a1 < (Mq.1 1 3).toInt) ∧ (0 ≤ a2 ∧ a2 < (Mq.1 1 3).toInt) ∧ 0 ≤ a3 ∧ a3 ≤ 7 ∧ 0 ≤ a4 ∧ a4 ≤ 9)) ∨ (¬ (0 ≤ a5 ∧ a5 ≤ 1)) ∨ (40 ≤ (Mq.1 1 12).toInt)) → M'.2 1 11 = Mq.2 1 11) ∧ (¬ ((¬ ((0 ≤ a1 ∧ a1 < (Mq.1 1 3).toInt) ∧ (0 ≤ a2 ∧ a2 < (Mq.1 1 3).toInt) ∧ 0 ≤ a3 ∧ a3 ≤ 7 ∧ 0 ≤ a4 ∧ a4 ≤ 9)) ∨ (¬ (0 ≤ a5 ∧ a5 ≤ 1)) ∨ (40 ≤ (Mq.1 1 12).toInt)) → ∀ l : Nat, l < 64 → b64 (M'.2 1 11) l = (b64 (Mq.2 1 11) l || (decide ((l : Int) = (Mq.1 1 12).toInt) && decide (a5 = 1)))))) ∧ Iv TX M' ∧ Fr W_X6_line_E Mq M') := by
  refine ctr_of (L := [(0, .ref (ad 0)), (1, .int x1), (2, .int x2), (3, .int x3), (4, .int x4), (5, .int x5)]) (by decide) (Nat.le_of_ble_eq_true rfl) rfl ?_
  intro Γ X
  have X : gX Γ cX6_line RX6 6 (some .int) 1 ad _ := X
  have frq0 : Fr W_X6_line_E Mq Mq := Fr.rf
  have g1_3 := ig_1_3 Iq0
  have g1_12 := ig_1_12 Iq0
  have g0_7 := ig_0_7 Iq0
  refine g_aload_n X 0 rfl dX6_line_0 ?_
  refine g_getr X f_X6_10 dX6_line_1 ?_
  refine g_iload_n X 1 rfl dX6_line_4 ?_
  refine g_callV X m_X6_82 (c_X5_isHalf ad Mq x1 t1) rfl (by decide) (Nat.le_of_ble_eq_true rfl) rfl dX6_line_5 ?_
  rintro _ _ ⟨rq1, aq2, rfl, tq3, hq4, rfl⟩
  show G Γ Mq 8 [(0, .ref (ad 0)), (1, .int x1), (2, .int x2), (3, .int x3), (4, .int x4), (5, .int x5)] [.int rq1]
  refine g_if_eq X tq3 (tgt := 22) dX6_line_8 (by decide) (fun cq5 => ?_) (fun cq5 => ?_)
  · have pq6 : ¬ (0 ≤ a1 ∧ a1 < ((Mq.1 1 3)).toInt) := by first | omega | (rcases hq4 with ⟨z1, z2⟩ | ⟨z1, z2⟩ <;> first | exact z2 | (exfalso; omega))
    clear hq4 cq5 tq3
    refine g_iconst X (-1) dX6_line_22 (by decide) ?_
    exact g_iret X dX6_line_23 ⟨_, _, rfl, (show ((-1) : Int32).toInt = (-1) by decide), (by omega), (⟨by first | omega | (have z := trivial.1; omega), ⟨fun h => by first | rfl | exact absurd h (by omega), fun h => by first | exact trivial.2 | exact absurd (by omega) h⟩⟩), Iq0, frq0⟩
  · have pq7 : (0 ≤ a1 ∧ a1 < ((Mq.1 1 3)).toInt) := by first | omega | (rcases hq4 with ⟨z1, z2⟩ | ⟨z1, z2⟩ <;> first | exact z2 | (exfalso; omega))
    clear hq4 cq5 tq3
    refine g_aload_n X 0 rfl dX6_line_11 ?_
    refine g_getr X f_X6_10 dX6_line_12 ?_
    refine g_iload_n X 2 rfl dX6_line_15 ?_
    refine g_callV X m_X6_82 (c_X5_isHalf ad Mq x2 t2) rfl (by decide) (Nat.le_of_ble_eq_true rfl) rfl dX6_line_16 ?_
    rintro _ _ ⟨rq8, aq9, rfl, tq10, hq11, rfl⟩
    show G Γ Mq 19 [(0, .ref (ad 0)), (1, .int x1), (2, .int x2), (3, .int x3), (4, .int x4), (5, .int x5)] [.int rq8]
    refine g_if_ne X tq10 (tgt := 24) dX6_line_19 (by decide) (fun cq12 => ?_) (fun cq12 => ?_)
    · have pq13 : (0 ≤ a2 ∧ a2 < ((Mq.1 1 3)).toInt) := by first | omega | (rcases hq11 with ⟨z1, z2⟩ | ⟨z1, z2⟩ <;> first | exact z2 | (exfalso; omega))
      clear hq11 cq12 tq10
      refine g_iload_n X 3 rfl dX6_line_24 ?_
      refine g_iconst X 0 dX6_line_25 (by decide) ?_
      refine g_bipush X 7 dX6_line_26 (by decide) ?_
      refine g_callS X m_X6_61 (c_X6_inside ad Mq x3 t3 0 (show (0 : Int32).toInt = 0 by decide) 7 (show (7 : Int32).toInt = 7 by decide)) rfl (by decide) (Nat.le_of_ble_eq_true rfl) rfl dX6_line_28 ?_
      rintro _ _ ⟨rq14, aq15, rfl, tq16, hq17, rfl⟩
      show G Γ Mq 31 [(0, .ref (ad 0)), (1, .int x1), (2, .int x2), (3, .int x3), (4, .int x4), (5, .int x5)] [.int rq14]
      refine g_if_eq X tq16 (tgt := 45) dX6_line_31 (by decide) (fun cq18 => ?_) (fun cq18 => ?_)
      · have pq19 : ¬ (0 ≤ a3 ∧ a3 ≤ 7) := by first | omega | (rcases hq17 with ⟨z1, z2⟩ | ⟨z1, z2⟩ <;> first | exact z2 | (exfalso; omega))
        clear hq17 cq18 tq16
        refine g_iconst X (-1) dX6_line_45 (by decide) ?_
        exact g_iret X dX6_line_46 ⟨_, _, rfl, (show ((-1) : Int32).toInt = (-1) by decide), (by omega), (⟨by first | omega | (have z := trivial.1; omega), ⟨fun h => by first | rfl | exact absurd h (by omega), fun h => by first | exact trivial.2 | exact absurd (by omega) h⟩⟩), Iq0, frq0⟩
      · have pq20 : (0 ≤ a3 ∧ a3 ≤ 7) := by first | omega | (rcases hq17 with ⟨z1, z2⟩ | ⟨z1, z2⟩ <;> first | exact z2 | (exfalso; omega))
        clear hq17 cq18 tq16
        refine g_iload X 4 rfl dX6_line_34 ?_
        refine g_iconst X 0 dX6_line_36 (by decide) ?_
        refine g_bipush X 9 dX6_line_37 (by decide) ?_
        refine g_callS X m_X6_61 (c_X6_inside ad Mq x4 t4 0 (show (0 : Int32).toInt = 0 by decide) 9 (show (9 : Int32).toInt = 9 by decide)) rfl (by decide) (Nat.le_of_ble_eq_true rfl) rfl dX6_line_39 ?_
        rintro _ _ ⟨rq21, aq22, rfl, tq23, hq24, rfl⟩
        show G Γ Mq 42 [(0, .ref (ad 0)), (1, .int x1), (2, .int x2), (3, .int x3), (4, .int x4), (5, .int x5)] [.int rq21]
        refine g_if_ne X tq23 (tgt := 47) dX6_line_42 (by decide) (fun cq25 => ?_) (fun cq25 => ?_)
        · have pq26 : (0 ≤ a4 ∧ a4 ≤ 9) := by first | omega | (rcases hq24 with ⟨z1, z2⟩ | ⟨z1, z2⟩ <;> first | exact z2 | (exfalso; omega))
          clear hq24 cq25 tq23
          refine g_iload X 5 rfl dX6_line_47 ?_
          refine g_iconst X 0 dX6_line_49 (by decide) ?_
          refine g_iconst X 1 dX6_line_50 (by decide) ?_
          refine g_callS X m_X6_61 (c_X6_inside ad Mq x5 t5 0 (show (0 : Int32).toInt = 0 by decide) 1 (show (1 : Int32).toInt = 1 by decide)) rfl (by decide) (Nat.le_of_ble_eq_true rfl) rfl dX6_line_51 ?_
          rintro _ _ ⟨rq27, aq28, rfl, tq29, hq30, rfl⟩
          show G Γ Mq 54 [(0, .ref (ad 0)), (1, .int x1), (2, .int x2), (3, .int x3), (4, .int x4), (5, .int x5)] [.int rq27]
          refine g_if_ne X tq29 (tgt := 60) dX6_line_54 (by decide) (fun cq31 => ?_) (fun cq31 => ?_)
          · have pq32 : (0 ≤ a5 ∧ a5 ≤ 1) := by first | omega | (rcases hq30 with ⟨z1, z2⟩ | ⟨z1, z2⟩ <;> first | exact z2 | (exfalso; omega))
            clear hq30 cq31 tq29
            refine g_aload_n X 0 rfl dX6_line_60 ?_
            refine g_getr X f_X6_10 dX6_line_61 ?_
            refine g_geti X f_X6_86 dX6_line_64 (x := Mq.1 1 12) rfl ?_
            have bq33 := ig_1_12 Iq0
            refine g_bipush X 40 dX6_line_67 (by decide) ?_
            refine g_icmp_lt X rfl (show (40 : Int32).toInt = 40 by decide) (tgt := 75) dX6_line_69 (by decide) (fun cq34 => ?_) (fun cq34 => ?_)
            · refine g_aload_n X 0 rfl dX6_line_75 ?_
              refine g_getr X f_X6_10 dX6_line_76 ?_
              refine g_iload_n X 1 rfl dX6_line_79 ?_
              refine g_iload_n X 2 rfl dX6_line_80 ?_
              refine g_iload_n X 3 rfl dX6_line_81 ?_
              refine g_iload X 4 rfl dX6_line_82 ?_
              refine g_iload X 5 rfl dX6_line_84 ?_
              refine g_callV X m_X6_89 (c_X5_addLine_E ad Mq x1 t1 x2 t2 x3 t3 x4 t4 x5 t5 Iq0 (by omega) (by omega) (by omega) (by omega) (by omega) (by omega)) rfl (by decide) (Nat.le_of_ble_eq_true rfl) rfl dX6_line_86 ?_
              rintro _ Mq40 ⟨rq35, aq36, rfl, tq37, hq38, hq39, Iq41, frq42⟩
              have frq43 : Fr W_X6_line_E Mq Mq40 := frq0.trans frq42 rfl
              show G Γ Mq40 89 [(0, .ref (ad 0)), (1, .int x1), (2, .int x2), (3, .int x3), (4, .int x4), (5, .int x5)] [.int rq35]
              exact g_iret X dX6_line_89 ⟨_, _, rfl, tq37, (by omega), (⟨by first | omega | (have z := hq39.1; omega), ⟨fun h => by first | rfl | exact absurd h (by omega), fun h => by first | exact hq39.2 | exact absurd (by omega) h⟩⟩), Iq41, frq43⟩
            · refine g_bipush X (-4) dX6_line_72 (by decide) ?_
              exact g_iret X dX6_line_74 ⟨_, _, rfl, (show ((-4) : Int32).toInt = (-4) by decide), (by omega), (⟨by first | omega | (have z := trivial.1; omega), ⟨fun h => by first | rfl | exact absurd h (by omega), fun h => by first | exact trivial.2 | exact absurd (by omega) h⟩⟩), Iq0, frq0⟩
          · have pq44 : ¬ (0 ≤ a5 ∧ a5 ≤ 1) := by first | omega | (rcases hq30 with ⟨z1, z2⟩ | ⟨z1, z2⟩ <;> first | exact z2 | (exfalso; omega))
            clear hq30 cq31 tq29
            refine g_bipush X (-2) dX6_line_57 (by decide) ?_
            exact g_iret X dX6_line_59 ⟨_, _, rfl, (show ((-2) : Int32).toInt = (-2) by decide), (by omega), (⟨by first | omega | (have z := trivial.1; omega), ⟨fun h => by first | rfl | exact absurd h (by omega), fun h => by first | exact trivial.2 | exact absurd (by omega) h⟩⟩), Iq0, frq0⟩
        · have pq45 : ¬ (0 ≤ a4 ∧ a4 ≤ 9) := by first | omega | (rcases hq24 with ⟨z1, z2⟩ | ⟨z1, z2⟩ <;> first | exact z2 | (exfalso; omega))
          clear hq24 cq25 tq23
          refine g_iconst X (-1) dX6_line_45 (by decide) ?_
          exact g_iret X dX6_line_46 ⟨_, _, rfl, (show ((-1) : Int32).toInt = (-1) by decide), (by omega), (⟨by first | omega | (have z := trivial.1; omega), ⟨fun h => by first | rfl | exact absurd h (by omega), fun h => by first | exact trivial.2 | exact absurd (by omega) h⟩⟩), Iq0, frq0⟩
    · have pq46 : ¬ (0 ≤ a2 ∧ a2 < ((Mq.1 1 3)).toInt) := by first | omega | (rcases hq11 with ⟨z1, z2⟩ | ⟨z1, z2⟩ <;> first | exact z2 | (exfalso; omega))
      clear hq11 cq12 tq10
      refine g_iconst X (-1) dX6_line_22 (by decide) ?_
      exact g_iret X dX6_line_23 ⟨_, _, rfl, (show ((-1) : Int32).toInt = (-1) by decide), (by omega), (⟨by first | omega | (have z := trivial.1; omega), ⟨fun h => by first | rfl | exact absurd h (by omega), fun h => by first | exact trivial.2 | exact absurd (by omega) h⟩⟩), Iq0, frq0⟩
abbrev W_X7_line_E : List (Nat × Nat) := [(47, 12), (53, 99), (54, 99), (55, 99), (56, 99), (57, 99)]
set_option maxHeartbeats 4000000 in
set_option maxRecDepth 4000 in
theorem c_X7_line_E (ad : Nat → Nat) (Mq : Mem) (x1 : Int32) {a1 : Int} (t1 : x1.toInt = a1) (x2 : Int32) {a2 : Int} (t2 : x2.toInt = a2) (x3 : Int32) {a3 : Int} (t3 : x3.toInt = a3) (x4 : Int32) {a4 : Int} (t4 : x4.toInt = a4) (x5 : Int32) {a5 : Int} (t5 : x5.toInt = a5) (Iq0 : Iv TM Mq) : Ctr ad yX7_line cX7_line 6 (some .int) 1 [.ref (ad 47), .int x1, .int x2, .int x3, .int x4, .int x5] Mq (fun v M' => ∃ (r : Int32) (a : Int), v = some (.int r) ∧ r.toInt = a ∧ (((¬ ((0 ≤ a1 ∧ a1 < (Mq.1 47 11).toInt) ∧ (0 ≤ a2 ∧ a2 < (Mq.1 47 11).toInt) ∧ 0 ≤ a3 ∧ a3 ≤ 7 ∧ 0 ≤ a4 ∧ a4 ≤ 9)) ∧ (a = -1)) ∨ (¬ (¬ ((0 ≤ a1 ∧ a1 < (Mq.1 47 11).toInt) ∧ (0 ≤ a2 ∧ a2 < (Mq.1 47 11).toInt) ∧ 0 ≤ a3 ∧ a3 ≤ 7 ∧ 0 ≤ a4 ∧ a4 ≤ 9)) ∧ (¬ (0 ≤ a5 ∧ a5 ≤ 1)) ∧ (a = -2)) ∨ (¬ (¬ ((0 ≤ a1 ∧ a1 < (Mq.1 47 11).toInt) ∧ (0 ≤ a2 ∧ a2 < (Mq.1 47 11).toInt) ∧ 0 ≤ a3 ∧ a3 ≤ 7 ∧ 0 ≤ a4 ∧ a4 ≤ 9)) ∧ ¬ (¬ (0 ≤ a5 ∧ a5 ≤ 1)) ∧ (40 ≤ (Mq.1 47 12).toInt) ∧ (a = -4)) ∨ (¬ (¬ ((0 ≤ a1 ∧ a1 < (Mq.1 47 11).toInt) ∧ (0 ≤ a2 ∧ a2 < (Mq.1 47 11).toInt) ∧ 0 ≤ a3 ∧ a3 ≤ 7 ∧ 0 ≤ a4 ∧ a4 ≤ 9)) ∧ ¬ (¬ (0 ≤ a5 ∧ a5 ≤ 1)) ∧ ¬ (40 ≤ (Mq.1 47 12).toInt) ∧ (a = (Mq.1 47 12).toInt))) ∧ (((((¬ ((0 ≤ a1 ∧ a1 < (Mq.1 47 11).toInt) ∧ (0 ≤ a2 ∧ a2 < (Mq.1 47 11).toInt) ∧ 0 ≤ a3 ∧ a3 ≤ 7 ∧ 0 ≤ a4 ∧ a4 ≤ 9)) ∨ (¬ (0 ≤ a5 ∧ a5 ≤ 1)) ∨ (40 ≤ (Mq.1 47 12).toInt)) ∧ (M'.1 47 12).toInt = (Mq.1 47 12).toInt) ∨ (¬ ((¬ ((0 ≤ a1 ∧ a1 < (Mq.1 47 11).toInt) ∧ (0 ≤ a2 ∧ a2 < (Mq.1 47 11).toInt) ∧ 0 ≤ a3 ∧ a3 ≤ 7 ∧ 0 ≤ a4 ∧ a4 ≤ 9)) ∨ (¬ (0 ≤ a5 ∧ a5 ≤ 1)) ∨ (40 ≤ (Mq.1 47 12).toInt)) ∧ (M'.1 47 12).toInt = (Mq.1 47 12).toInt + 1)) ∧ ((((¬ ((0 ≤ a1 ∧ a1 < (Mq.1 47 11).toInt) ∧ (0 ≤ a2 ∧ a2 < (Mq.1 47 11).toInt) ∧ 0 ≤ a3 ∧ a3 ≤ 7 ∧ 0 ≤ a4 ∧ a4 ≤ 9)) ∨ (¬ (0 ≤ a5 ∧ a5 ≤ 1)) ∨ (40 ≤ (Mq.1 47 12).toInt)) → M'.1 57 = Mq.1 57) ∧ (¬ ((¬ ((0 ≤ a1 ∧ a1 < (Mq.1 47 11).toInt) ∧ (0 ≤ a2 ∧ a2 < (Mq.1 47 11).toInt) ∧ 0 ≤ a3 ∧ a3 ≤ 7 ∧ 0 ≤ a4 ∧ a4 ≤ 9)) ∨ (¬ (0 ≤ a5 ∧ a5 ≤ 1)) ∨ (40 ≤ (Mq.1 47 12).toInt)) → M'.1 57 = (ui Mq 57 ((Mq.1 47 12).toInt).toNat x5).1 57))) ∧ Iv TM M' ∧ Fr W_X7_line_E Mq M') := by
  refine ctr_of (L := [(0, .ref (ad 47)), (1, .int x1), (2, .int x2), (3, .int x3), (4, .int x4), (5, .int x5)]) (by decide) (Nat.le_of_ble_eq_true rfl) rfl ?_
  intro Γ X
  have X : gX Γ cX7_line RX7 6 (some .int) 1 ad _ := X
  have frq0 : Fr W_X7_line_E Mq Mq := Fr.rf
  have g47_11 := ig_47_11 Iq0
  have g47_12 := ig_47_12 Iq0
  have g47_43 := ig_47_43 Iq0
  refine g_aload_n X 0 rfl dX7_line_0 ?_
  refine g_iload_n X 1 rfl dX7_line_1 ?_
  refine g_callV X m_X7_164 (c_X7_isHalf ad Mq x1 t1) rfl (by decide) (Nat.le_of_ble_eq_true rfl) rfl dX7_line_2 ?_
  rintro _ _ ⟨rq1, aq2, rfl, tq3, hq4, rfl⟩
  show G Γ Mq 5 [(0, .ref (ad 47)), (1, .int x1), (2, .int x2), (3, .int x3), (4, .int x4), (5, .int x5)] [.int rq1]
  refine g_if_eq X tq3 (tgt := 36) dX7_line_5 (by decide) (fun cq5 => ?_) (fun cq5 => ?_)
  · have pq6 : ¬ (0 ≤ a1 ∧ a1 < ((Mq.1 47 11)).toInt) := by first | omega | (rcases hq4 with ⟨z1, z2⟩ | ⟨z1, z2⟩ <;> first | exact z2 | (exfalso; omega))
    clear hq4 cq5 tq3
    refine g_iconst X (-1) dX7_line_36 (by decide) ?_
    exact g_iret X dX7_line_37 ⟨_, _, rfl, (show ((-1) : Int32).toInt = (-1) by decide), (by omega), (⟨by first | omega | (rw [ui_eq]; omega), ⟨fun h => by first | rfl | exact absurd h (by omega), fun h => by first | (funext b; simp [ui]; done) | exact absurd (by omega) h⟩⟩), Iq0, frq0⟩
  · have pq7 : (0 ≤ a1 ∧ a1 < ((Mq.1 47 11)).toInt) := by first | omega | (rcases hq4 with ⟨z1, z2⟩ | ⟨z1, z2⟩ <;> first | exact z2 | (exfalso; omega))
    clear hq4 cq5 tq3
    refine g_aload_n X 0 rfl dX7_line_8 ?_
    refine g_iload_n X 2 rfl dX7_line_9 ?_
    refine g_callV X m_X7_164 (c_X7_isHalf ad Mq x2 t2) rfl (by decide) (Nat.le_of_ble_eq_true rfl) rfl dX7_line_10 ?_
    rintro _ _ ⟨rq8, aq9, rfl, tq10, hq11, rfl⟩
    show G Γ Mq 13 [(0, .ref (ad 47)), (1, .int x1), (2, .int x2), (3, .int x3), (4, .int x4), (5, .int x5)] [.int rq8]
    refine g_if_eq X tq10 (tgt := 36) dX7_line_13 (by decide) (fun cq12 => ?_) (fun cq12 => ?_)
    · have pq13 : ¬ (0 ≤ a2 ∧ a2 < ((Mq.1 47 11)).toInt) := by first | omega | (rcases hq11 with ⟨z1, z2⟩ | ⟨z1, z2⟩ <;> first | exact z2 | (exfalso; omega))
      clear hq11 cq12 tq10
      refine g_iconst X (-1) dX7_line_36 (by decide) ?_
      exact g_iret X dX7_line_37 ⟨_, _, rfl, (show ((-1) : Int32).toInt = (-1) by decide), (by omega), (⟨by first | omega | (rw [ui_eq]; omega), ⟨fun h => by first | rfl | exact absurd h (by omega), fun h => by first | (funext b; simp [ui]; done) | exact absurd (by omega) h⟩⟩), Iq0, frq0⟩
    · have pq14 : (0 ≤ a2 ∧ a2 < ((Mq.1 47 11)).toInt) := by first | omega | (rcases hq11 with ⟨z1, z2⟩ | ⟨z1, z2⟩ <;> first | exact z2 | (exfalso; omega))
      clear hq11 cq12 tq10
      refine g_iload_n X 3 rfl dX7_line_16 ?_
      refine g_i2l X dX7_line_17 (fun zq15 eq16 => ?_)
      have tq17 : zq15.toInt = a3 := i2l_nw eq16 t3
      refine g_lconst X 0 dX7_line_18 (by decide) ?_
      refine g_ldc2 X k_X7_167 dX7_line_19 ?_
      refine g_callS X m_X7_152 (c_X7_isIn ad Mq zq15 tq17 0 (show (0 : Int64).toInt = 0 by decide) 7 (show (7 : Int64).toInt = 7 by decide)) rfl (by decide) (Nat.le_of_ble_eq_true rfl) rfl dX7_line_22 ?_
      rintro _ _ ⟨rq18, aq19, rfl, tq20, hq21, rfl⟩
      show G Γ Mq 25 [(0, .ref (ad 47)), (1, .int x1), (2, .int x2), (3, .int x3), (4, .int x4), (5, .int x5)] [.int rq18]
      refine g_if_eq X tq20 (tgt := 36) dX7_line_25 (by decide) (fun cq22 => ?_) (fun cq22 => ?_)
      · have pq23 : ¬ (0 ≤ a3 ∧ a3 ≤ 7) := by first | omega | (rcases hq21 with ⟨z1, z2⟩ | ⟨z1, z2⟩ <;> first | exact z2 | (exfalso; omega))
        clear hq21 cq22 tq20
        refine g_iconst X (-1) dX7_line_36 (by decide) ?_
        exact g_iret X dX7_line_37 ⟨_, _, rfl, (show ((-1) : Int32).toInt = (-1) by decide), (by omega), (⟨by first | omega | (rw [ui_eq]; omega), ⟨fun h => by first | rfl | exact absurd h (by omega), fun h => by first | (funext b; simp [ui]; done) | exact absurd (by omega) h⟩⟩), Iq0, frq0⟩
      · have pq24 : (0 ≤ a3 ∧ a3 ≤ 7) := by first | omega | (rcases hq21 with ⟨z1, z2⟩ | ⟨z1, z2⟩ <;> first | exact z2 | (exfalso; omega))
        clear hq21 cq22 tq20
        refine g_iload X 4 rfl dX7_line_28 ?_
        refine g_callS X m_X7_158 (c_X7_isName ad Mq x4 t4) rfl (by decide) (Nat.le_of_ble_eq_true rfl) rfl dX7_line_30 ?_
        rintro _ _ ⟨rq25, aq26, rfl, tq27, hq28, rfl⟩
        show G Γ Mq 33 [(0, .ref (ad 47)), (1, .int x1), (2, .int x2), (3, .int x3), (4, .int x4), (5, .int x5)] [.int rq25]
        refine g_if_ne X tq27 (tgt := 38) dX7_line_33 (by decide) (fun cq29 => ?_) (fun cq29 => ?_)
        · have pq30 : (0 ≤ a4 ∧ a4 ≤ 9) := by first | omega | (rcases hq28 with ⟨z1, z2⟩ | ⟨z1, z2⟩ <;> first | exact z2 | (exfalso; omega))
          clear hq28 cq29 tq27
          refine g_iload X 5 rfl dX7_line_38 ?_
          refine g_i2l X dX7_line_40 (fun zq31 eq32 => ?_)
          have tq33 : zq31.toInt = a5 := i2l_nw eq32 t5
          refine g_lconst X 0 dX7_line_41 (by decide) ?_
          refine g_lconst X 1 dX7_line_42 (by decide) ?_
          refine g_callS X m_X7_152 (c_X7_isIn ad Mq zq31 tq33 0 (show (0 : Int64).toInt = 0 by decide) 1 (show (1 : Int64).toInt = 1 by decide)) rfl (by decide) (Nat.le_of_ble_eq_true rfl) rfl dX7_line_43 ?_
          rintro _ _ ⟨rq34, aq35, rfl, tq36, hq37, rfl⟩
          show G Γ Mq 46 [(0, .ref (ad 47)), (1, .int x1), (2, .int x2), (3, .int x3), (4, .int x4), (5, .int x5)] [.int rq34]
          refine g_if_ne X tq36 (tgt := 52) dX7_line_46 (by decide) (fun cq38 => ?_) (fun cq38 => ?_)
          · have pq39 : (0 ≤ a5 ∧ a5 ≤ 1) := by first | omega | (rcases hq37 with ⟨z1, z2⟩ | ⟨z1, z2⟩ <;> first | exact z2 | (exfalso; omega))
            clear hq37 cq38 tq36
            refine g_aload_n X 0 rfl dX7_line_52 ?_
            refine g_geti X f_X7_147 dX7_line_53 (x := Mq.1 47 12) rfl ?_
            have bq40 := ig_47_12 Iq0
            refine g_bipush X 40 dX7_line_56 (by decide) ?_
            refine g_icmp_ne X rfl (show (40 : Int32).toInt = 40 by decide) (tgt := 64) dX7_line_58 (by decide) (fun cq41 => ?_) (fun cq41 => ?_)
            · refine g_aload_n X 0 rfl dX7_line_64 ?_
              refine g_getr X f_X7_25 dX7_line_65 ?_
              refine g_aload_n X 0 rfl dX7_line_68 ?_
              refine g_geti X f_X7_147 dX7_line_69 (x := Mq.1 47 12) rfl ?_
              have bq42 := ig_47_12 Iq0
              refine g_iload_n X 1 rfl dX7_line_72 ?_
              refine g_iast X la_53 rfl dX7_line_73 (by omega) ?_
              have Iq43 : Iv TM (ui Mq 53 (((Mq.1 47 12).toInt).toNat) x1) := Iq0.putA 0 39 t1 (by omega) rfl
              have frq44 : Fr W_X7_line_E Mq (ui Mq 53 (((Mq.1 47 12).toInt).toNat) x1) := frq0.ui rfl
              refine g_aload_n X 0 rfl dX7_line_74 ?_
              refine g_getr X f_X7_28 dX7_line_75 ?_
              refine g_aload_n X 0 rfl dX7_line_78 ?_
              refine g_geti X f_X7_147 dX7_line_79 (x := Mq.1 47 12) rfl ?_
              have bq45 := ig_47_12 Iq0
              refine g_iload_n X 2 rfl dX7_line_82 ?_
              refine g_iast X la_54 rfl dX7_line_83 (by omega) ?_
              have Iq46 : Iv TM (ui (ui Mq 53 (((Mq.1 47 12).toInt).toNat) x1) 54 (((Mq.1 47 12).toInt).toNat) x2) := Iq43.putA 0 39 t2 (by omega) rfl
              have frq47 : Fr W_X7_line_E Mq (ui (ui Mq 53 (((Mq.1 47 12).toInt).toNat) x1) 54 (((Mq.1 47 12).toInt).toNat) x2) := frq44.ui rfl
              refine g_aload_n X 0 rfl dX7_line_84 ?_
              refine g_getr X f_X7_31 dX7_line_85 ?_
              refine g_aload_n X 0 rfl dX7_line_88 ?_
              refine g_geti X f_X7_147 dX7_line_89 (x := Mq.1 47 12) rfl ?_
              have bq48 := ig_47_12 Iq0
              refine g_iload_n X 3 rfl dX7_line_92 ?_
              refine g_iast X la_55 rfl dX7_line_93 (by omega) ?_
              have Iq49 : Iv TM (ui (ui (ui Mq 53 (((Mq.1 47 12).toInt).toNat) x1) 54 (((Mq.1 47 12).toInt).toNat) x2) 55 (((Mq.1 47 12).toInt).toNat) x3) := Iq46.otherA rfl
              have frq50 : Fr W_X7_line_E Mq (ui (ui (ui Mq 53 (((Mq.1 47 12).toInt).toNat) x1) 54 (((Mq.1 47 12).toInt).toNat) x2) 55 (((Mq.1 47 12).toInt).toNat) x3) := frq47.ui rfl
              refine g_aload_n X 0 rfl dX7_line_94 ?_
              refine g_getr X f_X7_34 dX7_line_95 ?_
              refine g_aload_n X 0 rfl dX7_line_98 ?_
              refine g_geti X f_X7_147 dX7_line_99 (x := Mq.1 47 12) rfl ?_
              have bq51 := ig_47_12 Iq0
              refine g_iload X 4 rfl dX7_line_102 ?_
              refine g_iast X la_56 rfl dX7_line_104 (by omega) ?_
              have Iq52 : Iv TM (ui (ui (ui (ui Mq 53 (((Mq.1 47 12).toInt).toNat) x1) 54 (((Mq.1 47 12).toInt).toNat) x2) 55 (((Mq.1 47 12).toInt).toNat) x3) 56 (((Mq.1 47 12).toInt).toNat) x4) := Iq49.putA 0 9 t4 (by omega) rfl
              have frq53 : Fr W_X7_line_E Mq (ui (ui (ui (ui Mq 53 (((Mq.1 47 12).toInt).toNat) x1) 54 (((Mq.1 47 12).toInt).toNat) x2) 55 (((Mq.1 47 12).toInt).toNat) x3) 56 (((Mq.1 47 12).toInt).toNat) x4) := frq50.ui rfl
              refine g_aload_n X 0 rfl dX7_line_105 ?_
              refine g_getr X f_X7_37 dX7_line_106 ?_
              refine g_aload_n X 0 rfl dX7_line_109 ?_
              refine g_geti X f_X7_147 dX7_line_110 (x := Mq.1 47 12) rfl ?_
              have bq54 := ig_47_12 Iq0
              refine g_iload X 5 rfl dX7_line_113 ?_
              refine g_iast X la_57 rfl dX7_line_115 (by omega) ?_
              have Iq55 : Iv TM (ui (ui (ui (ui (ui Mq 53 (((Mq.1 47 12).toInt).toNat) x1) 54 (((Mq.1 47 12).toInt).toNat) x2) 55 (((Mq.1 47 12).toInt).toNat) x3) 56 (((Mq.1 47 12).toInt).toNat) x4) 57 (((Mq.1 47 12).toInt).toNat) x5) := Iq52.otherA rfl
              have frq56 : Fr W_X7_line_E Mq (ui (ui (ui (ui (ui Mq 53 (((Mq.1 47 12).toInt).toNat) x1) 54 (((Mq.1 47 12).toInt).toNat) x2) 55 (((Mq.1 47 12).toInt).toNat) x3) 56 (((Mq.1 47 12).toInt).toNat) x4) 57 (((Mq.1 47 12).toInt).toNat) x5) := frq53.ui rfl
              refine g_aload_n X 0 rfl dX7_line_116 ?_
              refine g_dup X dX7_line_117 rfl ?_
              refine g_geti X f_X7_147 dX7_line_118 (x := Mq.1 47 12) rfl ?_
              have bq57 := ig_47_12 Iq0
              refine g_iconst X 1 dX7_line_121 (by decide) ?_
              refine g_iadd X dX7_line_122 (fun zq58 eq59 => ?_)
              have tq60 : zq58.toInt = ((Mq.1 47 12).toInt) + 1 := add_nw eq59 rfl (show (1 : Int32).toInt = 1 by decide) (by omega)
              refine g_puti X p_X7_147 dX7_line_123 ?_
              have Iq61 : Iv TM (ui (ui (ui (ui (ui (ui Mq 53 (((Mq.1 47 12).toInt).toNat) x1) 54 (((Mq.1 47 12).toInt).toNat) x2) 55 (((Mq.1 47 12).toInt).toNat) x3) 56 (((Mq.1 47 12).toInt).toNat) x4) 57 (((Mq.1 47 12).toInt).toNat) x5) 47 12 zq58) := Iq55.put 0 40 tq60 (by omega) rfl
              have frq62 : Fr W_X7_line_E Mq (ui (ui (ui (ui (ui (ui Mq 53 (((Mq.1 47 12).toInt).toNat) x1) 54 (((Mq.1 47 12).toInt).toNat) x2) 55 (((Mq.1 47 12).toInt).toNat) x3) 56 (((Mq.1 47 12).toInt).toNat) x4) 57 (((Mq.1 47 12).toInt).toNat) x5) 47 12 zq58) := frq56.ui rfl
              refine g_aload_n X 0 rfl dX7_line_126 ?_
              refine g_geti X f_X7_147 dX7_line_127 (x := zq58) rfl ?_
              refine g_iconst X 1 dX7_line_130 (by decide) ?_
              refine g_isub X dX7_line_131 (fun zq63 eq64 => ?_)
              have tq65 : zq63.toInt = (((Mq.1 47 12).toInt) + 1) - 1 := sub_nw eq64 tq60 (show (1 : Int32).toInt = 1 by decide) (by omega)
              exact g_iret X dX7_line_132 ⟨_, _, rfl, tq65, (by omega), (⟨by first | omega | (rw [ui_eq]; omega), ⟨fun h => by first | rfl | exact absurd h (by omega), fun h => by first | (funext b; simp [ui]; done) | exact absurd (by omega) h⟩⟩), Iq61, frq62⟩
            · refine g_bipush X (-4) dX7_line_61 (by decide) ?_
              exact g_iret X dX7_line_63 ⟨_, _, rfl, (show ((-4) : Int32).toInt = (-4) by decide), (by omega), (⟨by first | omega | (rw [ui_eq]; omega), ⟨fun h => by first | rfl | exact absurd h (by omega), fun h => by first | (funext b; simp [ui]; done) | exact absurd (by omega) h⟩⟩), Iq0, frq0⟩
          · have pq66 : ¬ (0 ≤ a5 ∧ a5 ≤ 1) := by first | omega | (rcases hq37 with ⟨z1, z2⟩ | ⟨z1, z2⟩ <;> first | exact z2 | (exfalso; omega))
            clear hq37 cq38 tq36
            refine g_bipush X (-2) dX7_line_49 (by decide) ?_
            exact g_iret X dX7_line_51 ⟨_, _, rfl, (show ((-2) : Int32).toInt = (-2) by decide), (by omega), (⟨by first | omega | (rw [ui_eq]; omega), ⟨fun h => by first | rfl | exact absurd h (by omega), fun h => by first | (funext b; simp [ui]; done) | exact absurd (by omega) h⟩⟩), Iq0, frq0⟩
        · have pq67 : ¬ (0 ≤ a4 ∧ a4 ≤ 9) := by first | omega | (rcases hq28 with ⟨z1, z2⟩ | ⟨z1, z2⟩ <;> first | exact z2 | (exfalso; omega))
          clear hq28 cq29 tq27
          refine g_iconst X (-1) dX7_line_36 (by decide) ?_
          exact g_iret X dX7_line_37 ⟨_, _, rfl, (show ((-1) : Int32).toInt = (-1) by decide), (by omega), (⟨by first | omega | (rw [ui_eq]; omega), ⟨fun h => by first | rfl | exact absurd h (by omega), fun h => by first | (funext b; simp [ui]; done) | exact absurd (by omega) h⟩⟩), Iq0, frq0⟩
abbrev W_X6_put_E : List (Nat × Nat) := [(0, 7), (46, 99)]
set_option maxHeartbeats 4000000 in
set_option maxRecDepth 4000 in
theorem c_X6_put_E (ad : Nat → Nat) (Mq : Mem) (x1 : Int32) {a1 : Int} (t1 : x1.toInt = a1) (x2 : Int32) {a2 : Int} (t2 : x2.toInt = a2) (Iq0 : Iv TX Mq) : Ctr ad yX6_put cX6_put 3 (some .int) 1 [.ref (ad 0), .int x1, .int x2] Mq (fun v M' => ∃ (r : Int32) (a : Int), v = some (.int r) ∧ r.toInt = a ∧ (((¬ (a2 = 40 ∨ (0 ≤ a2 ∧ a2 < (Mq.1 1 12).toInt))) ∧ (a = -1)) ∨ (¬ (¬ (a2 = 40 ∨ (0 ≤ a2 ∧ a2 < (Mq.1 1 12).toInt))) ∧ (a1 ≠ 0 ∧ a1 ≠ (Mq.1 0 7).toInt) ∧ (a = -2)) ∨ (¬ (¬ (a2 = 40 ∨ (0 ≤ a2 ∧ a2 < (Mq.1 1 12).toInt))) ∧ ¬ (a1 ≠ 0 ∧ a1 ≠ (Mq.1 0 7).toInt) ∧ (24 ≤ a1) ∧ (a = -4)) ∨ (¬ (¬ (a2 = 40 ∨ (0 ≤ a2 ∧ a2 < (Mq.1 1 12).toInt))) ∧ ¬ (a1 ≠ 0 ∧ a1 ≠ (Mq.1 0 7).toInt) ∧ ¬ (24 ≤ a1) ∧ (a = a1 + 1))) ∧ (((((¬ (a2 = 40 ∨ (0 ≤ a2 ∧ a2 < (Mq.1 1 12).toInt))) ∨ (a1 ≠ 0 ∧ a1 ≠ (Mq.1 0 7).toInt) ∨ (24 ≤ a1)) ∧ (M'.1 0 7).toInt = (Mq.1 0 7).toInt) ∨ (¬ ((¬ (a2 = 40 ∨ (0 ≤ a2 ∧ a2 < (Mq.1 1 12).toInt))) ∨ (a1 ≠ 0 ∧ a1 ≠ (Mq.1 0 7).toInt) ∨ (24 ≤ a1)) ∧ (M'.1 0 7).toInt = a1 + 1)) ∧ ((((¬ (a2 = 40 ∨ (0 ≤ a2 ∧ a2 < (Mq.1 1 12).toInt))) ∨ (a1 ≠ 0 ∧ a1 ≠ (Mq.1 0 7).toInt) ∨ (24 ≤ a1)) → M'.1 46 = Mq.1 46) ∧ (¬ ((¬ (a2 = 40 ∨ (0 ≤ a2 ∧ a2 < (Mq.1 1 12).toInt))) ∨ (a1 ≠ 0 ∧ a1 ≠ (Mq.1 0 7).toInt) ∨ (24 ≤ a1)) → M'.1 46 = (ui Mq 46 a1.toNat x2).1 46))) ∧ Iv TX M' ∧ Fr W_X6_put_E Mq M') := by
  refine ctr_of (L := [(0, .ref (ad 0)), (1, .int x1), (2, .int x2)]) (by decide) (Nat.le_of_ble_eq_true rfl) rfl ?_
  intro Γ X
  have X : gX Γ cX6_put RX6 3 (some .int) 1 ad _ := X
  have frq0 : Fr W_X6_put_E Mq Mq := Fr.rf
  have g1_3 := ig_1_3 Iq0
  have g1_12 := ig_1_12 Iq0
  have g0_7 := ig_0_7 Iq0
  refine g_iload_n X 2 rfl dX6_put_0 ?_
  refine g_bipush X 40 dX6_put_1 (by decide) ?_
  refine g_icmp_eq X t2 (show (40 : Int32).toInt = 40 by decide) (tgt := 19) dX6_put_3 (by decide) (fun cq1 => ?_) (fun cq1 => ?_)
  · refine g_iload_n X 1 rfl dX6_put_19 ?_
    refine g_if_eq X t1 (tgt := 34) dX6_put_20 (by decide) (fun cq2 => ?_) (fun cq2 => ?_)
    · refine g_iload_n X 1 rfl dX6_put_34 ?_
      refine g_bipush X 24 dX6_put_35 (by decide) ?_
      refine g_icmp_lt X t1 (show (24 : Int32).toInt = 24 by decide) (tgt := 43) dX6_put_37 (by decide) (fun cq3 => ?_) (fun cq3 => ?_)
      · refine g_aload_n X 0 rfl dX6_put_43 ?_
        refine g_getr X f_X6_53 dX6_put_44 ?_
        refine g_iload_n X 1 rfl dX6_put_47 ?_
        refine g_iload_n X 2 rfl dX6_put_48 ?_
        refine g_iast X la_46 t1 dX6_put_49 (by omega) ?_
        have Iq4 : Iv TX (ui Mq 46 a1.toNat x2) := Iq0.otherA rfl
        have frq5 : Fr W_X6_put_E Mq (ui Mq 46 a1.toNat x2) := frq0.ui rfl
        refine g_aload_n X 0 rfl dX6_put_50 ?_
        refine g_iload_n X 1 rfl dX6_put_51 ?_
        refine g_iconst X 1 dX6_put_52 (by decide) ?_
        refine g_iadd X dX6_put_53 (fun zq6 eq7 => ?_)
        have tq8 : zq6.toInt = a1 + 1 := add_nw eq7 t1 (show (1 : Int32).toInt = 1 by decide) (by omega)
        refine g_puti X p_X6_57 dX6_put_54 ?_
        have Iq9 : Iv TX (ui (ui Mq 46 a1.toNat x2) 0 7 zq6) := Iq4.put 0 24 tq8 (by omega) rfl
        have frq10 : Fr W_X6_put_E Mq (ui (ui Mq 46 a1.toNat x2) 0 7 zq6) := frq5.ui rfl
        refine g_aload_n X 0 rfl dX6_put_57 ?_
        refine g_geti X f_X6_57 dX6_put_58 (x := zq6) rfl ?_
        exact g_iret X dX6_put_61 ⟨_, _, rfl, tq8, (by omega), (⟨by first | omega | (rw [ui_eq]; omega), ⟨fun h => by first | rfl | exact absurd h (by omega), fun h => by first | (funext b; simp [ui]; done) | (have e : a1.toNat = ((Mq.1 0 7).toInt).toNat := (by omega); rw [e]; funext b; simp [ui]; done) | (have e : a1.toNat = 0 := (by omega); rw [e]; funext b; simp [ui]; done) | exact absurd (by omega) h⟩⟩), Iq9, frq10⟩
      · refine g_bipush X (-4) dX6_put_40 (by decide) ?_
        exact g_iret X dX6_put_42 ⟨_, _, rfl, (show ((-4) : Int32).toInt = (-4) by decide), (by omega), (⟨by first | omega | (rw [ui_eq]; omega), ⟨fun h => by first | rfl | exact absurd h (by omega), fun h => by first | (funext b; simp [ui]; done) | (have e : a1.toNat = ((Mq.1 0 7).toInt).toNat := (by omega); rw [e]; funext b; simp [ui]; done) | (have e : a1.toNat = 0 := (by omega); rw [e]; funext b; simp [ui]; done) | exact absurd (by omega) h⟩⟩), Iq0, frq0⟩
    · refine g_iload_n X 1 rfl dX6_put_23 ?_
      refine g_aload_n X 0 rfl dX6_put_24 ?_
      refine g_geti X f_X6_57 dX6_put_25 (x := Mq.1 0 7) rfl ?_
      have bq11 := ig_0_7 Iq0
      refine g_icmp_eq X t1 rfl (tgt := 34) dX6_put_28 (by decide) (fun cq12 => ?_) (fun cq12 => ?_)
      · refine g_iload_n X 1 rfl dX6_put_34 ?_
        refine g_bipush X 24 dX6_put_35 (by decide) ?_
        refine g_icmp_lt X t1 (show (24 : Int32).toInt = 24 by decide) (tgt := 43) dX6_put_37 (by decide) (fun cq13 => ?_) (fun cq13 => ?_)
        · refine g_aload_n X 0 rfl dX6_put_43 ?_
          refine g_getr X f_X6_53 dX6_put_44 ?_
          refine g_iload_n X 1 rfl dX6_put_47 ?_
          refine g_iload_n X 2 rfl dX6_put_48 ?_
          refine g_iast X la_46 t1 dX6_put_49 (by omega) ?_
          have Iq14 : Iv TX (ui Mq 46 a1.toNat x2) := Iq0.otherA rfl
          have frq15 : Fr W_X6_put_E Mq (ui Mq 46 a1.toNat x2) := frq0.ui rfl
          refine g_aload_n X 0 rfl dX6_put_50 ?_
          refine g_iload_n X 1 rfl dX6_put_51 ?_
          refine g_iconst X 1 dX6_put_52 (by decide) ?_
          refine g_iadd X dX6_put_53 (fun zq16 eq17 => ?_)
          have tq18 : zq16.toInt = a1 + 1 := add_nw eq17 t1 (show (1 : Int32).toInt = 1 by decide) (by omega)
          refine g_puti X p_X6_57 dX6_put_54 ?_
          have Iq19 : Iv TX (ui (ui Mq 46 a1.toNat x2) 0 7 zq16) := Iq14.put 0 24 tq18 (by omega) rfl
          have frq20 : Fr W_X6_put_E Mq (ui (ui Mq 46 a1.toNat x2) 0 7 zq16) := frq15.ui rfl
          refine g_aload_n X 0 rfl dX6_put_57 ?_
          refine g_geti X f_X6_57 dX6_put_58 (x := zq16) rfl ?_
          exact g_iret X dX6_put_61 ⟨_, _, rfl, tq18, (by omega), (⟨by first | omega | (rw [ui_eq]; omega), ⟨fun h => by first | rfl | exact absurd h (by omega), fun h => by first | (funext b; simp [ui]; done) | (have e : a1.toNat = ((Mq.1 0 7).toInt).toNat := (by omega); rw [e]; funext b; simp [ui]; done) | (have e : a1.toNat = 0 := (by omega); rw [e]; funext b; simp [ui]; done) | exact absurd (by omega) h⟩⟩), Iq19, frq20⟩
        · refine g_bipush X (-4) dX6_put_40 (by decide) ?_
          exact g_iret X dX6_put_42 ⟨_, _, rfl, (show ((-4) : Int32).toInt = (-4) by decide), (by omega), (⟨by first | omega | (rw [ui_eq]; omega), ⟨fun h => by first | rfl | exact absurd h (by omega), fun h => by first | (funext b; simp [ui]; done) | (have e : a1.toNat = ((Mq.1 0 7).toInt).toNat := (by omega); rw [e]; funext b; simp [ui]; done) | (have e : a1.toNat = 0 := (by omega); rw [e]; funext b; simp [ui]; done) | exact absurd (by omega) h⟩⟩), Iq0, frq0⟩
      · refine g_bipush X (-2) dX6_put_31 (by decide) ?_
        exact g_iret X dX6_put_33 ⟨_, _, rfl, (show ((-2) : Int32).toInt = (-2) by decide), (by omega), (⟨by first | omega | (rw [ui_eq]; omega), ⟨fun h => by first | rfl | exact absurd h (by omega), fun h => by first | (funext b; simp [ui]; done) | (have e : a1.toNat = ((Mq.1 0 7).toInt).toNat := (by omega); rw [e]; funext b; simp [ui]; done) | (have e : a1.toNat = 0 := (by omega); rw [e]; funext b; simp [ui]; done) | exact absurd (by omega) h⟩⟩), Iq0, frq0⟩
  · refine g_aload_n X 0 rfl dX6_put_6 ?_
    refine g_getr X f_X6_10 dX6_put_7 ?_
    refine g_iload_n X 2 rfl dX6_put_10 ?_
    refine g_callV X m_X6_96 (c_X5_isLine ad Mq x2 t2) rfl (by decide) (Nat.le_of_ble_eq_true rfl) rfl dX6_put_11 ?_
    rintro _ _ ⟨rq21, aq22, rfl, tq23, hq24, rfl⟩
    show G Γ Mq 14 [(0, .ref (ad 0)), (1, .int x1), (2, .int x2)] [.int rq21]
    refine g_if_ne X tq23 (tgt := 19) dX6_put_14 (by decide) (fun cq25 => ?_) (fun cq25 => ?_)
    · have pq26 : (0 ≤ a2 ∧ a2 < ((Mq.1 1 12)).toInt) := by first | omega | (rcases hq24 with ⟨z1, z2⟩ | ⟨z1, z2⟩ <;> first | exact z2 | (exfalso; omega))
      clear hq24 cq25 tq23
      refine g_iload_n X 1 rfl dX6_put_19 ?_
      refine g_if_eq X t1 (tgt := 34) dX6_put_20 (by decide) (fun cq27 => ?_) (fun cq27 => ?_)
      · refine g_iload_n X 1 rfl dX6_put_34 ?_
        refine g_bipush X 24 dX6_put_35 (by decide) ?_
        refine g_icmp_lt X t1 (show (24 : Int32).toInt = 24 by decide) (tgt := 43) dX6_put_37 (by decide) (fun cq28 => ?_) (fun cq28 => ?_)
        · refine g_aload_n X 0 rfl dX6_put_43 ?_
          refine g_getr X f_X6_53 dX6_put_44 ?_
          refine g_iload_n X 1 rfl dX6_put_47 ?_
          refine g_iload_n X 2 rfl dX6_put_48 ?_
          refine g_iast X la_46 t1 dX6_put_49 (by omega) ?_
          have Iq29 : Iv TX (ui Mq 46 a1.toNat x2) := Iq0.otherA rfl
          have frq30 : Fr W_X6_put_E Mq (ui Mq 46 a1.toNat x2) := frq0.ui rfl
          refine g_aload_n X 0 rfl dX6_put_50 ?_
          refine g_iload_n X 1 rfl dX6_put_51 ?_
          refine g_iconst X 1 dX6_put_52 (by decide) ?_
          refine g_iadd X dX6_put_53 (fun zq31 eq32 => ?_)
          have tq33 : zq31.toInt = a1 + 1 := add_nw eq32 t1 (show (1 : Int32).toInt = 1 by decide) (by omega)
          refine g_puti X p_X6_57 dX6_put_54 ?_
          have Iq34 : Iv TX (ui (ui Mq 46 a1.toNat x2) 0 7 zq31) := Iq29.put 0 24 tq33 (by omega) rfl
          have frq35 : Fr W_X6_put_E Mq (ui (ui Mq 46 a1.toNat x2) 0 7 zq31) := frq30.ui rfl
          refine g_aload_n X 0 rfl dX6_put_57 ?_
          refine g_geti X f_X6_57 dX6_put_58 (x := zq31) rfl ?_
          exact g_iret X dX6_put_61 ⟨_, _, rfl, tq33, (by omega), (⟨by first | omega | (rw [ui_eq]; omega), ⟨fun h => by first | rfl | exact absurd h (by omega), fun h => by first | (funext b; simp [ui]; done) | (have e : a1.toNat = ((Mq.1 0 7).toInt).toNat := (by omega); rw [e]; funext b; simp [ui]; done) | (have e : a1.toNat = 0 := (by omega); rw [e]; funext b; simp [ui]; done) | exact absurd (by omega) h⟩⟩), Iq34, frq35⟩
        · refine g_bipush X (-4) dX6_put_40 (by decide) ?_
          exact g_iret X dX6_put_42 ⟨_, _, rfl, (show ((-4) : Int32).toInt = (-4) by decide), (by omega), (⟨by first | omega | (rw [ui_eq]; omega), ⟨fun h => by first | rfl | exact absurd h (by omega), fun h => by first | (funext b; simp [ui]; done) | (have e : a1.toNat = ((Mq.1 0 7).toInt).toNat := (by omega); rw [e]; funext b; simp [ui]; done) | (have e : a1.toNat = 0 := (by omega); rw [e]; funext b; simp [ui]; done) | exact absurd (by omega) h⟩⟩), Iq0, frq0⟩
      · refine g_iload_n X 1 rfl dX6_put_23 ?_
        refine g_aload_n X 0 rfl dX6_put_24 ?_
        refine g_geti X f_X6_57 dX6_put_25 (x := Mq.1 0 7) rfl ?_
        have bq36 := ig_0_7 Iq0
        refine g_icmp_eq X t1 rfl (tgt := 34) dX6_put_28 (by decide) (fun cq37 => ?_) (fun cq37 => ?_)
        · refine g_iload_n X 1 rfl dX6_put_34 ?_
          refine g_bipush X 24 dX6_put_35 (by decide) ?_
          refine g_icmp_lt X t1 (show (24 : Int32).toInt = 24 by decide) (tgt := 43) dX6_put_37 (by decide) (fun cq38 => ?_) (fun cq38 => ?_)
          · refine g_aload_n X 0 rfl dX6_put_43 ?_
            refine g_getr X f_X6_53 dX6_put_44 ?_
            refine g_iload_n X 1 rfl dX6_put_47 ?_
            refine g_iload_n X 2 rfl dX6_put_48 ?_
            refine g_iast X la_46 t1 dX6_put_49 (by omega) ?_
            have Iq39 : Iv TX (ui Mq 46 a1.toNat x2) := Iq0.otherA rfl
            have frq40 : Fr W_X6_put_E Mq (ui Mq 46 a1.toNat x2) := frq0.ui rfl
            refine g_aload_n X 0 rfl dX6_put_50 ?_
            refine g_iload_n X 1 rfl dX6_put_51 ?_
            refine g_iconst X 1 dX6_put_52 (by decide) ?_
            refine g_iadd X dX6_put_53 (fun zq41 eq42 => ?_)
            have tq43 : zq41.toInt = a1 + 1 := add_nw eq42 t1 (show (1 : Int32).toInt = 1 by decide) (by omega)
            refine g_puti X p_X6_57 dX6_put_54 ?_
            have Iq44 : Iv TX (ui (ui Mq 46 a1.toNat x2) 0 7 zq41) := Iq39.put 0 24 tq43 (by omega) rfl
            have frq45 : Fr W_X6_put_E Mq (ui (ui Mq 46 a1.toNat x2) 0 7 zq41) := frq40.ui rfl
            refine g_aload_n X 0 rfl dX6_put_57 ?_
            refine g_geti X f_X6_57 dX6_put_58 (x := zq41) rfl ?_
            exact g_iret X dX6_put_61 ⟨_, _, rfl, tq43, (by omega), (⟨by first | omega | (rw [ui_eq]; omega), ⟨fun h => by first | rfl | exact absurd h (by omega), fun h => by first | (funext b; simp [ui]; done) | (have e : a1.toNat = ((Mq.1 0 7).toInt).toNat := (by omega); rw [e]; funext b; simp [ui]; done) | (have e : a1.toNat = 0 := (by omega); rw [e]; funext b; simp [ui]; done) | exact absurd (by omega) h⟩⟩), Iq44, frq45⟩
          · refine g_bipush X (-4) dX6_put_40 (by decide) ?_
            exact g_iret X dX6_put_42 ⟨_, _, rfl, (show ((-4) : Int32).toInt = (-4) by decide), (by omega), (⟨by first | omega | (rw [ui_eq]; omega), ⟨fun h => by first | rfl | exact absurd h (by omega), fun h => by first | (funext b; simp [ui]; done) | (have e : a1.toNat = ((Mq.1 0 7).toInt).toNat := (by omega); rw [e]; funext b; simp [ui]; done) | (have e : a1.toNat = 0 := (by omega); rw [e]; funext b; simp [ui]; done) | exact absurd (by omega) h⟩⟩), Iq0, frq0⟩
        · refine g_bipush X (-2) dX6_put_31 (by decide) ?_
          exact g_iret X dX6_put_33 ⟨_, _, rfl, (show ((-2) : Int32).toInt = (-2) by decide), (by omega), (⟨by first | omega | (rw [ui_eq]; omega), ⟨fun h => by first | rfl | exact absurd h (by omega), fun h => by first | (funext b; simp [ui]; done) | (have e : a1.toNat = ((Mq.1 0 7).toInt).toNat := (by omega); rw [e]; funext b; simp [ui]; done) | (have e : a1.toNat = 0 := (by omega); rw [e]; funext b; simp [ui]; done) | exact absurd (by omega) h⟩⟩), Iq0, frq0⟩
    · have pq46 : ¬ (0 ≤ a2 ∧ a2 < ((Mq.1 1 12)).toInt) := by first | omega | (rcases hq24 with ⟨z1, z2⟩ | ⟨z1, z2⟩ <;> first | exact z2 | (exfalso; omega))
      clear hq24 cq25 tq23
      refine g_iconst X (-1) dX6_put_17 (by decide) ?_
      exact g_iret X dX6_put_18 ⟨_, _, rfl, (show ((-1) : Int32).toInt = (-1) by decide), (by omega), (⟨by first | omega | (rw [ui_eq]; omega), ⟨fun h => by first | rfl | exact absurd h (by omega), fun h => by first | (funext b; simp [ui]; done) | (have e : a1.toNat = ((Mq.1 0 7).toInt).toNat := (by omega); rw [e]; funext b; simp [ui]; done) | (have e : a1.toNat = 0 := (by omega); rw [e]; funext b; simp [ui]; done) | exact absurd (by omega) h⟩⟩), Iq0, frq0⟩
abbrev W_X7_put_E : List (Nat × Nat) := [(47, 43), (77, 99)]
set_option maxHeartbeats 4000000 in
set_option maxRecDepth 4000 in
theorem c_X7_put_E (ad : Nat → Nat) (Mq : Mem) (x1 : Int32) {a1 : Int} (t1 : x1.toInt = a1) (x2 : Int32) {a2 : Int} (t2 : x2.toInt = a2) (Iq0 : Iv TM Mq) : Ctr ad yX7_put cX7_put 3 (some .int) 1 [.ref (ad 47), .int x1, .int x2] Mq (fun v M' => ∃ (r : Int32) (a : Int), v = some (.int r) ∧ r.toInt = a ∧ (((¬ (a2 = 40 ∨ (0 ≤ a2 ∧ a2 < (Mq.1 47 12).toInt))) ∧ (a = -1)) ∨ (¬ (¬ (a2 = 40 ∨ (0 ≤ a2 ∧ a2 < (Mq.1 47 12).toInt))) ∧ (a1 ≠ 0 ∧ a1 ≠ (Mq.1 47 43).toInt) ∧ (a = -2)) ∨ (¬ (¬ (a2 = 40 ∨ (0 ≤ a2 ∧ a2 < (Mq.1 47 12).toInt))) ∧ ¬ (a1 ≠ 0 ∧ a1 ≠ (Mq.1 47 43).toInt) ∧ (24 ≤ a1) ∧ (a = -4)) ∨ (¬ (¬ (a2 = 40 ∨ (0 ≤ a2 ∧ a2 < (Mq.1 47 12).toInt))) ∧ ¬ (a1 ≠ 0 ∧ a1 ≠ (Mq.1 47 43).toInt) ∧ ¬ (24 ≤ a1) ∧ (a = a1 + 1))) ∧ (((((¬ (a2 = 40 ∨ (0 ≤ a2 ∧ a2 < (Mq.1 47 12).toInt))) ∨ (a1 ≠ 0 ∧ a1 ≠ (Mq.1 47 43).toInt) ∨ (24 ≤ a1)) ∧ (M'.1 47 43).toInt = (Mq.1 47 43).toInt) ∨ (¬ ((¬ (a2 = 40 ∨ (0 ≤ a2 ∧ a2 < (Mq.1 47 12).toInt))) ∨ (a1 ≠ 0 ∧ a1 ≠ (Mq.1 47 43).toInt) ∨ (24 ≤ a1)) ∧ (M'.1 47 43).toInt = a1 + 1)) ∧ ((((¬ (a2 = 40 ∨ (0 ≤ a2 ∧ a2 < (Mq.1 47 12).toInt))) ∨ (a1 ≠ 0 ∧ a1 ≠ (Mq.1 47 43).toInt) ∨ (24 ≤ a1)) → M'.1 77 = Mq.1 77) ∧ (¬ ((¬ (a2 = 40 ∨ (0 ≤ a2 ∧ a2 < (Mq.1 47 12).toInt))) ∨ (a1 ≠ 0 ∧ a1 ≠ (Mq.1 47 43).toInt) ∨ (24 ≤ a1)) → M'.1 77 = (ui Mq 77 a1.toNat x2).1 77))) ∧ Iv TM M' ∧ Fr W_X7_put_E Mq M') := by
  refine ctr_of (L := [(0, .ref (ad 47)), (1, .int x1), (2, .int x2)]) (by decide) (Nat.le_of_ble_eq_true rfl) rfl ?_
  intro Γ X
  have X : gX Γ cX7_put RX7 3 (some .int) 1 ad _ := X
  have frq0 : Fr W_X7_put_E Mq Mq := Fr.rf
  have g47_11 := ig_47_11 Iq0
  have g47_12 := ig_47_12 Iq0
  have g47_43 := ig_47_43 Iq0
  refine g_aload_n X 0 rfl dX7_put_0 ?_
  refine g_iload_n X 2 rfl dX7_put_1 ?_
  refine g_callV X m_X7_186 (c_X7_isLine ad Mq x2 t2) rfl (by decide) (Nat.le_of_ble_eq_true rfl) rfl dX7_put_2 ?_
  rintro _ _ ⟨rq1, aq2, rfl, tq3, hq4, rfl⟩
  show G Γ Mq 5 [(0, .ref (ad 47)), (1, .int x1), (2, .int x2)] [.int rq1]
  refine g_if_ne X tq3 (tgt := 16) dX7_put_5 (by decide) (fun cq5 => ?_) (fun cq5 => ?_)
  · have pq6 : (0 ≤ a2 ∧ a2 < ((Mq.1 47 12)).toInt) := by first | omega | (rcases hq4 with ⟨z1, z2⟩ | ⟨z1, z2⟩ <;> first | exact z2 | (exfalso; omega))
    clear hq4 cq5 tq3
    refine g_iload_n X 1 rfl dX7_put_16 ?_
    refine g_if_eq X t1 (tgt := 31) dX7_put_17 (by decide) (fun cq7 => ?_) (fun cq7 => ?_)
    · refine g_iload_n X 1 rfl dX7_put_31 ?_
      refine g_bipush X 24 dX7_put_32 (by decide) ?_
      refine g_icmp_ne X t1 (show (24 : Int32).toInt = 24 by decide) (tgt := 40) dX7_put_34 (by decide) (fun cq8 => ?_) (fun cq8 => ?_)
      · refine g_iload_n X 1 rfl dX7_put_40 ?_
        refine g_if_ne X t1 (tgt := 49) dX7_put_41 (by decide) (fun cq9 => ?_) (fun cq9 => ?_)
        · refine g_aload_n X 0 rfl dX7_put_49 ?_
          refine g_getr X f_X7_101 dX7_put_50 ?_
          refine g_aload_n X 0 rfl dX7_put_53 ?_
          refine g_geti X f_X7_339 dX7_put_54 (x := Mq.1 47 43) rfl ?_
          have bq10 := ig_47_43 Iq0
          refine g_iload_n X 2 rfl dX7_put_57 ?_
          refine g_iast X la_77 rfl dX7_put_58 (by omega) ?_
          have Iq11 : Iv TM (ui Mq 77 (((Mq.1 47 43).toInt).toNat) x2) := Iq0.putA 0 40 t2 (by omega) rfl
          have frq12 : Fr W_X7_put_E Mq (ui Mq 77 (((Mq.1 47 43).toInt).toNat) x2) := frq0.ui rfl
          refine g_aload_n X 0 rfl dX7_put_59 ?_
          refine g_dup X dX7_put_60 rfl ?_
          refine g_geti X f_X7_339 dX7_put_61 (x := Mq.1 47 43) rfl ?_
          have bq13 := ig_47_43 Iq0
          refine g_iconst X 1 dX7_put_64 (by decide) ?_
          refine g_iadd X dX7_put_65 (fun zq14 eq15 => ?_)
          have tq16 : zq14.toInt = ((Mq.1 47 43).toInt) + 1 := add_nw eq15 rfl (show (1 : Int32).toInt = 1 by decide) (by omega)
          refine g_puti X p_X7_339 dX7_put_66 ?_
          have Iq17 : Iv TM (ui (ui Mq 77 (((Mq.1 47 43).toInt).toNat) x2) 47 43 zq14) := Iq11.put 0 24 tq16 (by omega) rfl
          have frq18 : Fr W_X7_put_E Mq (ui (ui Mq 77 (((Mq.1 47 43).toInt).toNat) x2) 47 43 zq14) := frq12.ui rfl
          refine g_aload_n X 0 rfl dX7_put_69 ?_
          refine g_geti X f_X7_339 dX7_put_70 (x := zq14) rfl ?_
          exact g_iret X dX7_put_73 ⟨_, _, rfl, tq16, (by omega), (⟨by first | omega | (rw [ui_eq]; omega), ⟨fun h => by first | rfl | exact absurd h (by omega), fun h => by first | (funext b; simp [ui]; done) | (have e : a1.toNat = ((Mq.1 47 43).toInt).toNat := (by omega); rw [e]; funext b; simp [ui]; done) | (have e : a1.toNat = 0 := (by omega); rw [e]; funext b; simp [ui]; done) | exact absurd (by omega) h⟩⟩), Iq17, frq18⟩
        · refine g_aload_n X 0 rfl dX7_put_44 ?_
          refine g_iconst X 0 dX7_put_45 (by decide) ?_
          refine g_puti X p_X7_339 dX7_put_46 ?_
          have ltq19 : (0 : Int32).toInt = 0 := by decide
          have Iq20 : Iv TM (ui Mq 47 43 0) := Iq0.put 0 24 (show (0 : Int32).toInt = 0 by decide) (by omega) rfl
          have frq21 : Fr W_X7_put_E Mq (ui Mq 47 43 0) := frq0.ui rfl
          refine g_aload_n X 0 rfl dX7_put_49 ?_
          refine g_getr X f_X7_101 dX7_put_50 ?_
          refine g_aload_n X 0 rfl dX7_put_53 ?_
          refine g_geti X f_X7_339 dX7_put_54 (x := 0) rfl ?_
          refine g_iload_n X 2 rfl dX7_put_57 ?_
          refine g_iast X la_77 (show (0 : Int32).toInt = 0 by decide) dX7_put_58 (by omega) ?_
          have Iq22 : Iv TM (ui (ui Mq 47 43 0) 77 0 x2) := Iq20.putA 0 40 t2 (by omega) rfl
          have frq23 : Fr W_X7_put_E Mq (ui (ui Mq 47 43 0) 77 0 x2) := frq21.ui rfl
          refine g_aload_n X 0 rfl dX7_put_59 ?_
          refine g_dup X dX7_put_60 rfl ?_
          refine g_geti X f_X7_339 dX7_put_61 (x := 0) rfl ?_
          refine g_iconst X 1 dX7_put_64 (by decide) ?_
          refine g_iadd X dX7_put_65 (fun zq24 eq25 => ?_)
          have tq26 : zq24.toInt = 0 + 1 := add_nw eq25 (show (0 : Int32).toInt = 0 by decide) (show (1 : Int32).toInt = 1 by decide) (by omega)
          refine g_puti X p_X7_339 dX7_put_66 ?_
          have Iq27 : Iv TM (ui (ui (ui Mq 47 43 0) 77 0 x2) 47 43 zq24) := Iq22.put 0 24 tq26 (by omega) rfl
          have frq28 : Fr W_X7_put_E Mq (ui (ui (ui Mq 47 43 0) 77 0 x2) 47 43 zq24) := frq23.ui rfl
          refine g_aload_n X 0 rfl dX7_put_69 ?_
          refine g_geti X f_X7_339 dX7_put_70 (x := zq24) rfl ?_
          exact g_iret X dX7_put_73 ⟨_, _, rfl, tq26, (by omega), (⟨by first | omega | (rw [ui_eq]; omega), ⟨fun h => by first | rfl | exact absurd h (by omega), fun h => by first | (funext b; simp [ui]; done) | (have e : a1.toNat = ((Mq.1 47 43).toInt).toNat := (by omega); rw [e]; funext b; simp [ui]; done) | (have e : a1.toNat = 0 := (by omega); rw [e]; funext b; simp [ui]; done) | exact absurd (by omega) h⟩⟩), Iq27, frq28⟩
      · refine g_bipush X (-4) dX7_put_37 (by decide) ?_
        exact g_iret X dX7_put_39 ⟨_, _, rfl, (show ((-4) : Int32).toInt = (-4) by decide), (by omega), (⟨by first | omega | (rw [ui_eq]; omega), ⟨fun h => by first | rfl | exact absurd h (by omega), fun h => by first | (funext b; simp [ui]; done) | (have e : a1.toNat = ((Mq.1 47 43).toInt).toNat := (by omega); rw [e]; funext b; simp [ui]; done) | (have e : a1.toNat = 0 := (by omega); rw [e]; funext b; simp [ui]; done) | exact absurd (by omega) h⟩⟩), Iq0, frq0⟩
    · refine g_iload_n X 1 rfl dX7_put_20 ?_
      refine g_aload_n X 0 rfl dX7_put_21 ?_
      refine g_geti X f_X7_339 dX7_put_22 (x := Mq.1 47 43) rfl ?_
      have bq29 := ig_47_43 Iq0
      refine g_icmp_eq X t1 rfl (tgt := 31) dX7_put_25 (by decide) (fun cq30 => ?_) (fun cq30 => ?_)
      · refine g_iload_n X 1 rfl dX7_put_31 ?_
        refine g_bipush X 24 dX7_put_32 (by decide) ?_
        refine g_icmp_ne X t1 (show (24 : Int32).toInt = 24 by decide) (tgt := 40) dX7_put_34 (by decide) (fun cq31 => ?_) (fun cq31 => ?_)
        · refine g_iload_n X 1 rfl dX7_put_40 ?_
          refine g_if_ne X t1 (tgt := 49) dX7_put_41 (by decide) (fun cq32 => ?_) (fun cq32 => ?_)
          · refine g_aload_n X 0 rfl dX7_put_49 ?_
            refine g_getr X f_X7_101 dX7_put_50 ?_
            refine g_aload_n X 0 rfl dX7_put_53 ?_
            refine g_geti X f_X7_339 dX7_put_54 (x := Mq.1 47 43) rfl ?_
            have bq33 := ig_47_43 Iq0
            refine g_iload_n X 2 rfl dX7_put_57 ?_
            refine g_iast X la_77 rfl dX7_put_58 (by omega) ?_
            have Iq34 : Iv TM (ui Mq 77 (((Mq.1 47 43).toInt).toNat) x2) := Iq0.putA 0 40 t2 (by omega) rfl
            have frq35 : Fr W_X7_put_E Mq (ui Mq 77 (((Mq.1 47 43).toInt).toNat) x2) := frq0.ui rfl
            refine g_aload_n X 0 rfl dX7_put_59 ?_
            refine g_dup X dX7_put_60 rfl ?_
            refine g_geti X f_X7_339 dX7_put_61 (x := Mq.1 47 43) rfl ?_
            have bq36 := ig_47_43 Iq0
            refine g_iconst X 1 dX7_put_64 (by decide) ?_
            refine g_iadd X dX7_put_65 (fun zq37 eq38 => ?_)
            have tq39 : zq37.toInt = ((Mq.1 47 43).toInt) + 1 := add_nw eq38 rfl (show (1 : Int32).toInt = 1 by decide) (by omega)
            refine g_puti X p_X7_339 dX7_put_66 ?_
            have Iq40 : Iv TM (ui (ui Mq 77 (((Mq.1 47 43).toInt).toNat) x2) 47 43 zq37) := Iq34.put 0 24 tq39 (by omega) rfl
            have frq41 : Fr W_X7_put_E Mq (ui (ui Mq 77 (((Mq.1 47 43).toInt).toNat) x2) 47 43 zq37) := frq35.ui rfl
            refine g_aload_n X 0 rfl dX7_put_69 ?_
            refine g_geti X f_X7_339 dX7_put_70 (x := zq37) rfl ?_
            exact g_iret X dX7_put_73 ⟨_, _, rfl, tq39, (by omega), (⟨by first | omega | (rw [ui_eq]; omega), ⟨fun h => by first | rfl | exact absurd h (by omega), fun h => by first | (funext b; simp [ui]; done) | (have e : a1.toNat = ((Mq.1 47 43).toInt).toNat := (by omega); rw [e]; funext b; simp [ui]; done) | (have e : a1.toNat = 0 := (by omega); rw [e]; funext b; simp [ui]; done) | exact absurd (by omega) h⟩⟩), Iq40, frq41⟩
          · refine g_aload_n X 0 rfl dX7_put_44 ?_
            refine g_iconst X 0 dX7_put_45 (by decide) ?_
            refine g_puti X p_X7_339 dX7_put_46 ?_
            have ltq42 : (0 : Int32).toInt = 0 := by decide
            have Iq43 : Iv TM (ui Mq 47 43 0) := Iq0.put 0 24 (show (0 : Int32).toInt = 0 by decide) (by omega) rfl
            have frq44 : Fr W_X7_put_E Mq (ui Mq 47 43 0) := frq0.ui rfl
            refine g_aload_n X 0 rfl dX7_put_49 ?_
            refine g_getr X f_X7_101 dX7_put_50 ?_
            refine g_aload_n X 0 rfl dX7_put_53 ?_
            refine g_geti X f_X7_339 dX7_put_54 (x := 0) rfl ?_
            refine g_iload_n X 2 rfl dX7_put_57 ?_
            refine g_iast X la_77 (show (0 : Int32).toInt = 0 by decide) dX7_put_58 (by omega) ?_
            have Iq45 : Iv TM (ui (ui Mq 47 43 0) 77 0 x2) := Iq43.putA 0 40 t2 (by omega) rfl
            have frq46 : Fr W_X7_put_E Mq (ui (ui Mq 47 43 0) 77 0 x2) := frq44.ui rfl
            refine g_aload_n X 0 rfl dX7_put_59 ?_
            refine g_dup X dX7_put_60 rfl ?_
            refine g_geti X f_X7_339 dX7_put_61 (x := 0) rfl ?_
            refine g_iconst X 1 dX7_put_64 (by decide) ?_
            refine g_iadd X dX7_put_65 (fun zq47 eq48 => ?_)
            have tq49 : zq47.toInt = 0 + 1 := add_nw eq48 (show (0 : Int32).toInt = 0 by decide) (show (1 : Int32).toInt = 1 by decide) (by omega)
            refine g_puti X p_X7_339 dX7_put_66 ?_
            have Iq50 : Iv TM (ui (ui (ui Mq 47 43 0) 77 0 x2) 47 43 zq47) := Iq45.put 0 24 tq49 (by omega) rfl
            have frq51 : Fr W_X7_put_E Mq (ui (ui (ui Mq 47 43 0) 77 0 x2) 47 43 zq47) := frq46.ui rfl
            refine g_aload_n X 0 rfl dX7_put_69 ?_
            refine g_geti X f_X7_339 dX7_put_70 (x := zq47) rfl ?_
            exact g_iret X dX7_put_73 ⟨_, _, rfl, tq49, (by omega), (⟨by first | omega | (rw [ui_eq]; omega), ⟨fun h => by first | rfl | exact absurd h (by omega), fun h => by first | (funext b; simp [ui]; done) | (have e : a1.toNat = ((Mq.1 47 43).toInt).toNat := (by omega); rw [e]; funext b; simp [ui]; done) | (have e : a1.toNat = 0 := (by omega); rw [e]; funext b; simp [ui]; done) | exact absurd (by omega) h⟩⟩), Iq50, frq51⟩
        · refine g_bipush X (-4) dX7_put_37 (by decide) ?_
          exact g_iret X dX7_put_39 ⟨_, _, rfl, (show ((-4) : Int32).toInt = (-4) by decide), (by omega), (⟨by first | omega | (rw [ui_eq]; omega), ⟨fun h => by first | rfl | exact absurd h (by omega), fun h => by first | (funext b; simp [ui]; done) | (have e : a1.toNat = ((Mq.1 47 43).toInt).toNat := (by omega); rw [e]; funext b; simp [ui]; done) | (have e : a1.toNat = 0 := (by omega); rw [e]; funext b; simp [ui]; done) | exact absurd (by omega) h⟩⟩), Iq0, frq0⟩
      · refine g_bipush X (-2) dX7_put_28 (by decide) ?_
        exact g_iret X dX7_put_30 ⟨_, _, rfl, (show ((-2) : Int32).toInt = (-2) by decide), (by omega), (⟨by first | omega | (rw [ui_eq]; omega), ⟨fun h => by first | rfl | exact absurd h (by omega), fun h => by first | (funext b; simp [ui]; done) | (have e : a1.toNat = ((Mq.1 47 43).toInt).toNat := (by omega); rw [e]; funext b; simp [ui]; done) | (have e : a1.toNat = 0 := (by omega); rw [e]; funext b; simp [ui]; done) | exact absurd (by omega) h⟩⟩), Iq0, frq0⟩
  · have pq52 : ¬ (0 ≤ a2 ∧ a2 < ((Mq.1 47 12)).toInt) := by first | omega | (rcases hq4 with ⟨z1, z2⟩ | ⟨z1, z2⟩ <;> first | exact z2 | (exfalso; omega))
    clear hq4 cq5 tq3
    refine g_iload_n X 2 rfl dX7_put_8 ?_
    refine g_bipush X 40 dX7_put_9 (by decide) ?_
    refine g_icmp_eq X t2 (show (40 : Int32).toInt = 40 by decide) (tgt := 16) dX7_put_11 (by decide) (fun cq53 => ?_) (fun cq53 => ?_)
    · refine g_iload_n X 1 rfl dX7_put_16 ?_
      refine g_if_eq X t1 (tgt := 31) dX7_put_17 (by decide) (fun cq54 => ?_) (fun cq54 => ?_)
      · refine g_iload_n X 1 rfl dX7_put_31 ?_
        refine g_bipush X 24 dX7_put_32 (by decide) ?_
        refine g_icmp_ne X t1 (show (24 : Int32).toInt = 24 by decide) (tgt := 40) dX7_put_34 (by decide) (fun cq55 => ?_) (fun cq55 => ?_)
        · refine g_iload_n X 1 rfl dX7_put_40 ?_
          refine g_if_ne X t1 (tgt := 49) dX7_put_41 (by decide) (fun cq56 => ?_) (fun cq56 => ?_)
          · refine g_aload_n X 0 rfl dX7_put_49 ?_
            refine g_getr X f_X7_101 dX7_put_50 ?_
            refine g_aload_n X 0 rfl dX7_put_53 ?_
            refine g_geti X f_X7_339 dX7_put_54 (x := Mq.1 47 43) rfl ?_
            have bq57 := ig_47_43 Iq0
            refine g_iload_n X 2 rfl dX7_put_57 ?_
            refine g_iast X la_77 rfl dX7_put_58 (by omega) ?_
            have Iq58 : Iv TM (ui Mq 77 (((Mq.1 47 43).toInt).toNat) x2) := Iq0.putA 0 40 t2 (by omega) rfl
            have frq59 : Fr W_X7_put_E Mq (ui Mq 77 (((Mq.1 47 43).toInt).toNat) x2) := frq0.ui rfl
            refine g_aload_n X 0 rfl dX7_put_59 ?_
            refine g_dup X dX7_put_60 rfl ?_
            refine g_geti X f_X7_339 dX7_put_61 (x := Mq.1 47 43) rfl ?_
            have bq60 := ig_47_43 Iq0
            refine g_iconst X 1 dX7_put_64 (by decide) ?_
            refine g_iadd X dX7_put_65 (fun zq61 eq62 => ?_)
            have tq63 : zq61.toInt = ((Mq.1 47 43).toInt) + 1 := add_nw eq62 rfl (show (1 : Int32).toInt = 1 by decide) (by omega)
            refine g_puti X p_X7_339 dX7_put_66 ?_
            have Iq64 : Iv TM (ui (ui Mq 77 (((Mq.1 47 43).toInt).toNat) x2) 47 43 zq61) := Iq58.put 0 24 tq63 (by omega) rfl
            have frq65 : Fr W_X7_put_E Mq (ui (ui Mq 77 (((Mq.1 47 43).toInt).toNat) x2) 47 43 zq61) := frq59.ui rfl
            refine g_aload_n X 0 rfl dX7_put_69 ?_
            refine g_geti X f_X7_339 dX7_put_70 (x := zq61) rfl ?_
            exact g_iret X dX7_put_73 ⟨_, _, rfl, tq63, (by omega), (⟨by first | omega | (rw [ui_eq]; omega), ⟨fun h => by first | rfl | exact absurd h (by omega), fun h => by first | (funext b; simp [ui]; done) | (have e : a1.toNat = ((Mq.1 47 43).toInt).toNat := (by omega); rw [e]; funext b; simp [ui]; done) | (have e : a1.toNat = 0 := (by omega); rw [e]; funext b; simp [ui]; done) | exact absurd (by omega) h⟩⟩), Iq64, frq65⟩
          · refine g_aload_n X 0 rfl dX7_put_44 ?_
            refine g_iconst X 0 dX7_put_45 (by decide) ?_
            refine g_puti X p_X7_339 dX7_put_46 ?_
            have ltq66 : (0 : Int32).toInt = 0 := by decide
            have Iq67 : Iv TM (ui Mq 47 43 0) := Iq0.put 0 24 (show (0 : Int32).toInt = 0 by decide) (by omega) rfl
            have frq68 : Fr W_X7_put_E Mq (ui Mq 47 43 0) := frq0.ui rfl
            refine g_aload_n X 0 rfl dX7_put_49 ?_
            refine g_getr X f_X7_101 dX7_put_50 ?_
            refine g_aload_n X 0 rfl dX7_put_53 ?_
            refine g_geti X f_X7_339 dX7_put_54 (x := 0) rfl ?_
            refine g_iload_n X 2 rfl dX7_put_57 ?_
            refine g_iast X la_77 (show (0 : Int32).toInt = 0 by decide) dX7_put_58 (by omega) ?_
            have Iq69 : Iv TM (ui (ui Mq 47 43 0) 77 0 x2) := Iq67.putA 0 40 t2 (by omega) rfl
            have frq70 : Fr W_X7_put_E Mq (ui (ui Mq 47 43 0) 77 0 x2) := frq68.ui rfl
            refine g_aload_n X 0 rfl dX7_put_59 ?_
            refine g_dup X dX7_put_60 rfl ?_
            refine g_geti X f_X7_339 dX7_put_61 (x := 0) rfl ?_
            refine g_iconst X 1 dX7_put_64 (by decide) ?_
            refine g_iadd X dX7_put_65 (fun zq71 eq72 => ?_)
            have tq73 : zq71.toInt = 0 + 1 := add_nw eq72 (show (0 : Int32).toInt = 0 by decide) (show (1 : Int32).toInt = 1 by decide) (by omega)
            refine g_puti X p_X7_339 dX7_put_66 ?_
            have Iq74 : Iv TM (ui (ui (ui Mq 47 43 0) 77 0 x2) 47 43 zq71) := Iq69.put 0 24 tq73 (by omega) rfl
            have frq75 : Fr W_X7_put_E Mq (ui (ui (ui Mq 47 43 0) 77 0 x2) 47 43 zq71) := frq70.ui rfl
            refine g_aload_n X 0 rfl dX7_put_69 ?_
            refine g_geti X f_X7_339 dX7_put_70 (x := zq71) rfl ?_
            exact g_iret X dX7_put_73 ⟨_, _, rfl, tq73, (by omega), (⟨by first | omega | (rw [ui_eq]; omega), ⟨fun h => by first | rfl | exact absurd h (by omega), fun h => by first | (funext b; simp [ui]; done) | (have e : a1.toNat = ((Mq.1 47 43).toInt).toNat := (by omega); rw [e]; funext b; simp [ui]; done) | (have e : a1.toNat = 0 := (by omega); rw [e]; funext b; simp [ui]; done) | exact absurd (by omega) h⟩⟩), Iq74, frq75⟩
        · refine g_bipush X (-4) dX7_put_37 (by decide) ?_
          exact g_iret X dX7_put_39 ⟨_, _, rfl, (show ((-4) : Int32).toInt = (-4) by decide), (by omega), (⟨by first | omega | (rw [ui_eq]; omega), ⟨fun h => by first | rfl | exact absurd h (by omega), fun h => by first | (funext b; simp [ui]; done) | (have e : a1.toNat = ((Mq.1 47 43).toInt).toNat := (by omega); rw [e]; funext b; simp [ui]; done) | (have e : a1.toNat = 0 := (by omega); rw [e]; funext b; simp [ui]; done) | exact absurd (by omega) h⟩⟩), Iq0, frq0⟩
      · refine g_iload_n X 1 rfl dX7_put_20 ?_
        refine g_aload_n X 0 rfl dX7_put_21 ?_
        refine g_geti X f_X7_339 dX7_put_22 (x := Mq.1 47 43) rfl ?_
        have bq76 := ig_47_43 Iq0
        refine g_icmp_eq X t1 rfl (tgt := 31) dX7_put_25 (by decide) (fun cq77 => ?_) (fun cq77 => ?_)
        · refine g_iload_n X 1 rfl dX7_put_31 ?_
          refine g_bipush X 24 dX7_put_32 (by decide) ?_
          refine g_icmp_ne X t1 (show (24 : Int32).toInt = 24 by decide) (tgt := 40) dX7_put_34 (by decide) (fun cq78 => ?_) (fun cq78 => ?_)
          · refine g_iload_n X 1 rfl dX7_put_40 ?_
            refine g_if_ne X t1 (tgt := 49) dX7_put_41 (by decide) (fun cq79 => ?_) (fun cq79 => ?_)
            · refine g_aload_n X 0 rfl dX7_put_49 ?_
              refine g_getr X f_X7_101 dX7_put_50 ?_
              refine g_aload_n X 0 rfl dX7_put_53 ?_
              refine g_geti X f_X7_339 dX7_put_54 (x := Mq.1 47 43) rfl ?_
              have bq80 := ig_47_43 Iq0
              refine g_iload_n X 2 rfl dX7_put_57 ?_
              refine g_iast X la_77 rfl dX7_put_58 (by omega) ?_
              have Iq81 : Iv TM (ui Mq 77 (((Mq.1 47 43).toInt).toNat) x2) := Iq0.putA 0 40 t2 (by omega) rfl
              have frq82 : Fr W_X7_put_E Mq (ui Mq 77 (((Mq.1 47 43).toInt).toNat) x2) := frq0.ui rfl
              refine g_aload_n X 0 rfl dX7_put_59 ?_
              refine g_dup X dX7_put_60 rfl ?_
              refine g_geti X f_X7_339 dX7_put_61 (x := Mq.1 47 43) rfl ?_
              have bq83 := ig_47_43 Iq0
              refine g_iconst X 1 dX7_put_64 (by decide) ?_
              refine g_iadd X dX7_put_65 (fun zq84 eq85 => ?_)
              have tq86 : zq84.toInt = ((Mq.1 47 43).toInt) + 1 := add_nw eq85 rfl (show (1 : Int32).toInt = 1 by decide) (by omega)
              refine g_puti X p_X7_339 dX7_put_66 ?_
              have Iq87 : Iv TM (ui (ui Mq 77 (((Mq.1 47 43).toInt).toNat) x2) 47 43 zq84) := Iq81.put 0 24 tq86 (by omega) rfl
              have frq88 : Fr W_X7_put_E Mq (ui (ui Mq 77 (((Mq.1 47 43).toInt).toNat) x2) 47 43 zq84) := frq82.ui rfl
              refine g_aload_n X 0 rfl dX7_put_69 ?_
              refine g_geti X f_X7_339 dX7_put_70 (x := zq84) rfl ?_
              exact g_iret X dX7_put_73 ⟨_, _, rfl, tq86, (by omega), (⟨by first | omega | (rw [ui_eq]; omega), ⟨fun h => by first | rfl | exact absurd h (by omega), fun h => by first | (funext b; simp [ui]; done) | (have e : a1.toNat = ((Mq.1 47 43).toInt).toNat := (by omega); rw [e]; funext b; simp [ui]; done) | (have e : a1.toNat = 0 := (by omega); rw [e]; funext b; simp [ui]; done) | exact absurd (by omega) h⟩⟩), Iq87, frq88⟩
            · refine g_aload_n X 0 rfl dX7_put_44 ?_
              refine g_iconst X 0 dX7_put_45 (by decide) ?_
              refine g_puti X p_X7_339 dX7_put_46 ?_
              have ltq89 : (0 : Int32).toInt = 0 := by decide
              have Iq90 : Iv TM (ui Mq 47 43 0) := Iq0.put 0 24 (show (0 : Int32).toInt = 0 by decide) (by omega) rfl
              have frq91 : Fr W_X7_put_E Mq (ui Mq 47 43 0) := frq0.ui rfl
              refine g_aload_n X 0 rfl dX7_put_49 ?_
              refine g_getr X f_X7_101 dX7_put_50 ?_
              refine g_aload_n X 0 rfl dX7_put_53 ?_
              refine g_geti X f_X7_339 dX7_put_54 (x := 0) rfl ?_
              refine g_iload_n X 2 rfl dX7_put_57 ?_
              refine g_iast X la_77 (show (0 : Int32).toInt = 0 by decide) dX7_put_58 (by omega) ?_
              have Iq92 : Iv TM (ui (ui Mq 47 43 0) 77 0 x2) := Iq90.putA 0 40 t2 (by omega) rfl
              have frq93 : Fr W_X7_put_E Mq (ui (ui Mq 47 43 0) 77 0 x2) := frq91.ui rfl
              refine g_aload_n X 0 rfl dX7_put_59 ?_
              refine g_dup X dX7_put_60 rfl ?_
              refine g_geti X f_X7_339 dX7_put_61 (x := 0) rfl ?_
              refine g_iconst X 1 dX7_put_64 (by decide) ?_
              refine g_iadd X dX7_put_65 (fun zq94 eq95 => ?_)
              have tq96 : zq94.toInt = 0 + 1 := add_nw eq95 (show (0 : Int32).toInt = 0 by decide) (show (1 : Int32).toInt = 1 by decide) (by omega)
              refine g_puti X p_X7_339 dX7_put_66 ?_
              have Iq97 : Iv TM (ui (ui (ui Mq 47 43 0) 77 0 x2) 47 43 zq94) := Iq92.put 0 24 tq96 (by omega) rfl
              have frq98 : Fr W_X7_put_E Mq (ui (ui (ui Mq 47 43 0) 77 0 x2) 47 43 zq94) := frq93.ui rfl
              refine g_aload_n X 0 rfl dX7_put_69 ?_
              refine g_geti X f_X7_339 dX7_put_70 (x := zq94) rfl ?_
              exact g_iret X dX7_put_73 ⟨_, _, rfl, tq96, (by omega), (⟨by first | omega | (rw [ui_eq]; omega), ⟨fun h => by first | rfl | exact absurd h (by omega), fun h => by first | (funext b; simp [ui]; done) | (have e : a1.toNat = ((Mq.1 47 43).toInt).toNat := (by omega); rw [e]; funext b; simp [ui]; done) | (have e : a1.toNat = 0 := (by omega); rw [e]; funext b; simp [ui]; done) | exact absurd (by omega) h⟩⟩), Iq97, frq98⟩
          · refine g_bipush X (-4) dX7_put_37 (by decide) ?_
            exact g_iret X dX7_put_39 ⟨_, _, rfl, (show ((-4) : Int32).toInt = (-4) by decide), (by omega), (⟨by first | omega | (rw [ui_eq]; omega), ⟨fun h => by first | rfl | exact absurd h (by omega), fun h => by first | (funext b; simp [ui]; done) | (have e : a1.toNat = ((Mq.1 47 43).toInt).toNat := (by omega); rw [e]; funext b; simp [ui]; done) | (have e : a1.toNat = 0 := (by omega); rw [e]; funext b; simp [ui]; done) | exact absurd (by omega) h⟩⟩), Iq0, frq0⟩
        · refine g_bipush X (-2) dX7_put_28 (by decide) ?_
          exact g_iret X dX7_put_30 ⟨_, _, rfl, (show ((-2) : Int32).toInt = (-2) by decide), (by omega), (⟨by first | omega | (rw [ui_eq]; omega), ⟨fun h => by first | rfl | exact absurd h (by omega), fun h => by first | (funext b; simp [ui]; done) | (have e : a1.toNat = ((Mq.1 47 43).toInt).toNat := (by omega); rw [e]; funext b; simp [ui]; done) | (have e : a1.toNat = 0 := (by omega); rw [e]; funext b; simp [ui]; done) | exact absurd (by omega) h⟩⟩), Iq0, frq0⟩
    · refine g_iconst X (-1) dX7_put_14 (by decide) ?_
      exact g_iret X dX7_put_15 ⟨_, _, rfl, (show ((-1) : Int32).toInt = (-1) by decide), (by omega), (⟨by first | omega | (rw [ui_eq]; omega), ⟨fun h => by first | rfl | exact absurd h (by omega), fun h => by first | (funext b; simp [ui]; done) | (have e : a1.toNat = ((Mq.1 47 43).toInt).toNat := (by omega); rw [e]; funext b; simp [ui]; done) | (have e : a1.toNat = 0 := (by omega); rw [e]; funext b; simp [ui]; done) | exact absurd (by omega) h⟩⟩), Iq0, frq0⟩
end
