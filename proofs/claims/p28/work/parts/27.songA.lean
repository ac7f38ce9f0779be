section
abbrev W_X6_half : List (Nat × Nat) := [(1, 3), (2, 99), (3, 99), (4, 99)]
set_option maxHeartbeats 4000000 in
set_option maxRecDepth 4000 in
theorem c_X6_half (ad : Nat → Nat) (Mq : Mem) (x1 : Int32) {a1 : Int} (t1 : x1.toInt = a1) (x2 : Int32) {a2 : Int} (t2 : x2.toInt = a2) (x3 : Int32) {a3 : Int} (t3 : x3.toInt = a3) (Iq0 : Iv TX Mq) : Ctr ad yX6_half cX6_half 4 (some .int) 1 [.ref (ad 0), .int x1, .int x2, .int x3] Mq (fun v M' => ∃ (r : Int32) (a : Int), v = some (.int r) ∧ r.toInt = a ∧ (((¬ (1 ≤ a1 ∧ a1 ≤ 8 ∧ 0 ≤ a2 ∧ a2 < sh x1 ∧ -1 ≤ a3 ∧ a3 ≤ a1)) ∧ (a = -2)) ∨ (¬ (¬ (1 ≤ a1 ∧ a1 ≤ 8 ∧ 0 ≤ a2 ∧ a2 < sh x1 ∧ -1 ≤ a3 ∧ a3 ≤ a1)) ∧ (40 ≤ (Mq.1 1 3).toInt) ∧ (a = -4)) ∨ (¬ (¬ (1 ≤ a1 ∧ a1 ≤ 8 ∧ 0 ≤ a2 ∧ a2 < sh x1 ∧ -1 ≤ a3 ∧ a3 ≤ a1)) ∧ ¬ (40 ≤ (Mq.1 1 3).toInt) ∧ (a = (Mq.1 1 3).toInt))) ∧ ((((¬ (1 ≤ a1 ∧ a1 ≤ 8 ∧ 0 ≤ a2 ∧ a2 < sh x1 ∧ -1 ≤ a3 ∧ a3 ≤ a1)) ∨ (40 ≤ (Mq.1 1 3).toInt)) ∧ (M'.1 1 3).toInt = (Mq.1 1 3).toInt) ∨ (¬ ((¬ (1 ≤ a1 ∧ a1 ≤ 8 ∧ 0 ≤ a2 ∧ a2 < sh x1 ∧ -1 ≤ a3 ∧ a3 ≤ a1)) ∨ (40 ≤ (Mq.1 1 3).toInt)) ∧ (M'.1 1 3).toInt = (Mq.1 1 3).toInt + 1)) ∧ Iv TX M' ∧ Fr W_X6_half Mq M') := by
  refine ctr_of (L := [(0, .ref (ad 0)), (1, .int x1), (2, .int x2), (3, .int x3)]) (by decide) (Nat.le_of_ble_eq_true rfl) rfl ?_
  intro Γ X
  have X : gX Γ cX6_half RX6 4 (some .int) 1 ad _ := X
  have frq0 : Fr W_X6_half Mq Mq := Fr.rf
  have g1_3 := ig_1_3 Iq0
  have g1_12 := ig_1_12 Iq0
  have g23_2 := ig_23_2 Iq0
  have g23_7 := ig_23_7 Iq0
  have g40_5 := ig_40_5 Iq0
  have g0_7 := ig_0_7 Iq0
  refine g_iload_n X 1 rfl dX6_half_0 ?_
  refine g_iconst X 1 dX6_half_1 (by decide) ?_
  refine g_bipush X 8 dX6_half_2 (by decide) ?_
  refine g_callS X m_X6_61 (c_X6_inside ad Mq x1 t1 1 (show (1 : Int32).toInt = 1 by decide) 8 (show (8 : Int32).toInt = 8 by decide)) rfl (by decide) (Nat.le_of_ble_eq_true rfl) rfl dX6_half_4 ?_
  rintro _ _ ⟨rq1, aq2, rfl, tq3, hq4, rfl⟩
  show G Γ Mq 7 [(0, .ref (ad 0)), (1, .int x1), (2, .int x2), (3, .int x3)] [.int rq1]
  refine g_if_eq X tq3 (tgt := 27) dX6_half_7 (by decide) (fun cq5 => ?_) (fun cq5 => ?_)
  · have pq6 : ¬ (1 ≤ a1 ∧ a1 ≤ 8) := by omega
    clear hq4 cq5 tq3
    refine g_bipush X (-2) dX6_half_27 (by decide) ?_
    exact g_iret X dX6_half_29 ⟨_, _, rfl, (show ((-2) : Int32).toInt = (-2) by decide), (by omega), (by first | omega | (rw [ui_eq]; omega)), Iq0, frq0⟩
  · have pq7 : (1 ≤ a1 ∧ a1 ≤ 8) := by omega
    clear hq4 cq5 tq3
    refine g_iload_n X 2 rfl dX6_half_10 ?_
    refine g_iload_n X 1 rfl dX6_half_11 ?_
    refine g_callS X m_X6_65 (c_X6_areBits ad Mq x2 t2 x1 t1) rfl (by decide) (Nat.le_of_ble_eq_true rfl) rfl dX6_half_12 ?_
    rintro _ _ ⟨rq8, aq9, rfl, tq10, hq11, rfl⟩
    show G Γ Mq 15 [(0, .ref (ad 0)), (1, .int x1), (2, .int x2), (3, .int x3)] [.int rq8]
    refine g_if_eq X tq10 (tgt := 27) dX6_half_15 (by decide) (fun cq12 => ?_) (fun cq12 => ?_)
    · have pq13 : ¬ (0 ≤ a2 ∧ a2 < sh x1) := by omega
      clear hq11 cq12 tq10
      refine g_bipush X (-2) dX6_half_27 (by decide) ?_
      exact g_iret X dX6_half_29 ⟨_, _, rfl, (show ((-2) : Int32).toInt = (-2) by decide), (by omega), (by first | omega | (rw [ui_eq]; omega)), Iq0, frq0⟩
    · have pq14 : (0 ≤ a2 ∧ a2 < sh x1) := by omega
      clear hq11 cq12 tq10
      refine g_iload_n X 3 rfl dX6_half_18 ?_
      refine g_iconst X (-1) dX6_half_19 (by decide) ?_
      refine g_iload_n X 1 rfl dX6_half_20 ?_
      refine g_callS X m_X6_61 (c_X6_inside ad Mq x3 t3 (-1) (show ((-1) : Int32).toInt = (-1) by decide) x1 t1) rfl (by decide) (Nat.le_of_ble_eq_true rfl) rfl dX6_half_21 ?_
      rintro _ _ ⟨rq15, aq16, rfl, tq17, hq18, rfl⟩
      show G Γ Mq 24 [(0, .ref (ad 0)), (1, .int x1), (2, .int x2), (3, .int x3)] [.int rq15]
      refine g_if_ne X tq17 (tgt := 30) dX6_half_24 (by decide) (fun cq19 => ?_) (fun cq19 => ?_)
      · have pq20 : ((-1) ≤ a3 ∧ a3 ≤ a1) := by omega
        clear hq18 cq19 tq17
        refine g_aload_n X 0 rfl dX6_half_30 ?_
        refine g_getr X f_X6_10 dX6_half_31 ?_
        refine g_geti X f_X6_69 dX6_half_34 (x := Mq.1 1 3) rfl ?_
        have bq21 := ig_1_3 Iq0
        refine g_bipush X 40 dX6_half_37 (by decide) ?_
        refine g_icmp_lt X rfl (show (40 : Int32).toInt = 40 by decide) (tgt := 45) dX6_half_39 (by decide) (fun cq22 => ?_) (fun cq22 => ?_)
        · refine g_aload_n X 0 rfl dX6_half_45 ?_
          refine g_getr X f_X6_10 dX6_half_46 ?_
          refine g_iload_n X 1 rfl dX6_half_49 ?_
          refine g_iload_n X 2 rfl dX6_half_50 ?_
          refine g_iload_n X 3 rfl dX6_half_51 ?_
          refine g_callV X m_X6_72 (c_X5_addHalf ad Mq x1 t1 x2 t2 x3 t3 Iq0 (by omega)) rfl (by decide) (Nat.le_of_ble_eq_true rfl) rfl dX6_half_52 ?_
          rintro _ Mq28 ⟨rq23, aq24, rfl, tq25, hq26, hq27, Iq29, frq30⟩
          have frq31 : Fr W_X6_half Mq Mq28 := frq0.trans frq30 rfl
          show G Γ Mq28 55 [(0, .ref (ad 0)), (1, .int x1), (2, .int x2), (3, .int x3)] [.int rq23]
          exact g_iret X dX6_half_55 ⟨_, _, rfl, tq25, (by omega), (by first | omega | (rw [ui_eq]; omega)), Iq29, frq31⟩
        · refine g_bipush X (-4) dX6_half_42 (by decide) ?_
          exact g_iret X dX6_half_44 ⟨_, _, rfl, (show ((-4) : Int32).toInt = (-4) by decide), (by omega), (by first | omega | (rw [ui_eq]; omega)), Iq0, frq0⟩
      · have pq32 : ¬ ((-1) ≤ a3 ∧ a3 ≤ a1) := by omega
        clear hq18 cq19 tq17
        refine g_bipush X (-2) dX6_half_27 (by decide) ?_
        exact g_iret X dX6_half_29 ⟨_, _, rfl, (show ((-2) : Int32).toInt = (-2) by decide), (by omega), (by first | omega | (rw [ui_eq]; omega)), Iq0, frq0⟩
abbrev W_X6_name : List (Nat × Nat) := [(5, 99), (6, 99)]
set_option maxHeartbeats 4000000 in
set_option maxRecDepth 4000 in
theorem c_X6_name (ad : Nat → Nat) (Mq : Mem) (x1 : Int32) {a1 : Int} (t1 : x1.toInt = a1) (x2 : Int32) {a2 : Int} (t2 : x2.toInt = a2) (x3 : Int32) {a3 : Int} (t3 : x3.toInt = a3) (Iq0 : Iv TX Mq) : Ctr ad yX6_name cX6_name 5 (some .int) 1 [.ref (ad 0), .int x1, .int x2, .int x3] Mq (fun v M' => ∃ (r : Int32) (a : Int), v = some (.int r) ∧ r.toInt = a ∧ (((¬ (0 ≤ a1 ∧ a1 ≤ 9)) ∧ (a = -1)) ∨ (¬ (¬ (0 ≤ a1 ∧ a1 ≤ 9)) ∧ (¬ (1 ≤ a2 ∧ a2 ≤ 4 ∧ 0 ≤ a3 ∧ a3 < sh x2)) ∧ (a = -2)) ∨ (¬ (¬ (0 ≤ a1 ∧ a1 ≤ 9)) ∧ ¬ (¬ (1 ≤ a2 ∧ a2 ≤ 4 ∧ 0 ≤ a3 ∧ a3 < sh x2)) ∧ (a = (Mq.1 5 a1.toNat).toInt))) ∧ ((((¬ (0 ≤ a1 ∧ a1 ≤ 9)) ∨ (¬ (1 ≤ a2 ∧ a2 ≤ 4 ∧ 0 ≤ a3 ∧ a3 < sh x2))) → M'.1 5 = Mq.1 5) ∧ (¬ ((¬ (0 ≤ a1 ∧ a1 ≤ 9)) ∨ (¬ (1 ≤ a2 ∧ a2 ≤ 4 ∧ 0 ≤ a3 ∧ a3 < sh x2))) → M'.1 5 = (ui Mq 5 a1.toNat x2).1 5)) ∧ Iv TX M' ∧ Fr W_X6_name Mq M') := by
  refine ctr_of (L := [(0, .ref (ad 0)), (1, .int x1), (2, .int x2), (3, .int x3)]) (by decide) (Nat.le_of_ble_eq_true rfl) rfl ?_
  intro Γ X
  have X : gX Γ cX6_name RX6 5 (some .int) 1 ad _ := X
  have frq0 : Fr W_X6_name Mq Mq := Fr.rf
  have g1_3 := ig_1_3 Iq0
  have g1_12 := ig_1_12 Iq0
  have g23_2 := ig_23_2 Iq0
  have g23_7 := ig_23_7 Iq0
  have g40_5 := ig_40_5 Iq0
  have g0_7 := ig_0_7 Iq0
  refine g_iload_n X 1 rfl dX6_name_0 ?_
  refine g_iconst X 0 dX6_name_1 (by decide) ?_
  refine g_bipush X 9 dX6_name_2 (by decide) ?_
  refine g_callS X m_X6_61 (c_X6_inside ad Mq x1 t1 0 (show (0 : Int32).toInt = 0 by decide) 9 (show (9 : Int32).toInt = 9 by decide)) rfl (by decide) (Nat.le_of_ble_eq_true rfl) rfl dX6_name_4 ?_
  rintro _ _ ⟨rq1, aq2, rfl, tq3, hq4, rfl⟩
  show G Γ Mq 7 [(0, .ref (ad 0)), (1, .int x1), (2, .int x2), (3, .int x3)] [.int rq1]
  refine g_if_ne X tq3 (tgt := 12) dX6_name_7 (by decide) (fun cq5 => ?_) (fun cq5 => ?_)
  · have pq6 : (0 ≤ a1 ∧ a1 ≤ 9) := by omega
    clear hq4 cq5 tq3
    refine g_iload_n X 2 rfl dX6_name_12 ?_
    refine g_iconst X 1 dX6_name_13 (by decide) ?_
    refine g_iconst X 4 dX6_name_14 (by decide) ?_
    refine g_callS X m_X6_61 (c_X6_inside ad Mq x2 t2 1 (show (1 : Int32).toInt = 1 by decide) 4 (show (4 : Int32).toInt = 4 by decide)) rfl (by decide) (Nat.le_of_ble_eq_true rfl) rfl dX6_name_15 ?_
    rintro _ _ ⟨rq7, aq8, rfl, tq9, hq10, rfl⟩
    show G Γ Mq 18 [(0, .ref (ad 0)), (1, .int x1), (2, .int x2), (3, .int x3)] [.int rq7]
    refine g_if_eq X tq9 (tgt := 29) dX6_name_18 (by decide) (fun cq11 => ?_) (fun cq11 => ?_)
    · have pq12 : ¬ (1 ≤ a2 ∧ a2 ≤ 4) := by omega
      clear hq10 cq11 tq9
      refine g_bipush X (-2) dX6_name_29 (by decide) ?_
      exact g_iret X dX6_name_31 ⟨_, _, rfl, (show ((-2) : Int32).toInt = (-2) by decide), (by omega), (⟨fun h => by first | rfl | exact absurd h (by omega), fun h => by first | rfl | exact absurd (by omega) h⟩), Iq0, frq0⟩
    · have pq13 : (1 ≤ a2 ∧ a2 ≤ 4) := by omega
      clear hq10 cq11 tq9
      refine g_iload_n X 3 rfl dX6_name_21 ?_
      refine g_iload_n X 2 rfl dX6_name_22 ?_
      refine g_callS X m_X6_65 (c_X6_areBits ad Mq x3 t3 x2 t2) rfl (by decide) (Nat.le_of_ble_eq_true rfl) rfl dX6_name_23 ?_
      rintro _ _ ⟨rq14, aq15, rfl, tq16, hq17, rfl⟩
      show G Γ Mq 26 [(0, .ref (ad 0)), (1, .int x1), (2, .int x2), (3, .int x3)] [.int rq14]
      refine g_if_ne X tq16 (tgt := 32) dX6_name_26 (by decide) (fun cq18 => ?_) (fun cq18 => ?_)
      · have pq19 : (0 ≤ a3 ∧ a3 < sh x2) := by omega
        clear hq17 cq18 tq16
        refine g_aload_n X 0 rfl dX6_name_32 ?_
        refine g_getr X f_X6_10 dX6_name_33 ?_
        refine g_getr X f_X6_76 dX6_name_36 ?_
        refine g_iload_n X 1 rfl dX6_name_39 ?_
        refine g_iald X la_5 t1 dX6_name_40 (by omega) (x := Mq.1 5 a1.toNat) rfl ?_
        refine g_istore X [(4, .int (Mq.1 5 a1.toNat)), (0, .ref (ad 0)), (1, .int x1), (2, .int x2), (3, .int x3)] dX6_name_41 (by decide) rfl ?_
        refine g_aload_n X 1 rfl dX6_name_43 ?_
        refine g_getr X f_X6_10 dX6_name_44 ?_
        refine g_getr X f_X6_76 dX6_name_47 ?_
        refine g_iload_n X 2 rfl dX6_name_50 ?_
        refine g_iload_n X 3 rfl dX6_name_51 ?_
        refine g_iast X la_5 t1 dX6_name_52 (by omega) ?_
        have Iq20 : Iv TX (ui Mq 5 a1.toNat x2) := Iq0.otherA rfl
        have frq21 : Fr W_X6_name Mq (ui Mq 5 a1.toNat x2) := frq0.ui rfl
        refine g_aload_n X 1 rfl dX6_name_53 ?_
        refine g_getr X f_X6_10 dX6_name_54 ?_
        refine g_getr X f_X6_79 dX6_name_57 ?_
        refine g_iload_n X 2 rfl dX6_name_60 ?_
        refine g_iload_n X 4 rfl dX6_name_61 ?_
        refine g_iast X la_6 t1 dX6_name_62 (by omega) ?_
        have Iq22 : Iv TX (ui (ui Mq 5 a1.toNat x2) 6 a1.toNat x3) := Iq20.otherA rfl
        have frq23 : Fr W_X6_name Mq (ui (ui Mq 5 a1.toNat x2) 6 a1.toNat x3) := frq21.ui rfl
        refine g_iload X 0 rfl dX6_name_63 ?_
        exact g_iret X dX6_name_65 ⟨_, _, rfl, rfl, (by omega), (⟨fun h => by first | rfl | exact absurd h (by omega), fun h => by first | rfl | exact absurd (by omega) h⟩), Iq22, frq23⟩
      · have pq24 : ¬ (0 ≤ a3 ∧ a3 < sh x2) := by omega
        clear hq17 cq18 tq16
        refine g_bipush X (-2) dX6_name_29 (by decide) ?_
        exact g_iret X dX6_name_31 ⟨_, _, rfl, (show ((-2) : Int32).toInt = (-2) by decide), (by omega), (⟨fun h => by first | rfl | exact absurd h (by omega), fun h => by first | rfl | exact absurd (by omega) h⟩), Iq0, frq0⟩
  · have pq25 : ¬ (0 ≤ a1 ∧ a1 ≤ 9) := by omega
    clear hq4 cq5 tq3
    refine g_iconst X (-1) dX6_name_10 (by decide) ?_
    exact g_iret X dX6_name_11 ⟨_, _, rfl, (show ((-1) : Int32).toInt = (-1) by decide), (by omega), (⟨fun h => by first | rfl | exact absurd h (by omega), fun h => by first | rfl | exact absurd (by omega) h⟩), Iq0, frq0⟩
abbrev W_X6_line : List (Nat × Nat) := [(1, 12), (1, 11), (7, 99), (8, 99), (9, 99), (10, 99), (11, 99)]
set_option maxHeartbeats 4000000 in
set_option maxRecDepth 4000 in
theorem c_X6_line (ad : Nat → Nat) (Mq : Mem) (x1 : Int32) {a1 : Int} (t1 : x1.toInt = a1) (x2 : Int32) {a2 : Int} (t2 : x2.toInt = a2) (x3 : Int32) {a3 : Int} (t3 : x3.toInt = a3) (x4 : Int32) {a4 : Int} (t4 : x4.toInt = a4) (x5 : Int32) {a5 : Int} (t5 : x5.toInt = a5) (Iq0 : Iv TX Mq) : Ctr ad yX6_line cX6_line 6 (some .int) 1 [.ref (ad 0), .int x1, .int x2, .int x3, .int x4, .int x5] Mq (fun v M' => ∃ (r : Int32) (a : Int), v = some (.int r) ∧ r.toInt = a ∧ (((¬ ((0 ≤ a1 ∧ a1 < (Mq.1 1 3).toInt) ∧ (0 ≤ a2 ∧ a2 < (Mq.1 1 3).toInt) ∧ 0 ≤ a3 ∧ a3 ≤ 7 ∧ 0 ≤ a4 ∧ a4 ≤ 9)) ∧ (a = -1)) ∨ (¬ (¬ ((0 ≤ a1 ∧ a1 < (Mq.1 1 3).toInt) ∧ (0 ≤ a2 ∧ a2 < (Mq.1 1 3).toInt) ∧ 0 ≤ a3 ∧ a3 ≤ 7 ∧ 0 ≤ a4 ∧ a4 ≤ 9)) ∧ (¬ (0 ≤ a5 ∧ a5 ≤ 1)) ∧ (a = -2)) ∨ (¬ (¬ ((0 ≤ a1 ∧ a1 < (Mq.1 1 3).toInt) ∧ (0 ≤ a2 ∧ a2 < (Mq.1 1 3).toInt) ∧ 0 ≤ a3 ∧ a3 ≤ 7 ∧ 0 ≤ a4 ∧ a4 ≤ 9)) ∧ ¬ (¬ (0 ≤ a5 ∧ a5 ≤ 1)) ∧ (40 ≤ (Mq.1 1 12).toInt) ∧ (a = -4)) ∨ (¬ (¬ ((0 ≤ a1 ∧ a1 < (Mq.1 1 3).toInt) ∧ (0 ≤ a2 ∧ a2 < (Mq.1 1 3).toInt) ∧ 0 ≤ a3 ∧ a3 ≤ 7 ∧ 0 ≤ a4 ∧ a4 ≤ 9)) ∧ ¬ (¬ (0 ≤ a5 ∧ a5 ≤ 1)) ∧ ¬ (40 ≤ (Mq.1 1 12).toInt) ∧ (a = (Mq.1 1 12).toInt))) ∧ ((((¬ ((0 ≤ a1 ∧ a1 < (Mq.1 1 3).toInt) ∧ (0 ≤ a2 ∧ a2 < (Mq.1 1 3).toInt) ∧ 0 ≤ a3 ∧ a3 ≤ 7 ∧ 0 ≤ a4 ∧ a4 ≤ 9)) ∨ (¬ (0 ≤ a5 ∧ a5 ≤ 1)) ∨ (40 ≤ (Mq.1 1 12).toInt)) ∧ (M'.1 1 12).toInt = (Mq.1 1 12).toInt) ∨ (¬ ((¬ ((0 ≤ a1 ∧ a1 < (Mq.1 1 3).toInt) ∧ (0 ≤ a2 ∧ a2 < (Mq.1 1 3).toInt) ∧ 0 ≤ a3 ∧ a3 ≤ 7 ∧ 0 ≤ a4 ∧ a4 ≤ 9)) ∨ (¬ (0 ≤ a5 ∧ a5 ≤ 1)) ∨ (40 ≤ (Mq.1 1 12).toInt)) ∧ (M'.1 1 12).toInt = (Mq.1 1 12).toInt + 1)) ∧ Iv TX M' ∧ Fr W_X6_line Mq M') := by
  refine ctr_of (L := [(0, .ref (ad 0)), (1, .int x1), (2, .int x2), (3, .int x3), (4, .int x4), (5, .int x5)]) (by decide) (Nat.le_of_ble_eq_true rfl) rfl ?_
  intro Γ X
  have X : gX Γ cX6_line RX6 6 (some .int) 1 ad _ := X
  have frq0 : Fr W_X6_line Mq Mq := Fr.rf
  have g1_3 := ig_1_3 Iq0
  have g1_12 := ig_1_12 Iq0
  have g23_2 := ig_23_2 Iq0
  have g23_7 := ig_23_7 Iq0
  have g40_5 := ig_40_5 Iq0
  have g0_7 := ig_0_7 Iq0
  refine g_aload_n X 0 rfl dX6_line_0 ?_
  refine g_getr X f_X6_10 dX6_line_1 ?_
  refine g_iload_n X 1 rfl dX6_line_4 ?_
  refine g_callV X m_X6_82 (c_X5_isHalf ad Mq x1 t1) rfl (by decide) (Nat.le_of_ble_eq_true rfl) rfl dX6_line_5 ?_
  rintro _ _ ⟨rq1, aq2, rfl, tq3, hq4, rfl⟩
  show G Γ Mq 8 [(0, .ref (ad 0)), (1, .int x1), (2, .int x2), (3, .int x3), (4, .int x4), (5, .int x5)] [.int rq1]
  refine g_if_eq X tq3 (tgt := 22) dX6_line_8 (by decide) (fun cq5 => ?_) (fun cq5 => ?_)
  · have pq6 : ¬ (0 ≤ a1 ∧ a1 < ((Mq.1 1 3)).toInt) := by omega
    clear hq4 cq5 tq3
    refine g_iconst X (-1) dX6_line_22 (by decide) ?_
    exact g_iret X dX6_line_23 ⟨_, _, rfl, (show ((-1) : Int32).toInt = (-1) by decide), (by omega), (by first | omega | (rw [ui_eq]; omega)), Iq0, frq0⟩
  · have pq7 : (0 ≤ a1 ∧ a1 < ((Mq.1 1 3)).toInt) := by omega
    clear hq4 cq5 tq3
    refine g_aload_n X 0 rfl dX6_line_11 ?_
    refine g_getr X f_X6_10 dX6_line_12 ?_
    refine g_iload_n X 2 rfl dX6_line_15 ?_
    refine g_callV X m_X6_82 (c_X5_isHalf ad Mq x2 t2) rfl (by decide) (Nat.le_of_ble_eq_true rfl) rfl dX6_line_16 ?_
    rintro _ _ ⟨rq8, aq9, rfl, tq10, hq11, rfl⟩
    show G Γ Mq 19 [(0, .ref (ad 0)), (1, .int x1), (2, .int x2), (3, .int x3), (4, .int x4), (5, .int x5)] [.int rq8]
    refine g_if_ne X tq10 (tgt := 24) dX6_line_19 (by decide) (fun cq12 => ?_) (fun cq12 => ?_)
    · have pq13 : (0 ≤ a2 ∧ a2 < ((Mq.1 1 3)).toInt) := by omega
      clear hq11 cq12 tq10
      refine g_iload_n X 3 rfl dX6_line_24 ?_
      refine g_iconst X 0 dX6_line_25 (by decide) ?_
      refine g_bipush X 7 dX6_line_26 (by decide) ?_
      refine g_callS X m_X6_61 (c_X6_inside ad Mq x3 t3 0 (show (0 : Int32).toInt = 0 by decide) 7 (show (7 : Int32).toInt = 7 by decide)) rfl (by decide) (Nat.le_of_ble_eq_true rfl) rfl dX6_line_28 ?_
      rintro _ _ ⟨rq14, aq15, rfl, tq16, hq17, rfl⟩
      show G Γ Mq 31 [(0, .ref (ad 0)), (1, .int x1), (2, .int x2), (3, .int x3), (4, .int x4), (5, .int x5)] [.int rq14]
      refine g_if_eq X tq16 (tgt := 45) dX6_line_31 (by decide) (fun cq18 => ?_) (fun cq18 => ?_)
      · have pq19 : ¬ (0 ≤ a3 ∧ a3 ≤ 7) := by omega
        clear hq17 cq18 tq16
        refine g_iconst X (-1) dX6_line_45 (by decide) ?_
        exact g_iret X dX6_line_46 ⟨_, _, rfl, (show ((-1) : Int32).toInt = (-1) by decide), (by omega), (by first | omega | (rw [ui_eq]; omega)), Iq0, frq0⟩
      · have pq20 : (0 ≤ a3 ∧ a3 ≤ 7) := by omega
        clear hq17 cq18 tq16
        refine g_iload X 4 rfl dX6_line_34 ?_
        refine g_iconst X 0 dX6_line_36 (by decide) ?_
        refine g_bipush X 9 dX6_line_37 (by decide) ?_
        refine g_callS X m_X6_61 (c_X6_inside ad Mq x4 t4 0 (show (0 : Int32).toInt = 0 by decide) 9 (show (9 : Int32).toInt = 9 by decide)) rfl (by decide) (Nat.le_of_ble_eq_true rfl) rfl dX6_line_39 ?_
        rintro _ _ ⟨rq21, aq22, rfl, tq23, hq24, rfl⟩
        show G Γ Mq 42 [(0, .ref (ad 0)), (1, .int x1), (2, .int x2), (3, .int x3), (4, .int x4), (5, .int x5)] [.int rq21]
        refine g_if_ne X tq23 (tgt := 47) dX6_line_42 (by decide) (fun cq25 => ?_) (fun cq25 => ?_)
        · have pq26 : (0 ≤ a4 ∧ a4 ≤ 9) := by omega
          clear hq24 cq25 tq23
          refine g_iload X 5 rfl dX6_line_47 ?_
          refine g_iconst X 0 dX6_line_49 (by decide) ?_
          refine g_iconst X 1 dX6_line_50 (by decide) ?_
          refine g_callS X m_X6_61 (c_X6_inside ad Mq x5 t5 0 (show (0 : Int32).toInt = 0 by decide) 1 (show (1 : Int32).toInt = 1 by decide)) rfl (by decide) (Nat.le_of_ble_eq_true rfl) rfl dX6_line_51 ?_
          rintro _ _ ⟨rq27, aq28, rfl, tq29, hq30, rfl⟩
          show G Γ Mq 54 [(0, .ref (ad 0)), (1, .int x1), (2, .int x2), (3, .int x3), (4, .int x4), (5, .int x5)] [.int rq27]
          refine g_if_ne X tq29 (tgt := 60) dX6_line_54 (by decide) (fun cq31 => ?_) (fun cq31 => ?_)
          · have pq32 : (0 ≤ a5 ∧ a5 ≤ 1) := by omega
            clear hq30 cq31 tq29
            refine g_aload_n X 0 rfl dX6_line_60 ?_
            refine g_getr X f_X6_10 dX6_line_61 ?_
            refine g_geti X f_X6_86 dX6_line_64 (x := Mq.1 1 12) rfl ?_
            have bq33 := ig_1_12 Iq0
            refine g_bipush X 40 dX6_line_67 (by decide) ?_
            refine g_icmp_lt X rfl (show (40 : Int32).toInt = 40 by decide) (tgt := 75) dX6_line_69 (by decide) (fun cq34 => ?_) (fun cq34 => ?_)
            · refine g_aload_n X 0 rfl dX6_line_75 ?_
              refine g_getr X f_X6_10 dX6_line_76 ?_
              refine g_iload_n X 1 rfl dX6_line_79 ?_
              refine g_iload_n X 2 rfl dX6_line_80 ?_
              refine g_iload_n X 3 rfl dX6_line_81 ?_
              refine g_iload X 4 rfl dX6_line_82 ?_
              refine g_iload X 5 rfl dX6_line_84 ?_
              refine g_callV X m_X6_89 (c_X5_addLine ad Mq x1 t1 x2 t2 x3 t3 x4 t4 x5 t5 Iq0 (by omega) (by omega) (by omega) (by omega) (by omega)) rfl (by decide) (Nat.le_of_ble_eq_true rfl) rfl dX6_line_86 ?_
              rintro _ Mq40 ⟨rq35, aq36, rfl, tq37, hq38, hq39, Iq41, frq42⟩
              have frq43 : Fr W_X6_line Mq Mq40 := frq0.trans frq42 rfl
              show G Γ Mq40 89 [(0, .ref (ad 0)), (1, .int x1), (2, .int x2), (3, .int x3), (4, .int x4), (5, .int x5)] [.int rq35]
              exact g_iret X dX6_line_89 ⟨_, _, rfl, tq37, (by omega), (by first | omega | (rw [ui_eq]; omega)), Iq41, frq43⟩
            · refine g_bipush X (-4) dX6_line_72 (by decide) ?_
              exact g_iret X dX6_line_74 ⟨_, _, rfl, (show ((-4) : Int32).toInt = (-4) by decide), (by omega), (by first | omega | (rw [ui_eq]; omega)), Iq0, frq0⟩
          · have pq44 : ¬ (0 ≤ a5 ∧ a5 ≤ 1) := by omega
            clear hq30 cq31 tq29
            refine g_bipush X (-2) dX6_line_57 (by decide) ?_
            exact g_iret X dX6_line_59 ⟨_, _, rfl, (show ((-2) : Int32).toInt = (-2) by decide), (by omega), (by first | omega | (rw [ui_eq]; omega)), Iq0, frq0⟩
        · have pq45 : ¬ (0 ≤ a4 ∧ a4 ≤ 9) := by omega
          clear hq24 cq25 tq23
          refine g_iconst X (-1) dX6_line_45 (by decide) ?_
          exact g_iret X dX6_line_46 ⟨_, _, rfl, (show ((-1) : Int32).toInt = (-1) by decide), (by omega), (by first | omega | (rw [ui_eq]; omega)), Iq0, frq0⟩
    · have pq46 : ¬ (0 ≤ a2 ∧ a2 < ((Mq.1 1 3)).toInt) := by omega
      clear hq11 cq12 tq10
      refine g_iconst X (-1) dX6_line_22 (by decide) ?_
      exact g_iret X dX6_line_23 ⟨_, _, rfl, (show ((-1) : Int32).toInt = (-1) by decide), (by omega), (by first | omega | (rw [ui_eq]; omega)), Iq0, frq0⟩
abbrev W_X6_metre : List (Nat × Nat) := [(12, 99)]
set_option maxHeartbeats 4000000 in
set_option maxRecDepth 4000 in
theorem c_X6_metre (ad : Nat → Nat) (Mq : Mem) (x1 : Int32) {a1 : Int} (t1 : x1.toInt = a1) (x2 : Int32) {a2 : Int} (t2 : x2.toInt = a2) (Iq0 : Iv TX Mq) : Ctr ad yX6_metre cX6_metre 4 (some .int) 1 [.ref (ad 0), .int x1, .int x2] Mq (fun v M' => ∃ (r : Int32) (a : Int), v = some (.int r) ∧ r.toInt = a ∧ (((¬ (0 ≤ a1 ∧ a1 ≤ 2)) ∧ (a = -1)) ∨ (¬ (¬ (0 ≤ a1 ∧ a1 ≤ 2)) ∧ (¬ ((a1 = 2 ∧ 0 ≤ a2 ∧ a2 ≤ 16777215) ∨ (a1 ≠ 2 ∧ 1 ≤ a2 ∧ a2 ≤ 12))) ∧ (a = -2)) ∨ (¬ (¬ (0 ≤ a1 ∧ a1 ≤ 2)) ∧ ¬ (¬ ((a1 = 2 ∧ 0 ≤ a2 ∧ a2 ≤ 16777215) ∨ (a1 ≠ 2 ∧ 1 ≤ a2 ∧ a2 ≤ 12))) ∧ (a = (Mq.1 12 a1.toNat).toInt))) ∧ ((((¬ (0 ≤ a1 ∧ a1 ≤ 2)) ∨ (¬ ((a1 = 2 ∧ 0 ≤ a2 ∧ a2 ≤ 16777215) ∨ (a1 ≠ 2 ∧ 1 ≤ a2 ∧ a2 ≤ 12)))) → M'.1 12 = Mq.1 12) ∧ (¬ ((¬ (0 ≤ a1 ∧ a1 ≤ 2)) ∨ (¬ ((a1 = 2 ∧ 0 ≤ a2 ∧ a2 ≤ 16777215) ∨ (a1 ≠ 2 ∧ 1 ≤ a2 ∧ a2 ≤ 12)))) → M'.1 12 = (ui Mq 12 a1.toNat x2).1 12)) ∧ Iv TX M' ∧ Fr W_X6_metre Mq M') := by
  refine ctr_of (L := [(0, .ref (ad 0)), (1, .int x1), (2, .int x2)]) (by decide) (Nat.le_of_ble_eq_true rfl) rfl ?_
  intro Γ X
  have X : gX Γ cX6_metre RX6 4 (some .int) 1 ad _ := X
  have frq0 : Fr W_X6_metre Mq Mq := Fr.rf
  have h24 : sh 24 = 16777216 := by decide
  have g1_3 := ig_1_3 Iq0
  have g1_12 := ig_1_12 Iq0
  have g23_2 := ig_23_2 Iq0
  have g23_7 := ig_23_7 Iq0
  have g40_5 := ig_40_5 Iq0
  have g0_7 := ig_0_7 Iq0
  refine g_iload_n X 1 rfl dX6_metre_0 ?_
  refine g_iconst X 0 dX6_metre_1 (by decide) ?_
  refine g_iconst X 2 dX6_metre_2 (by decide) ?_
  refine g_callS X m_X6_61 (c_X6_inside ad Mq x1 t1 0 (show (0 : Int32).toInt = 0 by decide) 2 (show (2 : Int32).toInt = 2 by decide)) rfl (by decide) (Nat.le_of_ble_eq_true rfl) rfl dX6_metre_3 ?_
  rintro _ _ ⟨rq1, aq2, rfl, tq3, hq4, rfl⟩
  show G Γ Mq 6 [(0, .ref (ad 0)), (1, .int x1), (2, .int x2)] [.int rq1]
  refine g_if_ne X tq3 (tgt := 11) dX6_metre_6 (by decide) (fun cq5 => ?_) (fun cq5 => ?_)
  · have pq6 : (0 ≤ a1 ∧ a1 ≤ 2) := by omega
    clear hq4 cq5 tq3
    refine g_iload_n X 1 rfl dX6_metre_11 ?_
    refine g_iconst X 2 dX6_metre_12 (by decide) ?_
    refine g_icmp_ne X t1 (show (2 : Int32).toInt = 2 by decide) (tgt := 28) dX6_metre_13 (by decide) (fun cq7 => ?_) (fun cq7 => ?_)
    · refine g_iload_n X 2 rfl dX6_metre_28 ?_
      refine g_iconst X 1 dX6_metre_29 (by decide) ?_
      refine g_bipush X 12 dX6_metre_30 (by decide) ?_
      refine g_callS X m_X6_61 (c_X6_inside ad Mq x2 t2 1 (show (1 : Int32).toInt = 1 by decide) 12 (show (12 : Int32).toInt = 12 by decide)) rfl (by decide) (Nat.le_of_ble_eq_true rfl) rfl dX6_metre_32 ?_
      rintro _ _ ⟨rq8, aq9, rfl, tq10, hq11, rfl⟩
      show G Γ Mq 35 [(0, .ref (ad 0)), (1, .int x1), (2, .int x2)] [.int rq8]
      refine g_if_ne X tq10 (tgt := 41) dX6_metre_35 (by decide) (fun cq12 => ?_) (fun cq12 => ?_)
      · have pq13 : (1 ≤ a2 ∧ a2 ≤ 12) := by omega
        clear hq11 cq12 tq10
        refine g_aload_n X 0 rfl dX6_metre_41 ?_
        refine g_getr X f_X6_10 dX6_metre_42 ?_
        refine g_getr X f_X6_93 dX6_metre_45 ?_
        refine g_iload_n X 1 rfl dX6_metre_48 ?_
        refine g_iald X la_12 t1 dX6_metre_49 (by omega) (x := Mq.1 12 a1.toNat) rfl ?_
        refine g_istore_n X (i := 3) [(3, .int (Mq.1 12 a1.toNat)), (0, .ref (ad 0)), (1, .int x1), (2, .int x2)] dX6_metre_50 rfl (by decide) rfl ?_
        refine g_aload_n X 1 rfl dX6_metre_51 ?_
        refine g_getr X f_X6_10 dX6_metre_52 ?_
        refine g_getr X f_X6_93 dX6_metre_55 ?_
        refine g_iload_n X 2 rfl dX6_metre_58 ?_
        refine g_iload_n X 3 rfl dX6_metre_59 ?_
        refine g_iast X la_12 t1 dX6_metre_60 (by omega) ?_
        have Iq14 : Iv TX (ui Mq 12 a1.toNat x2) := Iq0.otherA rfl
        have frq15 : Fr W_X6_metre Mq (ui Mq 12 a1.toNat x2) := frq0.ui rfl
        refine g_iload_n X 0 rfl dX6_metre_61 ?_
        exact g_iret X dX6_metre_62 ⟨_, _, rfl, rfl, (by omega), (⟨fun h => by first | rfl | exact absurd h (by omega), fun h => by first | rfl | exact absurd (by omega) h⟩), Iq14, frq15⟩
      · have pq16 : ¬ (1 ≤ a2 ∧ a2 ≤ 12) := by omega
        clear hq11 cq12 tq10
        refine g_bipush X (-2) dX6_metre_38 (by decide) ?_
        exact g_iret X dX6_metre_40 ⟨_, _, rfl, (show ((-2) : Int32).toInt = (-2) by decide), (by omega), (⟨fun h => by first | rfl | exact absurd h (by omega), fun h => by first | rfl | exact absurd (by omega) h⟩), Iq0, frq0⟩
    · refine g_iload_n X 2 rfl dX6_metre_16 ?_
      refine g_bipush X 24 dX6_metre_17 (by decide) ?_
      refine g_callS X m_X6_65 (c_X6_areBits ad Mq x2 t2 24 (show (24 : Int32).toInt = 24 by decide)) rfl (by decide) (Nat.le_of_ble_eq_true rfl) rfl dX6_metre_19 ?_
      rintro _ _ ⟨rq17, aq18, rfl, tq19, hq20, rfl⟩
      show G Γ Mq 22 [(0, .ref (ad 0)), (1, .int x1), (2, .int x2)] [.int rq17]
      refine g_if_ne X tq19 (tgt := 41) dX6_metre_22 (by decide) (fun cq21 => ?_) (fun cq21 => ?_)
      · have pq22 : (0 ≤ a2 ∧ a2 < sh 24) := by omega
        clear hq20 cq21 tq19
        refine g_aload_n X 0 rfl dX6_metre_41 ?_
        refine g_getr X f_X6_10 dX6_metre_42 ?_
        refine g_getr X f_X6_93 dX6_metre_45 ?_
        refine g_iload_n X 1 rfl dX6_metre_48 ?_
        refine g_iald X la_12 t1 dX6_metre_49 (by omega) (x := Mq.1 12 a1.toNat) rfl ?_
        refine g_istore_n X (i := 3) [(3, .int (Mq.1 12 a1.toNat)), (0, .ref (ad 0)), (1, .int x1), (2, .int x2)] dX6_metre_50 rfl (by decide) rfl ?_
        refine g_aload_n X 1 rfl dX6_metre_51 ?_
        refine g_getr X f_X6_10 dX6_metre_52 ?_
        refine g_getr X f_X6_93 dX6_metre_55 ?_
        refine g_iload_n X 2 rfl dX6_metre_58 ?_
        refine g_iload_n X 3 rfl dX6_metre_59 ?_
        refine g_iast X la_12 t1 dX6_metre_60 (by omega) ?_
        have Iq23 : Iv TX (ui Mq 12 a1.toNat x2) := Iq0.otherA rfl
        have frq24 : Fr W_X6_metre Mq (ui Mq 12 a1.toNat x2) := frq0.ui rfl
        refine g_iload_n X 0 rfl dX6_metre_61 ?_
        exact g_iret X dX6_metre_62 ⟨_, _, rfl, rfl, (by omega), (⟨fun h => by first | rfl | exact absurd h (by omega), fun h => by first | rfl | exact absurd (by omega) h⟩), Iq23, frq24⟩
      · have pq25 : ¬ (0 ≤ a2 ∧ a2 < sh 24) := by omega
        clear hq20 cq21 tq19
        refine g_goto X (tgt := 38) dX6_metre_25 (by decide) ?_
        refine g_bipush X (-2) dX6_metre_38 (by decide) ?_
        exact g_iret X dX6_metre_40 ⟨_, _, rfl, (show ((-2) : Int32).toInt = (-2) by decide), (by omega), (⟨fun h => by first | rfl | exact absurd h (by omega), fun h => by first | rfl | exact absurd (by omega) h⟩), Iq0, frq0⟩
  · have pq26 : ¬ (0 ≤ a1 ∧ a1 ≤ 2) := by omega
    clear hq4 cq5 tq3
    refine g_iconst X (-1) dX6_metre_9 (by decide) ?_
    exact g_iret X dX6_metre_10 ⟨_, _, rfl, (show ((-1) : Int32).toInt = (-1) by decide), (by omega), (⟨fun h => by first | rfl | exact absurd h (by omega), fun h => by first | rfl | exact absurd (by omega) h⟩), Iq0, frq0⟩
abbrev W_X6_feed : List (Nat × Nat) := [(14, 1), (15, 99)]
set_option maxHeartbeats 4000000 in
set_option maxRecDepth 4000 in
theorem c_X6_feed (ad : Nat → Nat) (Mq : Mem) (x1 : Int64) {a1 : Int} (t1 : x1.toInt = a1) (x2 : Int32) {a2 : Int} (t2 : x2.toInt = a2) (Iq0 : Iv TX Mq) : Ctr ad yX6_feed cX6_feed 4 (some .int) 1 [.ref (ad 0), .long x1, .int x2] Mq (fun v M' => ∃ (r : Int32) (a : Int), v = some (.int r) ∧ r.toInt = a ∧ (((¬ (1 ≤ a2 ∧ a2 ≤ 8)) ∧ (a = -2)) ∨ (¬ (¬ (1 ≤ a2 ∧ a2 ≤ 8)) ∧ (60 < (Mq.1 14 1).toInt + a2) ∧ (a = -4)) ∨ (¬ (¬ (1 ≤ a2 ∧ a2 ≤ 8)) ∧ ¬ (60 < (Mq.1 14 1).toInt + a2) ∧ (a = (Mq.1 14 1).toInt + a2))) ∧ (((1 ≤ a2 ∧ a2 ≤ 8) ∧ (Mq.1 14 1).toInt + a2 ≤ 60 ∧ (M'.1 14 1).toInt = (Mq.1 14 1).toInt + a2) ∨ (¬ ((1 ≤ a2 ∧ a2 ≤ 8) ∧ (Mq.1 14 1).toInt + a2 ≤ 60) ∧ (M'.1 14 1).toInt = (Mq.1 14 1).toInt)) ∧ Iv TX M' ∧ Fr W_X6_feed Mq M') := by
  refine ctr_of (L := [(0, .ref (ad 0)), (1, .long x1), (3, .int x2)]) (by decide) (Nat.le_of_ble_eq_true rfl) rfl ?_
  intro Γ X
  have X : gX Γ cX6_feed RX6 4 (some .int) 1 ad _ := X
  have frq0 : Fr W_X6_feed Mq Mq := Fr.rf
  have g1_3 := ig_1_3 Iq0
  have g1_12 := ig_1_12 Iq0
  have g23_2 := ig_23_2 Iq0
  have g23_7 := ig_23_7 Iq0
  have g40_5 := ig_40_5 Iq0
  have g0_7 := ig_0_7 Iq0
  refine g_iload_n X 2 rfl dX6_feed_0 ?_
  refine g_iconst X 1 dX6_feed_1 (by decide) ?_
  refine g_bipush X 8 dX6_feed_2 (by decide) ?_
  refine g_callS X m_X6_61 (c_X6_inside ad Mq x2 t2 1 (show (1 : Int32).toInt = 1 by decide) 8 (show (8 : Int32).toInt = 8 by decide)) rfl (by decide) (Nat.le_of_ble_eq_true rfl) rfl dX6_feed_4 ?_
  rintro _ _ ⟨rq1, aq2, rfl, tq3, hq4, rfl⟩
  show G Γ Mq 7 [(0, .ref (ad 0)), (1, .long x1), (3, .int x2)] [.int rq1]
  refine g_if_ne X tq3 (tgt := 13) dX6_feed_7 (by decide) (fun cq5 => ?_) (fun cq5 => ?_)
  · have pq6 : (1 ≤ a2 ∧ a2 ≤ 8) := by omega
    clear hq4 cq5 tq3
    refine g_aload_n X 0 rfl dX6_feed_13 ?_
    refine g_getr X f_X6_19 dX6_feed_14 ?_
    refine g_geti X f_X6_143 dX6_feed_17 (x := Mq.1 14 1) rfl ?_
    have bq7 := ig_14_1 Iq0
    refine g_bipush X 60 dX6_feed_20 (by decide) ?_
    refine g_iload_n X 2 rfl dX6_feed_22 ?_
    refine g_isub X dX6_feed_23 (fun zq8 eq9 => ?_)
    have tq10 : zq8.toInt = 60 - a2 := sub_nw eq9 (show (60 : Int32).toInt = 60 by decide) t2 (by omega)
    refine g_icmp_le X rfl tq10 (tgt := 30) dX6_feed_24 (by decide) (fun cq11 => ?_) (fun cq11 => ?_)
    · refine g_aload_n X 0 rfl dX6_feed_30 ?_
      refine g_getr X f_X6_19 dX6_feed_31 ?_
      refine g_lload_n X 1 rfl dX6_feed_34 ?_
      refine g_iload_n X 2 rfl dX6_feed_35 ?_
      refine g_callV X m_X6_146 (c_X2_append ad Mq x1 t1 x2 t2 Iq0 (by omega) (by omega)) rfl (by decide) (Nat.le_of_ble_eq_true rfl) rfl dX6_feed_36 ?_
      rintro _ Mq17 ⟨rq12, aq13, rfl, tq14, hq15, hq16, Iq18, frq19⟩
      have frq20 : Fr W_X6_feed Mq Mq17 := frq0.trans frq19 rfl
      show G Γ Mq17 39 [(0, .ref (ad 0)), (1, .long x1), (3, .int x2)] [.int rq12]
      exact g_iret X dX6_feed_39 ⟨_, _, rfl, tq14, (by omega), (by first | omega | (rw [ui_eq]; omega)), Iq18, frq20⟩
    · refine g_bipush X (-4) dX6_feed_27 (by decide) ?_
      exact g_iret X dX6_feed_29 ⟨_, _, rfl, (show ((-4) : Int32).toInt = (-4) by decide), (by omega), (by first | omega | (rw [ui_eq]; omega)), Iq0, frq0⟩
  · have pq21 : ¬ (1 ≤ a2 ∧ a2 ≤ 8) := by omega
    clear hq4 cq5 tq3
    refine g_bipush X (-2) dX6_feed_10 (by decide) ?_
    exact g_iret X dX6_feed_12 ⟨_, _, rfl, (show ((-2) : Int32).toInt = (-2) by decide), (by omega), (by first | omega | (rw [ui_eq]; omega)), Iq0, frq0⟩
abbrev W_X6_hall : List (Nat × Nat) := [(14, 12)]
set_option maxHeartbeats 4000000 in
set_option maxRecDepth 4000 in
theorem c_X6_hall (ad : Nat → Nat) (Mq : Mem) (x1 : Int32) {a1 : Int} (t1 : x1.toInt = a1) (Iq0 : Iv TX Mq) : Ctr ad yX6_hall cX6_hall 3 (some .int) 1 [.ref (ad 0), .int x1] Mq (fun v M' => ∃ (r : Int32) (a : Int), v = some (.int r) ∧ r.toInt = a ∧ (((0 ≤ a1 ∧ a1 ≤ 3) ∧ a = (Mq.1 14 12).toInt) ∨ (¬ (0 ≤ a1 ∧ a1 ≤ 3) ∧ a = -2)) ∧ (((0 ≤ a1 ∧ a1 ≤ 3) ∧ (M'.1 14 12).toInt = a1) ∨ (¬ (0 ≤ a1 ∧ a1 ≤ 3) ∧ (M'.1 14 12).toInt = (Mq.1 14 12).toInt)) ∧ Iv TX M' ∧ Fr W_X6_hall Mq M') := by
  refine ctr_of (L := [(0, .ref (ad 0)), (1, .int x1)]) (by decide) (Nat.le_of_ble_eq_true rfl) rfl ?_
  intro Γ X
  have X : gX Γ cX6_hall RX6 3 (some .int) 1 ad _ := X
  have frq0 : Fr W_X6_hall Mq Mq := Fr.rf
  have g1_3 := ig_1_3 Iq0
  have g1_12 := ig_1_12 Iq0
  have g23_2 := ig_23_2 Iq0
  have g23_7 := ig_23_7 Iq0
  have g40_5 := ig_40_5 Iq0
  have g0_7 := ig_0_7 Iq0
  refine g_iload_n X 1 rfl dX6_hall_0 ?_
  refine g_iconst X 0 dX6_hall_1 (by decide) ?_
  refine g_iconst X 3 dX6_hall_2 (by decide) ?_
  refine g_callS X m_X6_61 (c_X6_inside ad Mq x1 t1 0 (show (0 : Int32).toInt = 0 by decide) 3 (show (3 : Int32).toInt = 3 by decide)) rfl (by decide) (Nat.le_of_ble_eq_true rfl) rfl dX6_hall_3 ?_
  rintro _ _ ⟨rq1, aq2, rfl, tq3, hq4, rfl⟩
  show G Γ Mq 6 [(0, .ref (ad 0)), (1, .int x1)] [.int rq1]
  refine g_if_ne X tq3 (tgt := 12) dX6_hall_6 (by decide) (fun cq5 => ?_) (fun cq5 => ?_)
  · have pq6 : (0 ≤ a1 ∧ a1 ≤ 3) := by omega
    clear hq4 cq5 tq3
    refine g_aload_n X 0 rfl dX6_hall_12 ?_
    refine g_getr X f_X6_19 dX6_hall_13 ?_
    refine g_geti X f_X6_153 dX6_hall_16 (x := Mq.1 14 12) rfl ?_
    have bq7 := ig_14_12 Iq0
    refine g_istore_n X (i := 2) [(2, .int (Mq.1 14 12)), (0, .ref (ad 0)), (1, .int x1)] dX6_hall_19 rfl (by decide) rfl ?_
    refine g_aload_n X 1 rfl dX6_hall_20 ?_
    refine g_getr X f_X6_19 dX6_hall_21 ?_
    refine g_iload_n X 2 rfl dX6_hall_24 ?_
    refine g_puti X p_X6_153 dX6_hall_25 ?_
    have Iq8 : Iv TX (ui Mq 14 12 x1) := Iq0.put 0 3 t1 (by omega) rfl
    have frq9 : Fr W_X6_hall Mq (ui Mq 14 12 x1) := frq0.ui rfl
    refine g_iload_n X 0 rfl dX6_hall_28 ?_
    exact g_iret X dX6_hall_29 ⟨_, _, rfl, rfl, (by omega), (by first | omega | (rw [ui_eq]; omega)), Iq8, frq9⟩
  · have pq10 : ¬ (0 ≤ a1 ∧ a1 ≤ 3) := by omega
    clear hq4 cq5 tq3
    refine g_bipush X (-2) dX6_hall_9 (by decide) ?_
    exact g_iret X dX6_hall_11 ⟨_, _, rfl, (show ((-2) : Int32).toInt = (-2) by decide), (by omega), (by first | omega | (rw [ui_eq]; omega)), Iq0, frq0⟩
abbrev W_X6_singer : List (Nat × Nat) := [(23, 2), (24, 99)]
set_option maxHeartbeats 4000000 in
set_option maxRecDepth 4000 in
theorem c_X6_singer (ad : Nat → Nat) (Mq : Mem) (x1 : Int32) {a1 : Int} (t1 : x1.toInt = a1) (Iq0 : Iv TX Mq) : Ctr ad yX6_singer cX6_singer 2 (some .int) 2 [.ref (ad 0), .int x1] Mq (fun v M' => ∃ (r : Int32) (a : Int), v = some (.int r) ∧ r.toInt = a ∧ (((¬ (0 ≤ a1 ∧ a1 ≤ 999)) ∧ (a = -2)) ∨ (¬ (¬ (0 ≤ a1 ∧ a1 ≤ 999)) ∧ (8 ≤ (Mq.1 23 2).toInt) ∧ (a = -4)) ∨ (¬ (¬ (0 ≤ a1 ∧ a1 ≤ 999)) ∧ ¬ (8 ≤ (Mq.1 23 2).toInt) ∧ (a = (Mq.1 23 2).toInt))) ∧ ((((¬ (0 ≤ a1 ∧ a1 ≤ 999)) ∨ (8 ≤ (Mq.1 23 2).toInt)) ∧ (M'.1 23 2).toInt = (Mq.1 23 2).toInt) ∨ (¬ ((¬ (0 ≤ a1 ∧ a1 ≤ 999)) ∨ (8 ≤ (Mq.1 23 2).toInt)) ∧ (M'.1 23 2).toInt = (Mq.1 23 2).toInt + 1)) ∧ Iv TX M' ∧ Fr W_X6_singer Mq M') := by
  refine ctr_of (L := [(0, .ref (ad 0)), (1, .int x1)]) (by decide) (Nat.le_of_ble_eq_true rfl) rfl ?_
  intro Γ X
  have X : gX Γ cX6_singer RX6 2 (some .int) 2 ad _ := X
  have frq0 : Fr W_X6_singer Mq Mq := Fr.rf
  have g1_3 := ig_1_3 Iq0
  have g1_12 := ig_1_12 Iq0
  have g23_2 := ig_23_2 Iq0
  have g23_7 := ig_23_7 Iq0
  have g40_5 := ig_40_5 Iq0
  have g0_7 := ig_0_7 Iq0
  refine g_iload_n X 1 rfl dX6_singer_0 ?_
  refine g_callS X m_X6_162 (c_X6_isYear ad Mq x1 t1) rfl (by decide) (Nat.le_of_ble_eq_true rfl) rfl dX6_singer_1 ?_
  rintro _ _ ⟨rq1, aq2, rfl, tq3, hq4, rfl⟩
  show G Γ Mq 4 [(0, .ref (ad 0)), (1, .int x1)] [.int rq1]
  refine g_if_ne X tq3 (tgt := 10) dX6_singer_4 (by decide) (fun cq5 => ?_) (fun cq5 => ?_)
  · have pq6 : (0 ≤ a1 ∧ a1 ≤ 999) := by omega
    clear hq4 cq5 tq3
    refine g_aload_n X 0 rfl dX6_singer_10 ?_
    refine g_getr X f_X6_26 dX6_singer_11 ?_
    refine g_geti X f_X6_179 dX6_singer_14 (x := Mq.1 23 2) rfl ?_
    have bq7 := ig_23_2 Iq0
    refine g_bipush X 8 dX6_singer_17 (by decide) ?_
    refine g_icmp_lt X rfl (show (8 : Int32).toInt = 8 by decide) (tgt := 25) dX6_singer_19 (by decide) (fun cq8 => ?_) (fun cq8 => ?_)
    · refine g_aload_n X 0 rfl dX6_singer_25 ?_
      refine g_getr X f_X6_26 dX6_singer_26 ?_
      refine g_iload_n X 1 rfl dX6_singer_29 ?_
      refine g_callV X m_X6_182 (c_X0_addSinger ad Mq x1 t1 Iq0 (by omega)) rfl (by decide) (Nat.le_of_ble_eq_true rfl) rfl dX6_singer_30 ?_
      rintro _ Mq14 ⟨rq9, aq10, rfl, tq11, hq12, hq13, Iq15, frq16⟩
      have frq17 : Fr W_X6_singer Mq Mq14 := frq0.trans frq16 rfl
      show G Γ Mq14 33 [(0, .ref (ad 0)), (1, .int x1)] [.int rq9]
      exact g_iret X dX6_singer_33 ⟨_, _, rfl, tq11, (by omega), (by first | omega | (rw [ui_eq]; omega)), Iq15, frq17⟩
    · refine g_bipush X (-4) dX6_singer_22 (by decide) ?_
      exact g_iret X dX6_singer_24 ⟨_, _, rfl, (show ((-4) : Int32).toInt = (-4) by decide), (by omega), (by first | omega | (rw [ui_eq]; omega)), Iq0, frq0⟩
  · have pq18 : ¬ (0 ≤ a1 ∧ a1 ≤ 999) := by omega
    clear hq4 cq5 tq3
    refine g_bipush X (-2) dX6_singer_7 (by decide) ?_
    exact g_iret X dX6_singer_9 ⟨_, _, rfl, (show ((-2) : Int32).toInt = (-2) by decide), (by omega), (by first | omega | (rw [ui_eq]; omega)), Iq0, frq0⟩
abbrev W_X6_village : List (Nat × Nat) := [(25, 99)]
set_option maxHeartbeats 4000000 in
set_option maxRecDepth 4000 in
theorem c_X6_village (ad : Nat → Nat) (Mq : Mem) (x1 : Int32) {a1 : Int} (t1 : x1.toInt = a1) (x2 : Int32) {a2 : Int} (t2 : x2.toInt = a2) (Iq0 : Iv TX Mq) : Ctr ad yX6_village cX6_village 4 (some .int) 1 [.ref (ad 0), .int x1, .int x2] Mq (fun v M' => ∃ (r : Int32) (a : Int), v = some (.int r) ∧ r.toInt = a ∧ (((¬ (0 ≤ a1 ∧ a1 < (Mq.1 23 2).toInt)) ∧ (a = -1)) ∨ (¬ (¬ (0 ≤ a1 ∧ a1 < (Mq.1 23 2).toInt)) ∧ (¬ (0 ≤ a2 ∧ a2 ≤ 9)) ∧ (a = -2)) ∨ (¬ (¬ (0 ≤ a1 ∧ a1 < (Mq.1 23 2).toInt)) ∧ ¬ (¬ (0 ≤ a2 ∧ a2 ≤ 9)) ∧ (a = (Mq.1 25 a1.toNat).toInt))) ∧ ((((¬ (0 ≤ a1 ∧ a1 < (Mq.1 23 2).toInt)) ∨ (¬ (0 ≤ a2 ∧ a2 ≤ 9))) → M'.1 25 = Mq.1 25) ∧ (¬ ((¬ (0 ≤ a1 ∧ a1 < (Mq.1 23 2).toInt)) ∨ (¬ (0 ≤ a2 ∧ a2 ≤ 9))) → M'.1 25 = (ui Mq 25 a1.toNat x2).1 25)) ∧ Iv TX M' ∧ Fr W_X6_village Mq M') := by
  refine ctr_of (L := [(0, .ref (ad 0)), (1, .int x1), (2, .int x2)]) (by decide) (Nat.le_of_ble_eq_true rfl) rfl ?_
  intro Γ X
  have X : gX Γ cX6_village RX6 4 (some .int) 1 ad _ := X
  have frq0 : Fr W_X6_village Mq Mq := Fr.rf
  have g1_3 := ig_1_3 Iq0
  have g1_12 := ig_1_12 Iq0
  have g23_2 := ig_23_2 Iq0
  have g23_7 := ig_23_7 Iq0
  have g40_5 := ig_40_5 Iq0
  have g0_7 := ig_0_7 Iq0
  refine g_aload_n X 0 rfl dX6_village_0 ?_
  refine g_getr X f_X6_26 dX6_village_1 ?_
  refine g_iload_n X 1 rfl dX6_village_4 ?_
  refine g_callV X m_X6_159 (c_X0_isSinger ad Mq x1 t1) rfl (by decide) (Nat.le_of_ble_eq_true rfl) rfl dX6_village_5 ?_
  rintro _ _ ⟨rq1, aq2, rfl, tq3, hq4, rfl⟩
  show G Γ Mq 8 [(0, .ref (ad 0)), (1, .int x1), (2, .int x2)] [.int rq1]
  refine g_if_ne X tq3 (tgt := 13) dX6_village_8 (by decide) (fun cq5 => ?_) (fun cq5 => ?_)
  · have pq6 : (0 ≤ a1 ∧ a1 < ((Mq.1 23 2)).toInt) := by omega
    clear hq4 cq5 tq3
    refine g_iload_n X 2 rfl dX6_village_13 ?_
    refine g_iconst X 0 dX6_village_14 (by decide) ?_
    refine g_bipush X 9 dX6_village_15 (by decide) ?_
    refine g_callS X m_X6_61 (c_X6_inside ad Mq x2 t2 0 (show (0 : Int32).toInt = 0 by decide) 9 (show (9 : Int32).toInt = 9 by decide)) rfl (by decide) (Nat.le_of_ble_eq_true rfl) rfl dX6_village_17 ?_
    rintro _ _ ⟨rq7, aq8, rfl, tq9, hq10, rfl⟩
    show G Γ Mq 20 [(0, .ref (ad 0)), (1, .int x1), (2, .int x2)] [.int rq7]
    refine g_if_ne X tq9 (tgt := 26) dX6_village_20 (by decide) (fun cq11 => ?_) (fun cq11 => ?_)
    · have pq12 : (0 ≤ a2 ∧ a2 ≤ 9) := by omega
      clear hq10 cq11 tq9
      refine g_aload_n X 0 rfl dX6_village_26 ?_
      refine g_getr X f_X6_26 dX6_village_27 ?_
      refine g_getr X f_X6_185 dX6_village_30 ?_
      refine g_iload_n X 1 rfl dX6_village_33 ?_
      refine g_iald X la_25 t1 dX6_village_34 (by omega) (x := Mq.1 25 a1.toNat) rfl ?_
      have bq13 := ig_25 Iq0 a1.toNat (by omega)
      refine g_istore_n X (i := 3) [(3, .int (Mq.1 25 a1.toNat)), (0, .ref (ad 0)), (1, .int x1), (2, .int x2)] dX6_village_35 rfl (by decide) rfl ?_
      refine g_aload_n X 1 rfl dX6_village_36 ?_
      refine g_getr X f_X6_26 dX6_village_37 ?_
      refine g_getr X f_X6_185 dX6_village_40 ?_
      refine g_iload_n X 2 rfl dX6_village_43 ?_
      refine g_iload_n X 3 rfl dX6_village_44 ?_
      refine g_iast X la_25 t1 dX6_village_45 (by omega) ?_
      have Iq14 : Iv TX (ui Mq 25 a1.toNat x2) := Iq0.putA 0 9 t2 (by omega) rfl
      have frq15 : Fr W_X6_village Mq (ui Mq 25 a1.toNat x2) := frq0.ui rfl
      refine g_iload_n X 0 rfl dX6_village_46 ?_
      exact g_iret X dX6_village_47 ⟨_, _, rfl, rfl, (by omega), (⟨fun h => by first | rfl | exact absurd h (by omega), fun h => by first | rfl | exact absurd (by omega) h⟩), Iq14, frq15⟩
    · have pq16 : ¬ (0 ≤ a2 ∧ a2 ≤ 9) := by omega
      clear hq10 cq11 tq9
      refine g_bipush X (-2) dX6_village_23 (by decide) ?_
      exact g_iret X dX6_village_25 ⟨_, _, rfl, (show ((-2) : Int32).toInt = (-2) by decide), (by omega), (⟨fun h => by first | rfl | exact absurd h (by omega), fun h => by first | rfl | exact absurd (by omega) h⟩), Iq0, frq0⟩
  · have pq17 : ¬ (0 ≤ a1 ∧ a1 < ((Mq.1 23 2)).toInt) := by omega
    clear hq4 cq5 tq3
    refine g_iconst X (-1) dX6_village_11 (by decide) ?_
    exact g_iret X dX6_village_12 ⟨_, _, rfl, (show ((-1) : Int32).toInt = (-1) by decide), (by omega), (⟨fun h => by first | rfl | exact absurd h (by omega), fun h => by first | rfl | exact absurd (by omega) h⟩), Iq0, frq0⟩
abbrev W_X6_learn : List (Nat × Nat) := [(23, 7), (26, 99), (27, 99), (28, 99), (29, 99)]
set_option maxHeartbeats 4000000 in
set_option maxRecDepth 4000 in
theorem c_X6_learn (ad : Nat → Nat) (Mq : Mem) (x1 : Int32) {a1 : Int} (t1 : x1.toInt = a1) (x2 : Int32) {a2 : Int} (t2 : x2.toInt = a2) (x3 : Int32) {a3 : Int} (t3 : x3.toInt = a3) (x4 : Int32) {a4 : Int} (t4 : x4.toInt = a4) (Iq0 : Iv TX Mq) : Ctr ad yX6_learn cX6_learn 5 (some .int) 2 [.ref (ad 0), .int x1, .int x2, .int x3, .int x4] Mq (fun v M' => ∃ (r : Int32) (a : Int), v = some (.int r) ∧ r.toInt = a ∧ (((¬ ((0 ≤ a1 ∧ a1 < (Mq.1 23 2).toInt) ∧ (0 ≤ a2 ∧ a2 < (Mq.1 1 12).toInt) ∧ (a3 = -1 ∨ (0 ≤ a3 ∧ a3 < (Mq.1 23 2).toInt)))) ∧ (a = -1)) ∨ (¬ (¬ ((0 ≤ a1 ∧ a1 < (Mq.1 23 2).toInt) ∧ (0 ≤ a2 ∧ a2 < (Mq.1 1 12).toInt) ∧ (a3 = -1 ∨ (0 ≤ a3 ∧ a3 < (Mq.1 23 2).toInt)))) ∧ (¬ (0 ≤ a4 ∧ a4 ≤ 999) ∨ a3 = a1) ∧ (a = -2)) ∨ (¬ (¬ ((0 ≤ a1 ∧ a1 < (Mq.1 23 2).toInt) ∧ (0 ≤ a2 ∧ a2 < (Mq.1 1 12).toInt) ∧ (a3 = -1 ∨ (0 ≤ a3 ∧ a3 < (Mq.1 23 2).toInt)))) ∧ ¬ (¬ (0 ≤ a4 ∧ a4 ≤ 999) ∨ a3 = a1) ∧ (200 ≤ (Mq.1 23 7).toInt) ∧ (a = -4)) ∨ (¬ (¬ ((0 ≤ a1 ∧ a1 < (Mq.1 23 2).toInt) ∧ (0 ≤ a2 ∧ a2 < (Mq.1 1 12).toInt) ∧ (a3 = -1 ∨ (0 ≤ a3 ∧ a3 < (Mq.1 23 2).toInt)))) ∧ ¬ (¬ (0 ≤ a4 ∧ a4 ≤ 999) ∨ a3 = a1) ∧ ¬ (200 ≤ (Mq.1 23 7).toInt) ∧ (a = (Mq.1 23 7).toInt + 1))) ∧ ((((¬ ((0 ≤ a1 ∧ a1 < (Mq.1 23 2).toInt) ∧ (0 ≤ a2 ∧ a2 < (Mq.1 1 12).toInt) ∧ (a3 = -1 ∨ (0 ≤ a3 ∧ a3 < (Mq.1 23 2).toInt)))) ∨ (¬ (0 ≤ a4 ∧ a4 ≤ 999) ∨ a3 = a1) ∨ (200 ≤ (Mq.1 23 7).toInt)) ∧ (M'.1 23 7).toInt = (Mq.1 23 7).toInt) ∨ (¬ ((¬ ((0 ≤ a1 ∧ a1 < (Mq.1 23 2).toInt) ∧ (0 ≤ a2 ∧ a2 < (Mq.1 1 12).toInt) ∧ (a3 = -1 ∨ (0 ≤ a3 ∧ a3 < (Mq.1 23 2).toInt)))) ∨ (¬ (0 ≤ a4 ∧ a4 ≤ 999) ∨ a3 = a1) ∨ (200 ≤ (Mq.1 23 7).toInt)) ∧ (M'.1 23 7).toInt = (Mq.1 23 7).toInt + 1)) ∧ Iv TX M' ∧ Fr W_X6_learn Mq M') := by
  refine ctr_of (L := [(0, .ref (ad 0)), (1, .int x1), (2, .int x2), (3, .int x3), (4, .int x4)]) (by decide) (Nat.le_of_ble_eq_true rfl) rfl ?_
  intro Γ X
  have X : gX Γ cX6_learn RX6 5 (some .int) 2 ad _ := X
  have frq0 : Fr W_X6_learn Mq Mq := Fr.rf
  have g1_3 := ig_1_3 Iq0
  have g1_12 := ig_1_12 Iq0
  have g23_2 := ig_23_2 Iq0
  have g23_7 := ig_23_7 Iq0
  have g40_5 := ig_40_5 Iq0
  have g0_7 := ig_0_7 Iq0
  refine g_aload_n X 0 rfl dX6_learn_0 ?_
  refine g_getr X f_X6_26 dX6_learn_1 ?_
  refine g_iload_n X 1 rfl dX6_learn_4 ?_
  refine g_callV X m_X6_159 (c_X0_isSinger ad Mq x1 t1) rfl (by decide) (Nat.le_of_ble_eq_true rfl) rfl dX6_learn_5 ?_
  rintro _ _ ⟨rq1, aq2, rfl, tq3, hq4, rfl⟩
  show G Γ Mq 8 [(0, .ref (ad 0)), (1, .int x1), (2, .int x2), (3, .int x3), (4, .int x4)] [.int rq1]
  refine g_if_eq X tq3 (tgt := 22) dX6_learn_8 (by decide) (fun cq5 => ?_) (fun cq5 => ?_)
  · have pq6 : ¬ (0 ≤ a1 ∧ a1 < ((Mq.1 23 2)).toInt) := by omega
    clear hq4 cq5 tq3
    refine g_iconst X (-1) dX6_learn_22 (by decide) ?_
    exact g_iret X dX6_learn_23 ⟨_, _, rfl, (show ((-1) : Int32).toInt = (-1) by decide), (by omega), (by first | omega | (rw [ui_eq]; omega)), Iq0, frq0⟩
  · have pq7 : (0 ≤ a1 ∧ a1 < ((Mq.1 23 2)).toInt) := by omega
    clear hq4 cq5 tq3
    refine g_aload_n X 0 rfl dX6_learn_11 ?_
    refine g_getr X f_X6_10 dX6_learn_12 ?_
    refine g_iload_n X 2 rfl dX6_learn_15 ?_
    refine g_callV X m_X6_96 (c_X5_isLine ad Mq x2 t2) rfl (by decide) (Nat.le_of_ble_eq_true rfl) rfl dX6_learn_16 ?_
    rintro _ _ ⟨rq8, aq9, rfl, tq10, hq11, rfl⟩
    show G Γ Mq 19 [(0, .ref (ad 0)), (1, .int x1), (2, .int x2), (3, .int x3), (4, .int x4)] [.int rq8]
    refine g_if_ne X tq10 (tgt := 24) dX6_learn_19 (by decide) (fun cq12 => ?_) (fun cq12 => ?_)
    · have pq13 : (0 ≤ a2 ∧ a2 < ((Mq.1 1 12)).toInt) := by omega
      clear hq11 cq12 tq10
      refine g_iload_n X 3 rfl dX6_learn_24 ?_
      refine g_iconst X (-1) dX6_learn_25 (by decide) ?_
      refine g_icmp_eq X t3 (show ((-1) : Int32).toInt = (-1) by decide) (tgt := 42) dX6_learn_26 (by decide) (fun cq14 => ?_) (fun cq14 => ?_)
      · refine g_iload X 4 rfl dX6_learn_42 ?_
        refine g_callS X m_X6_162 (c_X6_isYear ad Mq x4 t4) rfl (by decide) (Nat.le_of_ble_eq_true rfl) rfl dX6_learn_44 ?_
        rintro _ _ ⟨rq15, aq16, rfl, tq17, hq18, rfl⟩
        show G Γ Mq 47 [(0, .ref (ad 0)), (1, .int x1), (2, .int x2), (3, .int x3), (4, .int x4)] [.int rq15]
        refine g_if_eq X tq17 (tgt := 55) dX6_learn_47 (by decide) (fun cq19 => ?_) (fun cq19 => ?_)
        · have pq20 : ¬ (0 ≤ a4 ∧ a4 ≤ 999) := by omega
          clear hq18 cq19 tq17
          refine g_bipush X (-2) dX6_learn_55 (by decide) ?_
          exact g_iret X dX6_learn_57 ⟨_, _, rfl, (show ((-2) : Int32).toInt = (-2) by decide), (by omega), (by first | omega | (rw [ui_eq]; omega)), Iq0, frq0⟩
        · have pq21 : (0 ≤ a4 ∧ a4 ≤ 999) := by omega
          clear hq18 cq19 tq17
          refine g_iload_n X 3 rfl dX6_learn_50 ?_
          refine g_iload_n X 1 rfl dX6_learn_51 ?_
          refine g_icmp_ne X t3 t1 (tgt := 58) dX6_learn_52 (by decide) (fun cq22 => ?_) (fun cq22 => ?_)
          · refine g_aload_n X 0 rfl dX6_learn_58 ?_
            refine g_getr X f_X6_26 dX6_learn_59 ?_
            refine g_geti X f_X6_188 dX6_learn_62 (x := Mq.1 23 7) rfl ?_
            have bq23 := ig_23_7 Iq0
            refine g_sipush X 200 dX6_learn_65 (by decide) ?_
            refine g_icmp_lt X rfl (show (200 : Int32).toInt = 200 by decide) (tgt := 74) dX6_learn_68 (by decide) (fun cq24 => ?_) (fun cq24 => ?_)
            · refine g_aload_n X 0 rfl dX6_learn_74 ?_
              refine g_getr X f_X6_26 dX6_learn_75 ?_
              refine g_iload_n X 1 rfl dX6_learn_78 ?_
              refine g_iload_n X 2 rfl dX6_learn_79 ?_
              refine g_iload X 4 rfl dX6_learn_80 ?_
              refine g_iconst X 1 dX6_learn_82 (by decide) ?_
              refine g_callV X m_X6_191 (c_X0_enter ad Mq x1 t1 x2 t2 x4 t4 1 (show (1 : Int32).toInt = 1 by decide) Iq0 (by omega) (by omega) (by omega)) rfl (by decide) (Nat.le_of_ble_eq_true rfl) rfl dX6_learn_83 ?_
              rintro _ Mq30 ⟨rq25, aq26, rfl, tq27, hq28, hq29, Iq31, frq32⟩
              have frq33 : Fr W_X6_learn Mq Mq30 := frq0.trans frq32 rfl
              show G Γ Mq30 86 [(0, .ref (ad 0)), (1, .int x1), (2, .int x2), (3, .int x3), (4, .int x4)] [.int rq25]
              exact g_iret X dX6_learn_86 ⟨_, _, rfl, tq27, (by omega), (by first | omega | (rw [ui_eq]; omega)), Iq31, frq33⟩
            · refine g_bipush X (-4) dX6_learn_71 (by decide) ?_
              exact g_iret X dX6_learn_73 ⟨_, _, rfl, (show ((-4) : Int32).toInt = (-4) by decide), (by omega), (by first | omega | (rw [ui_eq]; omega)), Iq0, frq0⟩
          · refine g_bipush X (-2) dX6_learn_55 (by decide) ?_
            exact g_iret X dX6_learn_57 ⟨_, _, rfl, (show ((-2) : Int32).toInt = (-2) by decide), (by omega), (by first | omega | (rw [ui_eq]; omega)), Iq0, frq0⟩
      · refine g_aload_n X 0 rfl dX6_learn_29 ?_
        refine g_getr X f_X6_26 dX6_learn_30 ?_
        refine g_iload_n X 3 rfl dX6_learn_33 ?_
        refine g_callV X m_X6_159 (c_X0_isSinger ad Mq x3 t3) rfl (by decide) (Nat.le_of_ble_eq_true rfl) rfl dX6_learn_34 ?_
        rintro _ _ ⟨rq34, aq35, rfl, tq36, hq37, rfl⟩
        show G Γ Mq 37 [(0, .ref (ad 0)), (1, .int x1), (2, .int x2), (3, .int x3), (4, .int x4)] [.int rq34]
        refine g_if_ne X tq36 (tgt := 42) dX6_learn_37 (by decide) (fun cq38 => ?_) (fun cq38 => ?_)
        · have pq39 : (0 ≤ a3 ∧ a3 < ((Mq.1 23 2)).toInt) := by omega
          clear hq37 cq38 tq36
          refine g_iload X 4 rfl dX6_learn_42 ?_
          refine g_callS X m_X6_162 (c_X6_isYear ad Mq x4 t4) rfl (by decide) (Nat.le_of_ble_eq_true rfl) rfl dX6_learn_44 ?_
          rintro _ _ ⟨rq40, aq41, rfl, tq42, hq43, rfl⟩
          show G Γ Mq 47 [(0, .ref (ad 0)), (1, .int x1), (2, .int x2), (3, .int x3), (4, .int x4)] [.int rq40]
          refine g_if_eq X tq42 (tgt := 55) dX6_learn_47 (by decide) (fun cq44 => ?_) (fun cq44 => ?_)
          · have pq45 : ¬ (0 ≤ a4 ∧ a4 ≤ 999) := by omega
            clear hq43 cq44 tq42
            refine g_bipush X (-2) dX6_learn_55 (by decide) ?_
            exact g_iret X dX6_learn_57 ⟨_, _, rfl, (show ((-2) : Int32).toInt = (-2) by decide), (by omega), (by first | omega | (rw [ui_eq]; omega)), Iq0, frq0⟩
          · have pq46 : (0 ≤ a4 ∧ a4 ≤ 999) := by omega
            clear hq43 cq44 tq42
            refine g_iload_n X 3 rfl dX6_learn_50 ?_
            refine g_iload_n X 1 rfl dX6_learn_51 ?_
            refine g_icmp_ne X t3 t1 (tgt := 58) dX6_learn_52 (by decide) (fun cq47 => ?_) (fun cq47 => ?_)
            · refine g_aload_n X 0 rfl dX6_learn_58 ?_
              refine g_getr X f_X6_26 dX6_learn_59 ?_
              refine g_geti X f_X6_188 dX6_learn_62 (x := Mq.1 23 7) rfl ?_
              have bq48 := ig_23_7 Iq0
              refine g_sipush X 200 dX6_learn_65 (by decide) ?_
              refine g_icmp_lt X rfl (show (200 : Int32).toInt = 200 by decide) (tgt := 74) dX6_learn_68 (by decide) (fun cq49 => ?_) (fun cq49 => ?_)
              · refine g_aload_n X 0 rfl dX6_learn_74 ?_
                refine g_getr X f_X6_26 dX6_learn_75 ?_
                refine g_iload_n X 1 rfl dX6_learn_78 ?_
                refine g_iload_n X 2 rfl dX6_learn_79 ?_
                refine g_iload X 4 rfl dX6_learn_80 ?_
                refine g_iconst X 1 dX6_learn_82 (by decide) ?_
                refine g_callV X m_X6_191 (c_X0_enter ad Mq x1 t1 x2 t2 x4 t4 1 (show (1 : Int32).toInt = 1 by decide) Iq0 (by omega) (by omega) (by omega)) rfl (by decide) (Nat.le_of_ble_eq_true rfl) rfl dX6_learn_83 ?_
                rintro _ Mq55 ⟨rq50, aq51, rfl, tq52, hq53, hq54, Iq56, frq57⟩
                have frq58 : Fr W_X6_learn Mq Mq55 := frq0.trans frq57 rfl
                show G Γ Mq55 86 [(0, .ref (ad 0)), (1, .int x1), (2, .int x2), (3, .int x3), (4, .int x4)] [.int rq50]
                exact g_iret X dX6_learn_86 ⟨_, _, rfl, tq52, (by omega), (by first | omega | (rw [ui_eq]; omega)), Iq56, frq58⟩
              · refine g_bipush X (-4) dX6_learn_71 (by decide) ?_
                exact g_iret X dX6_learn_73 ⟨_, _, rfl, (show ((-4) : Int32).toInt = (-4) by decide), (by omega), (by first | omega | (rw [ui_eq]; omega)), Iq0, frq0⟩
            · refine g_bipush X (-2) dX6_learn_55 (by decide) ?_
              exact g_iret X dX6_learn_57 ⟨_, _, rfl, (show ((-2) : Int32).toInt = (-2) by decide), (by omega), (by first | omega | (rw [ui_eq]; omega)), Iq0, frq0⟩
        · have pq59 : ¬ (0 ≤ a3 ∧ a3 < ((Mq.1 23 2)).toInt) := by omega
          clear hq37 cq38 tq36
          refine g_iconst X (-1) dX6_learn_40 (by decide) ?_
          exact g_iret X dX6_learn_41 ⟨_, _, rfl, (show ((-1) : Int32).toInt = (-1) by decide), (by omega), (by first | omega | (rw [ui_eq]; omega)), Iq0, frq0⟩
    · have pq60 : ¬ (0 ≤ a2 ∧ a2 < ((Mq.1 1 12)).toInt) := by omega
      clear hq11 cq12 tq10
      refine g_iconst X (-1) dX6_learn_22 (by decide) ?_
      exact g_iret X dX6_learn_23 ⟨_, _, rfl, (show ((-1) : Int32).toInt = (-1) by decide), (by omega), (by first | omega | (rw [ui_eq]; omega)), Iq0, frq0⟩
abbrev W_X6_forget : List (Nat × Nat) := [(23, 7), (26, 99), (27, 99), (28, 99), (29, 99)]
set_option maxHeartbeats 4000000 in
set_option maxRecDepth 4000 in
theorem c_X6_forget (ad : Nat → Nat) (Mq : Mem) (x1 : Int32) {a1 : Int} (t1 : x1.toInt = a1) (x2 : Int32) {a2 : Int} (t2 : x2.toInt = a2) (x3 : Int32) {a3 : Int} (t3 : x3.toInt = a3) (Iq0 : Iv TX Mq) : Ctr ad yX6_forget cX6_forget 4 (some .int) 2 [.ref (ad 0), .int x1, .int x2, .int x3] Mq (fun v M' => ∃ (r : Int32) (a : Int), v = some (.int r) ∧ r.toInt = a ∧ (((¬ ((0 ≤ a1 ∧ a1 < (Mq.1 23 2).toInt) ∧ (0 ≤ a2 ∧ a2 < (Mq.1 1 12).toInt))) ∧ (a = -1)) ∨ (¬ (¬ ((0 ≤ a1 ∧ a1 < (Mq.1 23 2).toInt) ∧ (0 ≤ a2 ∧ a2 < (Mq.1 1 12).toInt))) ∧ (¬ (0 ≤ a3 ∧ a3 ≤ 999)) ∧ (a = -2)) ∨ (¬ (¬ ((0 ≤ a1 ∧ a1 < (Mq.1 23 2).toInt) ∧ (0 ≤ a2 ∧ a2 < (Mq.1 1 12).toInt))) ∧ ¬ (¬ (0 ≤ a3 ∧ a3 ≤ 999)) ∧ (200 ≤ (Mq.1 23 7).toInt) ∧ (a = -4)) ∨ (¬ (¬ ((0 ≤ a1 ∧ a1 < (Mq.1 23 2).toInt) ∧ (0 ≤ a2 ∧ a2 < (Mq.1 1 12).toInt))) ∧ ¬ (¬ (0 ≤ a3 ∧ a3 ≤ 999)) ∧ ¬ (200 ≤ (Mq.1 23 7).toInt) ∧ (a = (Mq.1 23 7).toInt + 1))) ∧ ((((¬ ((0 ≤ a1 ∧ a1 < (Mq.1 23 2).toInt) ∧ (0 ≤ a2 ∧ a2 < (Mq.1 1 12).toInt))) ∨ (¬ (0 ≤ a3 ∧ a3 ≤ 999)) ∨ (200 ≤ (Mq.1 23 7).toInt)) ∧ (M'.1 23 7).toInt = (Mq.1 23 7).toInt) ∨ (¬ ((¬ ((0 ≤ a1 ∧ a1 < (Mq.1 23 2).toInt) ∧ (0 ≤ a2 ∧ a2 < (Mq.1 1 12).toInt))) ∨ (¬ (0 ≤ a3 ∧ a3 ≤ 999)) ∨ (200 ≤ (Mq.1 23 7).toInt)) ∧ (M'.1 23 7).toInt = (Mq.1 23 7).toInt + 1)) ∧ Iv TX M' ∧ Fr W_X6_forget Mq M') := by
  refine ctr_of (L := [(0, .ref (ad 0)), (1, .int x1), (2, .int x2), (3, .int x3)]) (by decide) (Nat.le_of_ble_eq_true rfl) rfl ?_
  intro Γ X
  have X : gX Γ cX6_forget RX6 4 (some .int) 2 ad _ := X
  have frq0 : Fr W_X6_forget Mq Mq := Fr.rf
  have g1_3 := ig_1_3 Iq0
  have g1_12 := ig_1_12 Iq0
  have g23_2 := ig_23_2 Iq0
  have g23_7 := ig_23_7 Iq0
  have g40_5 := ig_40_5 Iq0
  have g0_7 := ig_0_7 Iq0
  refine g_aload_n X 0 rfl dX6_forget_0 ?_
  refine g_getr X f_X6_26 dX6_forget_1 ?_
  refine g_iload_n X 1 rfl dX6_forget_4 ?_
  refine g_callV X m_X6_159 (c_X0_isSinger ad Mq x1 t1) rfl (by decide) (Nat.le_of_ble_eq_true rfl) rfl dX6_forget_5 ?_
  rintro _ _ ⟨rq1, aq2, rfl, tq3, hq4, rfl⟩
  show G Γ Mq 8 [(0, .ref (ad 0)), (1, .int x1), (2, .int x2), (3, .int x3)] [.int rq1]
  refine g_if_eq X tq3 (tgt := 22) dX6_forget_8 (by decide) (fun cq5 => ?_) (fun cq5 => ?_)
  · have pq6 : ¬ (0 ≤ a1 ∧ a1 < ((Mq.1 23 2)).toInt) := by omega
    clear hq4 cq5 tq3
    refine g_iconst X (-1) dX6_forget_22 (by decide) ?_
    exact g_iret X dX6_forget_23 ⟨_, _, rfl, (show ((-1) : Int32).toInt = (-1) by decide), (by omega), (by first | omega | (rw [ui_eq]; omega)), Iq0, frq0⟩
  · have pq7 : (0 ≤ a1 ∧ a1 < ((Mq.1 23 2)).toInt) := by omega
    clear hq4 cq5 tq3
    refine g_aload_n X 0 rfl dX6_forget_11 ?_
    refine g_getr X f_X6_10 dX6_forget_12 ?_
    refine g_iload_n X 2 rfl dX6_forget_15 ?_
    refine g_callV X m_X6_96 (c_X5_isLine ad Mq x2 t2) rfl (by decide) (Nat.le_of_ble_eq_true rfl) rfl dX6_forget_16 ?_
    rintro _ _ ⟨rq8, aq9, rfl, tq10, hq11, rfl⟩
    show G Γ Mq 19 [(0, .ref (ad 0)), (1, .int x1), (2, .int x2), (3, .int x3)] [.int rq8]
    refine g_if_ne X tq10 (tgt := 24) dX6_forget_19 (by decide) (fun cq12 => ?_) (fun cq12 => ?_)
    · have pq13 : (0 ≤ a2 ∧ a2 < ((Mq.1 1 12)).toInt) := by omega
      clear hq11 cq12 tq10
      refine g_iload_n X 3 rfl dX6_forget_24 ?_
      refine g_callS X m_X6_162 (c_X6_isYear ad Mq x3 t3) rfl (by decide) (Nat.le_of_ble_eq_true rfl) rfl dX6_forget_25 ?_
      rintro _ _ ⟨rq14, aq15, rfl, tq16, hq17, rfl⟩
      show G Γ Mq 28 [(0, .ref (ad 0)), (1, .int x1), (2, .int x2), (3, .int x3)] [.int rq14]
      refine g_if_ne X tq16 (tgt := 34) dX6_forget_28 (by decide) (fun cq18 => ?_) (fun cq18 => ?_)
      · have pq19 : (0 ≤ a3 ∧ a3 ≤ 999) := by omega
        clear hq17 cq18 tq16
        refine g_aload_n X 0 rfl dX6_forget_34 ?_
        refine g_getr X f_X6_26 dX6_forget_35 ?_
        refine g_geti X f_X6_188 dX6_forget_38 (x := Mq.1 23 7) rfl ?_
        have bq20 := ig_23_7 Iq0
        refine g_sipush X 200 dX6_forget_41 (by decide) ?_
        refine g_icmp_lt X rfl (show (200 : Int32).toInt = 200 by decide) (tgt := 50) dX6_forget_44 (by decide) (fun cq21 => ?_) (fun cq21 => ?_)
        · refine g_aload_n X 0 rfl dX6_forget_50 ?_
          refine g_getr X f_X6_26 dX6_forget_51 ?_
          refine g_iload_n X 1 rfl dX6_forget_54 ?_
          refine g_iload_n X 2 rfl dX6_forget_55 ?_
          refine g_iload_n X 3 rfl dX6_forget_56 ?_
          refine g_iconst X 0 dX6_forget_57 (by decide) ?_
          refine g_callV X m_X6_191 (c_X0_enter ad Mq x1 t1 x2 t2 x3 t3 0 (show (0 : Int32).toInt = 0 by decide) Iq0 (by omega) (by omega) (by omega)) rfl (by decide) (Nat.le_of_ble_eq_true rfl) rfl dX6_forget_58 ?_
          rintro _ Mq27 ⟨rq22, aq23, rfl, tq24, hq25, hq26, Iq28, frq29⟩
          have frq30 : Fr W_X6_forget Mq Mq27 := frq0.trans frq29 rfl
          show G Γ Mq27 61 [(0, .ref (ad 0)), (1, .int x1), (2, .int x2), (3, .int x3)] [.int rq22]
          exact g_iret X dX6_forget_61 ⟨_, _, rfl, tq24, (by omega), (by first | omega | (rw [ui_eq]; omega)), Iq28, frq30⟩
        · refine g_bipush X (-4) dX6_forget_47 (by decide) ?_
          exact g_iret X dX6_forget_49 ⟨_, _, rfl, (show ((-4) : Int32).toInt = (-4) by decide), (by omega), (by first | omega | (rw [ui_eq]; omega)), Iq0, frq0⟩
      · have pq31 : ¬ (0 ≤ a3 ∧ a3 ≤ 999) := by omega
        clear hq17 cq18 tq16
        refine g_bipush X (-2) dX6_forget_31 (by decide) ?_
        exact g_iret X dX6_forget_33 ⟨_, _, rfl, (show ((-2) : Int32).toInt = (-2) by decide), (by omega), (by first | omega | (rw [ui_eq]; omega)), Iq0, frq0⟩
    · have pq32 : ¬ (0 ≤ a2 ∧ a2 < ((Mq.1 1 12)).toInt) := by omega
      clear hq11 cq12 tq10
      refine g_iconst X (-1) dX6_forget_22 (by decide) ?_
      exact g_iret X dX6_forget_23 ⟨_, _, rfl, (show ((-1) : Int32).toInt = (-1) by decide), (by omega), (by first | omega | (rw [ui_eq]; omega)), Iq0, frq0⟩
abbrev W_X6_put : List (Nat × Nat) := [(0, 7), (46, 99)]
set_option maxHeartbeats 4000000 in
set_option maxRecDepth 4000 in
theorem c_X6_put (ad : Nat → Nat) (Mq : Mem) (x1 : Int32) {a1 : Int} (t1 : x1.toInt = a1) (x2 : Int32) {a2 : Int} (t2 : x2.toInt = a2) (Iq0 : Iv TX Mq) : Ctr ad yX6_put cX6_put 3 (some .int) 1 [.ref (ad 0), .int x1, .int x2] Mq (fun v M' => ∃ (r : Int32) (a : Int), v = some (.int r) ∧ r.toInt = a ∧ (((¬ (a2 = 40 ∨ (0 ≤ a2 ∧ a2 < (Mq.1 1 12).toInt))) ∧ (a = -1)) ∨ (¬ (¬ (a2 = 40 ∨ (0 ≤ a2 ∧ a2 < (Mq.1 1 12).toInt))) ∧ (a1 ≠ 0 ∧ a1 ≠ (Mq.1 0 7).toInt) ∧ (a = -2)) ∨ (¬ (¬ (a2 = 40 ∨ (0 ≤ a2 ∧ a2 < (Mq.1 1 12).toInt))) ∧ ¬ (a1 ≠ 0 ∧ a1 ≠ (Mq.1 0 7).toInt) ∧ (24 ≤ a1) ∧ (a = -4)) ∨ (¬ (¬ (a2 = 40 ∨ (0 ≤ a2 ∧ a2 < (Mq.1 1 12).toInt))) ∧ ¬ (a1 ≠ 0 ∧ a1 ≠ (Mq.1 0 7).toInt) ∧ ¬ (24 ≤ a1) ∧ (a = a1 + 1))) ∧ ((((¬ (a2 = 40 ∨ (0 ≤ a2 ∧ a2 < (Mq.1 1 12).toInt))) ∨ (a1 ≠ 0 ∧ a1 ≠ (Mq.1 0 7).toInt) ∨ (24 ≤ a1)) ∧ (M'.1 0 7).toInt = (Mq.1 0 7).toInt) ∨ (¬ ((¬ (a2 = 40 ∨ (0 ≤ a2 ∧ a2 < (Mq.1 1 12).toInt))) ∨ (a1 ≠ 0 ∧ a1 ≠ (Mq.1 0 7).toInt) ∨ (24 ≤ a1)) ∧ (M'.1 0 7).toInt = a1 + 1)) ∧ Iv TX M' ∧ Fr W_X6_put Mq M') := by
  refine ctr_of (L := [(0, .ref (ad 0)), (1, .int x1), (2, .int x2)]) (by decide) (Nat.le_of_ble_eq_true rfl) rfl ?_
  intro Γ X
  have X : gX Γ cX6_put RX6 3 (some .int) 1 ad _ := X
  have frq0 : Fr W_X6_put Mq Mq := Fr.rf
  have g1_3 := ig_1_3 Iq0
  have g1_12 := ig_1_12 Iq0
  have g23_2 := ig_23_2 Iq0
  have g23_7 := ig_23_7 Iq0
  have g40_5 := ig_40_5 Iq0
  have g0_7 := ig_0_7 Iq0
  refine g_iload_n X 2 rfl dX6_put_0 ?_
  refine g_bipush X 40 dX6_put_1 (by decide) ?_
  refine g_icmp_eq X t2 (show (40 : Int32).toInt = 40 by decide) (tgt := 19) dX6_put_3 (by decide) (fun cq1 => ?_) (fun cq1 => ?_)
  · refine g_iload_n X 1 rfl dX6_put_19 ?_
    refine g_if_eq X t1 (tgt := 34) dX6_put_20 (by decide) (fun cq2 => ?_) (fun cq2 => ?_)
    · refine g_iload_n X 1 rfl dX6_put_34 ?_
      refine g_bipush X 24 dX6_put_35 (by decide) ?_
      refine g_icmp_lt X t1 (show (24 : Int32).toInt = 24 by decide) (tgt := 43) dX6_put_37 (by decide) (fun cq3 => ?_) (fun cq3 => ?_)
      · refine g_aload_n X 0 rfl dX6_put_43 ?_
        refine g_getr X f_X6_53 dX6_put_44 ?_
        refine g_iload_n X 1 rfl dX6_put_47 ?_
        refine g_iload_n X 2 rfl dX6_put_48 ?_
        refine g_iast X la_46 t1 dX6_put_49 (by omega) ?_
        have Iq4 : Iv TX (ui Mq 46 a1.toNat x2) := Iq0.otherA rfl
        have frq5 : Fr W_X6_put Mq (ui Mq 46 a1.toNat x2) := frq0.ui rfl
        refine g_aload_n X 0 rfl dX6_put_50 ?_
        refine g_iload_n X 1 rfl dX6_put_51 ?_
        refine g_iconst X 1 dX6_put_52 (by decide) ?_
        refine g_iadd X dX6_put_53 (fun zq6 eq7 => ?_)
        have tq8 : zq6.toInt = a1 + 1 := add_nw eq7 t1 (show (1 : Int32).toInt = 1 by decide) (by omega)
        refine g_puti X p_X6_57 dX6_put_54 ?_
        have Iq9 : Iv TX (ui (ui Mq 46 a1.toNat x2) 0 7 zq6) := Iq4.put 0 24 tq8 (by omega) rfl
        have frq10 : Fr W_X6_put Mq (ui (ui Mq 46 a1.toNat x2) 0 7 zq6) := frq5.ui rfl
        refine g_aload_n X 0 rfl dX6_put_57 ?_
        refine g_geti X f_X6_57 dX6_put_58 (x := zq6) rfl ?_
        exact g_iret X dX6_put_61 ⟨_, _, rfl, tq8, (by omega), (by first | omega | (rw [ui_eq]; omega)), Iq9, frq10⟩
      · refine g_bipush X (-4) dX6_put_40 (by decide) ?_
        exact g_iret X dX6_put_42 ⟨_, _, rfl, (show ((-4) : Int32).toInt = (-4) by decide), (by omega), (by first | omega | (rw [ui_eq]; omega)), Iq0, frq0⟩
    · refine g_iload_n X 1 rfl dX6_put_23 ?_
      refine g_aload_n X 0 rfl dX6_put_24 ?_
      refine g_geti X f_X6_57 dX6_put_25 (x := Mq.1 0 7) rfl ?_
      have bq11 := ig_0_7 Iq0
      refine g_icmp_eq X t1 rfl (tgt := 34) dX6_put_28 (by decide) (fun cq12 => ?_) (fun cq12 => ?_)
      · refine g_iload_n X 1 rfl dX6_put_34 ?_
        refine g_bipush X 24 dX6_put_35 (by decide) ?_
        refine g_icmp_lt X t1 (show (24 : Int32).toInt = 24 by decide) (tgt := 43) dX6_put_37 (by decide) (fun cq13 => ?_) (fun cq13 => ?_)
        · refine g_aload_n X 0 rfl dX6_put_43 ?_
          refine g_getr X f_X6_53 dX6_put_44 ?_
          refine g_iload_n X 1 rfl dX6_put_47 ?_
          refine g_iload_n X 2 rfl dX6_put_48 ?_
          refine g_iast X la_46 t1 dX6_put_49 (by omega) ?_
          have Iq14 : Iv TX (ui Mq 46 a1.toNat x2) := Iq0.otherA rfl
          have frq15 : Fr W_X6_put Mq (ui Mq 46 a1.toNat x2) := frq0.ui rfl
          refine g_aload_n X 0 rfl dX6_put_50 ?_
          refine g_iload_n X 1 rfl dX6_put_51 ?_
          refine g_iconst X 1 dX6_put_52 (by decide) ?_
          refine g_iadd X dX6_put_53 (fun zq16 eq17 => ?_)
          have tq18 : zq16.toInt = a1 + 1 := add_nw eq17 t1 (show (1 : Int32).toInt = 1 by decide) (by omega)
          refine g_puti X p_X6_57 dX6_put_54 ?_
          have Iq19 : Iv TX (ui (ui Mq 46 a1.toNat x2) 0 7 zq16) := Iq14.put 0 24 tq18 (by omega) rfl
          have frq20 : Fr W_X6_put Mq (ui (ui Mq 46 a1.toNat x2) 0 7 zq16) := frq15.ui rfl
          refine g_aload_n X 0 rfl dX6_put_57 ?_
          refine g_geti X f_X6_57 dX6_put_58 (x := zq16) rfl ?_
          exact g_iret X dX6_put_61 ⟨_, _, rfl, tq18, (by omega), (by first | omega | (rw [ui_eq]; omega)), Iq19, frq20⟩
        · refine g_bipush X (-4) dX6_put_40 (by decide) ?_
          exact g_iret X dX6_put_42 ⟨_, _, rfl, (show ((-4) : Int32).toInt = (-4) by decide), (by omega), (by first | omega | (rw [ui_eq]; omega)), Iq0, frq0⟩
      · refine g_bipush X (-2) dX6_put_31 (by decide) ?_
        exact g_iret X dX6_put_33 ⟨_, _, rfl, (show ((-2) : Int32).toInt = (-2) by decide), (by omega), (by first | omega | (rw [ui_eq]; omega)), Iq0, frq0⟩
  · refine g_aload_n X 0 rfl dX6_put_6 ?_
    refine g_getr X f_X6_10 dX6_put_7 ?_
    refine g_iload_n X 2 rfl dX6_put_10 ?_
    refine g_callV X m_X6_96 (c_X5_isLine ad Mq x2 t2) rfl (by decide) (Nat.le_of_ble_eq_true rfl) rfl dX6_put_11 ?_
    rintro _ _ ⟨rq21, aq22, rfl, tq23, hq24, rfl⟩
    show G Γ Mq 14 [(0, .ref (ad 0)), (1, .int x1), (2, .int x2)] [.int rq21]
    refine g_if_ne X tq23 (tgt := 19) dX6_put_14 (by decide) (fun cq25 => ?_) (fun cq25 => ?_)
    · have pq26 : (0 ≤ a2 ∧ a2 < ((Mq.1 1 12)).toInt) := by omega
      clear hq24 cq25 tq23
      refine g_iload_n X 1 rfl dX6_put_19 ?_
      refine g_if_eq X t1 (tgt := 34) dX6_put_20 (by decide) (fun cq27 => ?_) (fun cq27 => ?_)
      · refine g_iload_n X 1 rfl dX6_put_34 ?_
        refine g_bipush X 24 dX6_put_35 (by decide) ?_
        refine g_icmp_lt X t1 (show (24 : Int32).toInt = 24 by decide) (tgt := 43) dX6_put_37 (by decide) (fun cq28 => ?_) (fun cq28 => ?_)
        · refine g_aload_n X 0 rfl dX6_put_43 ?_
          refine g_getr X f_X6_53 dX6_put_44 ?_
          refine g_iload_n X 1 rfl dX6_put_47 ?_
          refine g_iload_n X 2 rfl dX6_put_48 ?_
          refine g_iast X la_46 t1 dX6_put_49 (by omega) ?_
          have Iq29 : Iv TX (ui Mq 46 a1.toNat x2) := Iq0.otherA rfl
          have frq30 : Fr W_X6_put Mq (ui Mq 46 a1.toNat x2) := frq0.ui rfl
          refine g_aload_n X 0 rfl dX6_put_50 ?_
          refine g_iload_n X 1 rfl dX6_put_51 ?_
          refine g_iconst X 1 dX6_put_52 (by decide) ?_
          refine g_iadd X dX6_put_53 (fun zq31 eq32 => ?_)
          have tq33 : zq31.toInt = a1 + 1 := add_nw eq32 t1 (show (1 : Int32).toInt = 1 by decide) (by omega)
          refine g_puti X p_X6_57 dX6_put_54 ?_
          have Iq34 : Iv TX (ui (ui Mq 46 a1.toNat x2) 0 7 zq31) := Iq29.put 0 24 tq33 (by omega) rfl
          have frq35 : Fr W_X6_put Mq (ui (ui Mq 46 a1.toNat x2) 0 7 zq31) := frq30.ui rfl
          refine g_aload_n X 0 rfl dX6_put_57 ?_
          refine g_geti X f_X6_57 dX6_put_58 (x := zq31) rfl ?_
          exact g_iret X dX6_put_61 ⟨_, _, rfl, tq33, (by omega), (by first | omega | (rw [ui_eq]; omega)), Iq34, frq35⟩
        · refine g_bipush X (-4) dX6_put_40 (by decide) ?_
          exact g_iret X dX6_put_42 ⟨_, _, rfl, (show ((-4) : Int32).toInt = (-4) by decide), (by omega), (by first | omega | (rw [ui_eq]; omega)), Iq0, frq0⟩
      · refine g_iload_n X 1 rfl dX6_put_23 ?_
        refine g_aload_n X 0 rfl dX6_put_24 ?_
        refine g_geti X f_X6_57 dX6_put_25 (x := Mq.1 0 7) rfl ?_
        have bq36 := ig_0_7 Iq0
        refine g_icmp_eq X t1 rfl (tgt := 34) dX6_put_28 (by decide) (fun cq37 => ?_) (fun cq37 => ?_)
        · refine g_iload_n X 1 rfl dX6_put_34 ?_
          refine g_bipush X 24 dX6_put_35 (by decide) ?_
          refine g_icmp_lt X t1 (show (24 : Int32).toInt = 24 by decide) (tgt := 43) dX6_put_37 (by decide) (fun cq38 => ?_) (fun cq38 => ?_)
          · refine g_aload_n X 0 rfl dX6_put_43 ?_
            refine g_getr X f_X6_53 dX6_put_44 ?_
            refine g_iload_n X 1 rfl dX6_put_47 ?_
            refine g_iload_n X 2 rfl dX6_put_48 ?_
            refine g_iast X la_46 t1 dX6_put_49 (by omega) ?_
            have Iq39 : Iv TX (ui Mq 46 a1.toNat x2) := Iq0.otherA rfl
            have frq40 : Fr W_X6_put Mq (ui Mq 46 a1.toNat x2) := frq0.ui rfl
            refine g_aload_n X 0 rfl dX6_put_50 ?_
            refine g_iload_n X 1 rfl dX6_put_51 ?_
            refine g_iconst X 1 dX6_put_52 (by decide) ?_
            refine g_iadd X dX6_put_53 (fun zq41 eq42 => ?_)
            have tq43 : zq41.toInt = a1 + 1 := add_nw eq42 t1 (show (1 : Int32).toInt = 1 by decide) (by omega)
            refine g_puti X p_X6_57 dX6_put_54 ?_
            have Iq44 : Iv TX (ui (ui Mq 46 a1.toNat x2) 0 7 zq41) := Iq39.put 0 24 tq43 (by omega) rfl
            have frq45 : Fr W_X6_put Mq (ui (ui Mq 46 a1.toNat x2) 0 7 zq41) := frq40.ui rfl
            refine g_aload_n X 0 rfl dX6_put_57 ?_
            refine g_geti X f_X6_57 dX6_put_58 (x := zq41) rfl ?_
            exact g_iret X dX6_put_61 ⟨_, _, rfl, tq43, (by omega), (by first | omega | (rw [ui_eq]; omega)), Iq44, frq45⟩
          · refine g_bipush X (-4) dX6_put_40 (by decide) ?_
            exact g_iret X dX6_put_42 ⟨_, _, rfl, (show ((-4) : Int32).toInt = (-4) by decide), (by omega), (by first | omega | (rw [ui_eq]; omega)), Iq0, frq0⟩
        · refine g_bipush X (-2) dX6_put_31 (by decide) ?_
          exact g_iret X dX6_put_33 ⟨_, _, rfl, (show ((-2) : Int32).toInt = (-2) by decide), (by omega), (by first | omega | (rw [ui_eq]; omega)), Iq0, frq0⟩
    · have pq46 : ¬ (0 ≤ a2 ∧ a2 < ((Mq.1 1 12)).toInt) := by omega
      clear hq24 cq25 tq23
      refine g_iconst X (-1) dX6_put_17 (by decide) ?_
      exact g_iret X dX6_put_18 ⟨_, _, rfl, (show ((-1) : Int32).toInt = (-1) by decide), (by omega), (by first | omega | (rw [ui_eq]; omega)), Iq0, frq0⟩
end
