section
set_option maxHeartbeats 4000000 in
set_option maxRecDepth 4000 in
theorem c_X6_told (ad : Nat → Nat) (Mq : Mem) (x1 : Int32) {a1 : Int} (t1 : x1.toInt = a1) (x2 : Int32) {a2 : Int} (t2 : x2.toInt = a2) (Iq0 : Iv TX Mq) : Ctr ad yX6_told cX6_told 3 (some .int) 3 [.ref (ad 0), .int x1, .int x2] Mq (fun v M' => ∃ (r : Int32) (a : Int), v = some (.int r) ∧ r.toInt = a ∧ (True) ∧ Mq = M') := by
  refine ctr_of (L := [(0, .ref (ad 0)), (1, .int x1), (2, .int x2)]) (by decide) (Nat.le_of_ble_eq_true rfl) rfl ?_
  intro Γ X
  have X : gX Γ cX6_told RX6 3 (some .int) 3 ad _ := X
  have g1_3 := ig_1_3 Iq0
  have g1_12 := ig_1_12 Iq0
  have g23_2 := ig_23_2 Iq0
  have g23_7 := ig_23_7 Iq0
  have g40_5 := ig_40_5 Iq0
  have g0_7 := ig_0_7 Iq0
  refine g_aload_n X 0 rfl dX6_told_0 ?_
  refine g_getr X f_X6_10 dX6_told_1 ?_
  refine g_iload_n X 1 rfl dX6_told_4 ?_
  refine g_callV X m_X6_96 (c_X5_isLine ad Mq x1 t1) rfl (by decide) (Nat.le_of_ble_eq_true rfl) rfl dX6_told_5 ?_
  rintro _ _ ⟨rq1, aq2, rfl, tq3, hq4, rfl⟩
  show G Γ Mq 8 [(0, .ref (ad 0)), (1, .int x1), (2, .int x2)] [.int rq1]
  refine g_if_ne X tq3 (tgt := 13) dX6_told_8 (by decide) (fun cq5 => ?_) (fun cq5 => ?_)
  · have pq6 : (0 ≤ a1 ∧ a1 < ((Mq.1 1 12)).toInt) := by omega
    clear hq4 cq5 tq3
    refine g_iload_n X 2 rfl dX6_told_13 ?_
    rcases (show (a2 < 0 ∨ 7 < a2) ∨ a2 = 0 ∨ a2 = 1 ∨ a2 = 2 ∨ a2 = 3 ∨ a2 = 4 ∨ a2 = 5 ∨ a2 = 6 ∨ a2 = 7 by omega) with cq7 | cq7 | cq7 | cq7 | cq7 | cq7 | cq7 | cq7 | cq7
    · refine g_tabOut X dX6_told_14 t2 cq7 (tgt := 147) (by decide) ?_
      refine g_iconst X (-1) dX6_told_147 (by decide) ?_
      exact g_iret X dX6_told_148 ⟨_, _, rfl, (show ((-1) : Int32).toInt = (-1) by decide), trivial, rfl⟩
    · refine g_tabIn X dX6_told_14 (a := 0) (t2.trans cq7) (by decide) (by decide) rfl (tgt := 60) (by decide) ?_
      refine g_aload_n X 0 rfl dX6_told_60 ?_
      refine g_getr X f_X6_10 dX6_told_61 ?_
      refine g_getr X f_X6_99 dX6_told_64 ?_
      refine g_iload_n X 1 rfl dX6_told_67 ?_
      refine g_iald X la_7 t1 dX6_told_68 (by omega) (x := Mq.1 7 a1.toNat) rfl ?_
      have bq8 := ig_7 Iq0 a1.toNat (by omega)
      exact g_iret X dX6_told_69 ⟨_, _, rfl, rfl, trivial, rfl⟩
    · refine g_tabIn X dX6_told_14 (a := 1) (t2.trans cq7) (by decide) (by decide) rfl (tgt := 70) (by decide) ?_
      refine g_aload_n X 0 rfl dX6_told_70 ?_
      refine g_getr X f_X6_10 dX6_told_71 ?_
      refine g_getr X f_X6_102 dX6_told_74 ?_
      refine g_iload_n X 1 rfl dX6_told_77 ?_
      refine g_iald X la_8 t1 dX6_told_78 (by omega) (x := Mq.1 8 a1.toNat) rfl ?_
      have bq9 := ig_8 Iq0 a1.toNat (by omega)
      exact g_iret X dX6_told_79 ⟨_, _, rfl, rfl, trivial, rfl⟩
    · refine g_tabIn X dX6_told_14 (a := 2) (t2.trans cq7) (by decide) (by decide) rfl (tgt := 80) (by decide) ?_
      refine g_aload_n X 0 rfl dX6_told_80 ?_
      refine g_getr X f_X6_10 dX6_told_81 ?_
      refine g_getr X f_X6_105 dX6_told_84 ?_
      refine g_iload_n X 1 rfl dX6_told_87 ?_
      refine g_iald X la_9 t1 dX6_told_88 (by omega) (x := Mq.1 9 a1.toNat) rfl ?_
      exact g_iret X dX6_told_89 ⟨_, _, rfl, rfl, trivial, rfl⟩
    · refine g_tabIn X dX6_told_14 (a := 3) (t2.trans cq7) (by decide) (by decide) rfl (tgt := 90) (by decide) ?_
      refine g_aload_n X 0 rfl dX6_told_90 ?_
      refine g_getr X f_X6_10 dX6_told_91 ?_
      refine g_getr X f_X6_108 dX6_told_94 ?_
      refine g_iload_n X 1 rfl dX6_told_97 ?_
      refine g_iald X la_10 t1 dX6_told_98 (by omega) (x := Mq.1 10 a1.toNat) rfl ?_
      have bq10 := ig_10 Iq0 a1.toNat (by omega)
      exact g_iret X dX6_told_99 ⟨_, _, rfl, rfl, trivial, rfl⟩
    · refine g_tabIn X dX6_told_14 (a := 4) (t2.trans cq7) (by decide) (by decide) rfl (tgt := 100) (by decide) ?_
      refine g_aload_n X 0 rfl dX6_told_100 ?_
      refine g_getr X f_X6_10 dX6_told_101 ?_
      refine g_getl X f_X6_111 dX6_told_104 (x := Mq.2 1 11) rfl ?_
      refine g_iload_n X 1 rfl dX6_told_107 ?_
      refine g_callS X m_X6_115 (c_X6_bit ad Mq (Mq.2 1 11) rfl x1 t1) rfl (by decide) (Nat.le_of_ble_eq_true rfl) rfl dX6_told_108 ?_
      rintro _ _ ⟨rq11, aq12, rfl, tq13, hq14, rfl⟩
      show G Γ Mq 111 [(0, .ref (ad 0)), (1, .int x1), (2, .int x2)] [.int rq11]
      exact g_iret X dX6_told_111 ⟨_, _, rfl, tq13, trivial, rfl⟩
    · refine g_tabIn X dX6_told_14 (a := 5) (t2.trans cq7) (by decide) (by decide) rfl (tgt := 112) (by decide) ?_
      refine g_aload_n X 0 rfl dX6_told_112 ?_
      refine g_getr X f_X6_10 dX6_told_113 ?_
      refine g_iload_n X 1 rfl dX6_told_116 ?_
      refine g_callV X m_X6_119 (c_X5_scans ad Mq x1 t1 Iq0 (by omega)) rfl (by decide) (Nat.le_of_ble_eq_true rfl) rfl dX6_told_117 ?_
      rintro _ _ ⟨rq15, aq16, rfl, tq17, hq18, rfl⟩
      show G Γ Mq 120 [(0, .ref (ad 0)), (1, .int x1), (2, .int x2)] [.int rq15]
      refine g_if_eq X tq17 (tgt := 127) dX6_told_120 (by decide) (fun cq19 => ?_) (fun cq19 => ?_)
      · refine g_iconst X 0 dX6_told_127 (by decide) ?_
        exact g_iret X dX6_told_128 ⟨_, _, rfl, (show (0 : Int32).toInt = 0 by decide), trivial, rfl⟩
      · refine g_iconst X 1 dX6_told_123 (by decide) ?_
        refine g_goto X (tgt := 128) dX6_told_124 (by decide) ?_
        exact g_iret X dX6_told_128 ⟨_, _, rfl, (show (1 : Int32).toInt = 1 by decide), trivial, rfl⟩
    · refine g_tabIn X dX6_told_14 (a := 6) (t2.trans cq7) (by decide) (by decide) rfl (tgt := 129) (by decide) ?_
      refine g_aload_n X 0 rfl dX6_told_129 ?_
      refine g_getr X f_X6_10 dX6_told_130 ?_
      refine g_iload_n X 1 rfl dX6_told_133 ?_
      refine g_callV X m_X6_122 (c_X5_lineBeats ad Mq x1 t1 Iq0 (by omega)) rfl (by decide) (Nat.le_of_ble_eq_true rfl) rfl dX6_told_134 ?_
      rintro _ _ ⟨rq20, aq21, rfl, tq22, hq23, rfl⟩
      show G Γ Mq 137 [(0, .ref (ad 0)), (1, .int x1), (2, .int x2)] [.int rq20]
      exact g_iret X dX6_told_137 ⟨_, _, rfl, tq22, trivial, rfl⟩
    · refine g_tabIn X dX6_told_14 (a := 7) (t2.trans cq7) (by decide) (by decide) rfl (tgt := 138) (by decide) ?_
      refine g_aload_n X 0 rfl dX6_told_138 ?_
      refine g_getr X f_X6_10 dX6_told_139 ?_
      refine g_iload_n X 1 rfl dX6_told_142 ?_
      refine g_callV X m_X6_126 (c_X5_lineHeavy ad Mq x1 t1 Iq0 (by omega)) rfl (by decide) (Nat.le_of_ble_eq_true rfl) rfl dX6_told_143 ?_
      rintro _ _ ⟨rq24, aq25, rfl, tq26, hq27, rfl⟩
      show G Γ Mq 146 [(0, .ref (ad 0)), (1, .int x1), (2, .int x2)] [.int rq24]
      exact g_iret X dX6_told_146 ⟨_, _, rfl, tq26, trivial, rfl⟩
  · have pq28 : ¬ (0 ≤ a1 ∧ a1 < ((Mq.1 1 12)).toInt) := by omega
    clear hq4 cq5 tq3
    refine g_iconst X (-1) dX6_told_11 (by decide) ?_
    exact g_iret X dX6_told_12 ⟨_, _, rfl, (show ((-1) : Int32).toInt = (-1) by decide), trivial, rfl⟩
abbrev W_X6_swap : List (Nat × Nat) := [(1, 15), (13, 99), (7, 99), (8, 99), (10, 99)]
set_option maxHeartbeats 4000000 in
set_option maxRecDepth 4000 in
theorem c_X6_swap (ad : Nat → Nat) (Mq : Mem) (x1 : Int32) {a1 : Int} (t1 : x1.toInt = a1) (x2 : Int32) {a2 : Int} (t2 : x2.toInt = a2) (Iq0 : Iv TX Mq) : Ctr ad yX6_swap cX6_swap 3 (some .int) 4 [.ref (ad 0), .int x1, .int x2] Mq (fun v M' => ∃ (r : Int32) (a : Int), v = some (.int r) ∧ r.toInt = a ∧ (True) ∧ Iv TX M' ∧ Fr W_X6_swap Mq M') := by
  refine ctr_of (L := [(0, .ref (ad 0)), (1, .int x1), (2, .int x2)]) (by decide) (Nat.le_of_ble_eq_true rfl) rfl ?_
  intro Γ X
  have X : gX Γ cX6_swap RX6 3 (some .int) 4 ad _ := X
  have frq0 : Fr W_X6_swap Mq Mq := Fr.rf
  have g1_3 := ig_1_3 Iq0
  have g1_12 := ig_1_12 Iq0
  have g23_2 := ig_23_2 Iq0
  have g23_7 := ig_23_7 Iq0
  have g40_5 := ig_40_5 Iq0
  have g0_7 := ig_0_7 Iq0
  refine g_iload_n X 1 rfl dX6_swap_0 ?_
  refine g_iconst X 0 dX6_swap_1 (by decide) ?_
  refine g_bipush X 9 dX6_swap_2 (by decide) ?_
  refine g_callS X m_X6_61 (c_X6_inside ad Mq x1 t1 0 (show (0 : Int32).toInt = 0 by decide) 9 (show (9 : Int32).toInt = 9 by decide)) rfl (by decide) (Nat.le_of_ble_eq_true rfl) rfl dX6_swap_4 ?_
  rintro _ _ ⟨rq1, aq2, rfl, tq3, hq4, rfl⟩
  show G Γ Mq 7 [(0, .ref (ad 0)), (1, .int x1), (2, .int x2)] [.int rq1]
  refine g_if_eq X tq3 (tgt := 20) dX6_swap_7 (by decide) (fun cq5 => ?_) (fun cq5 => ?_)
  · have pq6 : ¬ (0 ≤ a1 ∧ a1 ≤ 9) := by omega
    clear hq4 cq5 tq3
    refine g_iconst X (-1) dX6_swap_20 (by decide) ?_
    exact g_iret X dX6_swap_21 ⟨_, _, rfl, (show ((-1) : Int32).toInt = (-1) by decide), trivial, Iq0, frq0⟩
  · have pq7 : (0 ≤ a1 ∧ a1 ≤ 9) := by omega
    clear hq4 cq5 tq3
    refine g_iload_n X 2 rfl dX6_swap_10 ?_
    refine g_iconst X 0 dX6_swap_11 (by decide) ?_
    refine g_bipush X 9 dX6_swap_12 (by decide) ?_
    refine g_callS X m_X6_61 (c_X6_inside ad Mq x2 t2 0 (show (0 : Int32).toInt = 0 by decide) 9 (show (9 : Int32).toInt = 9 by decide)) rfl (by decide) (Nat.le_of_ble_eq_true rfl) rfl dX6_swap_14 ?_
    rintro _ _ ⟨rq8, aq9, rfl, tq10, hq11, rfl⟩
    show G Γ Mq 17 [(0, .ref (ad 0)), (1, .int x1), (2, .int x2)] [.int rq8]
    refine g_if_ne X tq10 (tgt := 22) dX6_swap_17 (by decide) (fun cq12 => ?_) (fun cq12 => ?_)
    · have pq13 : (0 ≤ a2 ∧ a2 ≤ 9) := by omega
      clear hq11 cq12 tq10
      refine g_iload_n X 1 rfl dX6_swap_22 ?_
      refine g_iload_n X 2 rfl dX6_swap_23 ?_
      refine g_icmp_ne X t1 t2 (tgt := 30) dX6_swap_24 (by decide) (fun cq14 => ?_) (fun cq14 => ?_)
      · refine g_aload_n X 0 rfl dX6_swap_30 ?_
        refine g_getr X f_X6_10 dX6_swap_31 ?_
        refine g_iload_n X 1 rfl dX6_swap_34 ?_
        refine g_iload_n X 2 rfl dX6_swap_35 ?_
        refine g_callV X m_X6_129 (c_X5_putInPlace ad Mq x1 t1 x2 t2 Iq0 (by omega) (by omega)) rfl (by decide) (Nat.le_of_ble_eq_true rfl) rfl dX6_swap_36 ?_
        rintro _ Mq19 ⟨rq15, aq16, rfl, tq17, hq18, Iq20, frq21⟩
        have frq22 : Fr W_X6_swap Mq Mq19 := frq0.trans frq21 rfl
        have trq23 : (Mq19.1 23 2).toInt = (Mq.1 23 2).toInt := congrArg Int32.toInt (frq21.at 23 2 rfl)
        have trq24 : (Mq19.1 23 7).toInt = (Mq.1 23 7).toInt := congrArg Int32.toInt (frq21.at 23 7 rfl)
        show G Γ Mq19 39 [(0, .ref (ad 0)), (1, .int x1), (2, .int x2)] [.int rq15]
        exact g_iret X dX6_swap_39 ⟨_, _, rfl, tq17, trivial, Iq20, frq22⟩
      · refine g_bipush X (-2) dX6_swap_27 (by decide) ?_
        exact g_iret X dX6_swap_29 ⟨_, _, rfl, (show ((-2) : Int32).toInt = (-2) by decide), trivial, Iq0, frq0⟩
    · have pq25 : ¬ (0 ≤ a2 ∧ a2 ≤ 9) := by omega
      clear hq11 cq12 tq10
      refine g_iconst X (-1) dX6_swap_20 (by decide) ?_
      exact g_iret X dX6_swap_21 ⟨_, _, rfl, (show ((-1) : Int32).toInt = (-1) by decide), trivial, Iq0, frq0⟩
set_option maxHeartbeats 4000000 in
set_option maxRecDepth 4000 in
theorem c_X6_broken (ad : Nat → Nat) (Mq : Mem) (x1 : Int32) {a1 : Int} (t1 : x1.toInt = a1) (Iq0 : Iv TX Mq) : Ctr ad yX6_broken cX6_broken 2 (some .int) 1 [.ref (ad 0), .int x1] Mq (fun v M' => ∃ (r : Int32) (a : Int), v = some (.int r) ∧ r.toInt = a ∧ (True) ∧ Mq = M') := by
  refine ctr_of (L := [(0, .ref (ad 0)), (1, .int x1)]) (by decide) (Nat.le_of_ble_eq_true rfl) rfl ?_
  intro Γ X
  have X : gX Γ cX6_broken RX6 2 (some .int) 1 ad _ := X
  have g1_3 := ig_1_3 Iq0
  have g1_12 := ig_1_12 Iq0
  have g23_2 := ig_23_2 Iq0
  have g23_7 := ig_23_7 Iq0
  have g40_5 := ig_40_5 Iq0
  have g0_7 := ig_0_7 Iq0
  refine g_aload_n X 0 rfl dX6_broken_0 ?_
  refine g_getr X f_X6_10 dX6_broken_1 ?_
  refine g_getr X f_X6_133 dX6_broken_4 ?_
  refine g_aload_n X 0 rfl dX6_broken_7 ?_
  refine g_getr X f_X6_10 dX6_broken_8 ?_
  refine g_geti X f_X6_136 dX6_broken_11 (x := Mq.1 1 15) rfl ?_
  have bq1 := ig_1_15 Iq0
  refine g_iload_n X 1 rfl dX6_broken_14 ?_
  refine g_callS X m_X6_139 (c_X6_listed_13 ad Mq (Mq.1 1 15) rfl x1 t1) rfl (by decide) (Nat.le_of_ble_eq_true rfl) rfl dX6_broken_15 ?_
  rintro _ _ ⟨rq2, aq3, rfl, tq4, hq5, rfl⟩
  show G Γ Mq 18 [(0, .ref (ad 0)), (1, .int x1)] [.int rq2]
  exact g_iret X dX6_broken_18 ⟨_, _, rfl, tq4, trivial, rfl⟩
abbrev W_X6_scene : List (Nat × Nat) := [(14, 4), (14, 5), (16, 99), (17, 99), (14, 11), (22, 99), (18, 99), (19, 99), (20, 99), (21, 99), (14, 1)]
set_option maxHeartbeats 4000000 in
set_option maxRecDepth 4000 in
theorem c_X6_scene (ad : Nat → Nat) (Mq : Mem) (Iq0 : Iv TX Mq) : Ctr ad yX6_scene cX6_scene 1 (some .int) 6 [.ref (ad 0)] Mq (fun v M' => ∃ (r : Int32) (a : Int), v = some (.int r) ∧ r.toInt = a ∧ (True) ∧ ((M'.1 14 1).toInt = 0) ∧ Iv TX M' ∧ Fr W_X6_scene Mq M') := by
  refine ctr_of (L := [(0, .ref (ad 0))]) (by decide) (Nat.le_of_ble_eq_true rfl) rfl ?_
  intro Γ X
  have X : gX Γ cX6_scene RX6 1 (some .int) 6 ad _ := X
  have frq0 : Fr W_X6_scene Mq Mq := Fr.rf
  have g1_3 := ig_1_3 Iq0
  have g1_12 := ig_1_12 Iq0
  have g23_2 := ig_23_2 Iq0
  have g23_7 := ig_23_7 Iq0
  have g40_5 := ig_40_5 Iq0
  have g0_7 := ig_0_7 Iq0
  refine g_aload_n X 0 rfl dX6_scene_0 ?_
  refine g_getr X f_X6_19 dX6_scene_1 ?_
  refine g_callV X m_X6_149 (c_X2_tellTape ad Mq Iq0) rfl (by decide) (Nat.le_of_ble_eq_true rfl) rfl dX6_scene_4 ?_
  rintro _ Mq6 ⟨rq1, aq2, rfl, tq3, hq4, hq5, Iq7, frq8⟩
  have frq9 : Fr W_X6_scene Mq Mq6 := frq0.trans frq8 rfl
  have trq10 : (Mq6.1 23 2).toInt = (Mq.1 23 2).toInt := congrArg Int32.toInt (frq8.at 23 2 rfl)
  have trq11 : (Mq6.1 23 7).toInt = (Mq.1 23 7).toInt := congrArg Int32.toInt (frq8.at 23 7 rfl)
  show G Γ Mq6 7 [(0, .ref (ad 0))] [.int rq1]
  exact g_iret X dX6_scene_7 ⟨_, _, rfl, tq3, trivial, (hq5), Iq7, frq9⟩
abbrev W_X6_sing : List (Nat × Nat) := [(30, 99), (33, 5), (33, 7), (33, 8), (33, 9), (33, 12), (35, 99), (36, 99), (33, 10), (33, 11), (33, 3), (34, 99)]
set_option maxHeartbeats 4000000 in
set_option maxRecDepth 4000 in
theorem c_X6_sing (ad : Nat → Nat) (Mq : Mem) (x1 : Int32) {a1 : Int} (t1 : x1.toInt = a1) (x2 : Int32) {a2 : Int} (t2 : x2.toInt = a2) (x3 : Int32) {a3 : Int} (t3 : x3.toInt = a3) (x4 : Int64) {a4 : Int} (t4 : x4.toInt = a4) (Iq0 : Iv TX Mq) (cy0 : 0 ≤ (Mq.2 33 12).toInt) : Ctr ad yX6_sing cX6_sing 7 (some .int) 6 [.ref (ad 0), .int x1, .int x2, .int x3, .long x4] Mq (fun v M' => ∃ (r : Int32) (a : Int), v = some (.int r) ∧ r.toInt = a ∧ (True) ∧ (0 ≤ (M'.2 33 12).toInt) ∧ Iv TX M' ∧ Fr W_X6_sing Mq M') := by
  refine ctr_of (L := [(0, .ref (ad 0)), (1, .int x1), (2, .int x2), (3, .int x3), (4, .long x4)]) (by decide) (Nat.le_of_ble_eq_true rfl) rfl ?_
  intro Γ X
  have X : gX Γ cX6_sing RX6 7 (some .int) 6 ad _ := X
  have frq0 : Fr W_X6_sing Mq Mq := Fr.rf
  have g1_3 := ig_1_3 Iq0
  have g1_12 := ig_1_12 Iq0
  have g23_2 := ig_23_2 Iq0
  have g23_7 := ig_23_7 Iq0
  have g40_5 := ig_40_5 Iq0
  have g0_7 := ig_0_7 Iq0
  refine g_aload_n X 0 rfl dX6_sing_0 ?_
  refine g_getr X f_X6_19 dX6_sing_1 ?_
  refine g_iload_n X 1 rfl dX6_sing_4 ?_
  refine g_callV X m_X6_156 (c_X2_isTold ad Mq x1 t1) rfl (by decide) (Nat.le_of_ble_eq_true rfl) rfl dX6_sing_5 ?_
  rintro _ _ ⟨rq1, aq2, rfl, tq3, hq4, rfl⟩
  show G Γ Mq 8 [(0, .ref (ad 0)), (1, .int x1), (2, .int x2), (3, .int x3), (4, .long x4)] [.int rq1]
  refine g_if_eq X tq3 (tgt := 22) dX6_sing_8 (by decide) (fun cq5 => ?_) (fun cq5 => ?_)
  · have pq6 : ¬ (0 ≤ a1 ∧ a1 < 8 ∧ 0 < (Mq.1 20 a1.toNat).toInt) := by omega
    clear hq4 cq5 tq3
    refine g_iconst X (-1) dX6_sing_22 (by decide) ?_
    exact g_iret X dX6_sing_23 ⟨_, _, rfl, (show ((-1) : Int32).toInt = (-1) by decide), trivial, cy0, Iq0, frq0⟩
  · have pq7 : (0 ≤ a1 ∧ a1 < 8 ∧ 0 < (Mq.1 20 a1.toNat).toInt) := by omega
    clear hq4 cq5 tq3
    refine g_aload_n X 0 rfl dX6_sing_11 ?_
    refine g_getr X f_X6_26 dX6_sing_12 ?_
    refine g_iload_n X 2 rfl dX6_sing_15 ?_
    refine g_callV X m_X6_159 (c_X0_isSinger ad Mq x2 t2) rfl (by decide) (Nat.le_of_ble_eq_true rfl) rfl dX6_sing_16 ?_
    rintro _ _ ⟨rq8, aq9, rfl, tq10, hq11, rfl⟩
    show G Γ Mq 19 [(0, .ref (ad 0)), (1, .int x1), (2, .int x2), (3, .int x3), (4, .long x4)] [.int rq8]
    refine g_if_ne X tq10 (tgt := 24) dX6_sing_19 (by decide) (fun cq12 => ?_) (fun cq12 => ?_)
    · have pq13 : (0 ≤ a2 ∧ a2 < ((Mq.1 23 2)).toInt) := by omega
      clear hq11 cq12 tq10
      refine g_iload_n X 3 rfl dX6_sing_24 ?_
      refine g_callS X m_X6_162 (c_X6_isYear ad Mq x3 t3) rfl (by decide) (Nat.le_of_ble_eq_true rfl) rfl dX6_sing_25 ?_
      rintro _ _ ⟨rq14, aq15, rfl, tq16, hq17, rfl⟩
      show G Γ Mq 28 [(0, .ref (ad 0)), (1, .int x1), (2, .int x2), (3, .int x3), (4, .long x4)] [.int rq14]
      refine g_if_eq X tq16 (tgt := 38) dX6_sing_28 (by decide) (fun cq18 => ?_) (fun cq18 => ?_)
      · have pq19 : ¬ (0 ≤ a3 ∧ a3 ≤ 999) := by omega
        clear hq17 cq18 tq16
        refine g_bipush X (-2) dX6_sing_38 (by decide) ?_
        exact g_iret X dX6_sing_40 ⟨_, _, rfl, (show ((-2) : Int32).toInt = (-2) by decide), trivial, cy0, Iq0, frq0⟩
      · have pq20 : (0 ≤ a3 ∧ a3 ≤ 999) := by omega
        clear hq17 cq18 tq16
        refine g_lload X 4 rfl dX6_sing_31 ?_
        refine g_lconst X 0 dX6_sing_33 (by decide) ?_
        refine g_lcmp X t4 (show (0 : Int64).toInt = 0 by decide) dX6_sing_34 (fun zq21 eq22 => ?_)
        refine g_if_ge X rfl (tgt := 41) dX6_sing_35 (by decide) (fun cq23 => ?_) (fun cq23 => ?_)
        · refine g_aload_n X 0 rfl dX6_sing_41 ?_
          refine g_getr X f_X6_35 dX6_sing_42 ?_
          refine g_iload_n X 1 rfl dX6_sing_45 ?_
          refine g_aload_n X 0 rfl dX6_sing_46 ?_
          refine g_getr X f_X6_26 dX6_sing_47 ?_
          refine g_iload_n X 2 rfl dX6_sing_50 ?_
          refine g_iload_n X 3 rfl dX6_sing_51 ?_
          refine g_iconst X (-1) dX6_sing_52 (by decide) ?_
          refine g_callV X m_X6_165 (c_X0_stockOf ad Mq x2 t2 x3 t3 (-1) (show ((-1) : Int32).toInt = (-1) by decide) Iq0 (by omega)) rfl (by decide) (Nat.le_of_ble_eq_true rfl) rfl dX6_sing_53 ?_
          rintro _ Mq28 ⟨rq24, aq25, rfl, tq26, hq27, Iq29, frq30⟩
          have frq31 : Fr W_X6_sing Mq Mq28 := frq0.trans frq30 rfl
          have cyq32 : 0 ≤ (Mq28.2 33 12).toInt := num_fr cy0 frq30 rfl
          have trq33 : (Mq28.1 23 2).toInt = (Mq.1 23 2).toInt := congrArg Int32.toInt (frq30.at 23 2 rfl)
          have trq34 : (Mq28.1 23 7).toInt = (Mq.1 23 7).toInt := congrArg Int32.toInt (frq30.at 23 7 rfl)
          show G Γ Mq28 56 [(0, .ref (ad 0)), (1, .int x1), (2, .int x2), (3, .int x3), (4, .long x4)] [.long rq24, .int x1, .ref (ad 33)]
          refine g_lload X 4 rfl dX6_sing_56 ?_
          refine g_callV X m_X6_169 (c_X4_perform ad Mq28 x1 t1 rq24 tq26 x4 t4 Iq29 (by omega) (by omega) cyq32) rfl (by decide) (Nat.le_of_ble_eq_true rfl) rfl dX6_sing_58 ?_
          rintro _ Mq40 ⟨rq35, aq36, rfl, tq37, hq38, cyq39, Iq41, frq42⟩
          have frq43 : Fr W_X6_sing Mq Mq40 := frq31.trans frq42 rfl
          have trq44 : (Mq40.1 23 2).toInt = (Mq28.1 23 2).toInt := congrArg Int32.toInt (frq42.at 23 2 rfl)
          have trq45 : (Mq40.1 23 7).toInt = (Mq28.1 23 7).toInt := congrArg Int32.toInt (frq42.at 23 7 rfl)
          show G Γ Mq40 61 [(0, .ref (ad 0)), (1, .int x1), (2, .int x2), (3, .int x3), (4, .long x4)] [.int rq35]
          refine g_istore X [(6, .int rq35), (0, .ref (ad 0)), (1, .int x1), (2, .int x2), (3, .int x3), (4, .long x4)] dX6_sing_61 (by decide) rfl ?_
          refine g_iload X 0 rfl dX6_sing_63 ?_
          refine g_if_eq X tq37 (tgt := 78) dX6_sing_65 (by decide) (fun cq46 => ?_) (fun cq46 => ?_)
          · refine g_bipush X (-3) dX6_sing_78 (by decide) ?_
            exact g_iret X dX6_sing_80 ⟨_, _, rfl, (show ((-3) : Int32).toInt = (-3) by decide), trivial, cyq39, Iq41, frq43⟩
          · refine g_aload_n X 1 rfl dX6_sing_68 ?_
            refine g_getr X f_X6_35 dX6_sing_69 ?_
            refine g_geti X f_X6_173 dX6_sing_72 (x := Mq40.1 33 3) rfl ?_
            have bq47 := ig_33_3 Iq41
            refine g_goto X (tgt := 80) dX6_sing_75 (by decide) ?_
            exact g_iret X dX6_sing_80 ⟨_, _, rfl, rfl, trivial, cyq39, Iq41, frq43⟩
        · refine g_bipush X (-2) dX6_sing_38 (by decide) ?_
          exact g_iret X dX6_sing_40 ⟨_, _, rfl, (show ((-2) : Int32).toInt = (-2) by decide), trivial, cy0, Iq0, frq0⟩
    · have pq48 : ¬ (0 ≤ a2 ∧ a2 < ((Mq.1 23 2)).toInt) := by omega
      clear hq11 cq12 tq10
      refine g_iconst X (-1) dX6_sing_22 (by decide) ?_
      exact g_iret X dX6_sing_23 ⟨_, _, rfl, (show ((-1) : Int32).toInt = (-1) by decide), trivial, cy0, Iq0, frq0⟩
set_option maxHeartbeats 4000000 in
set_option maxRecDepth 4000 in
theorem c_X6_sung (ad : Nat → Nat) (Mq : Mem) (x1 : Int32) {a1 : Int} (t1 : x1.toInt = a1) (Iq0 : Iv TX Mq) : Ctr ad yX6_sung cX6_sung 2 (some .int) 1 [.ref (ad 0), .int x1] Mq (fun v M' => ∃ (r : Int32) (a : Int), v = some (.int r) ∧ r.toInt = a ∧ (True) ∧ Mq = M') := by
  refine ctr_of (L := [(0, .ref (ad 0)), (1, .int x1)]) (by decide) (Nat.le_of_ble_eq_true rfl) rfl ?_
  intro Γ X
  have X : gX Γ cX6_sung RX6 2 (some .int) 1 ad _ := X
  have g1_3 := ig_1_3 Iq0
  have g1_12 := ig_1_12 Iq0
  have g23_2 := ig_23_2 Iq0
  have g23_7 := ig_23_7 Iq0
  have g40_5 := ig_40_5 Iq0
  have g0_7 := ig_0_7 Iq0
  refine g_iload_n X 1 rfl dX6_sung_0 ?_
  refine g_iconst X 0 dX6_sung_1 (by decide) ?_
  refine g_aload_n X 0 rfl dX6_sung_2 ?_
  refine g_getr X f_X6_35 dX6_sung_3 ?_
  refine g_geti X f_X6_173 dX6_sung_6 (x := Mq.1 33 3) rfl ?_
  have bq1 := ig_33_3 Iq0
  refine g_iconst X 1 dX6_sung_9 (by decide) ?_
  refine g_isub X dX6_sung_10 (fun zq2 eq3 => ?_)
  have tq4 : zq2.toInt = ((Mq.1 33 3).toInt) - 1 := sub_nw eq3 rfl (show (1 : Int32).toInt = 1 by decide) (by omega)
  refine g_callS X m_X6_61 (c_X6_inside ad Mq x1 t1 0 (show (0 : Int32).toInt = 0 by decide) zq2 tq4) rfl (by decide) (Nat.le_of_ble_eq_true rfl) rfl dX6_sung_11 ?_
  rintro _ _ ⟨rq5, aq6, rfl, tq7, hq8, rfl⟩
  show G Γ Mq 14 [(0, .ref (ad 0)), (1, .int x1)] [.int rq5]
  refine g_if_eq X tq7 (tgt := 29) dX6_sung_14 (by decide) (fun cq9 => ?_) (fun cq9 => ?_)
  · have pq10 : ¬ (0 ≤ a1 ∧ a1 ≤ (((Mq.1 33 3).toInt) - 1)) := by omega
    clear hq8 cq9 tq7
    refine g_iconst X (-1) dX6_sung_29 (by decide) ?_
    exact g_iret X dX6_sung_30 ⟨_, _, rfl, (show ((-1) : Int32).toInt = (-1) by decide), trivial, rfl⟩
  · have pq11 : (0 ≤ a1 ∧ a1 ≤ (((Mq.1 33 3).toInt) - 1)) := by omega
    clear hq8 cq9 tq7
    refine g_aload_n X 0 rfl dX6_sung_17 ?_
    refine g_getr X f_X6_35 dX6_sung_18 ?_
    refine g_getr X f_X6_176 dX6_sung_21 ?_
    refine g_iload_n X 1 rfl dX6_sung_24 ?_
    refine g_iald X la_34 t1 dX6_sung_25 (by omega) (x := Mq.1 34 a1.toNat) rfl ?_
    refine g_goto X (tgt := 30) dX6_sung_26 (by decide) ?_
    exact g_iret X dX6_sung_30 ⟨_, _, rfl, rfl, trivial, rfl⟩
abbrev W_X6_has : List (Nat × Nat) := [(30, 99)]
set_option maxHeartbeats 4000000 in
set_option maxRecDepth 4000 in
theorem c_X6_has (ad : Nat → Nat) (Mq : Mem) (x1 : Int32) {a1 : Int} (t1 : x1.toInt = a1) (x2 : Int32) {a2 : Int} (t2 : x2.toInt = a2) (x3 : Int32) {a3 : Int} (t3 : x3.toInt = a3) (x4 : Int32) {a4 : Int} (t4 : x4.toInt = a4) (Iq0 : Iv TX Mq) : Ctr ad yX6_has cX6_has 5 (some .int) 2 [.ref (ad 0), .int x1, .int x2, .int x3, .int x4] Mq (fun v M' => ∃ (r : Int32) (a : Int), v = some (.int r) ∧ r.toInt = a ∧ (True) ∧ Iv TX M' ∧ Fr W_X6_has Mq M') := by
  refine ctr_of (L := [(0, .ref (ad 0)), (1, .int x1), (2, .int x2), (3, .int x3), (4, .int x4)]) (by decide) (Nat.le_of_ble_eq_true rfl) rfl ?_
  intro Γ X
  have X : gX Γ cX6_has RX6 5 (some .int) 2 ad _ := X
  have frq0 : Fr W_X6_has Mq Mq := Fr.rf
  have g1_3 := ig_1_3 Iq0
  have g1_12 := ig_1_12 Iq0
  have g23_2 := ig_23_2 Iq0
  have g23_7 := ig_23_7 Iq0
  have g40_5 := ig_40_5 Iq0
  have g0_7 := ig_0_7 Iq0
  refine g_aload_n X 0 rfl dX6_has_0 ?_
  refine g_getr X f_X6_26 dX6_has_1 ?_
  refine g_iload_n X 1 rfl dX6_has_4 ?_
  refine g_callV X m_X6_159 (c_X0_isSinger ad Mq x1 t1) rfl (by decide) (Nat.le_of_ble_eq_true rfl) rfl dX6_has_5 ?_
  rintro _ _ ⟨rq1, aq2, rfl, tq3, hq4, rfl⟩
  show G Γ Mq 8 [(0, .ref (ad 0)), (1, .int x1), (2, .int x2), (3, .int x3), (4, .int x4)] [.int rq1]
  refine g_if_eq X tq3 (tgt := 34) dX6_has_8 (by decide) (fun cq5 => ?_) (fun cq5 => ?_)
  · have pq6 : ¬ (0 ≤ a1 ∧ a1 < ((Mq.1 23 2)).toInt) := by omega
    clear hq4 cq5 tq3
    refine g_iconst X (-1) dX6_has_34 (by decide) ?_
    exact g_iret X dX6_has_35 ⟨_, _, rfl, (show ((-1) : Int32).toInt = (-1) by decide), trivial, Iq0, frq0⟩
  · have pq7 : (0 ≤ a1 ∧ a1 < ((Mq.1 23 2)).toInt) := by omega
    clear hq4 cq5 tq3
    refine g_aload_n X 0 rfl dX6_has_11 ?_
    refine g_getr X f_X6_10 dX6_has_12 ?_
    refine g_iload_n X 2 rfl dX6_has_15 ?_
    refine g_callV X m_X6_96 (c_X5_isLine ad Mq x2 t2) rfl (by decide) (Nat.le_of_ble_eq_true rfl) rfl dX6_has_16 ?_
    rintro _ _ ⟨rq8, aq9, rfl, tq10, hq11, rfl⟩
    show G Γ Mq 19 [(0, .ref (ad 0)), (1, .int x1), (2, .int x2), (3, .int x3), (4, .int x4)] [.int rq8]
    refine g_if_eq X tq10 (tgt := 34) dX6_has_19 (by decide) (fun cq12 => ?_) (fun cq12 => ?_)
    · have pq13 : ¬ (0 ≤ a2 ∧ a2 < ((Mq.1 1 12)).toInt) := by omega
      clear hq11 cq12 tq10
      refine g_iconst X (-1) dX6_has_34 (by decide) ?_
      exact g_iret X dX6_has_35 ⟨_, _, rfl, (show ((-1) : Int32).toInt = (-1) by decide), trivial, Iq0, frq0⟩
    · have pq14 : (0 ≤ a2 ∧ a2 < ((Mq.1 1 12)).toInt) := by omega
      clear hq11 cq12 tq10
      refine g_aload_n X 0 rfl dX6_has_22 ?_
      refine g_getr X f_X6_26 dX6_has_23 ?_
      refine g_iload X 4 rfl dX6_has_26 ?_
      refine g_callV X m_X6_195 (c_X0_isKnown ad Mq x4 t4) rfl (by decide) (Nat.le_of_ble_eq_true rfl) rfl dX6_has_28 ?_
      rintro _ _ ⟨rq15, aq16, rfl, tq17, hq18, rfl⟩
      show G Γ Mq 31 [(0, .ref (ad 0)), (1, .int x1), (2, .int x2), (3, .int x3), (4, .int x4)] [.int rq15]
      refine g_if_ne X tq17 (tgt := 36) dX6_has_31 (by decide) (fun cq19 => ?_) (fun cq19 => ?_)
      · have pq20 : (-1 ≤ a4 ∧ a4 ≤ ((Mq.1 23 7)).toInt) := by omega
        clear hq18 cq19 tq17
        refine g_iload_n X 3 rfl dX6_has_36 ?_
        refine g_callS X m_X6_162 (c_X6_isYear ad Mq x3 t3) rfl (by decide) (Nat.le_of_ble_eq_true rfl) rfl dX6_has_37 ?_
        rintro _ _ ⟨rq21, aq22, rfl, tq23, hq24, rfl⟩
        show G Γ Mq 40 [(0, .ref (ad 0)), (1, .int x1), (2, .int x2), (3, .int x3), (4, .int x4)] [.int rq21]
        refine g_if_ne X tq23 (tgt := 46) dX6_has_40 (by decide) (fun cq25 => ?_) (fun cq25 => ?_)
        · have pq26 : (0 ≤ a3 ∧ a3 ≤ 999) := by omega
          clear hq24 cq25 tq23
          refine g_aload_n X 0 rfl dX6_has_46 ?_
          refine g_getr X f_X6_26 dX6_has_47 ?_
          refine g_iload_n X 1 rfl dX6_has_50 ?_
          refine g_iload_n X 3 rfl dX6_has_51 ?_
          refine g_iload X 4 rfl dX6_has_52 ?_
          refine g_callV X m_X6_165 (c_X0_stockOf ad Mq x1 t1 x3 t3 x4 t4 Iq0 (by omega)) rfl (by decide) (Nat.le_of_ble_eq_true rfl) rfl dX6_has_54 ?_
          rintro _ Mq31 ⟨rq27, aq28, rfl, tq29, hq30, Iq32, frq33⟩
          have frq34 : Fr W_X6_has Mq Mq31 := frq0.trans frq33 rfl
          have trq35 : (Mq31.1 23 2).toInt = (Mq.1 23 2).toInt := congrArg Int32.toInt (frq33.at 23 2 rfl)
          have trq36 : (Mq31.1 23 7).toInt = (Mq.1 23 7).toInt := congrArg Int32.toInt (frq33.at 23 7 rfl)
          show G Γ Mq31 57 [(0, .ref (ad 0)), (1, .int x1), (2, .int x2), (3, .int x3), (4, .int x4)] [.long rq27]
          refine g_iload_n X 2 rfl dX6_has_57 ?_
          refine g_callS X m_X6_115 (c_X6_bit ad Mq31 rq27 tq29 x2 t2) rfl (by decide) (Nat.le_of_ble_eq_true rfl) rfl dX6_has_58 ?_
          rintro _ _ ⟨rq37, aq38, rfl, tq39, hq40, rfl⟩
          show G Γ Mq31 61 [(0, .ref (ad 0)), (1, .int x1), (2, .int x2), (3, .int x3), (4, .int x4)] [.int rq37]
          exact g_iret X dX6_has_61 ⟨_, _, rfl, tq39, trivial, Iq32, frq34⟩
        · have pq41 : ¬ (0 ≤ a3 ∧ a3 ≤ 999) := by omega
          clear hq24 cq25 tq23
          refine g_bipush X (-2) dX6_has_43 (by decide) ?_
          exact g_iret X dX6_has_45 ⟨_, _, rfl, (show ((-2) : Int32).toInt = (-2) by decide), trivial, Iq0, frq0⟩
      · have pq42 : ¬ (-1 ≤ a4 ∧ a4 ≤ ((Mq.1 23 7)).toInt) := by omega
        clear hq18 cq19 tq17
        refine g_iconst X (-1) dX6_has_34 (by decide) ?_
        exact g_iret X dX6_has_35 ⟨_, _, rfl, (show ((-1) : Int32).toInt = (-1) by decide), trivial, Iq0, frq0⟩
abbrev W_X6_stock : List (Nat × Nat) := [(30, 99)]
set_option maxHeartbeats 4000000 in
set_option maxRecDepth 4000 in
theorem c_X6_stock (ad : Nat → Nat) (Mq : Mem) (x1 : Int32) {a1 : Int} (t1 : x1.toInt = a1) (x2 : Int32) {a2 : Int} (t2 : x2.toInt = a2) (x3 : Int32) {a3 : Int} (t3 : x3.toInt = a3) (Iq0 : Iv TX Mq) : Ctr ad yX6_stock cX6_stock 4 (some .int) 2 [.ref (ad 0), .int x1, .int x2, .int x3] Mq (fun v M' => ∃ (r : Int32) (a : Int), v = some (.int r) ∧ r.toInt = a ∧ (True) ∧ Iv TX M' ∧ Fr W_X6_stock Mq M') := by
  refine ctr_of (L := [(0, .ref (ad 0)), (1, .int x1), (2, .int x2), (3, .int x3)]) (by decide) (Nat.le_of_ble_eq_true rfl) rfl ?_
  intro Γ X
  have X : gX Γ cX6_stock RX6 4 (some .int) 2 ad _ := X
  have frq0 : Fr W_X6_stock Mq Mq := Fr.rf
  have g1_3 := ig_1_3 Iq0
  have g1_12 := ig_1_12 Iq0
  have g23_2 := ig_23_2 Iq0
  have g23_7 := ig_23_7 Iq0
  have g40_5 := ig_40_5 Iq0
  have g0_7 := ig_0_7 Iq0
  refine g_aload_n X 0 rfl dX6_stock_0 ?_
  refine g_getr X f_X6_26 dX6_stock_1 ?_
  refine g_iload_n X 1 rfl dX6_stock_4 ?_
  refine g_callV X m_X6_159 (c_X0_isSinger ad Mq x1 t1) rfl (by decide) (Nat.le_of_ble_eq_true rfl) rfl dX6_stock_5 ?_
  rintro _ _ ⟨rq1, aq2, rfl, tq3, hq4, rfl⟩
  show G Γ Mq 8 [(0, .ref (ad 0)), (1, .int x1), (2, .int x2), (3, .int x3)] [.int rq1]
  refine g_if_eq X tq3 (tgt := 22) dX6_stock_8 (by decide) (fun cq5 => ?_) (fun cq5 => ?_)
  · have pq6 : ¬ (0 ≤ a1 ∧ a1 < ((Mq.1 23 2)).toInt) := by omega
    clear hq4 cq5 tq3
    refine g_iconst X (-1) dX6_stock_22 (by decide) ?_
    exact g_iret X dX6_stock_23 ⟨_, _, rfl, (show ((-1) : Int32).toInt = (-1) by decide), trivial, Iq0, frq0⟩
  · have pq7 : (0 ≤ a1 ∧ a1 < ((Mq.1 23 2)).toInt) := by omega
    clear hq4 cq5 tq3
    refine g_aload_n X 0 rfl dX6_stock_11 ?_
    refine g_getr X f_X6_26 dX6_stock_12 ?_
    refine g_iload_n X 3 rfl dX6_stock_15 ?_
    refine g_callV X m_X6_195 (c_X0_isKnown ad Mq x3 t3) rfl (by decide) (Nat.le_of_ble_eq_true rfl) rfl dX6_stock_16 ?_
    rintro _ _ ⟨rq8, aq9, rfl, tq10, hq11, rfl⟩
    show G Γ Mq 19 [(0, .ref (ad 0)), (1, .int x1), (2, .int x2), (3, .int x3)] [.int rq8]
    refine g_if_ne X tq10 (tgt := 24) dX6_stock_19 (by decide) (fun cq12 => ?_) (fun cq12 => ?_)
    · have pq13 : (-1 ≤ a3 ∧ a3 ≤ ((Mq.1 23 7)).toInt) := by omega
      clear hq11 cq12 tq10
      refine g_iload_n X 2 rfl dX6_stock_24 ?_
      refine g_callS X m_X6_162 (c_X6_isYear ad Mq x2 t2) rfl (by decide) (Nat.le_of_ble_eq_true rfl) rfl dX6_stock_25 ?_
      rintro _ _ ⟨rq14, aq15, rfl, tq16, hq17, rfl⟩
      show G Γ Mq 28 [(0, .ref (ad 0)), (1, .int x1), (2, .int x2), (3, .int x3)] [.int rq14]
      refine g_if_ne X tq16 (tgt := 34) dX6_stock_28 (by decide) (fun cq18 => ?_) (fun cq18 => ?_)
      · have pq19 : (0 ≤ a2 ∧ a2 ≤ 999) := by omega
        clear hq17 cq18 tq16
        refine g_aload_n X 0 rfl dX6_stock_34 ?_
        refine g_getr X f_X6_26 dX6_stock_35 ?_
        refine g_iload_n X 1 rfl dX6_stock_38 ?_
        refine g_iload_n X 2 rfl dX6_stock_39 ?_
        refine g_iload_n X 3 rfl dX6_stock_40 ?_
        refine g_callV X m_X6_165 (c_X0_stockOf ad Mq x1 t1 x2 t2 x3 t3 Iq0 (by omega)) rfl (by decide) (Nat.le_of_ble_eq_true rfl) rfl dX6_stock_41 ?_
        rintro _ Mq24 ⟨rq20, aq21, rfl, tq22, hq23, Iq25, frq26⟩
        have frq27 : Fr W_X6_stock Mq Mq24 := frq0.trans frq26 rfl
        have trq28 : (Mq24.1 23 2).toInt = (Mq.1 23 2).toInt := congrArg Int32.toInt (frq26.at 23 2 rfl)
        have trq29 : (Mq24.1 23 7).toInt = (Mq.1 23 7).toInt := congrArg Int32.toInt (frq26.at 23 7 rfl)
        show G Γ Mq24 44 [(0, .ref (ad 0)), (1, .int x1), (2, .int x2), (3, .int x3)] [.long rq20]
        refine g_callS X m_X6_198 (c_J13_bitCount_95d88 ad Mq24 rq20 tq22) rfl (by decide) (Nat.le_of_ble_eq_true rfl) rfl dX6_stock_44 ?_
        rintro _ _ ⟨rq30, aq31, rfl, tq32, hq33, rfl⟩
        show G Γ Mq24 47 [(0, .ref (ad 0)), (1, .int x1), (2, .int x2), (3, .int x3)] [.int rq30]
        exact g_iret X dX6_stock_47 ⟨_, _, rfl, tq32, trivial, Iq25, frq27⟩
      · have pq34 : ¬ (0 ≤ a2 ∧ a2 ≤ 999) := by omega
        clear hq17 cq18 tq16
        refine g_bipush X (-2) dX6_stock_31 (by decide) ?_
        exact g_iret X dX6_stock_33 ⟨_, _, rfl, (show ((-2) : Int32).toInt = (-2) by decide), trivial, Iq0, frq0⟩
    · have pq35 : ¬ (-1 ≤ a3 ∧ a3 ≤ ((Mq.1 23 7)).toInt) := by omega
      clear hq11 cq12 tq10
      refine g_iconst X (-1) dX6_stock_22 (by decide) ?_
      exact g_iret X dX6_stock_23 ⟨_, _, rfl, (show ((-1) : Int32).toInt = (-1) by decide), trivial, Iq0, frq0⟩
abbrev W_X6_unlike : List (Nat × Nat) := [(30, 99), (31, 99)]
set_option maxHeartbeats 4000000 in
set_option maxRecDepth 4000 in
theorem c_X6_unlike (ad : Nat → Nat) (Mq : Mem) (x1 : Int32) {a1 : Int} (t1 : x1.toInt = a1) (x2 : Int32) {a2 : Int} (t2 : x2.toInt = a2) (x3 : Int32) {a3 : Int} (t3 : x3.toInt = a3) (x4 : Int32) {a4 : Int} (t4 : x4.toInt = a4) (Iq0 : Iv TX Mq) : Ctr ad yX6_unlike cX6_unlike 5 (some .int) 3 [.ref (ad 0), .int x1, .int x2, .int x3, .int x4] Mq (fun v M' => ∃ (r : Int32) (a : Int), v = some (.int r) ∧ r.toInt = a ∧ (True) ∧ Iv TX M' ∧ Fr W_X6_unlike Mq M') := by
  refine ctr_of (L := [(0, .ref (ad 0)), (1, .int x1), (2, .int x2), (3, .int x3), (4, .int x4)]) (by decide) (Nat.le_of_ble_eq_true rfl) rfl ?_
  intro Γ X
  have X : gX Γ cX6_unlike RX6 5 (some .int) 3 ad _ := X
  have frq0 : Fr W_X6_unlike Mq Mq := Fr.rf
  have g1_3 := ig_1_3 Iq0
  have g1_12 := ig_1_12 Iq0
  have g23_2 := ig_23_2 Iq0
  have g23_7 := ig_23_7 Iq0
  have g40_5 := ig_40_5 Iq0
  have g0_7 := ig_0_7 Iq0
  refine g_aload_n X 0 rfl dX6_unlike_0 ?_
  refine g_getr X f_X6_26 dX6_unlike_1 ?_
  refine g_iload_n X 1 rfl dX6_unlike_4 ?_
  refine g_callV X m_X6_159 (c_X0_isSinger ad Mq x1 t1) rfl (by decide) (Nat.le_of_ble_eq_true rfl) rfl dX6_unlike_5 ?_
  rintro _ _ ⟨rq1, aq2, rfl, tq3, hq4, rfl⟩
  show G Γ Mq 8 [(0, .ref (ad 0)), (1, .int x1), (2, .int x2), (3, .int x3), (4, .int x4)] [.int rq1]
  refine g_if_eq X tq3 (tgt := 34) dX6_unlike_8 (by decide) (fun cq5 => ?_) (fun cq5 => ?_)
  · have pq6 : ¬ (0 ≤ a1 ∧ a1 < ((Mq.1 23 2)).toInt) := by omega
    clear hq4 cq5 tq3
    refine g_iconst X (-1) dX6_unlike_34 (by decide) ?_
    exact g_iret X dX6_unlike_35 ⟨_, _, rfl, (show ((-1) : Int32).toInt = (-1) by decide), trivial, Iq0, frq0⟩
  · have pq7 : (0 ≤ a1 ∧ a1 < ((Mq.1 23 2)).toInt) := by omega
    clear hq4 cq5 tq3
    refine g_aload_n X 0 rfl dX6_unlike_11 ?_
    refine g_getr X f_X6_26 dX6_unlike_12 ?_
    refine g_iload_n X 2 rfl dX6_unlike_15 ?_
    refine g_callV X m_X6_159 (c_X0_isSinger ad Mq x2 t2) rfl (by decide) (Nat.le_of_ble_eq_true rfl) rfl dX6_unlike_16 ?_
    rintro _ _ ⟨rq8, aq9, rfl, tq10, hq11, rfl⟩
    show G Γ Mq 19 [(0, .ref (ad 0)), (1, .int x1), (2, .int x2), (3, .int x3), (4, .int x4)] [.int rq8]
    refine g_if_eq X tq10 (tgt := 34) dX6_unlike_19 (by decide) (fun cq12 => ?_) (fun cq12 => ?_)
    · have pq13 : ¬ (0 ≤ a2 ∧ a2 < ((Mq.1 23 2)).toInt) := by omega
      clear hq11 cq12 tq10
      refine g_iconst X (-1) dX6_unlike_34 (by decide) ?_
      exact g_iret X dX6_unlike_35 ⟨_, _, rfl, (show ((-1) : Int32).toInt = (-1) by decide), trivial, Iq0, frq0⟩
    · have pq14 : (0 ≤ a2 ∧ a2 < ((Mq.1 23 2)).toInt) := by omega
      clear hq11 cq12 tq10
      refine g_aload_n X 0 rfl dX6_unlike_22 ?_
      refine g_getr X f_X6_26 dX6_unlike_23 ?_
      refine g_iload X 4 rfl dX6_unlike_26 ?_
      refine g_callV X m_X6_195 (c_X0_isKnown ad Mq x4 t4) rfl (by decide) (Nat.le_of_ble_eq_true rfl) rfl dX6_unlike_28 ?_
      rintro _ _ ⟨rq15, aq16, rfl, tq17, hq18, rfl⟩
      show G Γ Mq 31 [(0, .ref (ad 0)), (1, .int x1), (2, .int x2), (3, .int x3), (4, .int x4)] [.int rq15]
      refine g_if_ne X tq17 (tgt := 36) dX6_unlike_31 (by decide) (fun cq19 => ?_) (fun cq19 => ?_)
      · have pq20 : (-1 ≤ a4 ∧ a4 ≤ ((Mq.1 23 7)).toInt) := by omega
        clear hq18 cq19 tq17
        refine g_iload_n X 3 rfl dX6_unlike_36 ?_
        refine g_callS X m_X6_162 (c_X6_isYear ad Mq x3 t3) rfl (by decide) (Nat.le_of_ble_eq_true rfl) rfl dX6_unlike_37 ?_
        rintro _ _ ⟨rq21, aq22, rfl, tq23, hq24, rfl⟩
        show G Γ Mq 40 [(0, .ref (ad 0)), (1, .int x1), (2, .int x2), (3, .int x3), (4, .int x4)] [.int rq21]
        refine g_if_ne X tq23 (tgt := 46) dX6_unlike_40 (by decide) (fun cq25 => ?_) (fun cq25 => ?_)
        · have pq26 : (0 ≤ a3 ∧ a3 ≤ 999) := by omega
          clear hq24 cq25 tq23
          refine g_aload_n X 0 rfl dX6_unlike_46 ?_
          refine g_getr X f_X6_26 dX6_unlike_47 ?_
          refine g_iload_n X 3 rfl dX6_unlike_50 ?_
          refine g_iload X 4 rfl dX6_unlike_51 ?_
          refine g_callV X m_X6_204 (c_X0_openAt ad Mq x3 t3 x4 t4 Iq0 (by omega)) rfl (by decide) (Nat.le_of_ble_eq_true rfl) rfl dX6_unlike_53 ?_
          rintro _ Mq31 ⟨rfl, hq30, Iq32, frq33⟩
          have frq34 : Fr W_X6_unlike Mq Mq31 := frq0.trans frq33 rfl
          have trq35 : (Mq31.1 23 2).toInt = (Mq.1 23 2).toInt := congrArg Int32.toInt (frq33.at 23 2 rfl)
          have trq36 : (Mq31.1 23 7).toInt = (Mq.1 23 7).toInt := congrArg Int32.toInt (frq33.at 23 7 rfl)
          show G Γ Mq31 56 [(0, .ref (ad 0)), (1, .int x1), (2, .int x2), (3, .int x3), (4, .int x4)] []
          refine g_aload_n X 0 rfl dX6_unlike_56 ?_
          refine g_getr X f_X6_26 dX6_unlike_57 ?_
          refine g_iload_n X 1 rfl dX6_unlike_60 ?_
          refine g_iload_n X 2 rfl dX6_unlike_61 ?_
          refine g_callV X m_X6_208 (c_X0_changes ad Mq31 x1 t1 x2 t2 (by omega) (by omega)) rfl (by decide) (Nat.le_of_ble_eq_true rfl) rfl dX6_unlike_62 ?_
          rintro _ _ ⟨rq37, aq38, rfl, tq39, hq40, rfl⟩
          show G Γ Mq31 65 [(0, .ref (ad 0)), (1, .int x1), (2, .int x2), (3, .int x3), (4, .int x4)] [.int rq37]
          exact g_iret X dX6_unlike_65 ⟨_, _, rfl, tq39, trivial, Iq32, frq34⟩
        · have pq41 : ¬ (0 ≤ a3 ∧ a3 ≤ 999) := by omega
          clear hq24 cq25 tq23
          refine g_bipush X (-2) dX6_unlike_43 (by decide) ?_
          exact g_iret X dX6_unlike_45 ⟨_, _, rfl, (show ((-2) : Int32).toInt = (-2) by decide), trivial, Iq0, frq0⟩
      · have pq42 : ¬ (-1 ≤ a4 ∧ a4 ≤ ((Mq.1 23 7)).toInt) := by omega
        clear hq18 cq19 tq17
        refine g_iconst X (-1) dX6_unlike_34 (by decide) ?_
        exact g_iret X dX6_unlike_35 ⟨_, _, rfl, (show ((-1) : Int32).toInt = (-1) by decide), trivial, Iq0, frq0⟩
abbrev W_X6_master : List (Nat × Nat) := [(30, 99), (31, 99)]
set_option maxHeartbeats 4000000 in
set_option maxRecDepth 4000 in
theorem c_X6_master (ad : Nat → Nat) (Mq : Mem) (x1 : Int32) {a1 : Int} (t1 : x1.toInt = a1) (x2 : Int32) {a2 : Int} (t2 : x2.toInt = a2) (x3 : Int32) {a3 : Int} (t3 : x3.toInt = a3) (Iq0 : Iv TX Mq) : Ctr ad yX6_master cX6_master 4 (some .int) 4 [.ref (ad 0), .int x1, .int x2, .int x3] Mq (fun v M' => ∃ (r : Int32) (a : Int), v = some (.int r) ∧ r.toInt = a ∧ (True) ∧ Iv TX M' ∧ Fr W_X6_master Mq M') := by
  refine ctr_of (L := [(0, .ref (ad 0)), (1, .int x1), (2, .int x2), (3, .int x3)]) (by decide) (Nat.le_of_ble_eq_true rfl) rfl ?_
  intro Γ X
  have X : gX Γ cX6_master RX6 4 (some .int) 4 ad _ := X
  have frq0 : Fr W_X6_master Mq Mq := Fr.rf
  have g1_3 := ig_1_3 Iq0
  have g1_12 := ig_1_12 Iq0
  have g23_2 := ig_23_2 Iq0
  have g23_7 := ig_23_7 Iq0
  have g40_5 := ig_40_5 Iq0
  have g0_7 := ig_0_7 Iq0
  refine g_aload_n X 0 rfl dX6_master_0 ?_
  refine g_getr X f_X6_26 dX6_master_1 ?_
  refine g_iload_n X 1 rfl dX6_master_4 ?_
  refine g_callV X m_X6_159 (c_X0_isSinger ad Mq x1 t1) rfl (by decide) (Nat.le_of_ble_eq_true rfl) rfl dX6_master_5 ?_
  rintro _ _ ⟨rq1, aq2, rfl, tq3, hq4, rfl⟩
  show G Γ Mq 8 [(0, .ref (ad 0)), (1, .int x1), (2, .int x2), (3, .int x3)] [.int rq1]
  refine g_if_eq X tq3 (tgt := 22) dX6_master_8 (by decide) (fun cq5 => ?_) (fun cq5 => ?_)
  · have pq6 : ¬ (0 ≤ a1 ∧ a1 < ((Mq.1 23 2)).toInt) := by omega
    clear hq4 cq5 tq3
    refine g_iconst X (-1) dX6_master_22 (by decide) ?_
    exact g_iret X dX6_master_23 ⟨_, _, rfl, (show ((-1) : Int32).toInt = (-1) by decide), trivial, Iq0, frq0⟩
  · have pq7 : (0 ≤ a1 ∧ a1 < ((Mq.1 23 2)).toInt) := by omega
    clear hq4 cq5 tq3
    refine g_aload_n X 0 rfl dX6_master_11 ?_
    refine g_getr X f_X6_26 dX6_master_12 ?_
    refine g_iload_n X 3 rfl dX6_master_15 ?_
    refine g_callV X m_X6_195 (c_X0_isKnown ad Mq x3 t3) rfl (by decide) (Nat.le_of_ble_eq_true rfl) rfl dX6_master_16 ?_
    rintro _ _ ⟨rq8, aq9, rfl, tq10, hq11, rfl⟩
    show G Γ Mq 19 [(0, .ref (ad 0)), (1, .int x1), (2, .int x2), (3, .int x3)] [.int rq8]
    refine g_if_ne X tq10 (tgt := 24) dX6_master_19 (by decide) (fun cq12 => ?_) (fun cq12 => ?_)
    · have pq13 : (-1 ≤ a3 ∧ a3 ≤ ((Mq.1 23 7)).toInt) := by omega
      clear hq11 cq12 tq10
      refine g_iload_n X 2 rfl dX6_master_24 ?_
      refine g_callS X m_X6_162 (c_X6_isYear ad Mq x2 t2) rfl (by decide) (Nat.le_of_ble_eq_true rfl) rfl dX6_master_25 ?_
      rintro _ _ ⟨rq14, aq15, rfl, tq16, hq17, rfl⟩
      show G Γ Mq 28 [(0, .ref (ad 0)), (1, .int x1), (2, .int x2), (3, .int x3)] [.int rq14]
      refine g_if_ne X tq16 (tgt := 34) dX6_master_28 (by decide) (fun cq18 => ?_) (fun cq18 => ?_)
      · have pq19 : (0 ≤ a2 ∧ a2 ≤ 999) := by omega
        clear hq17 cq18 tq16
        refine g_aload_n X 0 rfl dX6_master_34 ?_
        refine g_getr X f_X6_26 dX6_master_35 ?_
        refine g_iload_n X 2 rfl dX6_master_38 ?_
        refine g_iload_n X 3 rfl dX6_master_39 ?_
        refine g_callV X m_X6_204 (c_X0_openAt ad Mq x2 t2 x3 t3 Iq0 (by omega)) rfl (by decide) (Nat.le_of_ble_eq_true rfl) rfl dX6_master_40 ?_
        rintro _ Mq24 ⟨rfl, hq23, Iq25, frq26⟩
        have frq27 : Fr W_X6_master Mq Mq24 := frq0.trans frq26 rfl
        have trq28 : (Mq24.1 23 2).toInt = (Mq.1 23 2).toInt := congrArg Int32.toInt (frq26.at 23 2 rfl)
        have trq29 : (Mq24.1 23 7).toInt = (Mq.1 23 7).toInt := congrArg Int32.toInt (frq26.at 23 7 rfl)
        show G Γ Mq24 43 [(0, .ref (ad 0)), (1, .int x1), (2, .int x2), (3, .int x3)] []
        refine g_aload_n X 0 rfl dX6_master_43 ?_
        refine g_getr X f_X6_26 dX6_master_44 ?_
        refine g_iload_n X 1 rfl dX6_master_47 ?_
        refine g_callV X m_X6_211 (c_X0_masterOf ad Mq24 x1 t1 Iq25 (by omega)) rfl (by decide) (Nat.le_of_ble_eq_true rfl) rfl dX6_master_48 ?_
        rintro _ _ ⟨rq30, aq31, rfl, tq32, hq33, rfl⟩
        show G Γ Mq24 51 [(0, .ref (ad 0)), (1, .int x1), (2, .int x2), (3, .int x3)] [.int rq30]
        exact g_iret X dX6_master_51 ⟨_, _, rfl, tq32, trivial, Iq25, frq27⟩
      · have pq34 : ¬ (0 ≤ a2 ∧ a2 ≤ 999) := by omega
        clear hq17 cq18 tq16
        refine g_bipush X (-2) dX6_master_31 (by decide) ?_
        exact g_iret X dX6_master_33 ⟨_, _, rfl, (show ((-2) : Int32).toInt = (-2) by decide), trivial, Iq0, frq0⟩
    · have pq35 : ¬ (-1 ≤ a3 ∧ a3 ≤ ((Mq.1 23 7)).toInt) := by omega
      clear hq11 cq12 tq10
      refine g_iconst X (-1) dX6_master_22 (by decide) ?_
      exact g_iret X dX6_master_23 ⟨_, _, rfl, (show ((-1) : Int32).toInt = (-1) by decide), trivial, Iq0, frq0⟩
abbrev W_X6_loan : List (Nat × Nat) := [(30, 99), (31, 99)]
set_option maxHeartbeats 4000000 in
set_option maxRecDepth 4000 in
theorem c_X6_loan (ad : Nat → Nat) (Mq : Mem) (x1 : Int32) {a1 : Int} (t1 : x1.toInt = a1) (x2 : Int32) {a2 : Int} (t2 : x2.toInt = a2) (x3 : Int32) {a3 : Int} (t3 : x3.toInt = a3) (x4 : Int32) {a4 : Int} (t4 : x4.toInt = a4) (Iq0 : Iv TX Mq) : Ctr ad yX6_loan cX6_loan 7 (some .int) 5 [.ref (ad 0), .int x1, .int x2, .int x3, .int x4] Mq (fun v M' => ∃ (r : Int32) (a : Int), v = some (.int r) ∧ r.toInt = a ∧ (True) ∧ Iv TX M' ∧ Fr W_X6_loan Mq M') := by
  refine ctr_of (L := [(0, .ref (ad 0)), (1, .int x1), (2, .int x2), (3, .int x3), (4, .int x4)]) (by decide) (Nat.le_of_ble_eq_true rfl) rfl ?_
  intro Γ X
  have X : gX Γ cX6_loan RX6 7 (some .int) 5 ad _ := X
  have frq0 : Fr W_X6_loan Mq Mq := Fr.rf
  have g1_3 := ig_1_3 Iq0
  have g1_12 := ig_1_12 Iq0
  have g23_2 := ig_23_2 Iq0
  have g23_7 := ig_23_7 Iq0
  have g40_5 := ig_40_5 Iq0
  have g0_7 := ig_0_7 Iq0
  refine g_aload_n X 0 rfl dX6_loan_0 ?_
  refine g_getr X f_X6_26 dX6_loan_1 ?_
  refine g_iload_n X 1 rfl dX6_loan_4 ?_
  refine g_callV X m_X6_159 (c_X0_isSinger ad Mq x1 t1) rfl (by decide) (Nat.le_of_ble_eq_true rfl) rfl dX6_loan_5 ?_
  rintro _ _ ⟨rq1, aq2, rfl, tq3, hq4, rfl⟩
  show G Γ Mq 8 [(0, .ref (ad 0)), (1, .int x1), (2, .int x2), (3, .int x3), (4, .int x4)] [.int rq1]
  refine g_if_eq X tq3 (tgt := 34) dX6_loan_8 (by decide) (fun cq5 => ?_) (fun cq5 => ?_)
  · have pq6 : ¬ (0 ≤ a1 ∧ a1 < ((Mq.1 23 2)).toInt) := by omega
    clear hq4 cq5 tq3
    refine g_iconst X (-1) dX6_loan_34 (by decide) ?_
    exact g_iret X dX6_loan_35 ⟨_, _, rfl, (show ((-1) : Int32).toInt = (-1) by decide), trivial, Iq0, frq0⟩
  · have pq7 : (0 ≤ a1 ∧ a1 < ((Mq.1 23 2)).toInt) := by omega
    clear hq4 cq5 tq3
    refine g_aload_n X 0 rfl dX6_loan_11 ?_
    refine g_getr X f_X6_26 dX6_loan_12 ?_
    refine g_iload_n X 2 rfl dX6_loan_15 ?_
    refine g_callV X m_X6_159 (c_X0_isSinger ad Mq x2 t2) rfl (by decide) (Nat.le_of_ble_eq_true rfl) rfl dX6_loan_16 ?_
    rintro _ _ ⟨rq8, aq9, rfl, tq10, hq11, rfl⟩
    show G Γ Mq 19 [(0, .ref (ad 0)), (1, .int x1), (2, .int x2), (3, .int x3), (4, .int x4)] [.int rq8]
    refine g_if_eq X tq10 (tgt := 34) dX6_loan_19 (by decide) (fun cq12 => ?_) (fun cq12 => ?_)
    · have pq13 : ¬ (0 ≤ a2 ∧ a2 < ((Mq.1 23 2)).toInt) := by omega
      clear hq11 cq12 tq10
      refine g_iconst X (-1) dX6_loan_34 (by decide) ?_
      exact g_iret X dX6_loan_35 ⟨_, _, rfl, (show ((-1) : Int32).toInt = (-1) by decide), trivial, Iq0, frq0⟩
    · have pq14 : (0 ≤ a2 ∧ a2 < ((Mq.1 23 2)).toInt) := by omega
      clear hq11 cq12 tq10
      refine g_aload_n X 0 rfl dX6_loan_22 ?_
      refine g_getr X f_X6_26 dX6_loan_23 ?_
      refine g_iload X 4 rfl dX6_loan_26 ?_
      refine g_callV X m_X6_195 (c_X0_isKnown ad Mq x4 t4) rfl (by decide) (Nat.le_of_ble_eq_true rfl) rfl dX6_loan_28 ?_
      rintro _ _ ⟨rq15, aq16, rfl, tq17, hq18, rfl⟩
      show G Γ Mq 31 [(0, .ref (ad 0)), (1, .int x1), (2, .int x2), (3, .int x3), (4, .int x4)] [.int rq15]
      refine g_if_ne X tq17 (tgt := 36) dX6_loan_31 (by decide) (fun cq19 => ?_) (fun cq19 => ?_)
      · have pq20 : (-1 ≤ a4 ∧ a4 ≤ ((Mq.1 23 7)).toInt) := by omega
        clear hq18 cq19 tq17
        refine g_iload_n X 3 rfl dX6_loan_36 ?_
        refine g_callS X m_X6_162 (c_X6_isYear ad Mq x3 t3) rfl (by decide) (Nat.le_of_ble_eq_true rfl) rfl dX6_loan_37 ?_
        rintro _ _ ⟨rq21, aq22, rfl, tq23, hq24, rfl⟩
        show G Γ Mq 40 [(0, .ref (ad 0)), (1, .int x1), (2, .int x2), (3, .int x3), (4, .int x4)] [.int rq21]
        refine g_if_eq X tq23 (tgt := 48) dX6_loan_40 (by decide) (fun cq25 => ?_) (fun cq25 => ?_)
        · have pq26 : ¬ (0 ≤ a3 ∧ a3 ≤ 999) := by omega
          clear hq24 cq25 tq23
          refine g_bipush X (-2) dX6_loan_48 (by decide) ?_
          exact g_iret X dX6_loan_50 ⟨_, _, rfl, (show ((-2) : Int32).toInt = (-2) by decide), trivial, Iq0, frq0⟩
        · have pq27 : (0 ≤ a3 ∧ a3 ≤ 999) := by omega
          clear hq24 cq25 tq23
          refine g_iload_n X 1 rfl dX6_loan_43 ?_
          refine g_iload_n X 2 rfl dX6_loan_44 ?_
          refine g_icmp_ne X t1 t2 (tgt := 51) dX6_loan_45 (by decide) (fun cq28 => ?_) (fun cq28 => ?_)
          · refine g_aload_n X 0 rfl dX6_loan_51 ?_
            refine g_getr X f_X6_26 dX6_loan_52 ?_
            refine g_iload_n X 3 rfl dX6_loan_55 ?_
            refine g_iload X 4 rfl dX6_loan_56 ?_
            refine g_callV X m_X6_204 (c_X0_openAt ad Mq x3 t3 x4 t4 Iq0 (by omega)) rfl (by decide) (Nat.le_of_ble_eq_true rfl) rfl dX6_loan_58 ?_
            rintro _ Mq33 ⟨rfl, hq32, Iq34, frq35⟩
            have frq36 : Fr W_X6_loan Mq Mq33 := frq0.trans frq35 rfl
            have trq37 : (Mq33.1 23 2).toInt = (Mq.1 23 2).toInt := congrArg Int32.toInt (frq35.at 23 2 rfl)
            have trq38 : (Mq33.1 23 7).toInt = (Mq.1 23 7).toInt := congrArg Int32.toInt (frq35.at 23 7 rfl)
            show G Γ Mq33 61 [(0, .ref (ad 0)), (1, .int x1), (2, .int x2), (3, .int x3), (4, .int x4)] []
            refine g_aload_n X 0 rfl dX6_loan_61 ?_
            refine g_getr X f_X6_26 dX6_loan_62 ?_
            refine g_getr X f_X6_214 dX6_loan_65 ?_
            refine g_iload_n X 1 rfl dX6_loan_68 ?_
            refine g_lald X la_31 t1 dX6_loan_69 (by omega) (x := Mq33.2 31 a1.toNat) rfl ?_
            refine g_aload_n X 0 rfl dX6_loan_70 ?_
            refine g_getr X f_X6_26 dX6_loan_71 ?_
            refine g_getr X f_X6_214 dX6_loan_74 ?_
            refine g_iload_n X 2 rfl dX6_loan_77 ?_
            refine g_lald X la_31 t2 dX6_loan_78 (by omega) (x := Mq33.2 31 a2.toNat) rfl ?_
            refine g_land X dX6_loan_79 (fun zq39 eq40 => ?_)
            refine g_aload_n X 0 rfl dX6_loan_80 ?_
            refine g_getr X f_X6_10 dX6_loan_81 ?_
            refine g_getl X f_X6_111 dX6_loan_84 (x := Mq33.2 1 11) rfl ?_
            refine g_land X dX6_loan_87 (fun zq41 eq42 => ?_)
            refine g_lstore X [(5, .long zq41), (0, .ref (ad 0)), (1, .int x1), (2, .int x2), (3, .int x3), (4, .int x4)] dX6_loan_88 (by decide) rfl ?_
            refine g_lload X 0 rfl dX6_loan_90 ?_
            refine g_aload_n X 1 rfl dX6_loan_92 ?_
            refine g_getr X f_X6_26 dX6_loan_93 ?_
            refine g_iload_n X 2 rfl dX6_loan_96 ?_
            refine g_callV X m_X6_218 (c_X0_masterStock ad Mq33 x1 t1 Iq34 (by omega)) rfl (by decide) (Nat.le_of_ble_eq_true rfl) rfl dX6_loan_97 ?_
            rintro _ _ ⟨rq43, aq44, rfl, tq45, hq46, rfl⟩
            show G Γ Mq33 100 [(5, .long zq41), (0, .ref (ad 0)), (1, .int x1), (2, .int x2), (3, .int x3), (4, .int x4)] [.long rq43, .long zq41]
            refine g_ldc2 X k_X6_222 dX6_loan_100 ?_
            refine g_lxor X dX6_loan_103 (fun zq47 eq48 => ?_)
            refine g_land X dX6_loan_104 (fun zq49 eq50 => ?_)
            refine g_aload_n X 1 rfl dX6_loan_105 ?_
            refine g_getr X f_X6_26 dX6_loan_106 ?_
            refine g_iload_n X 3 rfl dX6_loan_109 ?_
            refine g_callV X m_X6_218 (c_X0_masterStock ad Mq33 x2 t2 Iq34 (by omega)) rfl (by decide) (Nat.le_of_ble_eq_true rfl) rfl dX6_loan_110 ?_
            rintro _ _ ⟨rq51, aq52, rfl, tq53, hq54, rfl⟩
            show G Γ Mq33 113 [(5, .long zq41), (0, .ref (ad 0)), (1, .int x1), (2, .int x2), (3, .int x3), (4, .int x4)] [.long rq51, .long zq49]
            refine g_ldc2 X k_X6_222 dX6_loan_113 ?_
            refine g_lxor X dX6_loan_116 (fun zq55 eq56 => ?_)
            refine g_land X dX6_loan_117 (fun zq57 eq58 => ?_)
            refine g_callS X m_X6_198 (c_J13_bitCount_95d88 ad Mq33 zq57 rfl) rfl (by decide) (Nat.le_of_ble_eq_true rfl) rfl dX6_loan_118 ?_
            rintro _ _ ⟨rq59, aq60, rfl, tq61, hq62, rfl⟩
            show G Γ Mq33 121 [(5, .long zq41), (0, .ref (ad 0)), (1, .int x1), (2, .int x2), (3, .int x3), (4, .int x4)] [.int rq59]
            exact g_iret X dX6_loan_121 ⟨_, _, rfl, tq61, trivial, Iq34, frq36⟩
          · refine g_bipush X (-2) dX6_loan_48 (by decide) ?_
            exact g_iret X dX6_loan_50 ⟨_, _, rfl, (show ((-2) : Int32).toInt = (-2) by decide), trivial, Iq0, frq0⟩
      · have pq63 : ¬ (-1 ≤ a4 ∧ a4 ≤ ((Mq.1 23 7)).toInt) := by omega
        clear hq18 cq19 tq17
        refine g_iconst X (-1) dX6_loan_34 (by decide) ?_
        exact g_iret X dX6_loan_35 ⟨_, _, rfl, (show ((-1) : Int32).toInt = (-1) by decide), trivial, Iq0, frq0⟩
abbrev W_X6_core : List (Nat × Nat) := [(30, 99), (31, 99)]
set_option maxHeartbeats 4000000 in
set_option maxRecDepth 4000 in
theorem c_X6_core (ad : Nat → Nat) (Mq : Mem) (x1 : Int32) {a1 : Int} (t1 : x1.toInt = a1) (x2 : Int32) {a2 : Int} (t2 : x2.toInt = a2) (x3 : Int32) {a3 : Int} (t3 : x3.toInt = a3) (Iq0 : Iv TX Mq) : Ctr ad yX6_core cX6_core 6 (some .int) 3 [.ref (ad 0), .int x1, .int x2, .int x3] Mq (fun v M' => ∃ (r : Int32) (a : Int), v = some (.int r) ∧ r.toInt = a ∧ (True) ∧ Iv TX M' ∧ Fr W_X6_core Mq M') := by
  refine ctr_of (L := [(0, .ref (ad 0)), (1, .int x1), (2, .int x2), (3, .int x3)]) (by decide) (Nat.le_of_ble_eq_true rfl) rfl ?_
  intro Γ X
  have X : gX Γ cX6_core RX6 6 (some .int) 3 ad _ := X
  have frq0 : Fr W_X6_core Mq Mq := Fr.rf
  have g1_3 := ig_1_3 Iq0
  have g1_12 := ig_1_12 Iq0
  have g23_2 := ig_23_2 Iq0
  have g23_7 := ig_23_7 Iq0
  have g40_5 := ig_40_5 Iq0
  have g0_7 := ig_0_7 Iq0
  refine g_aload_n X 0 rfl dX6_core_0 ?_
  refine g_getr X f_X6_26 dX6_core_1 ?_
  refine g_iload_n X 2 rfl dX6_core_4 ?_
  refine g_callV X m_X6_195 (c_X0_isKnown ad Mq x2 t2) rfl (by decide) (Nat.le_of_ble_eq_true rfl) rfl dX6_core_5 ?_
  rintro _ _ ⟨rq1, aq2, rfl, tq3, hq4, rfl⟩
  show G Γ Mq 8 [(0, .ref (ad 0)), (1, .int x1), (2, .int x2), (3, .int x3)] [.int rq1]
  refine g_if_eq X tq3 (tgt := 28) dX6_core_8 (by decide) (fun cq5 => ?_) (fun cq5 => ?_)
  · have pq6 : ¬ (-1 ≤ a2 ∧ a2 ≤ ((Mq.1 23 7)).toInt) := by omega
    clear hq4 cq5 tq3
    refine g_iconst X (-1) dX6_core_28 (by decide) ?_
    exact g_iret X dX6_core_29 ⟨_, _, rfl, (show ((-1) : Int32).toInt = (-1) by decide), trivial, Iq0, frq0⟩
  · have pq7 : (-1 ≤ a2 ∧ a2 ≤ ((Mq.1 23 7)).toInt) := by omega
    clear hq4 cq5 tq3
    refine g_iload_n X 3 rfl dX6_core_11 ?_
    refine g_iconst X (-1) dX6_core_12 (by decide) ?_
    refine g_aload_n X 0 rfl dX6_core_13 ?_
    refine g_getr X f_X6_10 dX6_core_14 ?_
    refine g_geti X f_X6_86 dX6_core_17 (x := Mq.1 1 12) rfl ?_
    have bq8 := ig_1_12 Iq0
    refine g_iconst X 1 dX6_core_20 (by decide) ?_
    refine g_isub X dX6_core_21 (fun zq9 eq10 => ?_)
    have tq11 : zq9.toInt = ((Mq.1 1 12).toInt) - 1 := sub_nw eq10 rfl (show (1 : Int32).toInt = 1 by decide) (by omega)
    refine g_callS X m_X6_61 (c_X6_inside ad Mq x3 t3 (-1) (show ((-1) : Int32).toInt = (-1) by decide) zq9 tq11) rfl (by decide) (Nat.le_of_ble_eq_true rfl) rfl dX6_core_22 ?_
    rintro _ _ ⟨rq12, aq13, rfl, tq14, hq15, rfl⟩
    show G Γ Mq 25 [(0, .ref (ad 0)), (1, .int x1), (2, .int x2), (3, .int x3)] [.int rq12]
    refine g_if_ne X tq14 (tgt := 30) dX6_core_25 (by decide) (fun cq16 => ?_) (fun cq16 => ?_)
    · have pq17 : ((-1) ≤ a3 ∧ a3 ≤ (((Mq.1 1 12).toInt) - 1)) := by omega
      clear hq15 cq16 tq14
      refine g_iload_n X 1 rfl dX6_core_30 ?_
      refine g_callS X m_X6_162 (c_X6_isYear ad Mq x1 t1) rfl (by decide) (Nat.le_of_ble_eq_true rfl) rfl dX6_core_31 ?_
      rintro _ _ ⟨rq18, aq19, rfl, tq20, hq21, rfl⟩
      show G Γ Mq 34 [(0, .ref (ad 0)), (1, .int x1), (2, .int x2), (3, .int x3)] [.int rq18]
      refine g_if_ne X tq20 (tgt := 40) dX6_core_34 (by decide) (fun cq22 => ?_) (fun cq22 => ?_)
      · have pq23 : (0 ≤ a1 ∧ a1 ≤ 999) := by omega
        clear hq21 cq22 tq20
        refine g_aload_n X 0 rfl dX6_core_40 ?_
        refine g_getr X f_X6_26 dX6_core_41 ?_
        refine g_iload_n X 1 rfl dX6_core_44 ?_
        refine g_iload_n X 2 rfl dX6_core_45 ?_
        refine g_callV X m_X6_204 (c_X0_openAt ad Mq x1 t1 x2 t2 Iq0 (by omega)) rfl (by decide) (Nat.le_of_ble_eq_true rfl) rfl dX6_core_46 ?_
        rintro _ Mq28 ⟨rfl, hq27, Iq29, frq30⟩
        have frq31 : Fr W_X6_core Mq Mq28 := frq0.trans frq30 rfl
        have trq32 : (Mq28.1 23 2).toInt = (Mq.1 23 2).toInt := congrArg Int32.toInt (frq30.at 23 2 rfl)
        have trq33 : (Mq28.1 23 7).toInt = (Mq.1 23 7).toInt := congrArg Int32.toInt (frq30.at 23 7 rfl)
        show G Γ Mq28 49 [(0, .ref (ad 0)), (1, .int x1), (2, .int x2), (3, .int x3)] []
        refine g_aload_n X 0 rfl dX6_core_49 ?_
        refine g_getr X f_X6_26 dX6_core_50 ?_
        refine g_callV X m_X6_224 (c_X0_commonStock ad Mq28 Iq29) rfl (by decide) (Nat.le_of_ble_eq_true rfl) rfl dX6_core_53 ?_
        rintro _ _ ⟨rq34, aq35, rfl, tq36, hq37, rfl⟩
        show G Γ Mq28 56 [(0, .ref (ad 0)), (1, .int x1), (2, .int x2), (3, .int x3)] [.long rq34]
        refine g_lstore X [(4, .long rq34), (0, .ref (ad 0)), (1, .int x1), (2, .int x2), (3, .int x3)] dX6_core_56 (by decide) rfl ?_
        refine g_iload_n X 4 rfl dX6_core_58 ?_
        refine g_iconst X (-1) dX6_core_59 (by decide) ?_
        refine g_icmp_ne X t3 (show ((-1) : Int32).toInt = (-1) by decide) (tgt := 71) dX6_core_60 (by decide) (fun cq38 => ?_) (fun cq38 => ?_)
        · refine g_lload X 0 rfl dX6_core_71 ?_
          refine g_iload_n X 4 rfl dX6_core_73 ?_
          refine g_callS X m_X6_228 (c_X6_pick ad Mq28 rq34 tq36 x3 t3) rfl (by decide) (Nat.le_of_ble_eq_true rfl) rfl dX6_core_74 ?_
          rintro _ _ ⟨rq39, aq40, rfl, tq41, hq42, rfl⟩
          show G Γ Mq28 77 [(4, .long rq34), (0, .ref (ad 0)), (1, .int x1), (2, .int x2), (3, .int x3)] [.int rq39]
          exact g_iret X dX6_core_77 ⟨_, _, rfl, tq41, trivial, Iq29, frq31⟩
        · refine g_lload X 0 rfl dX6_core_63 ?_
          refine g_callS X m_X6_198 (c_J13_bitCount_95d88 ad Mq28 rq34 tq36) rfl (by decide) (Nat.le_of_ble_eq_true rfl) rfl dX6_core_65 ?_
          rintro _ _ ⟨rq43, aq44, rfl, tq45, hq46, rfl⟩
          show G Γ Mq28 68 [(4, .long rq34), (0, .ref (ad 0)), (1, .int x1), (2, .int x2), (3, .int x3)] [.int rq43]
          refine g_goto X (tgt := 77) dX6_core_68 (by decide) ?_
          exact g_iret X dX6_core_77 ⟨_, _, rfl, tq45, trivial, Iq29, frq31⟩
      · have pq47 : ¬ (0 ≤ a1 ∧ a1 ≤ 999) := by omega
        clear hq21 cq22 tq20
        refine g_bipush X (-2) dX6_core_37 (by decide) ?_
        exact g_iret X dX6_core_39 ⟨_, _, rfl, (show ((-2) : Int32).toInt = (-2) by decide), trivial, Iq0, frq0⟩
    · have pq48 : ¬ ((-1) ≤ a3 ∧ a3 ≤ (((Mq.1 1 12).toInt) - 1)) := by omega
      clear hq15 cq16 tq14
      refine g_iconst X (-1) dX6_core_28 (by decide) ?_
      exact g_iret X dX6_core_29 ⟨_, _, rfl, (show ((-1) : Int32).toInt = (-1) by decide), trivial, Iq0, frq0⟩
abbrev W_X6_whose : List (Nat × Nat) := [(30, 99), (31, 99), (32, 99)]
set_option maxHeartbeats 4000000 in
set_option maxRecDepth 4000 in
theorem c_X6_whose (ad : Nat → Nat) (Mq : Mem) (x1 : Int32) {a1 : Int} (t1 : x1.toInt = a1) (x2 : Int32) {a2 : Int} (t2 : x2.toInt = a2) (x3 : Int32) {a3 : Int} (t3 : x3.toInt = a3) (Iq0 : Iv TX Mq) : Ctr ad yX6_whose cX6_whose 4 (some .int) 3 [.ref (ad 0), .int x1, .int x2, .int x3] Mq (fun v M' => ∃ (r : Int32) (a : Int), v = some (.int r) ∧ r.toInt = a ∧ (True) ∧ Iv TX M' ∧ Fr W_X6_whose Mq M') := by
  refine ctr_of (L := [(0, .ref (ad 0)), (1, .int x1), (2, .int x2), (3, .int x3)]) (by decide) (Nat.le_of_ble_eq_true rfl) rfl ?_
  intro Γ X
  have X : gX Γ cX6_whose RX6 4 (some .int) 3 ad _ := X
  have frq0 : Fr W_X6_whose Mq Mq := Fr.rf
  have g1_3 := ig_1_3 Iq0
  have g1_12 := ig_1_12 Iq0
  have g23_2 := ig_23_2 Iq0
  have g23_7 := ig_23_7 Iq0
  have g40_5 := ig_40_5 Iq0
  have g0_7 := ig_0_7 Iq0
  refine g_aload_n X 0 rfl dX6_whose_0 ?_
  refine g_getr X f_X6_10 dX6_whose_1 ?_
  refine g_iload_n X 1 rfl dX6_whose_4 ?_
  refine g_callV X m_X6_96 (c_X5_isLine ad Mq x1 t1) rfl (by decide) (Nat.le_of_ble_eq_true rfl) rfl dX6_whose_5 ?_
  rintro _ _ ⟨rq1, aq2, rfl, tq3, hq4, rfl⟩
  show G Γ Mq 8 [(0, .ref (ad 0)), (1, .int x1), (2, .int x2), (3, .int x3)] [.int rq1]
  refine g_if_eq X tq3 (tgt := 22) dX6_whose_8 (by decide) (fun cq5 => ?_) (fun cq5 => ?_)
  · have pq6 : ¬ (0 ≤ a1 ∧ a1 < ((Mq.1 1 12)).toInt) := by omega
    clear hq4 cq5 tq3
    refine g_iconst X (-1) dX6_whose_22 (by decide) ?_
    exact g_iret X dX6_whose_23 ⟨_, _, rfl, (show ((-1) : Int32).toInt = (-1) by decide), trivial, Iq0, frq0⟩
  · have pq7 : (0 ≤ a1 ∧ a1 < ((Mq.1 1 12)).toInt) := by omega
    clear hq4 cq5 tq3
    refine g_aload_n X 0 rfl dX6_whose_11 ?_
    refine g_getr X f_X6_26 dX6_whose_12 ?_
    refine g_iload_n X 3 rfl dX6_whose_15 ?_
    refine g_callV X m_X6_195 (c_X0_isKnown ad Mq x3 t3) rfl (by decide) (Nat.le_of_ble_eq_true rfl) rfl dX6_whose_16 ?_
    rintro _ _ ⟨rq8, aq9, rfl, tq10, hq11, rfl⟩
    show G Γ Mq 19 [(0, .ref (ad 0)), (1, .int x1), (2, .int x2), (3, .int x3)] [.int rq8]
    refine g_if_ne X tq10 (tgt := 24) dX6_whose_19 (by decide) (fun cq12 => ?_) (fun cq12 => ?_)
    · have pq13 : (-1 ≤ a3 ∧ a3 ≤ ((Mq.1 23 7)).toInt) := by omega
      clear hq11 cq12 tq10
      refine g_iload_n X 2 rfl dX6_whose_24 ?_
      refine g_callS X m_X6_162 (c_X6_isYear ad Mq x2 t2) rfl (by decide) (Nat.le_of_ble_eq_true rfl) rfl dX6_whose_25 ?_
      rintro _ _ ⟨rq14, aq15, rfl, tq16, hq17, rfl⟩
      show G Γ Mq 28 [(0, .ref (ad 0)), (1, .int x1), (2, .int x2), (3, .int x3)] [.int rq14]
      refine g_if_ne X tq16 (tgt := 34) dX6_whose_28 (by decide) (fun cq18 => ?_) (fun cq18 => ?_)
      · have pq19 : (0 ≤ a2 ∧ a2 ≤ 999) := by omega
        clear hq17 cq18 tq16
        refine g_aload_n X 0 rfl dX6_whose_34 ?_
        refine g_getr X f_X6_26 dX6_whose_35 ?_
        refine g_iload_n X 2 rfl dX6_whose_38 ?_
        refine g_iload_n X 3 rfl dX6_whose_39 ?_
        refine g_callV X m_X6_204 (c_X0_openAt ad Mq x2 t2 x3 t3 Iq0 (by omega)) rfl (by decide) (Nat.le_of_ble_eq_true rfl) rfl dX6_whose_40 ?_
        rintro _ Mq24 ⟨rfl, hq23, Iq25, frq26⟩
        have frq27 : Fr W_X6_whose Mq Mq24 := frq0.trans frq26 rfl
        have trq28 : (Mq24.1 23 2).toInt = (Mq.1 23 2).toInt := congrArg Int32.toInt (frq26.at 23 2 rfl)
        have trq29 : (Mq24.1 23 7).toInt = (Mq.1 23 7).toInt := congrArg Int32.toInt (frq26.at 23 7 rfl)
        show G Γ Mq24 43 [(0, .ref (ad 0)), (1, .int x1), (2, .int x2), (3, .int x3)] []
        refine g_aload_n X 0 rfl dX6_whose_43 ?_
        refine g_getr X f_X6_26 dX6_whose_44 ?_
        refine g_iload_n X 1 rfl dX6_whose_47 ?_
        refine g_callV X m_X6_231 (c_X0_villageWithMost ad Mq24 x1 t1 Iq25) rfl (by decide) (Nat.le_of_ble_eq_true rfl) rfl dX6_whose_48 ?_
        rintro _ Mq34 ⟨rq30, aq31, rfl, tq32, hq33, Iq35, frq36⟩
        have frq37 : Fr W_X6_whose Mq Mq34 := frq27.trans frq36 rfl
        have trq38 : (Mq34.1 23 2).toInt = (Mq24.1 23 2).toInt := congrArg Int32.toInt (frq36.at 23 2 rfl)
        have trq39 : (Mq34.1 23 7).toInt = (Mq24.1 23 7).toInt := congrArg Int32.toInt (frq36.at 23 7 rfl)
        show G Γ Mq34 51 [(0, .ref (ad 0)), (1, .int x1), (2, .int x2), (3, .int x3)] [.int rq30]
        exact g_iret X dX6_whose_51 ⟨_, _, rfl, tq32, trivial, Iq35, frq37⟩
      · have pq40 : ¬ (0 ≤ a2 ∧ a2 ≤ 999) := by omega
        clear hq17 cq18 tq16
        refine g_bipush X (-2) dX6_whose_31 (by decide) ?_
        exact g_iret X dX6_whose_33 ⟨_, _, rfl, (show ((-2) : Int32).toInt = (-2) by decide), trivial, Iq0, frq0⟩
    · have pq41 : ¬ (-1 ≤ a3 ∧ a3 ≤ ((Mq.1 23 7)).toInt) := by omega
      clear hq11 cq12 tq10
      refine g_iconst X (-1) dX6_whose_22 (by decide) ?_
      exact g_iret X dX6_whose_23 ⟨_, _, rfl, (show ((-1) : Int32).toInt = (-1) by decide), trivial, Iq0, frq0⟩
abbrev W_X6_lineage : List (Nat × Nat) := [(30, 99), (31, 99)]
set_option maxHeartbeats 4000000 in
set_option maxRecDepth 4000 in
theorem c_X6_lineage (ad : Nat → Nat) (Mq : Mem) (x1 : Int32) {a1 : Int} (t1 : x1.toInt = a1) (x2 : Int32) {a2 : Int} (t2 : x2.toInt = a2) (Iq0 : Iv TX Mq) : Ctr ad yX6_lineage cX6_lineage 6 (some .int) 4 [.ref (ad 0), .int x1, .int x2] Mq (fun v M' => ∃ (r : Int32) (a : Int), v = some (.int r) ∧ r.toInt = a ∧ (True) ∧ Iv TX M' ∧ Fr W_X6_lineage Mq M') := by
  refine ctr_of (L := [(0, .ref (ad 0)), (1, .int x1), (2, .int x2)]) (by decide) (Nat.le_of_ble_eq_true rfl) rfl ?_
  intro Γ X
  have X : gX Γ cX6_lineage RX6 6 (some .int) 4 ad _ := X
  have frq0 : Fr W_X6_lineage Mq Mq := Fr.rf
  have g1_3 := ig_1_3 Iq0
  have g1_12 := ig_1_12 Iq0
  have g23_2 := ig_23_2 Iq0
  have g23_7 := ig_23_7 Iq0
  have g40_5 := ig_40_5 Iq0
  have g0_7 := ig_0_7 Iq0
  refine g_aload_n X 0 rfl dX6_lineage_0 ?_
  refine g_getr X f_X6_26 dX6_lineage_1 ?_
  refine g_iload_n X 2 rfl dX6_lineage_4 ?_
  refine g_callV X m_X6_195 (c_X0_isKnown ad Mq x2 t2) rfl (by decide) (Nat.le_of_ble_eq_true rfl) rfl dX6_lineage_5 ?_
  rintro _ _ ⟨rq1, aq2, rfl, tq3, hq4, rfl⟩
  show G Γ Mq 8 [(0, .ref (ad 0)), (1, .int x1), (2, .int x2)] [.int rq1]
  refine g_if_ne X tq3 (tgt := 13) dX6_lineage_8 (by decide) (fun cq5 => ?_) (fun cq5 => ?_)
  · have pq6 : (-1 ≤ a2 ∧ a2 ≤ ((Mq.1 23 7)).toInt) := by omega
    clear hq4 cq5 tq3
    refine g_iload_n X 1 rfl dX6_lineage_13 ?_
    refine g_callS X m_X6_162 (c_X6_isYear ad Mq x1 t1) rfl (by decide) (Nat.le_of_ble_eq_true rfl) rfl dX6_lineage_14 ?_
    rintro _ _ ⟨rq7, aq8, rfl, tq9, hq10, rfl⟩
    show G Γ Mq 17 [(0, .ref (ad 0)), (1, .int x1), (2, .int x2)] [.int rq7]
    refine g_if_ne X tq9 (tgt := 23) dX6_lineage_17 (by decide) (fun cq11 => ?_) (fun cq11 => ?_)
    · have pq12 : (0 ≤ a1 ∧ a1 ≤ 999) := by omega
      clear hq10 cq11 tq9
      refine g_aload_n X 0 rfl dX6_lineage_23 ?_
      refine g_getr X f_X6_26 dX6_lineage_24 ?_
      refine g_iload_n X 1 rfl dX6_lineage_27 ?_
      refine g_iload_n X 2 rfl dX6_lineage_28 ?_
      refine g_callV X m_X6_204 (c_X0_openAt ad Mq x1 t1 x2 t2 Iq0 (by omega)) rfl (by decide) (Nat.le_of_ble_eq_true rfl) rfl dX6_lineage_29 ?_
      rintro _ Mq17 ⟨rfl, hq16, Iq18, frq19⟩
      have frq20 : Fr W_X6_lineage Mq Mq17 := frq0.trans frq19 rfl
      have trq21 : (Mq17.1 23 2).toInt = (Mq.1 23 2).toInt := congrArg Int32.toInt (frq19.at 23 2 rfl)
      have trq22 : (Mq17.1 23 7).toInt = (Mq.1 23 7).toInt := congrArg Int32.toInt (frq19.at 23 7 rfl)
      show G Γ Mq17 32 [(0, .ref (ad 0)), (1, .int x1), (2, .int x2)] []
      refine g_iconst X 0 dX6_lineage_32 (by decide) ?_
      refine g_istore_n X (i := 3) [(3, .int 0), (0, .ref (ad 0)), (1, .int x1), (2, .int x2)] dX6_lineage_33 rfl (by decide) rfl ?_
      refine g_iconst X 0 dX6_lineage_34 (by decide) ?_
      refine g_istore X [(4, .int 0), (3, .int 0), (0, .ref (ad 0)), (1, .int x1), (2, .int x2)] dX6_lineage_35 (by decide) rfl ?_
      have lp37 : ∀ n : Nat, ∀ (y4_37 : Int32) (b4_37 : Int), y4_37.toInt = b4_37 → ∀ (y3_37 : Int32) (b3_37 : Int), y3_37.toInt = b3_37 → (0 ≤ b4_37) → ((Mq.1 23 2).toInt - b4_37).toNat < n → G Γ Mq17 37 [(4, .int y4_37), (3, .int y3_37), (0, .ref (ad 0)), (1, .int x1), (2, .int x2)] [] := by
        intro n
        induction n with
        | zero => intro y4_37 b4_37 e4_37 y3_37 b3_37 e3_37 i1 hm; exact absurd hm (Nat.not_lt_zero _)
        | succ n ih37 =>
          intro y4_37 b4_37 e4_37 y3_37 b3_37 e3_37 i1 hm37
          refine g_iload X 0 rfl dX6_lineage_37 ?_
          refine g_aload_n X 2 rfl dX6_lineage_39 ?_
          refine g_getr X f_X6_26 dX6_lineage_40 ?_
          refine g_geti X f_X6_179 dX6_lineage_43 (x := Mq17.1 23 2) rfl ?_
          have bq23 := ig_23_2 Iq18
          refine g_icmp_ge X e4_37 rfl (tgt := 87) dX6_lineage_46 (by decide) (fun cq24 => ?_) (fun cq24 => ?_)
          · refine g_iload_n X 1 rfl dX6_lineage_87 ?_
            exact g_iret X dX6_lineage_88 ⟨_, _, rfl, e3_37, trivial, Iq18, frq20⟩
          · refine g_aload_n X 2 rfl dX6_lineage_49 ?_
            refine g_getr X f_X6_26 dX6_lineage_50 ?_
            refine g_iload X 0 rfl dX6_lineage_53 ?_
            refine g_callV X m_X6_211 (c_X0_masterOf ad Mq17 y4_37 e4_37 Iq18 (by omega)) rfl (by decide) (Nat.le_of_ble_eq_true rfl) rfl dX6_lineage_55 ?_
            rintro _ _ ⟨rq25, aq26, rfl, tq27, hq28, rfl⟩
            show G Γ Mq17 58 [(4, .int y4_37), (3, .int y3_37), (0, .ref (ad 0)), (1, .int x1), (2, .int x2)] [.int rq25]
            refine g_istore X [(5, .int rq25), (4, .int y4_37), (3, .int y3_37), (0, .ref (ad 0)), (1, .int x1), (2, .int x2)] dX6_lineage_58 (by decide) rfl ?_
            refine g_iload X 0 rfl dX6_lineage_60 ?_
            refine g_bipush X (-5) dX6_lineage_62 (by decide) ?_
            refine g_icmp_eq X tq27 (show ((-5) : Int32).toInt = (-5) by decide) (tgt := 81) dX6_lineage_64 (by decide) (fun cq29 => ?_) (fun cq29 => ?_)
            · refine g_iinc X 1 (fun v => [(4, .int v), (5, .int rq25), (3, .int y3_37), (0, .ref (ad 0)), (1, .int x1), (2, .int x2)]) dX6_lineage_81 rfl (by decide) (fun _ => rfl) (fun zq30 eq31 => ?_)
              have tq32 : zq30.toInt = b4_37 + 1 := add_nw eq31 e4_37 (show (Int32.ofInt 1).toInt = 1 by decide) (by omega)
              refine g_goto X (tgt := 37) dX6_lineage_84 (by decide) ?_
              refine g_sub [0, 2, 3, 4, 5] rfl ?_
              exact ih37 zq30 _ tq32 y3_37 _ e3_37 (by omega) (by omega)
            · refine g_iload_n X 2 rfl dX6_lineage_67 ?_
              refine g_aload_n X 3 rfl dX6_lineage_68 ?_
              refine g_getr X f_X6_26 dX6_lineage_69 ?_
              refine g_iload X 1 rfl dX6_lineage_72 ?_
              refine g_iload X 0 rfl dX6_lineage_74 ?_
              refine g_callV X m_X6_208 (c_X0_changes ad Mq17 y4_37 e4_37 rq25 tq27 (by omega) (by omega)) rfl (by decide) (Nat.le_of_ble_eq_true rfl) rfl dX6_lineage_76 ?_
              rintro _ _ ⟨rq33, aq34, rfl, tq35, hq36, rfl⟩
              show G Γ Mq17 79 [(5, .int rq25), (4, .int y4_37), (3, .int y3_37), (0, .ref (ad 0)), (1, .int x1), (2, .int x2)] [.int rq33, .int y3_37]
              refine g_iadd X dX6_lineage_79 (fun zq37 eq38 => ?_)
              refine g_istore_n X (i := 3) [(3, .int zq37), (5, .int rq25), (4, .int y4_37), (0, .ref (ad 0)), (1, .int x1), (2, .int x2)] dX6_lineage_80 rfl (by decide) rfl ?_
              refine g_iinc X 2 (fun v => [(4, .int v), (3, .int zq37), (5, .int rq25), (0, .ref (ad 0)), (1, .int x1), (2, .int x2)]) dX6_lineage_81 rfl (by decide) (fun _ => rfl) (fun zq40 eq41 => ?_)
              have tq42 : zq40.toInt = b4_37 + 1 := add_nw eq41 e4_37 (show (Int32.ofInt 1).toInt = 1 by decide) (by omega)
              refine g_goto X (tgt := 37) dX6_lineage_84 (by decide) ?_
              refine g_sub [0, 1, 3, 4, 5] rfl ?_
              exact ih37 zq40 _ tq42 zq37 _ rfl (by omega) (by omega)
      refine g_sub [0, 1, 2, 3, 4] rfl ?_
      exact lp37 _ 0 _ (show (0 : Int32).toInt = 0 by decide) 0 _ (show (0 : Int32).toInt = 0 by decide) (by omega) (Nat.lt_succ_self _)
    · have pq43 : ¬ (0 ≤ a1 ∧ a1 ≤ 999) := by omega
      clear hq10 cq11 tq9
      refine g_bipush X (-2) dX6_lineage_20 (by decide) ?_
      exact g_iret X dX6_lineage_22 ⟨_, _, rfl, (show ((-2) : Int32).toInt = (-2) by decide), trivial, Iq0, frq0⟩
  · have pq44 : ¬ (-1 ≤ a2 ∧ a2 ≤ ((Mq.1 23 7)).toInt) := by omega
    clear hq4 cq5 tq3
    refine g_iconst X (-1) dX6_lineage_11 (by decide) ?_
    exact g_iret X dX6_lineage_12 ⟨_, _, rfl, (show ((-1) : Int32).toInt = (-1) by decide), trivial, Iq0, frq0⟩
abbrev W_X6_stockBehind : List (Nat × Nat) := [(30, 99)]
set_option maxHeartbeats 4000000 in
set_option maxRecDepth 4000 in
theorem c_X6_stockBehind (ad : Nat → Nat) (Mq : Mem) (x1 : Int32) {a1 : Int} (t1 : x1.toInt = a1) (x2 : Int32) {a2 : Int} (t2 : x2.toInt = a2) (Iq0 : Iv TX Mq) (h1 : 0 ≤ a1 ∧ a1 < 12) (h2 : -1 ≤ a2 ∧ a2 ≤ (Mq.1 23 7).toInt) : Ctr ad yX6_stockBehind cX6_stockBehind 3 (some .long) 2 [.ref (ad 0), .int x1, .int x2] Mq (fun v M' => ∃ (r : Int64) (a : Int), v = some (.long r) ∧ r.toInt = a ∧ (True) ∧ Iv TX M' ∧ Fr W_X6_stockBehind Mq M') := by
  refine ctr_of (L := [(0, .ref (ad 0)), (1, .int x1), (2, .int x2)]) (by decide) (Nat.le_of_ble_eq_true rfl) rfl ?_
  intro Γ X
  have X : gX Γ cX6_stockBehind RX6 3 (some .long) 2 ad _ := X
  have frq0 : Fr W_X6_stockBehind Mq Mq := Fr.rf
  have g1_3 := ig_1_3 Iq0
  have g1_12 := ig_1_12 Iq0
  have g23_2 := ig_23_2 Iq0
  have g23_7 := ig_23_7 Iq0
  have g40_5 := ig_40_5 Iq0
  have g0_7 := ig_0_7 Iq0
  refine g_aload_n X 0 rfl dX6_stockBehind_0 ?_
  refine g_getr X f_X6_26 dX6_stockBehind_1 ?_
  refine g_aload_n X 0 rfl dX6_stockBehind_4 ?_
  refine g_getr X f_X6_49 dX6_stockBehind_5 ?_
  refine g_getr X f_X6_286 dX6_stockBehind_8 ?_
  refine g_iload_n X 1 rfl dX6_stockBehind_11 ?_
  refine g_iald X la_41 t1 dX6_stockBehind_12 (by omega) (x := Mq.1 41 a1.toNat) rfl ?_
  refine g_aload_n X 0 rfl dX6_stockBehind_13 ?_
  refine g_getr X f_X6_49 dX6_stockBehind_14 ?_
  refine g_getr X f_X6_289 dX6_stockBehind_17 ?_
  refine g_iload_n X 1 rfl dX6_stockBehind_20 ?_
  refine g_iald X la_43 t1 dX6_stockBehind_21 (by omega) (x := Mq.1 43 a1.toNat) rfl ?_
  refine g_iload_n X 2 rfl dX6_stockBehind_22 ?_
  refine g_callV X m_X6_165 (c_X0_stockOf ad Mq (Mq.1 41 a1.toNat) rfl (Mq.1 43 a1.toNat) rfl x2 t2 Iq0 (by omega)) rfl (by decide) (Nat.le_of_ble_eq_true rfl) rfl dX6_stockBehind_23 ?_
  rintro _ Mq5 ⟨rq1, aq2, rfl, tq3, hq4, Iq6, frq7⟩
  have frq8 : Fr W_X6_stockBehind Mq Mq5 := frq0.trans frq7 rfl
  have trq9 : (Mq5.1 23 2).toInt = (Mq.1 23 2).toInt := congrArg Int32.toInt (frq7.at 23 2 rfl)
  have trq10 : (Mq5.1 23 7).toInt = (Mq.1 23 7).toInt := congrArg Int32.toInt (frq7.at 23 7 rfl)
  show G Γ Mq5 26 [(0, .ref (ad 0)), (1, .int x1), (2, .int x2)] [.long rq1]
  exact g_lret X dX6_stockBehind_26 ⟨_, _, rfl, tq3, trivial, Iq6, frq8⟩
abbrev W_X6_takeRecording : List (Nat × Nat) := [(30, 99), (37, 4), (37, 5), (39, 99)]
set_option maxHeartbeats 4000000 in
set_option maxRecDepth 4000 in
theorem c_X6_takeRecording (ad : Nat → Nat) (Mq : Mem) (x1 : Int32) {a1 : Int} (t1 : x1.toInt = a1) (x2 : Int32) {a2 : Int} (t2 : x2.toInt = a2) (Iq0 : Iv TX Mq) (h1 : 0 ≤ a1 ∧ a1 < 12) (h2 : -1 ≤ a2 ∧ a2 ≤ (Mq.1 23 7).toInt) : Ctr ad yX6_takeRecording cX6_takeRecording 3 none 3 [.ref (ad 0), .int x1, .int x2] Mq (fun v M' => v = none ∧ (True) ∧ Iv TX M' ∧ Fr W_X6_takeRecording Mq M') := by
  refine ctr_of (L := [(0, .ref (ad 0)), (1, .int x1), (2, .int x2)]) (by decide) (Nat.le_of_ble_eq_true rfl) rfl ?_
  intro Γ X
  have X : gX Γ cX6_takeRecording RX6 3 none 3 ad _ := X
  have frq0 : Fr W_X6_takeRecording Mq Mq := Fr.rf
  have g1_3 := ig_1_3 Iq0
  have g1_12 := ig_1_12 Iq0
  have g23_2 := ig_23_2 Iq0
  have g23_7 := ig_23_7 Iq0
  have g40_5 := ig_40_5 Iq0
  have g0_7 := ig_0_7 Iq0
  refine g_aload_n X 0 rfl dX6_takeRecording_0 ?_
  refine g_getr X f_X6_42 dX6_takeRecording_1 ?_
  refine g_aload_n X 0 rfl dX6_takeRecording_4 ?_
  refine g_getr X f_X6_49 dX6_takeRecording_5 ?_
  refine g_getr X f_X6_292 dX6_takeRecording_8 ?_
  refine g_iload_n X 1 rfl dX6_takeRecording_11 ?_
  refine g_bipush X 24 dX6_takeRecording_12 (by decide) ?_
  refine g_imul X dX6_takeRecording_14 (fun zq1 eq2 => ?_)
  have tq3 : zq1.toInt = a1 * 24 := mul_nw eq2 t1 (show (24 : Int32).toInt = 24 by decide) (by omega)
  refine g_aload_n X 0 rfl dX6_takeRecording_15 ?_
  refine g_getr X f_X6_49 dX6_takeRecording_16 ?_
  refine g_getr X f_X6_271 dX6_takeRecording_19 ?_
  refine g_iload_n X 1 rfl dX6_takeRecording_22 ?_
  refine g_iald X la_44 t1 dX6_takeRecording_23 (by omega) (x := Mq.1 44 a1.toNat) rfl ?_
  have bq4 := ig_44 Iq0 a1.toNat (by omega)
  refine g_aload_n X 0 rfl dX6_takeRecording_24 ?_
  refine g_iload_n X 1 rfl dX6_takeRecording_25 ?_
  refine g_iload_n X 2 rfl dX6_takeRecording_26 ?_
  refine g_callV X m_X6_260 (c_X6_stockBehind ad Mq x1 t1 x2 t2 Iq0 (by omega) (by omega)) rfl (by decide) (Nat.le_of_ble_eq_true rfl) rfl dX6_takeRecording_27 ?_
  rintro _ Mq9 ⟨rq5, aq6, rfl, tq7, hq8, Iq10, frq11⟩
  have frq12 : Fr W_X6_takeRecording Mq Mq9 := frq0.trans frq11 rfl
  have trq13 : (Mq9.1 23 2).toInt = (Mq.1 23 2).toInt := congrArg Int32.toInt (frq11.at 23 2 rfl)
  have trq14 : (Mq9.1 23 7).toInt = (Mq.1 23 7).toInt := congrArg Int32.toInt (frq11.at 23 7 rfl)
  show G Γ Mq9 30 [(0, .ref (ad 0)), (1, .int x1), (2, .int x2)] [.long rq5, .int (Mq.1 44 a1.toNat), .int zq1, .ref (ad 45), .ref (ad 37)]
  refine g_callV X m_X6_234 (c_X1_take_45 ad Mq9 zq1 tq3 (Mq.1 44 a1.toNat) rfl rq5 tq7 Iq10 (by omega) (by omega)) rfl (by decide) (Nat.le_of_ble_eq_true rfl) rfl dX6_takeRecording_30 ?_
  rintro _ Mq19 ⟨rfl, hq18, Iq20, frq21⟩
  have frq22 : Fr W_X6_takeRecording Mq Mq19 := frq12.trans frq21 rfl
  have trq23 : (Mq19.1 23 2).toInt = (Mq9.1 23 2).toInt := congrArg Int32.toInt (frq21.at 23 2 rfl)
  have trq24 : (Mq19.1 23 7).toInt = (Mq9.1 23 7).toInt := congrArg Int32.toInt (frq21.at 23 7 rfl)
  show G Γ Mq19 33 [(0, .ref (ad 0)), (1, .int x1), (2, .int x2)] []
  exact g_vret X dX6_takeRecording_33 ⟨rfl, trivial, Iq20, frq22⟩
abbrev W_X6_runs : List (Nat × Nat) := [(30, 99), (37, 4), (37, 5), (39, 99), (37, 6), (38, 99)]
set_option maxHeartbeats 4000000 in
set_option maxRecDepth 4000 in
theorem c_X6_runs (ad : Nat → Nat) (Mq : Mem) (x1 : Int32) {a1 : Int} (t1 : x1.toInt = a1) (x2 : Int32) {a2 : Int} (t2 : x2.toInt = a2) (x3 : Int32) {a3 : Int} (t3 : x3.toInt = a3) (x4 : Int32) {a4 : Int} (t4 : x4.toInt = a4) (Iq0 : Iv TX Mq) : Ctr ad yX6_runs cX6_runs 5 (some .int) 6 [.ref (ad 0), .int x1, .int x2, .int x3, .int x4] Mq (fun v M' => ∃ (r : Int32) (a : Int), v = some (.int r) ∧ r.toInt = a ∧ (True) ∧ Iv TX M' ∧ Fr W_X6_runs Mq M') := by
  refine ctr_of (L := [(0, .ref (ad 0)), (1, .int x1), (2, .int x2), (3, .int x3), (4, .int x4)]) (by decide) (Nat.le_of_ble_eq_true rfl) rfl ?_
  intro Γ X
  have X : gX Γ cX6_runs RX6 5 (some .int) 6 ad _ := X
  have frq0 : Fr W_X6_runs Mq Mq := Fr.rf
  have g1_3 := ig_1_3 Iq0
  have g1_12 := ig_1_12 Iq0
  have g23_2 := ig_23_2 Iq0
  have g23_7 := ig_23_7 Iq0
  have g40_5 := ig_40_5 Iq0
  have g0_7 := ig_0_7 Iq0
  refine g_aload_n X 0 rfl dX6_runs_0 ?_
  refine g_getr X f_X6_19 dX6_runs_1 ?_
  refine g_iload_n X 1 rfl dX6_runs_4 ?_
  refine g_callV X m_X6_156 (c_X2_isTold ad Mq x1 t1) rfl (by decide) (Nat.le_of_ble_eq_true rfl) rfl dX6_runs_5 ?_
  rintro _ _ ⟨rq1, aq2, rfl, tq3, hq4, rfl⟩
  show G Γ Mq 8 [(0, .ref (ad 0)), (1, .int x1), (2, .int x2), (3, .int x3), (4, .int x4)] [.int rq1]
  refine g_if_eq X tq3 (tgt := 34) dX6_runs_8 (by decide) (fun cq5 => ?_) (fun cq5 => ?_)
  · have pq6 : ¬ (0 ≤ a1 ∧ a1 < 8 ∧ 0 < (Mq.1 20 a1.toNat).toInt) := by omega
    clear hq4 cq5 tq3
    refine g_iconst X (-1) dX6_runs_34 (by decide) ?_
    exact g_iret X dX6_runs_35 ⟨_, _, rfl, (show ((-1) : Int32).toInt = (-1) by decide), trivial, Iq0, frq0⟩
  · have pq7 : (0 ≤ a1 ∧ a1 < 8 ∧ 0 < (Mq.1 20 a1.toNat).toInt) := by omega
    clear hq4 cq5 tq3
    refine g_aload_n X 0 rfl dX6_runs_11 ?_
    refine g_getr X f_X6_26 dX6_runs_12 ?_
    refine g_iload_n X 2 rfl dX6_runs_15 ?_
    refine g_callV X m_X6_159 (c_X0_isSinger ad Mq x2 t2) rfl (by decide) (Nat.le_of_ble_eq_true rfl) rfl dX6_runs_16 ?_
    rintro _ _ ⟨rq8, aq9, rfl, tq10, hq11, rfl⟩
    show G Γ Mq 19 [(0, .ref (ad 0)), (1, .int x1), (2, .int x2), (3, .int x3), (4, .int x4)] [.int rq8]
    refine g_if_eq X tq10 (tgt := 34) dX6_runs_19 (by decide) (fun cq12 => ?_) (fun cq12 => ?_)
    · have pq13 : ¬ (0 ≤ a2 ∧ a2 < ((Mq.1 23 2)).toInt) := by omega
      clear hq11 cq12 tq10
      refine g_iconst X (-1) dX6_runs_34 (by decide) ?_
      exact g_iret X dX6_runs_35 ⟨_, _, rfl, (show ((-1) : Int32).toInt = (-1) by decide), trivial, Iq0, frq0⟩
    · have pq14 : (0 ≤ a2 ∧ a2 < ((Mq.1 23 2)).toInt) := by omega
      clear hq11 cq12 tq10
      refine g_aload_n X 0 rfl dX6_runs_22 ?_
      refine g_getr X f_X6_26 dX6_runs_23 ?_
      refine g_iload X 4 rfl dX6_runs_26 ?_
      refine g_callV X m_X6_195 (c_X0_isKnown ad Mq x4 t4) rfl (by decide) (Nat.le_of_ble_eq_true rfl) rfl dX6_runs_28 ?_
      rintro _ _ ⟨rq15, aq16, rfl, tq17, hq18, rfl⟩
      show G Γ Mq 31 [(0, .ref (ad 0)), (1, .int x1), (2, .int x2), (3, .int x3), (4, .int x4)] [.int rq15]
      refine g_if_ne X tq17 (tgt := 36) dX6_runs_31 (by decide) (fun cq19 => ?_) (fun cq19 => ?_)
      · have pq20 : (-1 ≤ a4 ∧ a4 ≤ ((Mq.1 23 7)).toInt) := by omega
        clear hq18 cq19 tq17
        refine g_iload_n X 3 rfl dX6_runs_36 ?_
        refine g_callS X m_X6_162 (c_X6_isYear ad Mq x3 t3) rfl (by decide) (Nat.le_of_ble_eq_true rfl) rfl dX6_runs_37 ?_
        rintro _ _ ⟨rq21, aq22, rfl, tq23, hq24, rfl⟩
        show G Γ Mq 40 [(0, .ref (ad 0)), (1, .int x1), (2, .int x2), (3, .int x3), (4, .int x4)] [.int rq21]
        refine g_if_ne X tq23 (tgt := 46) dX6_runs_40 (by decide) (fun cq25 => ?_) (fun cq25 => ?_)
        · have pq26 : (0 ≤ a3 ∧ a3 ≤ 999) := by omega
          clear hq24 cq25 tq23
          refine g_aload_n X 0 rfl dX6_runs_46 ?_
          refine g_geti X f_X6_57 dX6_runs_47 (x := Mq.1 0 7) rfl ?_
          have bq27 := ig_0_7 Iq0
          refine g_if_ne X rfl (tgt := 56) dX6_runs_50 (by decide) (fun cq28 => ?_) (fun cq28 => ?_)
          · refine g_aload_n X 0 rfl dX6_runs_56 ?_
            refine g_getr X f_X6_42 dX6_runs_57 ?_
            refine g_aload_n X 0 rfl dX6_runs_60 ?_
            refine g_getr X f_X6_53 dX6_runs_61 ?_
            refine g_iconst X 0 dX6_runs_64 (by decide) ?_
            refine g_aload_n X 0 rfl dX6_runs_65 ?_
            refine g_geti X f_X6_57 dX6_runs_66 (x := Mq.1 0 7) rfl ?_
            have bq29 := ig_0_7 Iq0
            refine g_aload_n X 0 rfl dX6_runs_69 ?_
            refine g_getr X f_X6_26 dX6_runs_70 ?_
            refine g_iload_n X 2 rfl dX6_runs_73 ?_
            refine g_iload_n X 3 rfl dX6_runs_74 ?_
            refine g_iload X 4 rfl dX6_runs_75 ?_
            refine g_callV X m_X6_165 (c_X0_stockOf ad Mq x2 t2 x3 t3 x4 t4 Iq0 (by omega)) rfl (by decide) (Nat.le_of_ble_eq_true rfl) rfl dX6_runs_77 ?_
            rintro _ Mq34 ⟨rq30, aq31, rfl, tq32, hq33, Iq35, frq36⟩
            have frq37 : Fr W_X6_runs Mq Mq34 := frq0.trans frq36 rfl
            have trq38 : (Mq34.1 23 2).toInt = (Mq.1 23 2).toInt := congrArg Int32.toInt (frq36.at 23 2 rfl)
            have trq39 : (Mq34.1 23 7).toInt = (Mq.1 23 7).toInt := congrArg Int32.toInt (frq36.at 23 7 rfl)
            show G Γ Mq34 80 [(0, .ref (ad 0)), (1, .int x1), (2, .int x2), (3, .int x3), (4, .int x4)] [.long rq30, .int (Mq.1 0 7), .int 0, .ref (ad 46), .ref (ad 37)]
            refine g_callV X m_X6_234 (c_X1_take_46 ad Mq34 0 (show (0 : Int32).toInt = 0 by decide) (Mq.1 0 7) rfl rq30 tq32 Iq35 (by omega) (by omega)) rfl (by decide) (Nat.le_of_ble_eq_true rfl) rfl dX6_runs_80 ?_
            rintro _ Mq44 ⟨rfl, hq43, Iq45, frq46⟩
            have frq47 : Fr W_X6_runs Mq Mq44 := frq37.trans frq46 rfl
            have trq48 : (Mq44.1 23 2).toInt = (Mq34.1 23 2).toInt := congrArg Int32.toInt (frq46.at 23 2 rfl)
            have trq49 : (Mq44.1 23 7).toInt = (Mq34.1 23 7).toInt := congrArg Int32.toInt (frq46.at 23 7 rfl)
            show G Γ Mq44 83 [(0, .ref (ad 0)), (1, .int x1), (2, .int x2), (3, .int x3), (4, .int x4)] []
            refine g_aload_n X 0 rfl dX6_runs_83 ?_
            refine g_getr X f_X6_42 dX6_runs_84 ?_
            refine g_iload_n X 1 rfl dX6_runs_87 ?_
            refine g_callV X m_X6_238 (c_X1_ways ad Mq44 x1 t1 Iq45 (by omega)) rfl (by decide) (Nat.le_of_ble_eq_true rfl) rfl dX6_runs_88 ?_
            rintro _ Mq54 ⟨rq50, aq51, rfl, tq52, hq53, Iq55, frq56⟩
            have frq57 : Fr W_X6_runs Mq Mq54 := frq47.trans frq56 rfl
            have trq58 : (Mq54.1 23 2).toInt = (Mq44.1 23 2).toInt := congrArg Int32.toInt (frq56.at 23 2 rfl)
            have trq59 : (Mq54.1 23 7).toInt = (Mq44.1 23 7).toInt := congrArg Int32.toInt (frq56.at 23 7 rfl)
            show G Γ Mq54 91 [(0, .ref (ad 0)), (1, .int x1), (2, .int x2), (3, .int x3), (4, .int x4)] [.int rq50]
            exact g_iret X dX6_runs_91 ⟨_, _, rfl, tq52, trivial, Iq55, frq57⟩
          · refine g_bipush X (-3) dX6_runs_53 (by decide) ?_
            exact g_iret X dX6_runs_55 ⟨_, _, rfl, (show ((-3) : Int32).toInt = (-3) by decide), trivial, Iq0, frq0⟩
        · have pq60 : ¬ (0 ≤ a3 ∧ a3 ≤ 999) := by omega
          clear hq24 cq25 tq23
          refine g_bipush X (-2) dX6_runs_43 (by decide) ?_
          exact g_iret X dX6_runs_45 ⟨_, _, rfl, (show ((-2) : Int32).toInt = (-2) by decide), trivial, Iq0, frq0⟩
      · have pq61 : ¬ (-1 ≤ a4 ∧ a4 ≤ ((Mq.1 23 7)).toInt) := by omega
        clear hq18 cq19 tq17
        refine g_iconst X (-1) dX6_runs_34 (by decide) ?_
        exact g_iret X dX6_runs_35 ⟨_, _, rfl, (show ((-1) : Int32).toInt = (-1) by decide), trivial, Iq0, frq0⟩
abbrev W_X6_forged : List (Nat × Nat) := [(30, 99), (31, 99)]
set_option maxHeartbeats 4000000 in
set_option maxRecDepth 4000 in
theorem c_X6_forged (ad : Nat → Nat) (Mq : Mem) (x1 : Int32) {a1 : Int} (t1 : x1.toInt = a1) (x2 : Int32) {a2 : Int} (t2 : x2.toInt = a2) (x3 : Int32) {a3 : Int} (t3 : x3.toInt = a3) (Iq0 : Iv TX Mq) : Ctr ad yX6_forged cX6_forged 7 (some .int) 6 [.ref (ad 0), .int x1, .int x2, .int x3] Mq (fun v M' => ∃ (r : Int32) (a : Int), v = some (.int r) ∧ r.toInt = a ∧ (True) ∧ Iv TX M' ∧ Fr W_X6_forged Mq M') := by
  refine ctr_of (L := [(0, .ref (ad 0)), (1, .int x1), (2, .int x2), (3, .int x3)]) (by decide) (Nat.le_of_ble_eq_true rfl) rfl ?_
  intro Γ X
  have X : gX Γ cX6_forged RX6 7 (some .int) 6 ad _ := X
  have frq0 : Fr W_X6_forged Mq Mq := Fr.rf
  have g1_3 := ig_1_3 Iq0
  have g1_12 := ig_1_12 Iq0
  have g23_2 := ig_23_2 Iq0
  have g23_7 := ig_23_7 Iq0
  have g40_5 := ig_40_5 Iq0
  have g0_7 := ig_0_7 Iq0
  refine g_aload_n X 0 rfl dX6_forged_0 ?_
  refine g_getr X f_X6_26 dX6_forged_1 ?_
  refine g_iload_n X 1 rfl dX6_forged_4 ?_
  refine g_callV X m_X6_159 (c_X0_isSinger ad Mq x1 t1) rfl (by decide) (Nat.le_of_ble_eq_true rfl) rfl dX6_forged_5 ?_
  rintro _ _ ⟨rq1, aq2, rfl, tq3, hq4, rfl⟩
  show G Γ Mq 8 [(0, .ref (ad 0)), (1, .int x1), (2, .int x2), (3, .int x3)] [.int rq1]
  refine g_if_eq X tq3 (tgt := 22) dX6_forged_8 (by decide) (fun cq5 => ?_) (fun cq5 => ?_)
  · have pq6 : ¬ (0 ≤ a1 ∧ a1 < ((Mq.1 23 2)).toInt) := by omega
    clear hq4 cq5 tq3
    refine g_iconst X (-1) dX6_forged_22 (by decide) ?_
    exact g_iret X dX6_forged_23 ⟨_, _, rfl, (show ((-1) : Int32).toInt = (-1) by decide), trivial, Iq0, frq0⟩
  · have pq7 : (0 ≤ a1 ∧ a1 < ((Mq.1 23 2)).toInt) := by omega
    clear hq4 cq5 tq3
    refine g_aload_n X 0 rfl dX6_forged_11 ?_
    refine g_getr X f_X6_26 dX6_forged_12 ?_
    refine g_iload_n X 3 rfl dX6_forged_15 ?_
    refine g_callV X m_X6_195 (c_X0_isKnown ad Mq x3 t3) rfl (by decide) (Nat.le_of_ble_eq_true rfl) rfl dX6_forged_16 ?_
    rintro _ _ ⟨rq8, aq9, rfl, tq10, hq11, rfl⟩
    show G Γ Mq 19 [(0, .ref (ad 0)), (1, .int x1), (2, .int x2), (3, .int x3)] [.int rq8]
    refine g_if_ne X tq10 (tgt := 24) dX6_forged_19 (by decide) (fun cq12 => ?_) (fun cq12 => ?_)
    · have pq13 : (-1 ≤ a3 ∧ a3 ≤ ((Mq.1 23 7)).toInt) := by omega
      clear hq11 cq12 tq10
      refine g_iload_n X 2 rfl dX6_forged_24 ?_
      refine g_callS X m_X6_162 (c_X6_isYear ad Mq x2 t2) rfl (by decide) (Nat.le_of_ble_eq_true rfl) rfl dX6_forged_25 ?_
      rintro _ _ ⟨rq14, aq15, rfl, tq16, hq17, rfl⟩
      show G Γ Mq 28 [(0, .ref (ad 0)), (1, .int x1), (2, .int x2), (3, .int x3)] [.int rq14]
      refine g_if_ne X tq16 (tgt := 34) dX6_forged_28 (by decide) (fun cq18 => ?_) (fun cq18 => ?_)
      · have pq19 : (0 ≤ a2 ∧ a2 ≤ 999) := by omega
        clear hq17 cq18 tq16
        refine g_aload_n X 0 rfl dX6_forged_34 ?_
        refine g_geti X f_X6_57 dX6_forged_35 (x := Mq.1 0 7) rfl ?_
        have bq20 := ig_0_7 Iq0
        refine g_if_ne X rfl (tgt := 44) dX6_forged_38 (by decide) (fun cq21 => ?_) (fun cq21 => ?_)
        · refine g_aload_n X 0 rfl dX6_forged_44 ?_
          refine g_getr X f_X6_26 dX6_forged_45 ?_
          refine g_iload_n X 2 rfl dX6_forged_48 ?_
          refine g_iload_n X 3 rfl dX6_forged_49 ?_
          refine g_callV X m_X6_204 (c_X0_openAt ad Mq x2 t2 x3 t3 Iq0 (by omega)) rfl (by decide) (Nat.le_of_ble_eq_true rfl) rfl dX6_forged_50 ?_
          rintro _ Mq26 ⟨rfl, hq25, Iq27, frq28⟩
          have frq29 : Fr W_X6_forged Mq Mq26 := frq0.trans frq28 rfl
          have trq30 : (Mq26.1 23 2).toInt = (Mq.1 23 2).toInt := congrArg Int32.toInt (frq28.at 23 2 rfl)
          have trq31 : (Mq26.1 23 7).toInt = (Mq.1 23 7).toInt := congrArg Int32.toInt (frq28.at 23 7 rfl)
          show G Γ Mq26 53 [(0, .ref (ad 0)), (1, .int x1), (2, .int x2), (3, .int x3)] []
          refine g_aload_n X 0 rfl dX6_forged_53 ?_
          refine g_getr X f_X6_26 dX6_forged_54 ?_
          refine g_iload_n X 1 rfl dX6_forged_57 ?_
          refine g_callV X m_X6_241 (c_X0_stockAround ad Mq26 x1 t1 Iq27 (by omega)) rfl (by decide) (Nat.le_of_ble_eq_true rfl) rfl dX6_forged_58 ?_
          rintro _ _ ⟨rq32, aq33, rfl, tq34, hq35, rfl⟩
          show G Γ Mq26 61 [(0, .ref (ad 0)), (1, .int x1), (2, .int x2), (3, .int x3)] [.long rq32]
          refine g_lstore X [(4, .long rq32), (0, .ref (ad 0)), (1, .int x1), (2, .int x2), (3, .int x3)] dX6_forged_61 (by decide) rfl ?_
          refine g_iconst X 0 dX6_forged_63 (by decide) ?_
          refine g_istore X [(6, .int 0), (4, .long rq32), (0, .ref (ad 0)), (1, .int x1), (2, .int x2), (3, .int x3)] dX6_forged_64 (by decide) rfl ?_
          have lp66 : ∀ n : Nat, ∀ (y6_66 : Int32) (b6_66 : Int), y6_66.toInt = b6_66 → (0 ≤ b6_66) → ((Mq.1 0 7).toInt - b6_66).toNat < n → G Γ Mq26 66 [(6, .int y6_66), (4, .long rq32), (0, .ref (ad 0)), (1, .int x1), (2, .int x2), (3, .int x3)] [] := by
            intro n
            induction n with
            | zero => intro y6_66 b6_66 e6_66 i1 hm; exact absurd hm (Nat.not_lt_zero _)
            | succ n ih66 =>
              intro y6_66 b6_66 e6_66 i1 hm66
              have q07 : (Mq26.1 0 7).toInt = (Mq.1 0 7).toInt := congrArg Int32.toInt (frq29.at 0 7 rfl)
              refine g_iload X 0 rfl dX6_forged_66 ?_
              refine g_aload_n X 2 rfl dX6_forged_68 ?_
              refine g_geti X f_X6_57 dX6_forged_69 (x := Mq26.1 0 7) rfl ?_
              have bq36 := ig_0_7 Iq27
              refine g_icmp_ge X e6_66 rfl (tgt := 111) dX6_forged_72 (by decide) (fun cq37 => ?_) (fun cq37 => ?_)
              · refine g_bipush X (-5) dX6_forged_111 (by decide) ?_
                exact g_iret X dX6_forged_113 ⟨_, _, rfl, (show ((-5) : Int32).toInt = (-5) by decide), trivial, Iq27, frq29⟩
              · refine g_aload_n X 2 rfl dX6_forged_75 ?_
                refine g_getr X f_X6_53 dX6_forged_76 ?_
                refine g_iload X 0 rfl dX6_forged_79 ?_
                refine g_iald X la_46 e6_66 dX6_forged_81 (by omega) (x := Mq26.1 46 b6_66.toNat) rfl ?_
                refine g_bipush X 40 dX6_forged_82 (by decide) ?_
                refine g_icmp_eq X rfl (show (40 : Int32).toInt = 40 by decide) (tgt := 105) dX6_forged_84 (by decide) (fun cq38 => ?_) (fun cq38 => ?_)
                · refine g_iinc X 0 (fun v => [(6, .int v), (4, .long rq32), (0, .ref (ad 0)), (1, .int x1), (2, .int x2), (3, .int x3)]) dX6_forged_105 rfl (by decide) (fun _ => rfl) (fun zq39 eq40 => ?_)
                  have tq41 : zq39.toInt = b6_66 + 1 := add_nw eq40 e6_66 (show (Int32.ofInt 1).toInt = 1 by decide) (by omega)
                  refine g_goto X (tgt := 66) dX6_forged_108 (by decide) ?_
                  refine g_sub [0, 1, 2, 3, 4, 5] rfl ?_
                  exact ih66 zq39 _ tq41 (by omega) (by omega)
                · refine g_lload X 1 rfl dX6_forged_87 ?_
                  refine g_aload_n X 2 rfl dX6_forged_89 ?_
                  refine g_getr X f_X6_53 dX6_forged_90 ?_
                  refine g_iload X 0 rfl dX6_forged_93 ?_
                  refine g_iald X la_46 e6_66 dX6_forged_95 (by omega) (x := Mq26.1 46 b6_66.toNat) rfl ?_
                  refine g_callS X m_X6_115 (c_X6_bit ad Mq26 rq32 tq34 (Mq26.1 46 b6_66.toNat) rfl) rfl (by decide) (Nat.le_of_ble_eq_true rfl) rfl dX6_forged_96 ?_
                  rintro _ _ ⟨rq42, aq43, rfl, tq44, hq45, rfl⟩
                  show G Γ Mq26 99 [(6, .int y6_66), (4, .long rq32), (0, .ref (ad 0)), (1, .int x1), (2, .int x2), (3, .int x3)] [.int rq42]
                  refine g_if_ne X tq44 (tgt := 105) dX6_forged_99 (by decide) (fun cq46 => ?_) (fun cq46 => ?_)
                  · refine g_iinc X 0 (fun v => [(6, .int v), (4, .long rq32), (0, .ref (ad 0)), (1, .int x1), (2, .int x2), (3, .int x3)]) dX6_forged_105 rfl (by decide) (fun _ => rfl) (fun zq47 eq48 => ?_)
                    have tq49 : zq47.toInt = b6_66 + 1 := add_nw eq48 e6_66 (show (Int32.ofInt 1).toInt = 1 by decide) (by omega)
                    refine g_goto X (tgt := 66) dX6_forged_108 (by decide) ?_
                    refine g_sub [0, 1, 2, 3, 4, 5] rfl ?_
                    exact ih66 zq47 _ tq49 (by omega) (by omega)
                  · refine g_iload X 0 rfl dX6_forged_102 ?_
                    exact g_iret X dX6_forged_104 ⟨_, _, rfl, e6_66, trivial, Iq27, frq29⟩
          refine g_sub [0, 1, 2, 3, 4, 5] rfl ?_
          exact lp66 _ 0 _ (show (0 : Int32).toInt = 0 by decide) (by omega) (Nat.lt_succ_self _)
        · refine g_bipush X (-3) dX6_forged_41 (by decide) ?_
          exact g_iret X dX6_forged_43 ⟨_, _, rfl, (show ((-3) : Int32).toInt = (-3) by decide), trivial, Iq0, frq0⟩
      · have pq50 : ¬ (0 ≤ a2 ∧ a2 ≤ 999) := by omega
        clear hq17 cq18 tq16
        refine g_bipush X (-2) dX6_forged_31 (by decide) ?_
        exact g_iret X dX6_forged_33 ⟨_, _, rfl, (show ((-2) : Int32).toInt = (-2) by decide), trivial, Iq0, frq0⟩
    · have pq51 : ¬ (-1 ≤ a3 ∧ a3 ≤ ((Mq.1 23 7)).toInt) := by omega
      clear hq11 cq12 tq10
      refine g_iconst X (-1) dX6_forged_22 (by decide) ?_
      exact g_iret X dX6_forged_23 ⟨_, _, rfl, (show ((-1) : Int32).toInt = (-1) by decide), trivial, Iq0, frq0⟩
abbrev W_X6_record : List (Nat × Nat) := [(40, 5), (41, 99), (42, 99), (43, 99), (44, 99), (45, 99)]
set_option maxHeartbeats 4000000 in
set_option maxRecDepth 4000 in
theorem c_X6_record (ad : Nat → Nat) (Mq : Mem) (x1 : Int32) {a1 : Int} (t1 : x1.toInt = a1) (x2 : Int32) {a2 : Int} (t2 : x2.toInt = a2) (x3 : Int32) {a3 : Int} (t3 : x3.toInt = a3) (Iq0 : Iv TX Mq) : Ctr ad yX6_record cX6_record 4 (some .int) 2 [.ref (ad 0), .int x1, .int x2, .int x3] Mq (fun v M' => ∃ (r : Int32) (a : Int), v = some (.int r) ∧ r.toInt = a ∧ (True) ∧ Iv TX M' ∧ Fr W_X6_record Mq M') := by
  refine ctr_of (L := [(0, .ref (ad 0)), (1, .int x1), (2, .int x2), (3, .int x3)]) (by decide) (Nat.le_of_ble_eq_true rfl) rfl ?_
  intro Γ X
  have X : gX Γ cX6_record RX6 4 (some .int) 2 ad _ := X
  have frq0 : Fr W_X6_record Mq Mq := Fr.rf
  have g1_3 := ig_1_3 Iq0
  have g1_12 := ig_1_12 Iq0
  have g23_2 := ig_23_2 Iq0
  have g23_7 := ig_23_7 Iq0
  have g40_5 := ig_40_5 Iq0
  have g0_7 := ig_0_7 Iq0
  refine g_aload_n X 0 rfl dX6_record_0 ?_
  refine g_getr X f_X6_26 dX6_record_1 ?_
  refine g_iload_n X 1 rfl dX6_record_4 ?_
  refine g_callV X m_X6_159 (c_X0_isSinger ad Mq x1 t1) rfl (by decide) (Nat.le_of_ble_eq_true rfl) rfl dX6_record_5 ?_
  rintro _ _ ⟨rq1, aq2, rfl, tq3, hq4, rfl⟩
  show G Γ Mq 8 [(0, .ref (ad 0)), (1, .int x1), (2, .int x2), (3, .int x3)] [.int rq1]
  refine g_if_eq X tq3 (tgt := 22) dX6_record_8 (by decide) (fun cq5 => ?_) (fun cq5 => ?_)
  · have pq6 : ¬ (0 ≤ a1 ∧ a1 < ((Mq.1 23 2)).toInt) := by omega
    clear hq4 cq5 tq3
    refine g_iconst X (-1) dX6_record_22 (by decide) ?_
    exact g_iret X dX6_record_23 ⟨_, _, rfl, (show ((-1) : Int32).toInt = (-1) by decide), trivial, Iq0, frq0⟩
  · have pq7 : (0 ≤ a1 ∧ a1 < ((Mq.1 23 2)).toInt) := by omega
    clear hq4 cq5 tq3
    refine g_aload_n X 0 rfl dX6_record_11 ?_
    refine g_getr X f_X6_19 dX6_record_12 ?_
    refine g_iload_n X 2 rfl dX6_record_15 ?_
    refine g_callV X m_X6_156 (c_X2_isTold ad Mq x2 t2) rfl (by decide) (Nat.le_of_ble_eq_true rfl) rfl dX6_record_16 ?_
    rintro _ _ ⟨rq8, aq9, rfl, tq10, hq11, rfl⟩
    show G Γ Mq 19 [(0, .ref (ad 0)), (1, .int x1), (2, .int x2), (3, .int x3)] [.int rq8]
    refine g_if_ne X tq10 (tgt := 24) dX6_record_19 (by decide) (fun cq12 => ?_) (fun cq12 => ?_)
    · have pq13 : (0 ≤ a2 ∧ a2 < 8 ∧ 0 < (Mq.1 20 a2.toNat).toInt) := by omega
      clear hq11 cq12 tq10
      refine g_iload_n X 3 rfl dX6_record_24 ?_
      refine g_callS X m_X6_162 (c_X6_isYear ad Mq x3 t3) rfl (by decide) (Nat.le_of_ble_eq_true rfl) rfl dX6_record_25 ?_
      rintro _ _ ⟨rq14, aq15, rfl, tq16, hq17, rfl⟩
      show G Γ Mq 28 [(0, .ref (ad 0)), (1, .int x1), (2, .int x2), (3, .int x3)] [.int rq14]
      refine g_if_ne X tq16 (tgt := 34) dX6_record_28 (by decide) (fun cq18 => ?_) (fun cq18 => ?_)
      · have pq19 : (0 ≤ a3 ∧ a3 ≤ 999) := by omega
        clear hq17 cq18 tq16
        refine g_aload_n X 0 rfl dX6_record_34 ?_
        refine g_geti X f_X6_57 dX6_record_35 (x := Mq.1 0 7) rfl ?_
        have bq20 := ig_0_7 Iq0
        refine g_if_ne X rfl (tgt := 44) dX6_record_38 (by decide) (fun cq21 => ?_) (fun cq21 => ?_)
        · refine g_aload_n X 0 rfl dX6_record_44 ?_
          refine g_getr X f_X6_49 dX6_record_45 ?_
          refine g_geti X f_X6_244 dX6_record_48 (x := Mq.1 40 5) rfl ?_
          have bq22 := ig_40_5 Iq0
          refine g_bipush X 12 dX6_record_51 (by decide) ?_
          refine g_icmp_lt X rfl (show (12 : Int32).toInt = 12 by decide) (tgt := 59) dX6_record_53 (by decide) (fun cq23 => ?_) (fun cq23 => ?_)
          · refine g_aload_n X 0 rfl dX6_record_59 ?_
            refine g_getr X f_X6_49 dX6_record_60 ?_
            refine g_iload_n X 1 rfl dX6_record_63 ?_
            refine g_iload_n X 2 rfl dX6_record_64 ?_
            refine g_iload_n X 3 rfl dX6_record_65 ?_
            refine g_aload_n X 0 rfl dX6_record_66 ?_
            refine g_getr X f_X6_53 dX6_record_67 ?_
            refine g_aload_n X 0 rfl dX6_record_70 ?_
            refine g_geti X f_X6_57 dX6_record_71 (x := Mq.1 0 7) rfl ?_
            have bq24 := ig_0_7 Iq0
            refine g_callV X m_X6_247 (c_X3_addRecording_46 ad Mq x1 t1 x2 t2 x3 t3 (Mq.1 0 7) rfl Iq0 (by omega) (by omega) (by omega)) rfl (by decide) (Nat.le_of_ble_eq_true rfl) rfl dX6_record_74 ?_
            rintro _ Mq29 ⟨rq25, aq26, rfl, tq27, hq28, Iq30, frq31⟩
            have frq32 : Fr W_X6_record Mq Mq29 := frq0.trans frq31 rfl
            have trq33 : (Mq29.1 23 2).toInt = (Mq.1 23 2).toInt := congrArg Int32.toInt (frq31.at 23 2 rfl)
            have trq34 : (Mq29.1 23 7).toInt = (Mq.1 23 7).toInt := congrArg Int32.toInt (frq31.at 23 7 rfl)
            show G Γ Mq29 77 [(0, .ref (ad 0)), (1, .int x1), (2, .int x2), (3, .int x3)] [.int rq25]
            exact g_iret X dX6_record_77 ⟨_, _, rfl, tq27, trivial, Iq30, frq32⟩
          · refine g_bipush X (-4) dX6_record_56 (by decide) ?_
            exact g_iret X dX6_record_58 ⟨_, _, rfl, (show ((-4) : Int32).toInt = (-4) by decide), trivial, Iq0, frq0⟩
        · refine g_bipush X (-3) dX6_record_41 (by decide) ?_
          exact g_iret X dX6_record_43 ⟨_, _, rfl, (show ((-3) : Int32).toInt = (-3) by decide), trivial, Iq0, frq0⟩
      · have pq35 : ¬ (0 ≤ a3 ∧ a3 ≤ 999) := by omega
        clear hq17 cq18 tq16
        refine g_bipush X (-2) dX6_record_31 (by decide) ?_
        exact g_iret X dX6_record_33 ⟨_, _, rfl, (show ((-2) : Int32).toInt = (-2) by decide), trivial, Iq0, frq0⟩
    · have pq36 : ¬ (0 ≤ a2 ∧ a2 < 8 ∧ 0 < (Mq.1 20 a2.toNat).toInt) := by omega
      clear hq11 cq12 tq10
      refine g_iconst X (-1) dX6_record_22 (by decide) ?_
      exact g_iret X dX6_record_23 ⟨_, _, rfl, (show ((-1) : Int32).toInt = (-1) by decide), trivial, Iq0, frq0⟩
abbrev W_X6_heard : List (Nat × Nat) := [(30, 99), (37, 4), (37, 5), (39, 99), (37, 6), (38, 99)]
set_option maxHeartbeats 4000000 in
set_option maxRecDepth 4000 in
theorem c_X6_heard (ad : Nat → Nat) (Mq : Mem) (x1 : Int32) {a1 : Int} (t1 : x1.toInt = a1) (x2 : Int32) {a2 : Int} (t2 : x2.toInt = a2) (x3 : Int32) {a3 : Int} (t3 : x3.toInt = a3) (Iq0 : Iv TX Mq) : Ctr ad yX6_heard cX6_heard 4 (some .int) 6 [.ref (ad 0), .int x1, .int x2, .int x3] Mq (fun v M' => ∃ (r : Int32) (a : Int), v = some (.int r) ∧ r.toInt = a ∧ (True) ∧ Iv TX M' ∧ Fr W_X6_heard Mq M') := by
  refine ctr_of (L := [(0, .ref (ad 0)), (1, .int x1), (2, .int x2), (3, .int x3)]) (by decide) (Nat.le_of_ble_eq_true rfl) rfl ?_
  intro Γ X
  have X : gX Γ cX6_heard RX6 4 (some .int) 6 ad _ := X
  have frq0 : Fr W_X6_heard Mq Mq := Fr.rf
  have g1_3 := ig_1_3 Iq0
  have g1_12 := ig_1_12 Iq0
  have g23_2 := ig_23_2 Iq0
  have g23_7 := ig_23_7 Iq0
  have g40_5 := ig_40_5 Iq0
  have g0_7 := ig_0_7 Iq0
  refine g_aload_n X 0 rfl dX6_heard_0 ?_
  refine g_getr X f_X6_49 dX6_heard_1 ?_
  refine g_iload_n X 1 rfl dX6_heard_4 ?_
  refine g_callV X m_X6_251 (c_X3_isRecording ad Mq x1 t1) rfl (by decide) (Nat.le_of_ble_eq_true rfl) rfl dX6_heard_5 ?_
  rintro _ _ ⟨rq1, aq2, rfl, tq3, hq4, rfl⟩
  show G Γ Mq 8 [(0, .ref (ad 0)), (1, .int x1), (2, .int x2), (3, .int x3)] [.int rq1]
  refine g_if_eq X tq3 (tgt := 22) dX6_heard_8 (by decide) (fun cq5 => ?_) (fun cq5 => ?_)
  · have pq6 : ¬ (0 ≤ a1 ∧ a1 < ((Mq.1 40 5)).toInt) := by omega
    clear hq4 cq5 tq3
    refine g_iconst X (-1) dX6_heard_22 (by decide) ?_
    exact g_iret X dX6_heard_23 ⟨_, _, rfl, (show ((-1) : Int32).toInt = (-1) by decide), trivial, Iq0, frq0⟩
  · have pq7 : (0 ≤ a1 ∧ a1 < ((Mq.1 40 5)).toInt) := by omega
    clear hq4 cq5 tq3
    refine g_aload_n X 0 rfl dX6_heard_11 ?_
    refine g_getr X f_X6_26 dX6_heard_12 ?_
    refine g_iload_n X 2 rfl dX6_heard_15 ?_
    refine g_callV X m_X6_195 (c_X0_isKnown ad Mq x2 t2) rfl (by decide) (Nat.le_of_ble_eq_true rfl) rfl dX6_heard_16 ?_
    rintro _ _ ⟨rq8, aq9, rfl, tq10, hq11, rfl⟩
    show G Γ Mq 19 [(0, .ref (ad 0)), (1, .int x1), (2, .int x2), (3, .int x3)] [.int rq8]
    refine g_if_ne X tq10 (tgt := 24) dX6_heard_19 (by decide) (fun cq12 => ?_) (fun cq12 => ?_)
    · have pq13 : (-1 ≤ a2 ∧ a2 ≤ ((Mq.1 23 7)).toInt) := by omega
      clear hq11 cq12 tq10
      refine g_iload_n X 3 rfl dX6_heard_24 ?_
      rcases (show (a3 < 0 ∨ 3 < a3) ∨ a3 = 0 ∨ a3 = 1 ∨ a3 = 2 ∨ a3 = 3 by omega) with cq14 | cq14 | cq14 | cq14 | cq14
      · refine g_tabOut X dX6_heard_25 t3 cq14 (tgt := 121) (by decide) ?_
        refine g_iconst X (-1) dX6_heard_121 (by decide) ?_
        exact g_iret X dX6_heard_122 ⟨_, _, rfl, (show ((-1) : Int32).toInt = (-1) by decide), trivial, Iq0, frq0⟩
      · refine g_tabIn X dX6_heard_25 (a := 0) (t3.trans cq14) (by decide) (by decide) rfl (tgt := 56) (by decide) ?_
        refine g_aload_n X 0 rfl dX6_heard_56 ?_
        refine g_iload_n X 1 rfl dX6_heard_57 ?_
        refine g_iload_n X 2 rfl dX6_heard_58 ?_
        refine g_callV X m_X6_254 (c_X6_takeRecording ad Mq x1 t1 x2 t2 Iq0 (by omega) (by omega)) rfl (by decide) (Nat.le_of_ble_eq_true rfl) rfl dX6_heard_59 ?_
        rintro _ Mq19 ⟨rfl, hq18, Iq20, frq21⟩
        have frq22 : Fr W_X6_heard Mq Mq19 := frq0.trans frq21 rfl
        have trq23 : (Mq19.1 23 2).toInt = (Mq.1 23 2).toInt := congrArg Int32.toInt (frq21.at 23 2 rfl)
        have trq24 : (Mq19.1 23 7).toInt = (Mq.1 23 7).toInt := congrArg Int32.toInt (frq21.at 23 7 rfl)
        show G Γ Mq19 62 [(0, .ref (ad 0)), (1, .int x1), (2, .int x2), (3, .int x3)] []
        refine g_aload_n X 0 rfl dX6_heard_62 ?_
        refine g_getr X f_X6_42 dX6_heard_63 ?_
        refine g_aload_n X 0 rfl dX6_heard_66 ?_
        refine g_getr X f_X6_49 dX6_heard_67 ?_
        refine g_getr X f_X6_257 dX6_heard_70 ?_
        refine g_iload_n X 1 rfl dX6_heard_73 ?_
        refine g_iald X la_42 t1 dX6_heard_74 (by omega) (x := Mq19.1 42 a1.toNat) rfl ?_
        have bq25 := ig_42 Iq20 a1.toNat (by omega)
        refine g_callV X m_X6_238 (c_X1_ways ad Mq19 (Mq19.1 42 a1.toNat) rfl Iq20 (by omega)) rfl (by decide) (Nat.le_of_ble_eq_true rfl) rfl dX6_heard_75 ?_
        rintro _ Mq30 ⟨rq26, aq27, rfl, tq28, hq29, Iq31, frq32⟩
        have frq33 : Fr W_X6_heard Mq Mq30 := frq22.trans frq32 rfl
        have trq34 : (Mq30.1 23 2).toInt = (Mq19.1 23 2).toInt := congrArg Int32.toInt (frq32.at 23 2 rfl)
        have trq35 : (Mq30.1 23 7).toInt = (Mq19.1 23 7).toInt := congrArg Int32.toInt (frq32.at 23 7 rfl)
        show G Γ Mq30 78 [(0, .ref (ad 0)), (1, .int x1), (2, .int x2), (3, .int x3)] [.int rq26]
        refine g_if_le X tq28 (tgt := 85) dX6_heard_78 (by decide) (fun cq36 => ?_) (fun cq36 => ?_)
        · refine g_iconst X 0 dX6_heard_85 (by decide) ?_
          exact g_iret X dX6_heard_86 ⟨_, _, rfl, (show (0 : Int32).toInt = 0 by decide), trivial, Iq31, frq33⟩
        · refine g_iconst X 1 dX6_heard_81 (by decide) ?_
          refine g_goto X (tgt := 86) dX6_heard_82 (by decide) ?_
          exact g_iret X dX6_heard_86 ⟨_, _, rfl, (show (1 : Int32).toInt = 1 by decide), trivial, Iq31, frq33⟩
      · refine g_tabIn X dX6_heard_25 (a := 1) (t3.trans cq14) (by decide) (by decide) rfl (tgt := 87) (by decide) ?_
        refine g_aload_n X 0 rfl dX6_heard_87 ?_
        refine g_getr X f_X6_49 dX6_heard_88 ?_
        refine g_iload_n X 1 rfl dX6_heard_91 ?_
        refine g_aload_n X 0 rfl dX6_heard_92 ?_
        refine g_iload_n X 1 rfl dX6_heard_93 ?_
        refine g_iload_n X 2 rfl dX6_heard_94 ?_
        refine g_callV X m_X6_260 (c_X6_stockBehind ad Mq x1 t1 x2 t2 Iq0 (by omega) (by omega)) rfl (by decide) (Nat.le_of_ble_eq_true rfl) rfl dX6_heard_95 ?_
        rintro _ Mq41 ⟨rq37, aq38, rfl, tq39, hq40, Iq42, frq43⟩
        have frq44 : Fr W_X6_heard Mq Mq41 := frq0.trans frq43 rfl
        have trq45 : (Mq41.1 23 2).toInt = (Mq.1 23 2).toInt := congrArg Int32.toInt (frq43.at 23 2 rfl)
        have trq46 : (Mq41.1 23 7).toInt = (Mq.1 23 7).toInt := congrArg Int32.toInt (frq43.at 23 7 rfl)
        show G Γ Mq41 98 [(0, .ref (ad 0)), (1, .int x1), (2, .int x2), (3, .int x3)] [.long rq37, .int x1, .ref (ad 40)]
        refine g_callV X m_X6_264 (c_X3_lacking ad Mq41 x1 t1 rq37 tq39 Iq42 (by omega)) rfl (by decide) (Nat.le_of_ble_eq_true rfl) rfl dX6_heard_98 ?_
        rintro _ _ ⟨rq47, aq48, rfl, tq49, hq50, rfl⟩
        show G Γ Mq41 101 [(0, .ref (ad 0)), (1, .int x1), (2, .int x2), (3, .int x3)] [.int rq47]
        exact g_iret X dX6_heard_101 ⟨_, _, rfl, tq49, trivial, Iq42, frq44⟩
      · refine g_tabIn X dX6_heard_25 (a := 2) (t3.trans cq14) (by decide) (by decide) rfl (tgt := 102) (by decide) ?_
        refine g_aload_n X 0 rfl dX6_heard_102 ?_
        refine g_getr X f_X6_49 dX6_heard_103 ?_
        refine g_iload_n X 1 rfl dX6_heard_106 ?_
        refine g_callV X m_X6_268 (c_X3_lostPlaces ad Mq x1 t1 Iq0 (by omega)) rfl (by decide) (Nat.le_of_ble_eq_true rfl) rfl dX6_heard_107 ?_
        rintro _ _ ⟨rq51, aq52, rfl, tq53, hq54, rfl⟩
        show G Γ Mq 110 [(0, .ref (ad 0)), (1, .int x1), (2, .int x2), (3, .int x3)] [.int rq51]
        exact g_iret X dX6_heard_110 ⟨_, _, rfl, tq53, trivial, Iq0, frq0⟩
      · refine g_tabIn X dX6_heard_25 (a := 3) (t3.trans cq14) (by decide) (by decide) rfl (tgt := 111) (by decide) ?_
        refine g_aload_n X 0 rfl dX6_heard_111 ?_
        refine g_getr X f_X6_49 dX6_heard_112 ?_
        refine g_getr X f_X6_271 dX6_heard_115 ?_
        refine g_iload_n X 1 rfl dX6_heard_118 ?_
        refine g_iald X la_44 t1 dX6_heard_119 (by omega) (x := Mq.1 44 a1.toNat) rfl ?_
        have bq55 := ig_44 Iq0 a1.toNat (by omega)
        exact g_iret X dX6_heard_120 ⟨_, _, rfl, rfl, trivial, Iq0, frq0⟩
    · have pq56 : ¬ (-1 ≤ a2 ∧ a2 ≤ ((Mq.1 23 7)).toInt) := by omega
      clear hq11 cq12 tq10
      refine g_iconst X (-1) dX6_heard_22 (by decide) ?_
      exact g_iret X dX6_heard_23 ⟨_, _, rfl, (show ((-1) : Int32).toInt = (-1) by decide), trivial, Iq0, frq0⟩
abbrev W_X6_filled : List (Nat × Nat) := [(30, 99), (37, 4), (37, 5), (39, 99), (37, 6), (38, 99)]
set_option maxHeartbeats 4000000 in
set_option maxRecDepth 4000 in
theorem c_X6_filled (ad : Nat → Nat) (Mq : Mem) (x1 : Int32) {a1 : Int} (t1 : x1.toInt = a1) (x2 : Int32) {a2 : Int} (t2 : x2.toInt = a2) (x3 : Int32) {a3 : Int} (t3 : x3.toInt = a3) (Iq0 : Iv TX Mq) : Ctr ad yX6_filled cX6_filled 5 (some .int) 7 [.ref (ad 0), .int x1, .int x2, .int x3] Mq (fun v M' => ∃ (r : Int32) (a : Int), v = some (.int r) ∧ r.toInt = a ∧ (True) ∧ Iv TX M' ∧ Fr W_X6_filled Mq M') := by
  refine ctr_of (L := [(0, .ref (ad 0)), (1, .int x1), (2, .int x2), (3, .int x3)]) (by decide) (Nat.le_of_ble_eq_true rfl) rfl ?_
  intro Γ X
  have X : gX Γ cX6_filled RX6 5 (some .int) 7 ad _ := X
  have frq0 : Fr W_X6_filled Mq Mq := Fr.rf
  have g1_3 := ig_1_3 Iq0
  have g1_12 := ig_1_12 Iq0
  have g23_2 := ig_23_2 Iq0
  have g23_7 := ig_23_7 Iq0
  have g40_5 := ig_40_5 Iq0
  have g0_7 := ig_0_7 Iq0
  refine g_aload_n X 0 rfl dX6_filled_0 ?_
  refine g_getr X f_X6_49 dX6_filled_1 ?_
  refine g_iload_n X 1 rfl dX6_filled_4 ?_
  refine g_callV X m_X6_251 (c_X3_isRecording ad Mq x1 t1) rfl (by decide) (Nat.le_of_ble_eq_true rfl) rfl dX6_filled_5 ?_
  rintro _ _ ⟨rq1, aq2, rfl, tq3, hq4, rfl⟩
  show G Γ Mq 8 [(0, .ref (ad 0)), (1, .int x1), (2, .int x2), (3, .int x3)] [.int rq1]
  refine g_if_eq X tq3 (tgt := 22) dX6_filled_8 (by decide) (fun cq5 => ?_) (fun cq5 => ?_)
  · have pq6 : ¬ (0 ≤ a1 ∧ a1 < ((Mq.1 40 5)).toInt) := by omega
    clear hq4 cq5 tq3
    refine g_iconst X (-1) dX6_filled_22 (by decide) ?_
    exact g_iret X dX6_filled_23 ⟨_, _, rfl, (show ((-1) : Int32).toInt = (-1) by decide), trivial, Iq0, frq0⟩
  · have pq7 : (0 ≤ a1 ∧ a1 < ((Mq.1 40 5)).toInt) := by omega
    clear hq4 cq5 tq3
    refine g_aload_n X 0 rfl dX6_filled_11 ?_
    refine g_getr X f_X6_26 dX6_filled_12 ?_
    refine g_iload_n X 2 rfl dX6_filled_15 ?_
    refine g_callV X m_X6_195 (c_X0_isKnown ad Mq x2 t2) rfl (by decide) (Nat.le_of_ble_eq_true rfl) rfl dX6_filled_16 ?_
    rintro _ _ ⟨rq8, aq9, rfl, tq10, hq11, rfl⟩
    show G Γ Mq 19 [(0, .ref (ad 0)), (1, .int x1), (2, .int x2), (3, .int x3)] [.int rq8]
    refine g_if_ne X tq10 (tgt := 24) dX6_filled_19 (by decide) (fun cq12 => ?_) (fun cq12 => ?_)
    · have pq13 : (-1 ≤ a2 ∧ a2 ≤ ((Mq.1 23 7)).toInt) := by omega
      clear hq11 cq12 tq10
      refine g_aload_n X 0 rfl dX6_filled_24 ?_
      refine g_getr X f_X6_49 dX6_filled_25 ?_
      refine g_iload_n X 1 rfl dX6_filled_28 ?_
      refine g_iload_n X 3 rfl dX6_filled_29 ?_
      refine g_callV X m_X6_274 (c_X3_isLost ad Mq x1 t1 x3 t3 Iq0 (by omega)) rfl (by decide) (Nat.le_of_ble_eq_true rfl) rfl dX6_filled_30 ?_
      rintro _ _ ⟨rq14, aq15, rfl, tq16, hq17, rfl⟩
      show G Γ Mq 33 [(0, .ref (ad 0)), (1, .int x1), (2, .int x2), (3, .int x3)] [.int rq14]
      refine g_if_ne X tq16 (tgt := 38) dX6_filled_33 (by decide) (fun cq18 => ?_) (fun cq18 => ?_)
      · refine g_aload_n X 0 rfl dX6_filled_38 ?_
        refine g_iload_n X 1 rfl dX6_filled_39 ?_
        refine g_iload_n X 2 rfl dX6_filled_40 ?_
        refine g_callV X m_X6_254 (c_X6_takeRecording ad Mq x1 t1 x2 t2 Iq0 (by omega) (by omega)) rfl (by decide) (Nat.le_of_ble_eq_true rfl) rfl dX6_filled_41 ?_
        rintro _ Mq23 ⟨rfl, hq22, Iq24, frq25⟩
        have frq26 : Fr W_X6_filled Mq Mq23 := frq0.trans frq25 rfl
        have trq27 : (Mq23.1 23 2).toInt = (Mq.1 23 2).toInt := congrArg Int32.toInt (frq25.at 23 2 rfl)
        have trq28 : (Mq23.1 23 7).toInt = (Mq.1 23 7).toInt := congrArg Int32.toInt (frq25.at 23 7 rfl)
        show G Γ Mq23 44 [(0, .ref (ad 0)), (1, .int x1), (2, .int x2), (3, .int x3)] []
        refine g_aload_n X 0 rfl dX6_filled_44 ?_
        refine g_getr X f_X6_42 dX6_filled_45 ?_
        refine g_aload_n X 0 rfl dX6_filled_48 ?_
        refine g_getr X f_X6_49 dX6_filled_49 ?_
        refine g_getr X f_X6_257 dX6_filled_52 ?_
        refine g_iload_n X 1 rfl dX6_filled_55 ?_
        refine g_iald X la_42 t1 dX6_filled_56 (by omega) (x := Mq23.1 42 a1.toNat) rfl ?_
        have bq29 := ig_42 Iq24 a1.toNat (by omega)
        refine g_iload_n X 3 rfl dX6_filled_57 ?_
        refine g_callV X m_X6_277 (c_X1_onlyLine ad Mq23 (Mq23.1 42 a1.toNat) rfl x3 t3 Iq24 (by omega) (by omega)) rfl (by decide) (Nat.le_of_ble_eq_true rfl) rfl dX6_filled_58 ?_
        rintro _ Mq34 ⟨rq30, aq31, rfl, tq32, hq33, Iq35, frq36⟩
        have frq37 : Fr W_X6_filled Mq Mq34 := frq26.trans frq36 rfl
        have trq38 : (Mq34.1 23 2).toInt = (Mq23.1 23 2).toInt := congrArg Int32.toInt (frq36.at 23 2 rfl)
        have trq39 : (Mq34.1 23 7).toInt = (Mq23.1 23 7).toInt := congrArg Int32.toInt (frq36.at 23 7 rfl)
        show G Γ Mq34 61 [(0, .ref (ad 0)), (1, .int x1), (2, .int x2), (3, .int x3)] [.int rq30]
        refine g_istore X [(4, .int rq30), (0, .ref (ad 0)), (1, .int x1), (2, .int x2), (3, .int x3)] dX6_filled_61 (by decide) rfl ?_
        refine g_iload X 0 rfl dX6_filled_63 ?_
        refine g_iconst X (-1) dX6_filled_65 (by decide) ?_
        refine g_icmp_ne X tq32 (show ((-1) : Int32).toInt = (-1) by decide) (tgt := 74) dX6_filled_66 (by decide) (fun cq40 => ?_) (fun cq40 => ?_)
        · refine g_iload X 0 rfl dX6_filled_74 ?_
          exact g_iret X dX6_filled_76 ⟨_, _, rfl, tq32, trivial, Iq35, frq37⟩
        · refine g_bipush X (-3) dX6_filled_69 (by decide) ?_
          refine g_goto X (tgt := 76) dX6_filled_71 (by decide) ?_
          exact g_iret X dX6_filled_76 ⟨_, _, rfl, (show ((-3) : Int32).toInt = (-3) by decide), trivial, Iq35, frq37⟩
      · refine g_iconst X (-1) dX6_filled_36 (by decide) ?_
        exact g_iret X dX6_filled_37 ⟨_, _, rfl, (show ((-1) : Int32).toInt = (-1) by decide), trivial, Iq0, frq0⟩
    · have pq41 : ¬ (-1 ≤ a2 ∧ a2 ≤ ((Mq.1 23 7)).toInt) := by omega
      clear hq11 cq12 tq10
      refine g_iconst X (-1) dX6_filled_22 (by decide) ?_
      exact g_iret X dX6_filled_23 ⟨_, _, rfl, (show ((-1) : Int32).toInt = (-1) by decide), trivial, Iq0, frq0⟩
set_option maxHeartbeats 4000000 in
set_option maxRecDepth 4000 in
theorem c_X6_count (ad : Nat → Nat) (Mq : Mem) (x1 : Int32) {a1 : Int} (t1 : x1.toInt = a1) (Iq0 : Iv TX Mq) : Ctr ad yX6_count cX6_count 2 (some .int) 4 [.ref (ad 0), .int x1] Mq (fun v M' => ∃ (r : Int32) (a : Int), v = some (.int r) ∧ r.toInt = a ∧ (True) ∧ Mq = M') := by
  refine ctr_of (L := [(0, .ref (ad 0)), (1, .int x1)]) (by decide) (Nat.le_of_ble_eq_true rfl) rfl ?_
  intro Γ X
  have X : gX Γ cX6_count RX6 2 (some .int) 4 ad _ := X
  have g1_3 := ig_1_3 Iq0
  have g1_12 := ig_1_12 Iq0
  have g23_2 := ig_23_2 Iq0
  have g23_7 := ig_23_7 Iq0
  have g40_5 := ig_40_5 Iq0
  have g0_7 := ig_0_7 Iq0
  refine g_iload_n X 1 rfl dX6_count_0 ?_
  rcases (show (a1 < 0 ∨ 8 < a1) ∨ a1 = 0 ∨ a1 = 1 ∨ a1 = 2 ∨ a1 = 3 ∨ a1 = 4 ∨ a1 = 5 ∨ a1 = 6 ∨ a1 = 7 ∨ a1 = 8 by omega) with cq1 | cq1 | cq1 | cq1 | cq1 | cq1 | cq1 | cq1 | cq1 | cq1
  · refine g_tabOut X dX6_count_1 t1 cq1 (tgt := 124) (by decide) ?_
    refine g_iconst X (-1) dX6_count_124 (by decide) ?_
    exact g_iret X dX6_count_125 ⟨_, _, rfl, (show ((-1) : Int32).toInt = (-1) by decide), trivial, rfl⟩
  · refine g_tabIn X dX6_count_1 (a := 0) (t1.trans cq1) (by decide) (by decide) rfl (tgt := 52) (by decide) ?_
    refine g_aload_n X 0 rfl dX6_count_52 ?_
    refine g_getr X f_X6_10 dX6_count_53 ?_
    refine g_geti X f_X6_69 dX6_count_56 (x := Mq.1 1 3) rfl ?_
    have bq2 := ig_1_3 Iq0
    exact g_iret X dX6_count_59 ⟨_, _, rfl, rfl, trivial, rfl⟩
  · refine g_tabIn X dX6_count_1 (a := 1) (t1.trans cq1) (by decide) (by decide) rfl (tgt := 60) (by decide) ?_
    refine g_aload_n X 0 rfl dX6_count_60 ?_
    refine g_getr X f_X6_10 dX6_count_61 ?_
    refine g_geti X f_X6_86 dX6_count_64 (x := Mq.1 1 12) rfl ?_
    have bq3 := ig_1_12 Iq0
    exact g_iret X dX6_count_67 ⟨_, _, rfl, rfl, trivial, rfl⟩
  · refine g_tabIn X dX6_count_1 (a := 2) (t1.trans cq1) (by decide) (by decide) rfl (tgt := 68) (by decide) ?_
    refine g_aload_n X 0 rfl dX6_count_68 ?_
    refine g_getr X f_X6_19 dX6_count_69 ?_
    refine g_geti X f_X6_280 dX6_count_72 (x := Mq.1 14 11) rfl ?_
    have bq4 := ig_14_11 Iq0
    exact g_iret X dX6_count_75 ⟨_, _, rfl, rfl, trivial, rfl⟩
  · refine g_tabIn X dX6_count_1 (a := 3) (t1.trans cq1) (by decide) (by decide) rfl (tgt := 76) (by decide) ?_
    refine g_aload_n X 0 rfl dX6_count_76 ?_
    refine g_getr X f_X6_26 dX6_count_77 ?_
    refine g_geti X f_X6_179 dX6_count_80 (x := Mq.1 23 2) rfl ?_
    have bq5 := ig_23_2 Iq0
    exact g_iret X dX6_count_83 ⟨_, _, rfl, rfl, trivial, rfl⟩
  · refine g_tabIn X dX6_count_1 (a := 4) (t1.trans cq1) (by decide) (by decide) rfl (tgt := 84) (by decide) ?_
    refine g_aload_n X 0 rfl dX6_count_84 ?_
    refine g_getr X f_X6_26 dX6_count_85 ?_
    refine g_geti X f_X6_188 dX6_count_88 (x := Mq.1 23 7) rfl ?_
    have bq6 := ig_23_7 Iq0
    exact g_iret X dX6_count_91 ⟨_, _, rfl, rfl, trivial, rfl⟩
  · refine g_tabIn X dX6_count_1 (a := 5) (t1.trans cq1) (by decide) (by decide) rfl (tgt := 92) (by decide) ?_
    refine g_aload_n X 0 rfl dX6_count_92 ?_
    refine g_getr X f_X6_49 dX6_count_93 ?_
    refine g_geti X f_X6_244 dX6_count_96 (x := Mq.1 40 5) rfl ?_
    have bq7 := ig_40_5 Iq0
    exact g_iret X dX6_count_99 ⟨_, _, rfl, rfl, trivial, rfl⟩
  · refine g_tabIn X dX6_count_1 (a := 6) (t1.trans cq1) (by decide) (by decide) rfl (tgt := 100) (by decide) ?_
    refine g_aload_n X 0 rfl dX6_count_100 ?_
    refine g_getr X f_X6_19 dX6_count_101 ?_
    refine g_geti X f_X6_143 dX6_count_104 (x := Mq.1 14 1) rfl ?_
    have bq8 := ig_14_1 Iq0
    exact g_iret X dX6_count_107 ⟨_, _, rfl, rfl, trivial, rfl⟩
  · refine g_tabIn X dX6_count_1 (a := 7) (t1.trans cq1) (by decide) (by decide) rfl (tgt := 108) (by decide) ?_
    refine g_aload_n X 0 rfl dX6_count_108 ?_
    refine g_getr X f_X6_19 dX6_count_109 ?_
    refine g_geti X f_X6_153 dX6_count_112 (x := Mq.1 14 12) rfl ?_
    have bq9 := ig_14_12 Iq0
    exact g_iret X dX6_count_115 ⟨_, _, rfl, rfl, trivial, rfl⟩
  · refine g_tabIn X dX6_count_1 (a := 8) (t1.trans cq1) (by decide) (by decide) rfl (tgt := 116) (by decide) ?_
    refine g_aload_n X 0 rfl dX6_count_116 ?_
    refine g_getr X f_X6_10 dX6_count_117 ?_
    refine g_callV X m_X6_283 (c_X5_scanning ad Mq Iq0) rfl (by decide) (Nat.le_of_ble_eq_true rfl) rfl dX6_count_120 ?_
    rintro _ _ ⟨rq10, aq11, rfl, tq12, hq13, rfl⟩
    show G Γ Mq 123 [(0, .ref (ad 0)), (1, .int x1)] [.int rq10]
    exact g_iret X dX6_count_123 ⟨_, _, rfl, tq12, trivial, rfl⟩
end
