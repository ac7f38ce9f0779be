section
abbrev W_X5_addHalf_V : List (Nat × Nat) := [(1, 3), (2, 99), (3, 99), (4, 99)]
set_option maxHeartbeats 4000000 in
set_option maxRecDepth 4000 in
theorem c_X5_addHalf_V (ad : Nat → Nat) (Mq : Mem) (x1 : Int32) {a1 : Int} (t1 : x1.toInt = a1) (x2 : Int32) {a2 : Int} (t2 : x2.toInt = a2) (x3 : Int32) {a3 : Int} (t3 : x3.toInt = a3) (Iq0 : Iv TX Mq) (h1 : (Mq.1 1 3).toInt < 40) : Ctr ad yX5_addHalf cX5_addHalf 4 (some .int) 0 [.ref (ad 1), .int x1, .int x2, .int x3] Mq (fun v M' => ∃ (r : Int32) (a : Int), v = some (.int r) ∧ r.toInt = a ∧ (a = (Mq.1 1 3).toInt) ∧ ((M'.1 1 3).toInt = (Mq.1 1 3).toInt + 1 ∧ M'.1 2 = (ui Mq 2 ((Mq.1 1 3).toInt).toNat x1).1 2 ∧ M'.1 3 = (ui Mq 3 ((Mq.1 1 3).toInt).toNat x2).1 3 ∧ M'.1 4 = (ui Mq 4 ((Mq.1 1 3).toInt).toNat x3).1 4) ∧ Iv TX M' ∧ Fr W_X5_addHalf_V Mq M') := by
  refine ctr_of (L := [(0, .ref (ad 1)), (1, .int x1), (2, .int x2), (3, .int x3)]) (by decide) (Nat.le_of_ble_eq_true rfl) rfl ?_
  intro Γ X
  have X : gX Γ cX5_addHalf RX5 4 (some .int) 0 ad _ := X
  have frq0 : Fr W_X5_addHalf_V Mq Mq := Fr.rf
  refine g_aload_n X 0 rfl dX5_addHalf_0 ?_
  refine g_getr X f_X5_9 dX5_addHalf_1 ?_
  refine g_aload_n X 0 rfl dX5_addHalf_4 ?_
  refine g_geti X f_X5_21 dX5_addHalf_5 (x := Mq.1 1 3) rfl ?_
  have bq1 := ig_1_3 Iq0
  refine g_iload_n X 1 rfl dX5_addHalf_8 ?_
  refine g_iast X la_2 rfl dX5_addHalf_9 (by omega) ?_
  have Iq2 : Iv TX (ui Mq 2 (((Mq.1 1 3).toInt).toNat) x1) := Iq0.otherA rfl
  have frq3 : Fr W_X5_addHalf_V Mq (ui Mq 2 (((Mq.1 1 3).toInt).toNat) x1) := frq0.ui rfl
  refine g_aload_n X 0 rfl dX5_addHalf_10 ?_
  refine g_getr X f_X5_15 dX5_addHalf_11 ?_
  refine g_aload_n X 0 rfl dX5_addHalf_14 ?_
  refine g_geti X f_X5_21 dX5_addHalf_15 (x := Mq.1 1 3) rfl ?_
  have bq4 := ig_1_3 Iq0
  refine g_iload_n X 2 rfl dX5_addHalf_18 ?_
  refine g_iast X la_3 rfl dX5_addHalf_19 (by omega) ?_
  have Iq5 : Iv TX (ui (ui Mq 2 (((Mq.1 1 3).toInt).toNat) x1) 3 (((Mq.1 1 3).toInt).toNat) x2) := Iq2.otherA rfl
  have frq6 : Fr W_X5_addHalf_V Mq (ui (ui Mq 2 (((Mq.1 1 3).toInt).toNat) x1) 3 (((Mq.1 1 3).toInt).toNat) x2) := frq3.ui rfl
  refine g_aload_n X 0 rfl dX5_addHalf_20 ?_
  refine g_getr X f_X5_18 dX5_addHalf_21 ?_
  refine g_aload_n X 0 rfl dX5_addHalf_24 ?_
  refine g_geti X f_X5_21 dX5_addHalf_25 (x := Mq.1 1 3) rfl ?_
  have bq7 := ig_1_3 Iq0
  refine g_iload_n X 3 rfl dX5_addHalf_28 ?_
  refine g_iast X la_4 rfl dX5_addHalf_29 (by omega) ?_
  have Iq8 : Iv TX (ui (ui (ui Mq 2 (((Mq.1 1 3).toInt).toNat) x1) 3 (((Mq.1 1 3).toInt).toNat) x2) 4 (((Mq.1 1 3).toInt).toNat) x3) := Iq5.otherA rfl
  have frq9 : Fr W_X5_addHalf_V Mq (ui (ui (ui Mq 2 (((Mq.1 1 3).toInt).toNat) x1) 3 (((Mq.1 1 3).toInt).toNat) x2) 4 (((Mq.1 1 3).toInt).toNat) x3) := frq6.ui rfl
  refine g_aload_n X 0 rfl dX5_addHalf_30 ?_
  refine g_dup X dX5_addHalf_31 rfl ?_
  refine g_geti X f_X5_21 dX5_addHalf_32 (x := Mq.1 1 3) rfl ?_
  have bq10 := ig_1_3 Iq0
  refine g_iconst X 1 dX5_addHalf_35 (by decide) ?_
  refine g_iadd X dX5_addHalf_36 (fun zq11 eq12 => ?_)
  have tq13 : zq11.toInt = ((Mq.1 1 3).toInt) + 1 := add_nw eq12 rfl (show (1 : Int32).toInt = 1 by decide) (by omega)
  refine g_puti X p_X5_21 dX5_addHalf_37 ?_
  have Iq14 : Iv TX (ui (ui (ui (ui Mq 2 (((Mq.1 1 3).toInt).toNat) x1) 3 (((Mq.1 1 3).toInt).toNat) x2) 4 (((Mq.1 1 3).toInt).toNat) x3) 1 3 zq11) := Iq8.put 0 40 tq13 (by omega) rfl
  have frq15 : Fr W_X5_addHalf_V Mq (ui (ui (ui (ui Mq 2 (((Mq.1 1 3).toInt).toNat) x1) 3 (((Mq.1 1 3).toInt).toNat) x2) 4 (((Mq.1 1 3).toInt).toNat) x3) 1 3 zq11) := frq9.ui rfl
  refine g_aload_n X 0 rfl dX5_addHalf_40 ?_
  refine g_geti X f_X5_21 dX5_addHalf_41 (x := zq11) rfl ?_
  refine g_iconst X 1 dX5_addHalf_44 (by decide) ?_
  refine g_isub X dX5_addHalf_45 (fun zq16 eq17 => ?_)
  have tq18 : zq16.toInt = (((Mq.1 1 3).toInt) + 1) - 1 := sub_nw eq17 tq13 (show (1 : Int32).toInt = 1 by decide) (by omega)
  exact g_iret X dX5_addHalf_46 ⟨_, _, rfl, tq18, (by omega), (⟨by rw [ui_eq]; omega, (by funext b; simp [ui, ul]), (by funext b; simp [ui, ul]), (by funext b; simp [ui, ul])⟩), Iq14, frq15⟩
abbrev W_X6_half_V : List (Nat × Nat) := [(1, 3), (2, 99), (3, 99), (4, 99)]
set_option maxHeartbeats 4000000 in
set_option maxRecDepth 4000 in
theorem c_X6_half_V (ad : Nat → Nat) (Mq : Mem) (x1 : Int32) {a1 : Int} (t1 : x1.toInt = a1) (x2 : Int32) {a2 : Int} (t2 : x2.toInt = a2) (x3 : Int32) {a3 : Int} (t3 : x3.toInt = a3) (Iq0 : Iv TX Mq) : Ctr ad yX6_half cX6_half 4 (some .int) 1 [.ref (ad 0), .int x1, .int x2, .int x3] Mq (fun v M' => ∃ (r : Int32) (a : Int), v = some (.int r) ∧ r.toInt = a ∧ (((¬ (1 ≤ a1 ∧ a1 ≤ 8 ∧ 0 ≤ a2 ∧ a2 < sh x1 ∧ -1 ≤ a3 ∧ a3 ≤ a1)) ∧ (a = -2)) ∨ (¬ (¬ (1 ≤ a1 ∧ a1 ≤ 8 ∧ 0 ≤ a2 ∧ a2 < sh x1 ∧ -1 ≤ a3 ∧ a3 ≤ a1)) ∧ (40 ≤ (Mq.1 1 3).toInt) ∧ (a = -4)) ∨ (¬ (¬ (1 ≤ a1 ∧ a1 ≤ 8 ∧ 0 ≤ a2 ∧ a2 < sh x1 ∧ -1 ≤ a3 ∧ a3 ≤ a1)) ∧ ¬ (40 ≤ (Mq.1 1 3).toInt) ∧ (a = (Mq.1 1 3).toInt))) ∧ (((((¬ (1 ≤ a1 ∧ a1 ≤ 8 ∧ 0 ≤ a2 ∧ a2 < sh x1 ∧ -1 ≤ a3 ∧ a3 ≤ a1)) ∨ (40 ≤ (Mq.1 1 3).toInt)) ∧ (M'.1 1 3).toInt = (Mq.1 1 3).toInt) ∨ (¬ ((¬ (1 ≤ a1 ∧ a1 ≤ 8 ∧ 0 ≤ a2 ∧ a2 < sh x1 ∧ -1 ≤ a3 ∧ a3 ≤ a1)) ∨ (40 ≤ (Mq.1 1 3).toInt)) ∧ (M'.1 1 3).toInt = (Mq.1 1 3).toInt + 1)) ∧ ((((¬ (1 ≤ a1 ∧ a1 ≤ 8 ∧ 0 ≤ a2 ∧ a2 < sh x1 ∧ -1 ≤ a3 ∧ a3 ≤ a1)) ∨ (40 ≤ (Mq.1 1 3).toInt)) → M'.1 2 = Mq.1 2) ∧ (¬ ((¬ (1 ≤ a1 ∧ a1 ≤ 8 ∧ 0 ≤ a2 ∧ a2 < sh x1 ∧ -1 ≤ a3 ∧ a3 ≤ a1)) ∨ (40 ≤ (Mq.1 1 3).toInt)) → M'.1 2 = (ui Mq 2 ((Mq.1 1 3).toInt).toNat x1).1 2)) ∧ ((((¬ (1 ≤ a1 ∧ a1 ≤ 8 ∧ 0 ≤ a2 ∧ a2 < sh x1 ∧ -1 ≤ a3 ∧ a3 ≤ a1)) ∨ (40 ≤ (Mq.1 1 3).toInt)) → M'.1 3 = Mq.1 3) ∧ (¬ ((¬ (1 ≤ a1 ∧ a1 ≤ 8 ∧ 0 ≤ a2 ∧ a2 < sh x1 ∧ -1 ≤ a3 ∧ a3 ≤ a1)) ∨ (40 ≤ (Mq.1 1 3).toInt)) → M'.1 3 = (ui Mq 3 ((Mq.1 1 3).toInt).toNat x2).1 3)) ∧ ((((¬ (1 ≤ a1 ∧ a1 ≤ 8 ∧ 0 ≤ a2 ∧ a2 < sh x1 ∧ -1 ≤ a3 ∧ a3 ≤ a1)) ∨ (40 ≤ (Mq.1 1 3).toInt)) → M'.1 4 = Mq.1 4) ∧ (¬ ((¬ (1 ≤ a1 ∧ a1 ≤ 8 ∧ 0 ≤ a2 ∧ a2 < sh x1 ∧ -1 ≤ a3 ∧ a3 ≤ a1)) ∨ (40 ≤ (Mq.1 1 3).toInt)) → M'.1 4 = (ui Mq 4 ((Mq.1 1 3).toInt).toNat x3).1 4))) ∧ Iv TX M' ∧ Fr W_X6_half_V Mq M') := by
  refine ctr_of (L := [(0, .ref (ad 0)), (1, .int x1), (2, .int x2), (3, .int x3)]) (by decide) (Nat.le_of_ble_eq_true rfl) rfl ?_
  intro Γ X
  have X : gX Γ cX6_half RX6 4 (some .int) 1 ad _ := X
  have frq0 : Fr W_X6_half_V Mq Mq := Fr.rf
  have g1_3 := ig_1_3 Iq0
  have g1_12 := ig_1_12 Iq0
  have g0_7 := ig_0_7 Iq0
  refine g_iload_n X 1 rfl dX6_half_0 ?_
  refine g_iconst X 1 dX6_half_1 (by decide) ?_
  refine g_bipush X 8 dX6_half_2 (by decide) ?_
  refine g_callS X m_X6_61 (c_X6_inside ad Mq x1 t1 1 (show (1 : Int32).toInt = 1 by decide) 8 (show (8 : Int32).toInt = 8 by decide)) rfl (by decide) (Nat.le_of_ble_eq_true rfl) rfl dX6_half_4 ?_
  rintro _ _ ⟨rq1, aq2, rfl, tq3, hq4, rfl⟩
  show G Γ Mq 7 [(0, .ref (ad 0)), (1, .int x1), (2, .int x2), (3, .int x3)] [.int rq1]
  refine g_if_eq X tq3 (tgt := 27) dX6_half_7 (by decide) (fun cq5 => ?_) (fun cq5 => ?_)
  · have pq6 : ¬ (1 ≤ a1 ∧ a1 ≤ 8) := by first | omega | (rcases hq4 with ⟨z1, z2⟩ | ⟨z1, z2⟩ <;> first | exact z2 | (exfalso; omega))
    clear hq4 cq5 tq3
    refine g_bipush X (-2) dX6_half_27 (by decide) ?_
    exact g_iret X dX6_half_29 ⟨_, _, rfl, (show ((-2) : Int32).toInt = (-2) by decide), (by omega), (⟨by first | omega | (rw [ui_eq]; omega), ⟨fun h => by first | rfl | exact absurd h (by omega), fun h => by first | (funext b; simp [ui]; done) | exact trivial.2.1 | exact absurd (by omega) h⟩, ⟨fun h => by first | rfl | exact absurd h (by omega), fun h => by first | (funext b; simp [ui]; done) | exact trivial.2.2.1 | exact absurd (by omega) h⟩, ⟨fun h => by first | rfl | exact absurd h (by omega), fun h => by first | (funext b; simp [ui]; done) | exact trivial.2.2.2 | exact absurd (by omega) h⟩⟩), Iq0, frq0⟩
  · have pq7 : (1 ≤ a1 ∧ a1 ≤ 8) := by first | omega | (rcases hq4 with ⟨z1, z2⟩ | ⟨z1, z2⟩ <;> first | exact z2 | (exfalso; omega))
    clear hq4 cq5 tq3
    refine g_iload_n X 2 rfl dX6_half_10 ?_
    refine g_iload_n X 1 rfl dX6_half_11 ?_
    refine g_callS X m_X6_65 (c_X6_areBits ad Mq x2 t2 x1 t1) rfl (by decide) (Nat.le_of_ble_eq_true rfl) rfl dX6_half_12 ?_
    rintro _ _ ⟨rq8, aq9, rfl, tq10, hq11, rfl⟩
    show G Γ Mq 15 [(0, .ref (ad 0)), (1, .int x1), (2, .int x2), (3, .int x3)] [.int rq8]
    refine g_if_eq X tq10 (tgt := 27) dX6_half_15 (by decide) (fun cq12 => ?_) (fun cq12 => ?_)
    · have pq13 : ¬ (0 ≤ a2 ∧ a2 < sh x1) := by first | omega | (rcases hq11 with ⟨z1, z2⟩ | ⟨z1, z2⟩ <;> first | exact z2 | (exfalso; omega))
      clear hq11 cq12 tq10
      refine g_bipush X (-2) dX6_half_27 (by decide) ?_
      exact g_iret X dX6_half_29 ⟨_, _, rfl, (show ((-2) : Int32).toInt = (-2) by decide), (by omega), (⟨by first | omega | (rw [ui_eq]; omega), ⟨fun h => by first | rfl | exact absurd h (by omega), fun h => by first | (funext b; simp [ui]; done) | exact trivial.2.1 | exact absurd (by omega) h⟩, ⟨fun h => by first | rfl | exact absurd h (by omega), fun h => by first | (funext b; simp [ui]; done) | exact trivial.2.2.1 | exact absurd (by omega) h⟩, ⟨fun h => by first | rfl | exact absurd h (by omega), fun h => by first | (funext b; simp [ui]; done) | exact trivial.2.2.2 | exact absurd (by omega) h⟩⟩), Iq0, frq0⟩
    · have pq14 : (0 ≤ a2 ∧ a2 < sh x1) := by first | omega | (rcases hq11 with ⟨z1, z2⟩ | ⟨z1, z2⟩ <;> first | exact z2 | (exfalso; omega))
      clear hq11 cq12 tq10
      refine g_iload_n X 3 rfl dX6_half_18 ?_
      refine g_iconst X (-1) dX6_half_19 (by decide) ?_
      refine g_iload_n X 1 rfl dX6_half_20 ?_
      refine g_callS X m_X6_61 (c_X6_inside ad Mq x3 t3 (-1) (show ((-1) : Int32).toInt = (-1) by decide) x1 t1) rfl (by decide) (Nat.le_of_ble_eq_true rfl) rfl dX6_half_21 ?_
      rintro _ _ ⟨rq15, aq16, rfl, tq17, hq18, rfl⟩
      show G Γ Mq 24 [(0, .ref (ad 0)), (1, .int x1), (2, .int x2), (3, .int x3)] [.int rq15]
      refine g_if_ne X tq17 (tgt := 30) dX6_half_24 (by decide) (fun cq19 => ?_) (fun cq19 => ?_)
      · have pq20 : ((-1) ≤ a3 ∧ a3 ≤ a1) := by first | omega | (rcases hq18 with ⟨z1, z2⟩ | ⟨z1, z2⟩ <;> first | exact z2 | (exfalso; omega))
        clear hq18 cq19 tq17
        refine g_aload_n X 0 rfl dX6_half_30 ?_
        refine g_getr X f_X6_10 dX6_half_31 ?_
        refine g_geti X f_X6_69 dX6_half_34 (x := Mq.1 1 3) rfl ?_
        have bq21 := ig_1_3 Iq0
        refine g_bipush X 40 dX6_half_37 (by decide) ?_
        refine g_icmp_lt X rfl (show (40 : Int32).toInt = 40 by decide) (tgt := 45) dX6_half_39 (by decide) (fun cq22 => ?_) (fun cq22 => ?_)
        · refine g_aload_n X 0 rfl dX6_half_45 ?_
          refine g_getr X f_X6_10 dX6_half_46 ?_
          refine g_iload_n X 1 rfl dX6_half_49 ?_
          refine g_iload_n X 2 rfl dX6_half_50 ?_
          refine g_iload_n X 3 rfl dX6_half_51 ?_
          refine g_callV X m_X6_72 (c_X5_addHalf_V ad Mq x1 t1 x2 t2 x3 t3 Iq0 (by omega)) rfl (by decide) (Nat.le_of_ble_eq_true rfl) rfl dX6_half_52 ?_
          rintro _ Mq28 ⟨rq23, aq24, rfl, tq25, hq26, hq27, Iq29, frq30⟩
          have frq31 : Fr W_X6_half_V Mq Mq28 := frq0.trans frq30 rfl
          show G Γ Mq28 55 [(0, .ref (ad 0)), (1, .int x1), (2, .int x2), (3, .int x3)] [.int rq23]
          exact g_iret X dX6_half_55 ⟨_, _, rfl, tq25, (by omega), (⟨by first | omega | (rw [ui_eq]; omega), ⟨fun h => by first | rfl | exact absurd h (by omega), fun h => by first | (funext b; simp [ui]; done) | exact hq27.2.1 | exact absurd (by omega) h⟩, ⟨fun h => by first | rfl | exact absurd h (by omega), fun h => by first | (funext b; simp [ui]; done) | exact hq27.2.2.1 | exact absurd (by omega) h⟩, ⟨fun h => by first | rfl | exact absurd h (by omega), fun h => by first | (funext b; simp [ui]; done) | exact hq27.2.2.2 | exact absurd (by omega) h⟩⟩), Iq29, frq31⟩
        · refine g_bipush X (-4) dX6_half_42 (by decide) ?_
          exact g_iret X dX6_half_44 ⟨_, _, rfl, (show ((-4) : Int32).toInt = (-4) by decide), (by omega), (⟨by first | omega | (rw [ui_eq]; omega), ⟨fun h => by first | rfl | exact absurd h (by omega), fun h => by first | (funext b; simp [ui]; done) | exact trivial.2.1 | exact absurd (by omega) h⟩, ⟨fun h => by first | rfl | exact absurd h (by omega), fun h => by first | (funext b; simp [ui]; done) | exact trivial.2.2.1 | exact absurd (by omega) h⟩, ⟨fun h => by first | rfl | exact absurd h (by omega), fun h => by first | (funext b; simp [ui]; done) | exact trivial.2.2.2 | exact absurd (by omega) h⟩⟩), Iq0, frq0⟩
      · have pq32 : ¬ ((-1) ≤ a3 ∧ a3 ≤ a1) := by first | omega | (rcases hq18 with ⟨z1, z2⟩ | ⟨z1, z2⟩ <;> first | exact z2 | (exfalso; omega))
        clear hq18 cq19 tq17
        refine g_bipush X (-2) dX6_half_27 (by decide) ?_
        exact g_iret X dX6_half_29 ⟨_, _, rfl, (show ((-2) : Int32).toInt = (-2) by decide), (by omega), (⟨by first | omega | (rw [ui_eq]; omega), ⟨fun h => by first | rfl | exact absurd h (by omega), fun h => by first | (funext b; simp [ui]; done) | exact trivial.2.1 | exact absurd (by omega) h⟩, ⟨fun h => by first | rfl | exact absurd h (by omega), fun h => by first | (funext b; simp [ui]; done) | exact trivial.2.2.1 | exact absurd (by omega) h⟩, ⟨fun h => by first | rfl | exact absurd h (by omega), fun h => by first | (funext b; simp [ui]; done) | exact trivial.2.2.2 | exact absurd (by omega) h⟩⟩), Iq0, frq0⟩
abbrev W_X7_half_V : List (Nat × Nat) := [(47, 11), (48, 99), (49, 99), (50, 99)]
set_option maxHeartbeats 4000000 in
set_option maxRecDepth 4000 in
theorem c_X7_half_V (ad : Nat → Nat) (Mq : Mem) (x1 : Int32) {a1 : Int} (t1 : x1.toInt = a1) (x2 : Int32) {a2 : Int} (t2 : x2.toInt = a2) (x3 : Int32) {a3 : Int} (t3 : x3.toInt = a3) (Iq0 : Iv TM Mq) : Ctr ad yX7_half cX7_half 4 (some .int) 1 [.ref (ad 47), .int x1, .int x2, .int x3] Mq (fun v M' => ∃ (r : Int32) (a : Int), v = some (.int r) ∧ r.toInt = a ∧ (((¬ (1 ≤ a1 ∧ a1 ≤ 8 ∧ 0 ≤ a2 ∧ a2 < sh x1 ∧ -1 ≤ a3 ∧ a3 ≤ a1)) ∧ (a = -2)) ∨ (¬ (¬ (1 ≤ a1 ∧ a1 ≤ 8 ∧ 0 ≤ a2 ∧ a2 < sh x1 ∧ -1 ≤ a3 ∧ a3 ≤ a1)) ∧ (40 ≤ (Mq.1 47 11).toInt) ∧ (a = -4)) ∨ (¬ (¬ (1 ≤ a1 ∧ a1 ≤ 8 ∧ 0 ≤ a2 ∧ a2 < sh x1 ∧ -1 ≤ a3 ∧ a3 ≤ a1)) ∧ ¬ (40 ≤ (Mq.1 47 11).toInt) ∧ (a = (Mq.1 47 11).toInt))) ∧ (((((¬ (1 ≤ a1 ∧ a1 ≤ 8 ∧ 0 ≤ a2 ∧ a2 < sh x1 ∧ -1 ≤ a3 ∧ a3 ≤ a1)) ∨ (40 ≤ (Mq.1 47 11).toInt)) ∧ (M'.1 47 11).toInt = (Mq.1 47 11).toInt) ∨ (¬ ((¬ (1 ≤ a1 ∧ a1 ≤ 8 ∧ 0 ≤ a2 ∧ a2 < sh x1 ∧ -1 ≤ a3 ∧ a3 ≤ a1)) ∨ (40 ≤ (Mq.1 47 11).toInt)) ∧ (M'.1 47 11).toInt = (Mq.1 47 11).toInt + 1)) ∧ ((((¬ (1 ≤ a1 ∧ a1 ≤ 8 ∧ 0 ≤ a2 ∧ a2 < sh x1 ∧ -1 ≤ a3 ∧ a3 ≤ a1)) ∨ (40 ≤ (Mq.1 47 11).toInt)) → M'.1 48 = Mq.1 48) ∧ (¬ ((¬ (1 ≤ a1 ∧ a1 ≤ 8 ∧ 0 ≤ a2 ∧ a2 < sh x1 ∧ -1 ≤ a3 ∧ a3 ≤ a1)) ∨ (40 ≤ (Mq.1 47 11).toInt)) → M'.1 48 = (ui Mq 48 ((Mq.1 47 11).toInt).toNat x1).1 48)) ∧ ((((¬ (1 ≤ a1 ∧ a1 ≤ 8 ∧ 0 ≤ a2 ∧ a2 < sh x1 ∧ -1 ≤ a3 ∧ a3 ≤ a1)) ∨ (40 ≤ (Mq.1 47 11).toInt)) → M'.1 49 = Mq.1 49) ∧ (¬ ((¬ (1 ≤ a1 ∧ a1 ≤ 8 ∧ 0 ≤ a2 ∧ a2 < sh x1 ∧ -1 ≤ a3 ∧ a3 ≤ a1)) ∨ (40 ≤ (Mq.1 47 11).toInt)) → M'.1 49 = (ui Mq 49 ((Mq.1 47 11).toInt).toNat x2).1 49)) ∧ ((((¬ (1 ≤ a1 ∧ a1 ≤ 8 ∧ 0 ≤ a2 ∧ a2 < sh x1 ∧ -1 ≤ a3 ∧ a3 ≤ a1)) ∨ (40 ≤ (Mq.1 47 11).toInt)) → M'.1 50 = Mq.1 50) ∧ (¬ ((¬ (1 ≤ a1 ∧ a1 ≤ 8 ∧ 0 ≤ a2 ∧ a2 < sh x1 ∧ -1 ≤ a3 ∧ a3 ≤ a1)) ∨ (40 ≤ (Mq.1 47 11).toInt)) → M'.1 50 = (ui Mq 50 ((Mq.1 47 11).toInt).toNat x3).1 50))) ∧ Iv TM M' ∧ Fr W_X7_half_V Mq M') := by
  refine ctr_of (L := [(0, .ref (ad 47)), (1, .int x1), (2, .int x2), (3, .int x3)]) (by decide) (Nat.le_of_ble_eq_true rfl) rfl ?_
  intro Γ X
  have X : gX Γ cX7_half RX7 4 (some .int) 1 ad _ := X
  have frq0 : Fr W_X7_half_V Mq Mq := Fr.rf
  have g11 := ig_47_11 Iq0
  have g12 := ig_47_12 Iq0
  have g20 := ig_47_20 Iq0
  have g24 := ig_47_24 Iq0
  have g52 := ig_47_52 Iq0
  have g53 := ig_47_53 Iq0
  have g43 := ig_47_43 Iq0
  refine g_iload_n X 1 rfl dX7_half_0 ?_
  refine g_i2l X dX7_half_1 (fun zq1 eq2 => ?_)
  have tq3 : zq1.toInt = a1 := i2l_nw eq2 t1
  refine g_lconst X 1 dX7_half_2 (by decide) ?_
  refine g_ldc2 X k_X7_150 dX7_half_3 ?_
  refine g_callS X m_X7_152 (c_X7_isIn ad Mq zq1 tq3 1 (show (1 : Int64).toInt = 1 by decide) 8 (show (8 : Int64).toInt = 8 by decide)) rfl (by decide) (Nat.le_of_ble_eq_true rfl) rfl dX7_half_6 ?_
  rintro _ _ ⟨rq4, aq5, rfl, tq6, hq7, rfl⟩
  show G Γ Mq 9 [(0, .ref (ad 47)), (1, .int x1), (2, .int x2), (3, .int x3)] [.int rq4]
  refine g_if_eq X tq6 (tgt := 40) dX7_half_9 (by decide) (fun cq8 => ?_) (fun cq8 => ?_)
  · have pq9 : ¬ (1 ≤ a1 ∧ a1 ≤ 8) := by first | omega | (rcases hq7 with ⟨z1, z2⟩ | ⟨z1, z2⟩ <;> first | exact z2 | (exfalso; omega))
    clear hq7 cq8 tq6
    refine g_bipush X (-2) dX7_half_40 (by decide) ?_
    exact g_iret X dX7_half_42 ⟨_, _, rfl, (show ((-2) : Int32).toInt = (-2) by decide), (by omega), (⟨by first | omega | (rw [ui_eq]; omega), ⟨fun h => by first | rfl | exact absurd h (by omega), fun h => by first | (funext b; simp [ui]; done) | exact trivial.2.1 | exact absurd (by omega) h⟩, ⟨fun h => by first | rfl | exact absurd h (by omega), fun h => by first | (funext b; simp [ui]; done) | exact trivial.2.2.1 | exact absurd (by omega) h⟩, ⟨fun h => by first | rfl | exact absurd h (by omega), fun h => by first | (funext b; simp [ui]; done) | exact trivial.2.2.2 | exact absurd (by omega) h⟩⟩), Iq0, frq0⟩
  · have pq10 : (1 ≤ a1 ∧ a1 ≤ 8) := by first | omega | (rcases hq7 with ⟨z1, z2⟩ | ⟨z1, z2⟩ <;> first | exact z2 | (exfalso; omega))
    clear hq7 cq8 tq6
    refine g_iload_n X 2 rfl dX7_half_12 ?_
    refine g_i2l X dX7_half_13 (fun zq11 eq12 => ?_)
    have tq13 : zq11.toInt = a2 := i2l_nw eq12 t2
    refine g_lconst X 0 dX7_half_14 (by decide) ?_
    refine g_iconst X 1 dX7_half_15 (by decide) ?_
    refine g_iload_n X 1 rfl dX7_half_16 ?_
    refine g_ishl X dX7_half_17 (fun zq14 eq15 => ?_)
    have hz : zq14.toInt = sh x1 := congrArg Int32.toInt eq15
    have hz2 := sh_small t1 (by omega)
    refine g_iconst X 1 dX7_half_18 (by decide) ?_
    refine g_isub X dX7_half_19 (fun zq17 eq18 => ?_)
    have tq19 : zq17.toInt = zq14.toInt - 1 := sub_nw eq18 rfl (show (1 : Int32).toInt = 1 by decide) (by omega)
    refine g_i2l X dX7_half_20 (fun zq20 eq21 => ?_)
    have tq22 : zq20.toInt = zq14.toInt - 1 := i2l_nw eq21 tq19
    refine g_callS X m_X7_152 (c_X7_isIn ad Mq zq11 tq13 0 (show (0 : Int64).toInt = 0 by decide) zq20 tq22) rfl (by decide) (Nat.le_of_ble_eq_true rfl) rfl dX7_half_21 ?_
    rintro _ _ ⟨rq23, aq24, rfl, tq25, hq26, rfl⟩
    show G Γ Mq 24 [(0, .ref (ad 47)), (1, .int x1), (2, .int x2), (3, .int x3)] [.int rq23]
    refine g_if_eq X tq25 (tgt := 40) dX7_half_24 (by decide) (fun cq27 => ?_) (fun cq27 => ?_)
    · have pq28 : ¬ (0 ≤ a2 ∧ a2 ≤ (zq14.toInt - 1)) := by first | omega | (rcases hq26 with ⟨z1, z2⟩ | ⟨z1, z2⟩ <;> first | exact z2 | (exfalso; omega))
      clear hq26 cq27 tq25
      refine g_bipush X (-2) dX7_half_40 (by decide) ?_
      exact g_iret X dX7_half_42 ⟨_, _, rfl, (show ((-2) : Int32).toInt = (-2) by decide), (by omega), (⟨by first | omega | (rw [ui_eq]; omega), ⟨fun h => by first | rfl | exact absurd h (by omega), fun h => by first | (funext b; simp [ui]; done) | exact trivial.2.1 | exact absurd (by omega) h⟩, ⟨fun h => by first | rfl | exact absurd h (by omega), fun h => by first | (funext b; simp [ui]; done) | exact trivial.2.2.1 | exact absurd (by omega) h⟩, ⟨fun h => by first | rfl | exact absurd h (by omega), fun h => by first | (funext b; simp [ui]; done) | exact trivial.2.2.2 | exact absurd (by omega) h⟩⟩), Iq0, frq0⟩
    · have pq29 : (0 ≤ a2 ∧ a2 ≤ (zq14.toInt - 1)) := by first | omega | (rcases hq26 with ⟨z1, z2⟩ | ⟨z1, z2⟩ <;> first | exact z2 | (exfalso; omega))
      clear hq26 cq27 tq25
      refine g_iload_n X 3 rfl dX7_half_27 ?_
      refine g_i2l X dX7_half_28 (fun zq30 eq31 => ?_)
      have tq32 : zq30.toInt = a3 := i2l_nw eq31 t3
      refine g_ldc2 X k_X7_156 dX7_half_29 ?_
      refine g_iload_n X 1 rfl dX7_half_32 ?_
      refine g_i2l X dX7_half_33 (fun zq33 eq34 => ?_)
      have tq35 : zq33.toInt = a1 := i2l_nw eq34 t1
      refine g_callS X m_X7_152 (c_X7_isIn ad Mq zq30 tq32 (-1) (show ((-1) : Int64).toInt = (-1) by decide) zq33 tq35) rfl (by decide) (Nat.le_of_ble_eq_true rfl) rfl dX7_half_34 ?_
      rintro _ _ ⟨rq36, aq37, rfl, tq38, hq39, rfl⟩
      show G Γ Mq 37 [(0, .ref (ad 47)), (1, .int x1), (2, .int x2), (3, .int x3)] [.int rq36]
      refine g_if_ne X tq38 (tgt := 43) dX7_half_37 (by decide) (fun cq40 => ?_) (fun cq40 => ?_)
      · have pq41 : ((-1) ≤ a3 ∧ a3 ≤ a1) := by first | omega | (rcases hq39 with ⟨z1, z2⟩ | ⟨z1, z2⟩ <;> first | exact z2 | (exfalso; omega))
        clear hq39 cq40 tq38
        refine g_aload_n X 0 rfl dX7_half_43 ?_
        refine g_geti X f_X7_144 dX7_half_44 (x := Mq.1 47 11) rfl ?_
        have bq42 := ig_47_11 Iq0
        refine g_bipush X 40 dX7_half_47 (by decide) ?_
        refine g_icmp_ne X rfl (show (40 : Int32).toInt = 40 by decide) (tgt := 55) dX7_half_49 (by decide) (fun cq43 => ?_) (fun cq43 => ?_)
        · refine g_aload_n X 0 rfl dX7_half_55 ?_
          refine g_getr X f_X7_7 dX7_half_56 ?_
          refine g_aload_n X 0 rfl dX7_half_59 ?_
          refine g_geti X f_X7_144 dX7_half_60 (x := Mq.1 47 11) rfl ?_
          have bq44 := ig_47_11 Iq0
          refine g_iload_n X 1 rfl dX7_half_63 ?_
          refine g_iast X la_48 rfl dX7_half_64 (by omega) ?_
          have Iq45 : Iv TM (ui Mq 48 (((Mq.1 47 11).toInt).toNat) x1) := Iq0.otherA rfl
          have frq46 : Fr W_X7_half_V Mq (ui Mq 48 (((Mq.1 47 11).toInt).toNat) x1) := frq0.ui rfl
          refine g_aload_n X 0 rfl dX7_half_65 ?_
          refine g_getr X f_X7_13 dX7_half_66 ?_
          refine g_aload_n X 0 rfl dX7_half_69 ?_
          refine g_geti X f_X7_144 dX7_half_70 (x := Mq.1 47 11) rfl ?_
          have bq47 := ig_47_11 Iq0
          refine g_iload_n X 2 rfl dX7_half_73 ?_
          refine g_iast X la_49 rfl dX7_half_74 (by omega) ?_
          have Iq48 : Iv TM (ui (ui Mq 48 (((Mq.1 47 11).toInt).toNat) x1) 49 (((Mq.1 47 11).toInt).toNat) x2) := Iq45.otherA rfl
          have frq49 : Fr W_X7_half_V Mq (ui (ui Mq 48 (((Mq.1 47 11).toInt).toNat) x1) 49 (((Mq.1 47 11).toInt).toNat) x2) := frq46.ui rfl
          refine g_aload_n X 0 rfl dX7_half_75 ?_
          refine g_getr X f_X7_16 dX7_half_76 ?_
          refine g_aload_n X 0 rfl dX7_half_79 ?_
          refine g_geti X f_X7_144 dX7_half_80 (x := Mq.1 47 11) rfl ?_
          have bq50 := ig_47_11 Iq0
          refine g_iload_n X 3 rfl dX7_half_83 ?_
          refine g_iast X la_50 rfl dX7_half_84 (by omega) ?_
          have Iq51 : Iv TM (ui (ui (ui Mq 48 (((Mq.1 47 11).toInt).toNat) x1) 49 (((Mq.1 47 11).toInt).toNat) x2) 50 (((Mq.1 47 11).toInt).toNat) x3) := Iq48.otherA rfl
          have frq52 : Fr W_X7_half_V Mq (ui (ui (ui Mq 48 (((Mq.1 47 11).toInt).toNat) x1) 49 (((Mq.1 47 11).toInt).toNat) x2) 50 (((Mq.1 47 11).toInt).toNat) x3) := frq49.ui rfl
          refine g_aload_n X 0 rfl dX7_half_85 ?_
          refine g_dup X dX7_half_86 rfl ?_
          refine g_geti X f_X7_144 dX7_half_87 (x := Mq.1 47 11) rfl ?_
          have bq53 := ig_47_11 Iq0
          refine g_iconst X 1 dX7_half_90 (by decide) ?_
          refine g_iadd X dX7_half_91 (fun zq54 eq55 => ?_)
          have tq56 : zq54.toInt = ((Mq.1 47 11).toInt) + 1 := add_nw eq55 rfl (show (1 : Int32).toInt = 1 by decide) (by omega)
          refine g_puti X p_X7_144 dX7_half_92 ?_
          have Iq57 : Iv TM (ui (ui (ui (ui Mq 48 (((Mq.1 47 11).toInt).toNat) x1) 49 (((Mq.1 47 11).toInt).toNat) x2) 50 (((Mq.1 47 11).toInt).toNat) x3) 47 11 zq54) := Iq51.put 0 40 tq56 (by omega) rfl
          have frq58 : Fr W_X7_half_V Mq (ui (ui (ui (ui Mq 48 (((Mq.1 47 11).toInt).toNat) x1) 49 (((Mq.1 47 11).toInt).toNat) x2) 50 (((Mq.1 47 11).toInt).toNat) x3) 47 11 zq54) := frq52.ui rfl
          refine g_aload_n X 0 rfl dX7_half_95 ?_
          refine g_geti X f_X7_144 dX7_half_96 (x := zq54) rfl ?_
          refine g_iconst X 1 dX7_half_99 (by decide) ?_
          refine g_isub X dX7_half_100 (fun zq59 eq60 => ?_)
          have tq61 : zq59.toInt = (((Mq.1 47 11).toInt) + 1) - 1 := sub_nw eq60 tq56 (show (1 : Int32).toInt = 1 by decide) (by omega)
          exact g_iret X dX7_half_101 ⟨_, _, rfl, tq61, (by omega), (⟨by first | omega | (rw [ui_eq]; omega), ⟨fun h => by first | rfl | exact absurd h (by omega), fun h => by first | (funext b; simp [ui]; done) | exact trivial.2.1 | exact absurd (by omega) h⟩, ⟨fun h => by first | rfl | exact absurd h (by omega), fun h => by first | (funext b; simp [ui]; done) | exact trivial.2.2.1 | exact absurd (by omega) h⟩, ⟨fun h => by first | rfl | exact absurd h (by omega), fun h => by first | (funext b; simp [ui]; done) | exact trivial.2.2.2 | exact absurd (by omega) h⟩⟩), Iq57, frq58⟩
        · refine g_bipush X (-4) dX7_half_52 (by decide) ?_
          exact g_iret X dX7_half_54 ⟨_, _, rfl, (show ((-4) : Int32).toInt = (-4) by decide), (by omega), (⟨by first | omega | (rw [ui_eq]; omega), ⟨fun h => by first | rfl | exact absurd h (by omega), fun h => by first | (funext b; simp [ui]; done) | exact trivial.2.1 | exact absurd (by omega) h⟩, ⟨fun h => by first | rfl | exact absurd h (by omega), fun h => by first | (funext b; simp [ui]; done) | exact trivial.2.2.1 | exact absurd (by omega) h⟩, ⟨fun h => by first | rfl | exact absurd h (by omega), fun h => by first | (funext b; simp [ui]; done) | exact trivial.2.2.2 | exact absurd (by omega) h⟩⟩), Iq0, frq0⟩
      · have pq62 : ¬ ((-1) ≤ a3 ∧ a3 ≤ a1) := by first | omega | (rcases hq39 with ⟨z1, z2⟩ | ⟨z1, z2⟩ <;> first | exact z2 | (exfalso; omega))
        clear hq39 cq40 tq38
        refine g_bipush X (-2) dX7_half_40 (by decide) ?_
        exact g_iret X dX7_half_42 ⟨_, _, rfl, (show ((-2) : Int32).toInt = (-2) by decide), (by omega), (⟨by first | omega | (rw [ui_eq]; omega), ⟨fun h => by first | rfl | exact absurd h (by omega), fun h => by first | (funext b; simp [ui]; done) | exact trivial.2.1 | exact absurd (by omega) h⟩, ⟨fun h => by first | rfl | exact absurd h (by omega), fun h => by first | (funext b; simp [ui]; done) | exact trivial.2.2.1 | exact absurd (by omega) h⟩, ⟨fun h => by first | rfl | exact absurd h (by omega), fun h => by first | (funext b; simp [ui]; done) | exact trivial.2.2.2 | exact absurd (by omega) h⟩⟩), Iq0, frq0⟩
abbrev W_X6_name_V : List (Nat × Nat) := [(5, 99), (6, 99)]
set_option maxHeartbeats 4000000 in
set_option maxRecDepth 4000 in
theorem c_X6_name_V (ad : Nat → Nat) (Mq : Mem) (x1 : Int32) {a1 : Int} (t1 : x1.toInt = a1) (x2 : Int32) {a2 : Int} (t2 : x2.toInt = a2) (x3 : Int32) {a3 : Int} (t3 : x3.toInt = a3) (Iq0 : Iv TX Mq) : Ctr ad yX6_name cX6_name 5 (some .int) 1 [.ref (ad 0), .int x1, .int x2, .int x3] Mq (fun v M' => ∃ (r : Int32) (a : Int), v = some (.int r) ∧ r.toInt = a ∧ (((¬ (0 ≤ a1 ∧ a1 ≤ 9)) ∧ (a = -1)) ∨ (¬ (¬ (0 ≤ a1 ∧ a1 ≤ 9)) ∧ (¬ (1 ≤ a2 ∧ a2 ≤ 4 ∧ 0 ≤ a3 ∧ a3 < sh x2)) ∧ (a = -2)) ∨ (¬ (¬ (0 ≤ a1 ∧ a1 ≤ 9)) ∧ ¬ (¬ (1 ≤ a2 ∧ a2 ≤ 4 ∧ 0 ≤ a3 ∧ a3 < sh x2)) ∧ (a = (Mq.1 5 a1.toNat).toInt))) ∧ (((((¬ (0 ≤ a1 ∧ a1 ≤ 9)) ∨ (¬ (1 ≤ a2 ∧ a2 ≤ 4 ∧ 0 ≤ a3 ∧ a3 < sh x2))) → M'.1 5 = Mq.1 5) ∧ (¬ ((¬ (0 ≤ a1 ∧ a1 ≤ 9)) ∨ (¬ (1 ≤ a2 ∧ a2 ≤ 4 ∧ 0 ≤ a3 ∧ a3 < sh x2))) → M'.1 5 = (ui Mq 5 a1.toNat x2).1 5)) ∧ ((((¬ (0 ≤ a1 ∧ a1 ≤ 9)) ∨ (¬ (1 ≤ a2 ∧ a2 ≤ 4 ∧ 0 ≤ a3 ∧ a3 < sh x2))) → M'.1 6 = Mq.1 6) ∧ (¬ ((¬ (0 ≤ a1 ∧ a1 ≤ 9)) ∨ (¬ (1 ≤ a2 ∧ a2 ≤ 4 ∧ 0 ≤ a3 ∧ a3 < sh x2))) → M'.1 6 = (ui Mq 6 a1.toNat x3).1 6))) ∧ Iv TX M' ∧ Fr W_X6_name_V Mq M') := by
  refine ctr_of (L := [(0, .ref (ad 0)), (1, .int x1), (2, .int x2), (3, .int x3)]) (by decide) (Nat.le_of_ble_eq_true rfl) rfl ?_
  intro Γ X
  have X : gX Γ cX6_name RX6 5 (some .int) 1 ad _ := X
  have frq0 : Fr W_X6_name_V Mq Mq := Fr.rf
  have g1_3 := ig_1_3 Iq0
  have g1_12 := ig_1_12 Iq0
  have g23_2 := ig_23_2 Iq0
  have g23_7 := ig_23_7 Iq0
  have g40_5 := ig_40_5 Iq0
  have g0_7 := ig_0_7 Iq0
  refine g_iload_n X 1 rfl dX6_name_0 ?_
  refine g_iconst X 0 dX6_name_1 (by decide) ?_
  refine g_bipush X 9 dX6_name_2 (by decide) ?_
  refine g_callS X m_X6_61 (c_X6_inside ad Mq x1 t1 0 (show (0 : Int32).toInt = 0 by decide) 9 (show (9 : Int32).toInt = 9 by decide)) rfl (by decide) (Nat.le_of_ble_eq_true rfl) rfl dX6_name_4 ?_
  rintro _ _ ⟨rq1, aq2, rfl, tq3, hq4, rfl⟩
  show G Γ Mq 7 [(0, .ref (ad 0)), (1, .int x1), (2, .int x2), (3, .int x3)] [.int rq1]
  refine g_if_ne X tq3 (tgt := 12) dX6_name_7 (by decide) (fun cq5 => ?_) (fun cq5 => ?_)
  · have pq6 : (0 ≤ a1 ∧ a1 ≤ 9) := by first | omega | (rcases hq4 with ⟨z1, z2⟩ | ⟨z1, z2⟩ <;> first | exact z2 | (exfalso; omega))
    clear hq4 cq5 tq3
    refine g_iload_n X 2 rfl dX6_name_12 ?_
    refine g_iconst X 1 dX6_name_13 (by decide) ?_
    refine g_iconst X 4 dX6_name_14 (by decide) ?_
    refine g_callS X m_X6_61 (c_X6_inside ad Mq x2 t2 1 (show (1 : Int32).toInt = 1 by decide) 4 (show (4 : Int32).toInt = 4 by decide)) rfl (by decide) (Nat.le_of_ble_eq_true rfl) rfl dX6_name_15 ?_
    rintro _ _ ⟨rq7, aq8, rfl, tq9, hq10, rfl⟩
    show G Γ Mq 18 [(0, .ref (ad 0)), (1, .int x1), (2, .int x2), (3, .int x3)] [.int rq7]
    refine g_if_eq X tq9 (tgt := 29) dX6_name_18 (by decide) (fun cq11 => ?_) (fun cq11 => ?_)
    · have pq12 : ¬ (1 ≤ a2 ∧ a2 ≤ 4) := by first | omega | (rcases hq10 with ⟨z1, z2⟩ | ⟨z1, z2⟩ <;> first | exact z2 | (exfalso; omega))
      clear hq10 cq11 tq9
      refine g_bipush X (-2) dX6_name_29 (by decide) ?_
      exact g_iret X dX6_name_31 ⟨_, _, rfl, (show ((-2) : Int32).toInt = (-2) by decide), (by omega), (⟨⟨fun h => by first | rfl | exact absurd h (by omega), fun h => by first | rfl | (funext b; simp [ui]; done) | exact absurd (by omega) h⟩, ⟨fun h => by first | rfl | exact absurd h (by omega), fun h => by first | rfl | (funext b; simp [ui]; done) | exact absurd (by omega) h⟩⟩), Iq0, frq0⟩
    · have pq13 : (1 ≤ a2 ∧ a2 ≤ 4) := by first | omega | (rcases hq10 with ⟨z1, z2⟩ | ⟨z1, z2⟩ <;> first | exact z2 | (exfalso; omega))
      clear hq10 cq11 tq9
      refine g_iload_n X 3 rfl dX6_name_21 ?_
      refine g_iload_n X 2 rfl dX6_name_22 ?_
      refine g_callS X m_X6_65 (c_X6_areBits ad Mq x3 t3 x2 t2) rfl (by decide) (Nat.le_of_ble_eq_true rfl) rfl dX6_name_23 ?_
      rintro _ _ ⟨rq14, aq15, rfl, tq16, hq17, rfl⟩
      show G Γ Mq 26 [(0, .ref (ad 0)), (1, .int x1), (2, .int x2), (3, .int x3)] [.int rq14]
      refine g_if_ne X tq16 (tgt := 32) dX6_name_26 (by decide) (fun cq18 => ?_) (fun cq18 => ?_)
      · have pq19 : (0 ≤ a3 ∧ a3 < sh x2) := by first | omega | (rcases hq17 with ⟨z1, z2⟩ | ⟨z1, z2⟩ <;> first | exact z2 | (exfalso; omega))
        clear hq17 cq18 tq16
        refine g_aload_n X 0 rfl dX6_name_32 ?_
        refine g_getr X f_X6_10 dX6_name_33 ?_
        refine g_getr X f_X6_76 dX6_name_36 ?_
        refine g_iload_n X 1 rfl dX6_name_39 ?_
        refine g_iald X la_5 t1 dX6_name_40 (by omega) (x := Mq.1 5 a1.toNat) rfl ?_
        refine g_istore X [(4, .int (Mq.1 5 a1.toNat)), (0, .ref (ad 0)), (1, .int x1), (2, .int x2), (3, .int x3)] dX6_name_41 (by decide) rfl ?_
        refine g_aload_n X 1 rfl dX6_name_43 ?_
        refine g_getr X f_X6_10 dX6_name_44 ?_
        refine g_getr X f_X6_76 dX6_name_47 ?_
        refine g_iload_n X 2 rfl dX6_name_50 ?_
        refine g_iload_n X 3 rfl dX6_name_51 ?_
        refine g_iast X la_5 t1 dX6_name_52 (by omega) ?_
        have Iq20 : Iv TX (ui Mq 5 a1.toNat x2) := Iq0.otherA rfl
        have frq21 : Fr W_X6_name_V Mq (ui Mq 5 a1.toNat x2) := frq0.ui rfl
        refine g_aload_n X 1 rfl dX6_name_53 ?_
        refine g_getr X f_X6_10 dX6_name_54 ?_
        refine g_getr X f_X6_79 dX6_name_57 ?_
        refine g_iload_n X 2 rfl dX6_name_60 ?_
        refine g_iload_n X 4 rfl dX6_name_61 ?_
        refine g_iast X la_6 t1 dX6_name_62 (by omega) ?_
        have Iq22 : Iv TX (ui (ui Mq 5 a1.toNat x2) 6 a1.toNat x3) := Iq20.otherA rfl
        have frq23 : Fr W_X6_name_V Mq (ui (ui Mq 5 a1.toNat x2) 6 a1.toNat x3) := frq21.ui rfl
        refine g_iload X 0 rfl dX6_name_63 ?_
        exact g_iret X dX6_name_65 ⟨_, _, rfl, rfl, (by omega), (⟨⟨fun h => by first | rfl | exact absurd h (by omega), fun h => by first | rfl | (funext b; simp [ui]; done) | exact absurd (by omega) h⟩, ⟨fun h => by first | rfl | exact absurd h (by omega), fun h => by first | rfl | (funext b; simp [ui]; done) | exact absurd (by omega) h⟩⟩), Iq22, frq23⟩
      · have pq24 : ¬ (0 ≤ a3 ∧ a3 < sh x2) := by first | omega | (rcases hq17 with ⟨z1, z2⟩ | ⟨z1, z2⟩ <;> first | exact z2 | (exfalso; omega))
        clear hq17 cq18 tq16
        refine g_bipush X (-2) dX6_name_29 (by decide) ?_
        exact g_iret X dX6_name_31 ⟨_, _, rfl, (show ((-2) : Int32).toInt = (-2) by decide), (by omega), (⟨⟨fun h => by first | rfl | exact absurd h (by omega), fun h => by first | rfl | (funext b; simp [ui]; done) | exact absurd (by omega) h⟩, ⟨fun h => by first | rfl | exact absurd h (by omega), fun h => by first | rfl | (funext b; simp [ui]; done) | exact absurd (by omega) h⟩⟩), Iq0, frq0⟩
  · have pq25 : ¬ (0 ≤ a1 ∧ a1 ≤ 9) := by first | omega | (rcases hq4 with ⟨z1, z2⟩ | ⟨z1, z2⟩ <;> first | exact z2 | (exfalso; omega))
    clear hq4 cq5 tq3
    refine g_iconst X (-1) dX6_name_10 (by decide) ?_
    exact g_iret X dX6_name_11 ⟨_, _, rfl, (show ((-1) : Int32).toInt = (-1) by decide), (by omega), (⟨⟨fun h => by first | rfl | exact absurd h (by omega), fun h => by first | rfl | (funext b; simp [ui]; done) | exact absurd (by omega) h⟩, ⟨fun h => by first | rfl | exact absurd h (by omega), fun h => by first | rfl | (funext b; simp [ui]; done) | exact absurd (by omega) h⟩⟩), Iq0, frq0⟩
abbrev W_X7_name_V : List (Nat × Nat) := [(51, 99), (52, 99)]
set_option maxHeartbeats 4000000 in
set_option maxRecDepth 4000 in
theorem c_X7_name_V (ad : Nat → Nat) (Mq : Mem) (x1 : Int32) {a1 : Int} (t1 : x1.toInt = a1) (x2 : Int32) {a2 : Int} (t2 : x2.toInt = a2) (x3 : Int32) {a3 : Int} (t3 : x3.toInt = a3) (Iq0 : Iv TM Mq) : Ctr ad yX7_name cX7_name 5 (some .int) 1 [.ref (ad 47), .int x1, .int x2, .int x3] Mq (fun v M' => ∃ (r : Int32) (a : Int), v = some (.int r) ∧ r.toInt = a ∧ (((¬ (0 ≤ a1 ∧ a1 ≤ 9)) ∧ (a = -1)) ∨ (¬ (¬ (0 ≤ a1 ∧ a1 ≤ 9)) ∧ (¬ (1 ≤ a2 ∧ a2 ≤ 4 ∧ 0 ≤ a3 ∧ a3 < sh x2)) ∧ (a = -2)) ∨ (¬ (¬ (0 ≤ a1 ∧ a1 ≤ 9)) ∧ ¬ (¬ (1 ≤ a2 ∧ a2 ≤ 4 ∧ 0 ≤ a3 ∧ a3 < sh x2)) ∧ (a = (Mq.1 51 a1.toNat).toInt))) ∧ (((((¬ (0 ≤ a1 ∧ a1 ≤ 9)) ∨ (¬ (1 ≤ a2 ∧ a2 ≤ 4 ∧ 0 ≤ a3 ∧ a3 < sh x2))) → M'.1 51 = Mq.1 51) ∧ (¬ ((¬ (0 ≤ a1 ∧ a1 ≤ 9)) ∨ (¬ (1 ≤ a2 ∧ a2 ≤ 4 ∧ 0 ≤ a3 ∧ a3 < sh x2))) → M'.1 51 = (ui Mq 51 a1.toNat x2).1 51)) ∧ ((((¬ (0 ≤ a1 ∧ a1 ≤ 9)) ∨ (¬ (1 ≤ a2 ∧ a2 ≤ 4 ∧ 0 ≤ a3 ∧ a3 < sh x2))) → M'.1 52 = Mq.1 52) ∧ (¬ ((¬ (0 ≤ a1 ∧ a1 ≤ 9)) ∨ (¬ (1 ≤ a2 ∧ a2 ≤ 4 ∧ 0 ≤ a3 ∧ a3 < sh x2))) → M'.1 52 = (ui Mq 52 a1.toNat x3).1 52))) ∧ Iv TM M' ∧ Fr W_X7_name_V Mq M') := by
  refine ctr_of (L := [(0, .ref (ad 47)), (1, .int x1), (2, .int x2), (3, .int x3)]) (by decide) (Nat.le_of_ble_eq_true rfl) rfl ?_
  intro Γ X
  have X : gX Γ cX7_name RX7 5 (some .int) 1 ad _ := X
  have frq0 : Fr W_X7_name_V Mq Mq := Fr.rf
  have g11 := ig_47_11 Iq0
  have g12 := ig_47_12 Iq0
  have g20 := ig_47_20 Iq0
  have g24 := ig_47_24 Iq0
  have g52 := ig_47_52 Iq0
  have g53 := ig_47_53 Iq0
  have g43 := ig_47_43 Iq0
  refine g_iload_n X 1 rfl dX7_name_0 ?_
  refine g_callS X m_X7_158 (c_X7_isName ad Mq x1 t1) rfl (by decide) (Nat.le_of_ble_eq_true rfl) rfl dX7_name_1 ?_
  rintro _ _ ⟨rq1, aq2, rfl, tq3, hq4, rfl⟩
  show G Γ Mq 4 [(0, .ref (ad 47)), (1, .int x1), (2, .int x2), (3, .int x3)] [.int rq1]
  refine g_if_ne X tq3 (tgt := 9) dX7_name_4 (by decide) (fun cq5 => ?_) (fun cq5 => ?_)
  · have pq6 : (0 ≤ a1 ∧ a1 ≤ 9) := by first | omega | (rcases hq4 with ⟨z1, z2⟩ | ⟨z1, z2⟩ <;> first | exact z2 | (exfalso; omega))
    clear hq4 cq5 tq3
    refine g_iload_n X 2 rfl dX7_name_9 ?_
    refine g_i2l X dX7_name_10 (fun zq7 eq8 => ?_)
    have tq9 : zq7.toInt = a2 := i2l_nw eq8 t2
    refine g_lconst X 1 dX7_name_11 (by decide) ?_
    refine g_ldc2 X k_X7_162 dX7_name_12 ?_
    refine g_callS X m_X7_152 (c_X7_isIn ad Mq zq7 tq9 1 (show (1 : Int64).toInt = 1 by decide) 4 (show (4 : Int64).toInt = 4 by decide)) rfl (by decide) (Nat.le_of_ble_eq_true rfl) rfl dX7_name_15 ?_
    rintro _ _ ⟨rq10, aq11, rfl, tq12, hq13, rfl⟩
    show G Γ Mq 18 [(0, .ref (ad 47)), (1, .int x1), (2, .int x2), (3, .int x3)] [.int rq10]
    refine g_if_eq X tq12 (tgt := 36) dX7_name_18 (by decide) (fun cq14 => ?_) (fun cq14 => ?_)
    · have pq15 : ¬ (1 ≤ a2 ∧ a2 ≤ 4) := by first | omega | (rcases hq13 with ⟨z1, z2⟩ | ⟨z1, z2⟩ <;> first | exact z2 | (exfalso; omega))
      clear hq13 cq14 tq12
      refine g_bipush X (-2) dX7_name_36 (by decide) ?_
      exact g_iret X dX7_name_38 ⟨_, _, rfl, (show ((-2) : Int32).toInt = (-2) by decide), (by omega), (⟨⟨fun h => by first | rfl | exact absurd h (by omega), fun h => by first | rfl | (funext b; simp [ui]; done) | exact absurd (by omega) h⟩, ⟨fun h => by first | rfl | exact absurd h (by omega), fun h => by first | rfl | (funext b; simp [ui]; done) | exact absurd (by omega) h⟩⟩), Iq0, frq0⟩
    · have pq16 : (1 ≤ a2 ∧ a2 ≤ 4) := by first | omega | (rcases hq13 with ⟨z1, z2⟩ | ⟨z1, z2⟩ <;> first | exact z2 | (exfalso; omega))
      clear hq13 cq14 tq12
      refine g_iload_n X 3 rfl dX7_name_21 ?_
      refine g_i2l X dX7_name_22 (fun zq17 eq18 => ?_)
      have tq19 : zq17.toInt = a3 := i2l_nw eq18 t3
      refine g_lconst X 0 dX7_name_23 (by decide) ?_
      refine g_iconst X 1 dX7_name_24 (by decide) ?_
      refine g_iload_n X 2 rfl dX7_name_25 ?_
      refine g_ishl X dX7_name_26 (fun zq20 eq21 => ?_)
      have hz : zq20.toInt = sh x2 := congrArg Int32.toInt eq21
      have hz2 := sh_small t2 (by omega)
      refine g_iconst X 1 dX7_name_27 (by decide) ?_
      refine g_isub X dX7_name_28 (fun zq23 eq24 => ?_)
      have tq25 : zq23.toInt = zq20.toInt - 1 := sub_nw eq24 rfl (show (1 : Int32).toInt = 1 by decide) (by omega)
      refine g_i2l X dX7_name_29 (fun zq26 eq27 => ?_)
      have tq28 : zq26.toInt = zq20.toInt - 1 := i2l_nw eq27 tq25
      refine g_callS X m_X7_152 (c_X7_isIn ad Mq zq17 tq19 0 (show (0 : Int64).toInt = 0 by decide) zq26 tq28) rfl (by decide) (Nat.le_of_ble_eq_true rfl) rfl dX7_name_30 ?_
      rintro _ _ ⟨rq29, aq30, rfl, tq31, hq32, rfl⟩
      show G Γ Mq 33 [(0, .ref (ad 47)), (1, .int x1), (2, .int x2), (3, .int x3)] [.int rq29]
      refine g_if_ne X tq31 (tgt := 39) dX7_name_33 (by decide) (fun cq33 => ?_) (fun cq33 => ?_)
      · have pq34 : (0 ≤ a3 ∧ a3 ≤ (zq20.toInt - 1)) := by first | omega | (rcases hq32 with ⟨z1, z2⟩ | ⟨z1, z2⟩ <;> first | exact z2 | (exfalso; omega))
        clear hq32 cq33 tq31
        refine g_aload_n X 0 rfl dX7_name_39 ?_
        refine g_getr X f_X7_19 dX7_name_40 ?_
        refine g_iload_n X 1 rfl dX7_name_43 ?_
        refine g_iald X la_51 t1 dX7_name_44 (by omega) (x := Mq.1 51 a1.toNat) rfl ?_
        refine g_istore X [(4, .int (Mq.1 51 a1.toNat)), (0, .ref (ad 47)), (1, .int x1), (2, .int x2), (3, .int x3)] dX7_name_45 (by decide) rfl ?_
        refine g_aload_n X 1 rfl dX7_name_47 ?_
        refine g_getr X f_X7_19 dX7_name_48 ?_
        refine g_iload_n X 2 rfl dX7_name_51 ?_
        refine g_iload_n X 3 rfl dX7_name_52 ?_
        refine g_iast X la_51 t1 dX7_name_53 (by omega) ?_
        have Iq35 : Iv TM (ui Mq 51 a1.toNat x2) := Iq0.otherA rfl
        have frq36 : Fr W_X7_name_V Mq (ui Mq 51 a1.toNat x2) := frq0.ui rfl
        refine g_aload_n X 1 rfl dX7_name_54 ?_
        refine g_getr X f_X7_22 dX7_name_55 ?_
        refine g_iload_n X 2 rfl dX7_name_58 ?_
        refine g_iload_n X 4 rfl dX7_name_59 ?_
        refine g_iast X la_52 t1 dX7_name_60 (by omega) ?_
        have Iq37 : Iv TM (ui (ui Mq 51 a1.toNat x2) 52 a1.toNat x3) := Iq35.otherA rfl
        have frq38 : Fr W_X7_name_V Mq (ui (ui Mq 51 a1.toNat x2) 52 a1.toNat x3) := frq36.ui rfl
        refine g_iload X 0 rfl dX7_name_61 ?_
        exact g_iret X dX7_name_63 ⟨_, _, rfl, rfl, (by omega), (⟨⟨fun h => by first | rfl | exact absurd h (by omega), fun h => by first | rfl | (funext b; simp [ui]; done) | exact absurd (by omega) h⟩, ⟨fun h => by first | rfl | exact absurd h (by omega), fun h => by first | rfl | (funext b; simp [ui]; done) | exact absurd (by omega) h⟩⟩), Iq37, frq38⟩
      · have pq39 : ¬ (0 ≤ a3 ∧ a3 ≤ (zq20.toInt - 1)) := by first | omega | (rcases hq32 with ⟨z1, z2⟩ | ⟨z1, z2⟩ <;> first | exact z2 | (exfalso; omega))
        clear hq32 cq33 tq31
        refine g_bipush X (-2) dX7_name_36 (by decide) ?_
        exact g_iret X dX7_name_38 ⟨_, _, rfl, (show ((-2) : Int32).toInt = (-2) by decide), (by omega), (⟨⟨fun h => by first | rfl | exact absurd h (by omega), fun h => by first | rfl | (funext b; simp [ui]; done) | exact absurd (by omega) h⟩, ⟨fun h => by first | rfl | exact absurd h (by omega), fun h => by first | rfl | (funext b; simp [ui]; done) | exact absurd (by omega) h⟩⟩), Iq0, frq0⟩
  · have pq40 : ¬ (0 ≤ a1 ∧ a1 ≤ 9) := by first | omega | (rcases hq4 with ⟨z1, z2⟩ | ⟨z1, z2⟩ <;> first | exact z2 | (exfalso; omega))
    clear hq4 cq5 tq3
    refine g_iconst X (-1) dX7_name_7 (by decide) ?_
    exact g_iret X dX7_name_8 ⟨_, _, rfl, (show ((-1) : Int32).toInt = (-1) by decide), (by omega), (⟨⟨fun h => by first | rfl | exact absurd h (by omega), fun h => by first | rfl | (funext b; simp [ui]; done) | exact absurd (by omega) h⟩, ⟨fun h => by first | rfl | exact absurd h (by omega), fun h => by first | rfl | (funext b; simp [ui]; done) | exact absurd (by omega) h⟩⟩), Iq0, frq0⟩
abbrev W_X5_addLine_V : List (Nat × Nat) := [(1, 12), (1, 11), (7, 99), (8, 99), (9, 99), (10, 99), (11, 99)]
set_option maxHeartbeats 4000000 in
set_option maxRecDepth 4000 in
theorem c_X5_addLine_V (ad : Nat → Nat) (Mq : Mem) (x1 : Int32) {a1 : Int} (t1 : x1.toInt = a1) (x2 : Int32) {a2 : Int} (t2 : x2.toInt = a2) (x3 : Int32) {a3 : Int} (t3 : x3.toInt = a3) (x4 : Int32) {a4 : Int} (t4 : x4.toInt = a4) (x5 : Int32) {a5 : Int} (t5 : x5.toInt = a5) (Iq0 : Iv TX Mq) (h1 : (Mq.1 1 12).toInt < 40) (h2 : 0 ≤ a1 ∧ a1 < 40) (h3 : 0 ≤ a2 ∧ a2 < 40) (h4 : 0 ≤ a3 ∧ a3 < 8) (h5 : 0 ≤ a4 ∧ a4 ≤ 9) (h6 : a5 = 0 ∨ a5 = 1) : Ctr ad yX5_addLine cX5_addLine 6 (some .int) 0 [.ref (ad 1), .int x1, .int x2, .int x3, .int x4, .int x5] Mq (fun v M' => ∃ (r : Int32) (a : Int), v = some (.int r) ∧ r.toInt = a ∧ (a = (Mq.1 1 12).toInt) ∧ ((M'.1 1 12).toInt = (Mq.1 1 12).toInt + 1 ∧ (∀ l : Nat, l < 64 → b64 (M'.2 1 11) l = (b64 (Mq.2 1 11) l || (decide ((l : Int) = (Mq.1 1 12).toInt) && decide (a5 = 1)))) ∧ (∀ s l : Nat, l < 64 → b64 (M'.2 11 s) l = if s = a3.toNat ∧ l = ((Mq.1 1 12).toInt).toNat then true else b64 (Mq.2 11 s) l) ∧ M'.1 7 = (ui Mq 7 ((Mq.1 1 12).toInt).toNat x1).1 7 ∧ M'.1 8 = (ui Mq 8 ((Mq.1 1 12).toInt).toNat x2).1 8 ∧ M'.1 9 = (ui Mq 9 ((Mq.1 1 12).toInt).toNat x3).1 9 ∧ M'.1 10 = (ui Mq 10 ((Mq.1 1 12).toInt).toNat x4).1 10) ∧ Iv TX M' ∧ Fr W_X5_addLine_V Mq M') := by
  refine ctr_of (L := [(0, .ref (ad 1)), (1, .int x1), (2, .int x2), (3, .int x3), (4, .int x4), (5, .int x5)]) (by decide) (Nat.le_of_ble_eq_true rfl) rfl ?_
  intro Γ X
  have X : gX Γ cX5_addLine RX5 6 (some .int) 0 ad _ := X
  have frq0 : Fr W_X5_addLine_V Mq Mq := Fr.rf
  have hgl := ig_1_12 Iq0
  refine g_aload_n X 0 rfl dX5_addLine_0 ?_
  refine g_getr X f_X5_31 dX5_addLine_1 ?_
  refine g_aload_n X 0 rfl dX5_addLine_4 ?_
  refine g_geti X f_X5_51 dX5_addLine_5 (x := Mq.1 1 12) rfl ?_
  have bq1 := ig_1_12 Iq0
  refine g_iload_n X 1 rfl dX5_addLine_8 ?_
  refine g_iast X la_7 rfl dX5_addLine_9 (by omega) ?_
  have Iq2 : Iv TX (ui Mq 7 (((Mq.1 1 12).toInt).toNat) x1) := Iq0.putA 0 39 t1 (by omega) rfl
  have frq3 : Fr W_X5_addLine_V Mq (ui Mq 7 (((Mq.1 1 12).toInt).toNat) x1) := frq0.ui rfl
  refine g_aload_n X 0 rfl dX5_addLine_10 ?_
  refine g_getr X f_X5_34 dX5_addLine_11 ?_
  refine g_aload_n X 0 rfl dX5_addLine_14 ?_
  refine g_geti X f_X5_51 dX5_addLine_15 (x := Mq.1 1 12) rfl ?_
  have bq4 := ig_1_12 Iq0
  refine g_iload_n X 2 rfl dX5_addLine_18 ?_
  refine g_iast X la_8 rfl dX5_addLine_19 (by omega) ?_
  have Iq5 : Iv TX (ui (ui Mq 7 (((Mq.1 1 12).toInt).toNat) x1) 8 (((Mq.1 1 12).toInt).toNat) x2) := Iq2.putA 0 39 t2 (by omega) rfl
  have frq6 : Fr W_X5_addLine_V Mq (ui (ui Mq 7 (((Mq.1 1 12).toInt).toNat) x1) 8 (((Mq.1 1 12).toInt).toNat) x2) := frq3.ui rfl
  refine g_aload_n X 0 rfl dX5_addLine_20 ?_
  refine g_getr X f_X5_37 dX5_addLine_21 ?_
  refine g_aload_n X 0 rfl dX5_addLine_24 ?_
  refine g_geti X f_X5_51 dX5_addLine_25 (x := Mq.1 1 12) rfl ?_
  have bq7 := ig_1_12 Iq0
  refine g_iload_n X 3 rfl dX5_addLine_28 ?_
  refine g_iast X la_9 rfl dX5_addLine_29 (by omega) ?_
  have Iq8 : Iv TX (ui (ui (ui Mq 7 (((Mq.1 1 12).toInt).toNat) x1) 8 (((Mq.1 1 12).toInt).toNat) x2) 9 (((Mq.1 1 12).toInt).toNat) x3) := Iq5.otherA rfl
  have frq9 : Fr W_X5_addLine_V Mq (ui (ui (ui Mq 7 (((Mq.1 1 12).toInt).toNat) x1) 8 (((Mq.1 1 12).toInt).toNat) x2) 9 (((Mq.1 1 12).toInt).toNat) x3) := frq6.ui rfl
  refine g_aload_n X 0 rfl dX5_addLine_30 ?_
  refine g_getr X f_X5_40 dX5_addLine_31 ?_
  refine g_aload_n X 0 rfl dX5_addLine_34 ?_
  refine g_geti X f_X5_51 dX5_addLine_35 (x := Mq.1 1 12) rfl ?_
  have bq10 := ig_1_12 Iq0
  refine g_iload X 4 rfl dX5_addLine_38 ?_
  refine g_iast X la_10 rfl dX5_addLine_40 (by omega) ?_
  have Iq11 : Iv TX (ui (ui (ui (ui Mq 7 (((Mq.1 1 12).toInt).toNat) x1) 8 (((Mq.1 1 12).toInt).toNat) x2) 9 (((Mq.1 1 12).toInt).toNat) x3) 10 (((Mq.1 1 12).toInt).toNat) x4) := Iq8.putA 0 9 t4 (by omega) rfl
  have frq12 : Fr W_X5_addLine_V Mq (ui (ui (ui (ui Mq 7 (((Mq.1 1 12).toInt).toNat) x1) 8 (((Mq.1 1 12).toInt).toNat) x2) 9 (((Mq.1 1 12).toInt).toNat) x3) 10 (((Mq.1 1 12).toInt).toNat) x4) := frq9.ui rfl
  refine g_aload_n X 0 rfl dX5_addLine_41 ?_
  refine g_getr X f_X5_43 dX5_addLine_42 ?_
  refine g_iload_n X 3 rfl dX5_addLine_45 ?_
  refine g_dup2 X dX5_addLine_46 rfl rfl ?_
  refine g_lald X la_11 t3 dX5_addLine_47 (by omega) (x := Mq.2 11 a3.toNat) rfl ?_
  refine g_lconst X 1 dX5_addLine_48 (by decide) ?_
  refine g_aload_n X 0 rfl dX5_addLine_49 ?_
  refine g_geti X f_X5_51 dX5_addLine_50 (x := Mq.1 1 12) rfl ?_
  have bq13 := ig_1_12 Iq0
  refine g_lshl X dX5_addLine_53 (fun zq14 eq15 => ?_)
  have kb1 := eq15
  refine g_lor X dX5_addLine_54 (fun zq16 eq17 => ?_)
  have kb2 := bt_or rfl (by omega) kb1 eq17
  refine g_last X la_11 t3 dX5_addLine_55 (by omega) ?_
  have Iq18 : Iv TX (ul (ui (ui (ui (ui Mq 7 (((Mq.1 1 12).toInt).toNat) x1) 8 (((Mq.1 1 12).toInt).toNat) x2) 9 (((Mq.1 1 12).toInt).toNat) x3) 10 (((Mq.1 1 12).toInt).toNat) x4) 11 a3.toNat zq16) := Iq11.long
  have frq19 : Fr W_X5_addLine_V Mq (ul (ui (ui (ui (ui Mq 7 (((Mq.1 1 12).toInt).toNat) x1) 8 (((Mq.1 1 12).toInt).toNat) x2) 9 (((Mq.1 1 12).toInt).toNat) x3) 10 (((Mq.1 1 12).toInt).toNat) x4) 11 a3.toNat zq16) := frq12.ul rfl
  refine g_aload_n X 0 rfl dX5_addLine_56 ?_
  refine g_dup X dX5_addLine_57 rfl ?_
  refine g_getl X f_X5_47 dX5_addLine_58 (x := Mq.2 1 11) rfl ?_
  refine g_iload X 5 rfl dX5_addLine_61 ?_
  refine g_i2l X dX5_addLine_63 (fun zq20 eq21 => ?_)
  have tq22 : zq20.toInt = a5 := i2l_nw eq21 t5
  refine g_aload_n X 0 rfl dX5_addLine_64 ?_
  refine g_geti X f_X5_51 dX5_addLine_65 (x := Mq.1 1 12) rfl ?_
  have bq23 := ig_1_12 Iq0
  refine g_lshl X dX5_addLine_68 (fun zq24 eq25 => ?_)
  have kx1 := eq25
  have kz1 := tq22
  refine g_lor X dX5_addLine_69 (fun zq26 eq27 => ?_)
  have kx2 := eq27
  refine g_putl X p_X5_47 dX5_addLine_70 ?_
  have Iq28 : Iv TX (ul (ul (ui (ui (ui (ui Mq 7 (((Mq.1 1 12).toInt).toNat) x1) 8 (((Mq.1 1 12).toInt).toNat) x2) 9 (((Mq.1 1 12).toInt).toNat) x3) 10 (((Mq.1 1 12).toInt).toNat) x4) 11 a3.toNat zq16) 1 11 zq26) := Iq18.long
  have frq29 : Fr W_X5_addLine_V Mq (ul (ul (ui (ui (ui (ui Mq 7 (((Mq.1 1 12).toInt).toNat) x1) 8 (((Mq.1 1 12).toInt).toNat) x2) 9 (((Mq.1 1 12).toInt).toNat) x3) 10 (((Mq.1 1 12).toInt).toNat) x4) 11 a3.toNat zq16) 1 11 zq26) := frq19.ul rfl
  refine g_aload_n X 0 rfl dX5_addLine_73 ?_
  refine g_dup X dX5_addLine_74 rfl ?_
  refine g_geti X f_X5_51 dX5_addLine_75 (x := Mq.1 1 12) rfl ?_
  have bq30 := ig_1_12 Iq0
  refine g_iconst X 1 dX5_addLine_78 (by decide) ?_
  refine g_iadd X dX5_addLine_79 (fun zq31 eq32 => ?_)
  have tq33 : zq31.toInt = ((Mq.1 1 12).toInt) + 1 := add_nw eq32 rfl (show (1 : Int32).toInt = 1 by decide) (by omega)
  refine g_puti X p_X5_51 dX5_addLine_80 ?_
  have Iq34 : Iv TX (ui (ul (ul (ui (ui (ui (ui Mq 7 (((Mq.1 1 12).toInt).toNat) x1) 8 (((Mq.1 1 12).toInt).toNat) x2) 9 (((Mq.1 1 12).toInt).toNat) x3) 10 (((Mq.1 1 12).toInt).toNat) x4) 11 a3.toNat zq16) 1 11 zq26) 1 12 zq31) := Iq28.put 0 40 tq33 (by omega) rfl
  have frq35 : Fr W_X5_addLine_V Mq (ui (ul (ul (ui (ui (ui (ui Mq 7 (((Mq.1 1 12).toInt).toNat) x1) 8 (((Mq.1 1 12).toInt).toNat) x2) 9 (((Mq.1 1 12).toInt).toNat) x3) 10 (((Mq.1 1 12).toInt).toNat) x4) 11 a3.toNat zq16) 1 11 zq26) 1 12 zq31) := frq29.ui rfl
  refine g_aload_n X 0 rfl dX5_addLine_83 ?_
  refine g_geti X f_X5_51 dX5_addLine_84 (x := zq31) rfl ?_
  refine g_iconst X 1 dX5_addLine_87 (by decide) ?_
  refine g_isub X dX5_addLine_88 (fun zq36 eq37 => ?_)
  have tq38 : zq36.toInt = (((Mq.1 1 12).toInt) + 1) - 1 := sub_nw eq37 tq33 (show (1 : Int32).toInt = 1 by decide) (by omega)
  exact g_iret X dX5_addLine_89 ⟨_, _, rfl, tq38, (by omega), (⟨by rw [ui_eq]; omega, fun l hl => slip_or kz1 h6 rfl (by omega) kx1 kx2 l hl, bs_put kb2 (fun s q => by simp [ui, ul, q]) (by simp [ui, ul]), (by funext b; simp [ui, ul]), (by funext b; simp [ui, ul]), (by funext b; simp [ui, ul]), (by funext b; simp [ui, ul])⟩), Iq34, frq35⟩
abbrev W_X6_line_V : List (Nat × Nat) := [(1, 12), (1, 11), (7, 99), (8, 99), (9, 99), (10, 99), (11, 99)]
set_option maxHeartbeats 4000000 in
set_option maxRecDepth 4000 in
theorem c_X6_line_V (ad : Nat → Nat) (Mq : Mem) (x1 : Int32) {a1 : Int} (t1 : x1.toInt = a1) (x2 : Int32) {a2 : Int} (t2 : x2.toInt = a2) (x3 : Int32) {a3 : Int} (t3 : x3.toInt = a3) (x4 : Int32) {a4 : Int} (t4 : x4.toInt = a4) (x5 : Int32) {a5 : Int} (t5 : x5.toInt = a5) (Iq0 : Iv TX Mq) : Ctr ad yX6_line cX6_line 6 (some .int) 1 [.ref (ad 0), .int x1, .int x2, .int x3, .int x4, .int x5] Mq (fun v M' => ∃ (r : Int32) (a : Int), v = some (.int r) ∧ r.toInt = a ∧ (((¬ ((0 ≤ a1 ∧ a1 < (Mq.1 1 3).toInt) ∧ (0 ≤ a2 ∧ a2 < (Mq.1 1 3).toInt) ∧ 0 ≤ a3 ∧ a3 ≤ 7 ∧ 0 ≤ a4 ∧ a4 ≤ 9)) ∧ (a = -1)) ∨ (¬ (¬ ((0 ≤ a1 ∧ a1 < (Mq.1 1 3).toInt) ∧ (0 ≤ a2 ∧ a2 < (Mq.1 1 3).toInt) ∧ 0 ≤ a3 ∧ a3 ≤ 7 ∧ 0 ≤ a4 ∧ a4 ≤ 9)) ∧ (¬ (0 ≤ a5 ∧ a5 ≤ 1)) ∧ (a = -2)) ∨ (¬ (¬ ((0 ≤ a1 ∧ a1 < (Mq.1 1 3).toInt) ∧ (0 ≤ a2 ∧ a2 < (Mq.1 1 3).toInt) ∧ 0 ≤ a3 ∧ a3 ≤ 7 ∧ 0 ≤ a4 ∧ a4 ≤ 9)) ∧ ¬ (¬ (0 ≤ a5 ∧ a5 ≤ 1)) ∧ (40 ≤ (Mq.1 1 12).toInt) ∧ (a = -4)) ∨ (¬ (¬ ((0 ≤ a1 ∧ a1 < (Mq.1 1 3).toInt) ∧ (0 ≤ a2 ∧ a2 < (Mq.1 1 3).toInt) ∧ 0 ≤ a3 ∧ a3 ≤ 7 ∧ 0 ≤ a4 ∧ a4 ≤ 9)) ∧ ¬ (¬ (0 ≤ a5 ∧ a5 ≤ 1)) ∧ ¬ (40 ≤ (Mq.1 1 12).toInt) ∧ (a = (Mq.1 1 12).toInt))) ∧ (((((¬ ((0 ≤ a1 ∧ a1 < (Mq.1 1 3).toInt) ∧ (0 ≤ a2 ∧ a2 < (Mq.1 1 3).toInt) ∧ 0 ≤ a3 ∧ a3 ≤ 7 ∧ 0 ≤ a4 ∧ a4 ≤ 9)) ∨ (¬ (0 ≤ a5 ∧ a5 ≤ 1)) ∨ (40 ≤ (Mq.1 1 12).toInt)) ∧ (M'.1 1 12).toInt = (Mq.1 1 12).toInt) ∨ (¬ ((¬ ((0 ≤ a1 ∧ a1 < (Mq.1 1 3).toInt) ∧ (0 ≤ a2 ∧ a2 < (Mq.1 1 3).toInt) ∧ 0 ≤ a3 ∧ a3 ≤ 7 ∧ 0 ≤ a4 ∧ a4 ≤ 9)) ∨ (¬ (0 ≤ a5 ∧ a5 ≤ 1)) ∨ (40 ≤ (Mq.1 1 12).toInt)) ∧ (M'.1 1 12).toInt = (Mq.1 1 12).toInt + 1)) ∧ ((((¬ ((0 ≤ a1 ∧ a1 < (Mq.1 1 3).toInt) ∧ (0 ≤ a2 ∧ a2 < (Mq.1 1 3).toInt) ∧ 0 ≤ a3 ∧ a3 ≤ 7 ∧ 0 ≤ a4 ∧ a4 ≤ 9)) ∨ (¬ (0 ≤ a5 ∧ a5 ≤ 1)) ∨ (40 ≤ (Mq.1 1 12).toInt)) → M'.2 1 11 = Mq.2 1 11) ∧ (¬ ((¬ ((0 ≤ a1 ∧ a1 < (Mq.1 1 3).toInt) ∧ (0 ≤ a2 ∧ a2 < (Mq.1 1 3).toInt) ∧ 0 ≤ a3 ∧ a3 ≤ 7 ∧ 0 ≤ a4 ∧ a4 ≤ 9)) ∨ (¬ (0 ≤ a5 ∧ a5 ≤ 1)) ∨ (40 ≤ (Mq.1 1 12).toInt)) → ∀ l : Nat, l < 64 → b64 (M'.2 1 11) l = (b64 (Mq.2 1 11) l || (decide ((l : Int) = (Mq.1 1 12).toInt) && decide (a5 = 1))))) ∧ ((((¬ ((0 ≤ a1 ∧ a1 < (Mq.1 1 3).toInt) ∧ (0 ≤ a2 ∧ a2 < (Mq.1 1 3).toInt) ∧ 0 ≤ a3 ∧ a3 ≤ 7 ∧ 0 ≤ a4 ∧ a4 ≤ 9)) ∨ (¬ (0 ≤ a5 ∧ a5 ≤ 1)) ∨ (40 ≤ (Mq.1 1 12).toInt)) → M'.2 11 = Mq.2 11) ∧ (¬ ((¬ ((0 ≤ a1 ∧ a1 < (Mq.1 1 3).toInt) ∧ (0 ≤ a2 ∧ a2 < (Mq.1 1 3).toInt) ∧ 0 ≤ a3 ∧ a3 ≤ 7 ∧ 0 ≤ a4 ∧ a4 ≤ 9)) ∨ (¬ (0 ≤ a5 ∧ a5 ≤ 1)) ∨ (40 ≤ (Mq.1 1 12).toInt)) → ∀ s l : Nat, l < 64 → b64 (M'.2 11 s) l = if s = a3.toNat ∧ l = ((Mq.1 1 12).toInt).toNat then true else b64 (Mq.2 11 s) l)) ∧ ((((¬ ((0 ≤ a1 ∧ a1 < (Mq.1 1 3).toInt) ∧ (0 ≤ a2 ∧ a2 < (Mq.1 1 3).toInt) ∧ 0 ≤ a3 ∧ a3 ≤ 7 ∧ 0 ≤ a4 ∧ a4 ≤ 9)) ∨ (¬ (0 ≤ a5 ∧ a5 ≤ 1)) ∨ (40 ≤ (Mq.1 1 12).toInt)) → M'.1 7 = Mq.1 7) ∧ (¬ ((¬ ((0 ≤ a1 ∧ a1 < (Mq.1 1 3).toInt) ∧ (0 ≤ a2 ∧ a2 < (Mq.1 1 3).toInt) ∧ 0 ≤ a3 ∧ a3 ≤ 7 ∧ 0 ≤ a4 ∧ a4 ≤ 9)) ∨ (¬ (0 ≤ a5 ∧ a5 ≤ 1)) ∨ (40 ≤ (Mq.1 1 12).toInt)) → M'.1 7 = (ui Mq 7 ((Mq.1 1 12).toInt).toNat x1).1 7)) ∧ ((((¬ ((0 ≤ a1 ∧ a1 < (Mq.1 1 3).toInt) ∧ (0 ≤ a2 ∧ a2 < (Mq.1 1 3).toInt) ∧ 0 ≤ a3 ∧ a3 ≤ 7 ∧ 0 ≤ a4 ∧ a4 ≤ 9)) ∨ (¬ (0 ≤ a5 ∧ a5 ≤ 1)) ∨ (40 ≤ (Mq.1 1 12).toInt)) → M'.1 8 = Mq.1 8) ∧ (¬ ((¬ ((0 ≤ a1 ∧ a1 < (Mq.1 1 3).toInt) ∧ (0 ≤ a2 ∧ a2 < (Mq.1 1 3).toInt) ∧ 0 ≤ a3 ∧ a3 ≤ 7 ∧ 0 ≤ a4 ∧ a4 ≤ 9)) ∨ (¬ (0 ≤ a5 ∧ a5 ≤ 1)) ∨ (40 ≤ (Mq.1 1 12).toInt)) → M'.1 8 = (ui Mq 8 ((Mq.1 1 12).toInt).toNat x2).1 8)) ∧ ((((¬ ((0 ≤ a1 ∧ a1 < (Mq.1 1 3).toInt) ∧ (0 ≤ a2 ∧ a2 < (Mq.1 1 3).toInt) ∧ 0 ≤ a3 ∧ a3 ≤ 7 ∧ 0 ≤ a4 ∧ a4 ≤ 9)) ∨ (¬ (0 ≤ a5 ∧ a5 ≤ 1)) ∨ (40 ≤ (Mq.1 1 12).toInt)) → M'.1 9 = Mq.1 9) ∧ (¬ ((¬ ((0 ≤ a1 ∧ a1 < (Mq.1 1 3).toInt) ∧ (0 ≤ a2 ∧ a2 < (Mq.1 1 3).toInt) ∧ 0 ≤ a3 ∧ a3 ≤ 7 ∧ 0 ≤ a4 ∧ a4 ≤ 9)) ∨ (¬ (0 ≤ a5 ∧ a5 ≤ 1)) ∨ (40 ≤ (Mq.1 1 12).toInt)) → M'.1 9 = (ui Mq 9 ((Mq.1 1 12).toInt).toNat x3).1 9)) ∧ ((((¬ ((0 ≤ a1 ∧ a1 < (Mq.1 1 3).toInt) ∧ (0 ≤ a2 ∧ a2 < (Mq.1 1 3).toInt) ∧ 0 ≤ a3 ∧ a3 ≤ 7 ∧ 0 ≤ a4 ∧ a4 ≤ 9)) ∨ (¬ (0 ≤ a5 ∧ a5 ≤ 1)) ∨ (40 ≤ (Mq.1 1 12).toInt)) → M'.1 10 = Mq.1 10) ∧ (¬ ((¬ ((0 ≤ a1 ∧ a1 < (Mq.1 1 3).toInt) ∧ (0 ≤ a2 ∧ a2 < (Mq.1 1 3).toInt) ∧ 0 ≤ a3 ∧ a3 ≤ 7 ∧ 0 ≤ a4 ∧ a4 ≤ 9)) ∨ (¬ (0 ≤ a5 ∧ a5 ≤ 1)) ∨ (40 ≤ (Mq.1 1 12).toInt)) → M'.1 10 = (ui Mq 10 ((Mq.1 1 12).toInt).toNat x4).1 10))) ∧ Iv TX M' ∧ Fr W_X6_line_V Mq M') := by
  refine ctr_of (L := [(0, .ref (ad 0)), (1, .int x1), (2, .int x2), (3, .int x3), (4, .int x4), (5, .int x5)]) (by decide) (Nat.le_of_ble_eq_true rfl) rfl ?_
  intro Γ X
  have X : gX Γ cX6_line RX6 6 (some .int) 1 ad _ := X
  have frq0 : Fr W_X6_line_V Mq Mq := Fr.rf
  have g1_3 := ig_1_3 Iq0
  have g1_12 := ig_1_12 Iq0
  have g0_7 := ig_0_7 Iq0
  refine g_aload_n X 0 rfl dX6_line_0 ?_
  refine g_getr X f_X6_10 dX6_line_1 ?_
  refine g_iload_n X 1 rfl dX6_line_4 ?_
  refine g_callV X m_X6_82 (c_X5_isHalf ad Mq x1 t1) rfl (by decide) (Nat.le_of_ble_eq_true rfl) rfl dX6_line_5 ?_
  rintro _ _ ⟨rq1, aq2, rfl, tq3, hq4, rfl⟩
  show G Γ Mq 8 [(0, .ref (ad 0)), (1, .int x1), (2, .int x2), (3, .int x3), (4, .int x4), (5, .int x5)] [.int rq1]
  refine g_if_eq X tq3 (tgt := 22) dX6_line_8 (by decide) (fun cq5 => ?_) (fun cq5 => ?_)
  · have pq6 : ¬ (0 ≤ a1 ∧ a1 < ((Mq.1 1 3)).toInt) := by first | omega | (rcases hq4 with ⟨z1, z2⟩ | ⟨z1, z2⟩ <;> first | exact z2 | (exfalso; omega))
    clear hq4 cq5 tq3
    refine g_iconst X (-1) dX6_line_22 (by decide) ?_
    exact g_iret X dX6_line_23 ⟨_, _, rfl, (show ((-1) : Int32).toInt = (-1) by decide), (by omega), (⟨by first | omega | (have z := trivial.1; omega), ⟨fun h => by first | rfl | exact absurd h (by omega), fun h => by first | exact trivial.2.1 | exact absurd (by omega) h⟩, ⟨fun h => by first | rfl | exact absurd h (by omega), fun h => by first | exact trivial.2.2.1 | exact absurd (by omega) h⟩, ⟨fun h => by first | rfl | exact absurd h (by omega), fun h => by first | exact trivial.2.2.2.1 | exact absurd (by omega) h⟩, ⟨fun h => by first | rfl | exact absurd h (by omega), fun h => by first | exact trivial.2.2.2.2.1 | exact absurd (by omega) h⟩, ⟨fun h => by first | rfl | exact absurd h (by omega), fun h => by first | exact trivial.2.2.2.2.2.1 | exact absurd (by omega) h⟩, ⟨fun h => by first | rfl | exact absurd h (by omega), fun h => by first | exact trivial.2.2.2.2.2.2 | exact absurd (by omega) h⟩⟩), Iq0, frq0⟩
  · have pq7 : (0 ≤ a1 ∧ a1 < ((Mq.1 1 3)).toInt) := by first | omega | (rcases hq4 with ⟨z1, z2⟩ | ⟨z1, z2⟩ <;> first | exact z2 | (exfalso; omega))
    clear hq4 cq5 tq3
    refine g_aload_n X 0 rfl dX6_line_11 ?_
    refine g_getr X f_X6_10 dX6_line_12 ?_
    refine g_iload_n X 2 rfl dX6_line_15 ?_
    refine g_callV X m_X6_82 (c_X5_isHalf ad Mq x2 t2) rfl (by decide) (Nat.le_of_ble_eq_true rfl) rfl dX6_line_16 ?_
    rintro _ _ ⟨rq8, aq9, rfl, tq10, hq11, rfl⟩
    show G Γ Mq 19 [(0, .ref (ad 0)), (1, .int x1), (2, .int x2), (3, .int x3), (4, .int x4), (5, .int x5)] [.int rq8]
    refine g_if_ne X tq10 (tgt := 24) dX6_line_19 (by decide) (fun cq12 => ?_) (fun cq12 => ?_)
    · have pq13 : (0 ≤ a2 ∧ a2 < ((Mq.1 1 3)).toInt) := by first | omega | (rcases hq11 with ⟨z1, z2⟩ | ⟨z1, z2⟩ <;> first | exact z2 | (exfalso; omega))
      clear hq11 cq12 tq10
      refine g_iload_n X 3 rfl dX6_line_24 ?_
      refine g_iconst X 0 dX6_line_25 (by decide) ?_
      refine g_bipush X 7 dX6_line_26 (by decide) ?_
      refine g_callS X m_X6_61 (c_X6_inside ad Mq x3 t3 0 (show (0 : Int32).toInt = 0 by decide) 7 (show (7 : Int32).toInt = 7 by decide)) rfl (by decide) (Nat.le_of_ble_eq_true rfl) rfl dX6_line_28 ?_
      rintro _ _ ⟨rq14, aq15, rfl, tq16, hq17, rfl⟩
      show G Γ Mq 31 [(0, .ref (ad 0)), (1, .int x1), (2, .int x2), (3, .int x3), (4, .int x4), (5, .int x5)] [.int rq14]
      refine g_if_eq X tq16 (tgt := 45) dX6_line_31 (by decide) (fun cq18 => ?_) (fun cq18 => ?_)
      · have pq19 : ¬ (0 ≤ a3 ∧ a3 ≤ 7) := by first | omega | (rcases hq17 with ⟨z1, z2⟩ | ⟨z1, z2⟩ <;> first | exact z2 | (exfalso; omega))
        clear hq17 cq18 tq16
        refine g_iconst X (-1) dX6_line_45 (by decide) ?_
        exact g_iret X dX6_line_46 ⟨_, _, rfl, (show ((-1) : Int32).toInt = (-1) by decide), (by omega), (⟨by first | omega | (have z := trivial.1; omega), ⟨fun h => by first | rfl | exact absurd h (by omega), fun h => by first | exact trivial.2.1 | exact absurd (by omega) h⟩, ⟨fun h => by first | rfl | exact absurd h (by omega), fun h => by first | exact trivial.2.2.1 | exact absurd (by omega) h⟩, ⟨fun h => by first | rfl | exact absurd h (by omega), fun h => by first | exact trivial.2.2.2.1 | exact absurd (by omega) h⟩, ⟨fun h => by first | rfl | exact absurd h (by omega), fun h => by first | exact trivial.2.2.2.2.1 | exact absurd (by omega) h⟩, ⟨fun h => by first | rfl | exact absurd h (by omega), fun h => by first | exact trivial.2.2.2.2.2.1 | exact absurd (by omega) h⟩, ⟨fun h => by first | rfl | exact absurd h (by omega), fun h => by first | exact trivial.2.2.2.2.2.2 | exact absurd (by omega) h⟩⟩), Iq0, frq0⟩
      · have pq20 : (0 ≤ a3 ∧ a3 ≤ 7) := by first | omega | (rcases hq17 with ⟨z1, z2⟩ | ⟨z1, z2⟩ <;> first | exact z2 | (exfalso; omega))
        clear hq17 cq18 tq16
        refine g_iload X 4 rfl dX6_line_34 ?_
        refine g_iconst X 0 dX6_line_36 (by decide) ?_
        refine g_bipush X 9 dX6_line_37 (by decide) ?_
        refine g_callS X m_X6_61 (c_X6_inside ad Mq x4 t4 0 (show (0 : Int32).toInt = 0 by decide) 9 (show (9 : Int32).toInt = 9 by decide)) rfl (by decide) (Nat.le_of_ble_eq_true rfl) rfl dX6_line_39 ?_
        rintro _ _ ⟨rq21, aq22, rfl, tq23, hq24, rfl⟩
        show G Γ Mq 42 [(0, .ref (ad 0)), (1, .int x1), (2, .int x2), (3, .int x3), (4, .int x4), (5, .int x5)] [.int rq21]
        refine g_if_ne X tq23 (tgt := 47) dX6_line_42 (by decide) (fun cq25 => ?_) (fun cq25 => ?_)
        · have pq26 : (0 ≤ a4 ∧ a4 ≤ 9) := by first | omega | (rcases hq24 with ⟨z1, z2⟩ | ⟨z1, z2⟩ <;> first | exact z2 | (exfalso; omega))
          clear hq24 cq25 tq23
          refine g_iload X 5 rfl dX6_line_47 ?_
          refine g_iconst X 0 dX6_line_49 (by decide) ?_
          refine g_iconst X 1 dX6_line_50 (by decide) ?_
          refine g_callS X m_X6_61 (c_X6_inside ad Mq x5 t5 0 (show (0 : Int32).toInt = 0 by decide) 1 (show (1 : Int32).toInt = 1 by decide)) rfl (by decide) (Nat.le_of_ble_eq_true rfl) rfl dX6_line_51 ?_
          rintro _ _ ⟨rq27, aq28, rfl, tq29, hq30, rfl⟩
          show G Γ Mq 54 [(0, .ref (ad 0)), (1, .int x1), (2, .int x2), (3, .int x3), (4, .int x4), (5, .int x5)] [.int rq27]
          refine g_if_ne X tq29 (tgt := 60) dX6_line_54 (by decide) (fun cq31 => ?_) (fun cq31 => ?_)
          · have pq32 : (0 ≤ a5 ∧ a5 ≤ 1) := by first | omega | (rcases hq30 with ⟨z1, z2⟩ | ⟨z1, z2⟩ <;> first | exact z2 | (exfalso; omega))
            clear hq30 cq31 tq29
            refine g_aload_n X 0 rfl dX6_line_60 ?_
            refine g_getr X f_X6_10 dX6_line_61 ?_
            refine g_geti X f_X6_86 dX6_line_64 (x := Mq.1 1 12) rfl ?_
            have bq33 := ig_1_12 Iq0
            refine g_bipush X 40 dX6_line_67 (by decide) ?_
            refine g_icmp_lt X rfl (show (40 : Int32).toInt = 40 by decide) (tgt := 75) dX6_line_69 (by decide) (fun cq34 => ?_) (fun cq34 => ?_)
            · refine g_aload_n X 0 rfl dX6_line_75 ?_
              refine g_getr X f_X6_10 dX6_line_76 ?_
              refine g_iload_n X 1 rfl dX6_line_79 ?_
              refine g_iload_n X 2 rfl dX6_line_80 ?_
              refine g_iload_n X 3 rfl dX6_line_81 ?_
              refine g_iload X 4 rfl dX6_line_82 ?_
              refine g_iload X 5 rfl dX6_line_84 ?_
              refine g_callV X m_X6_89 (c_X5_addLine_V ad Mq x1 t1 x2 t2 x3 t3 x4 t4 x5 t5 Iq0 (by omega) (by omega) (by omega) (by omega) (by omega) (by omega)) rfl (by decide) (Nat.le_of_ble_eq_true rfl) rfl dX6_line_86 ?_
              rintro _ Mq40 ⟨rq35, aq36, rfl, tq37, hq38, hq39, Iq41, frq42⟩
              have frq43 : Fr W_X6_line_V Mq Mq40 := frq0.trans frq42 rfl
              show G Γ Mq40 89 [(0, .ref (ad 0)), (1, .int x1), (2, .int x2), (3, .int x3), (4, .int x4), (5, .int x5)] [.int rq35]
              exact g_iret X dX6_line_89 ⟨_, _, rfl, tq37, (by omega), (⟨by first | omega | (have z := hq39.1; omega), ⟨fun h => by first | rfl | exact absurd h (by omega), fun h => by first | exact hq39.2.1 | exact absurd (by omega) h⟩, ⟨fun h => by first | rfl | exact absurd h (by omega), fun h => by first | exact hq39.2.2.1 | exact absurd (by omega) h⟩, ⟨fun h => by first | rfl | exact absurd h (by omega), fun h => by first | exact hq39.2.2.2.1 | exact absurd (by omega) h⟩, ⟨fun h => by first | rfl | exact absurd h (by omega), fun h => by first | exact hq39.2.2.2.2.1 | exact absurd (by omega) h⟩, ⟨fun h => by first | rfl | exact absurd h (by omega), fun h => by first | exact hq39.2.2.2.2.2.1 | exact absurd (by omega) h⟩, ⟨fun h => by first | rfl | exact absurd h (by omega), fun h => by first | exact hq39.2.2.2.2.2.2 | exact absurd (by omega) h⟩⟩), Iq41, frq43⟩
            · refine g_bipush X (-4) dX6_line_72 (by decide) ?_
              exact g_iret X dX6_line_74 ⟨_, _, rfl, (show ((-4) : Int32).toInt = (-4) by decide), (by omega), (⟨by first | omega | (have z := trivial.1; omega), ⟨fun h => by first | rfl | exact absurd h (by omega), fun h => by first | exact trivial.2.1 | exact absurd (by omega) h⟩, ⟨fun h => by first | rfl | exact absurd h (by omega), fun h => by first | exact trivial.2.2.1 | exact absurd (by omega) h⟩, ⟨fun h => by first | rfl | exact absurd h (by omega), fun h => by first | exact trivial.2.2.2.1 | exact absurd (by omega) h⟩, ⟨fun h => by first | rfl | exact absurd h (by omega), fun h => by first | exact trivial.2.2.2.2.1 | exact absurd (by omega) h⟩, ⟨fun h => by first | rfl | exact absurd h (by omega), fun h => by first | exact trivial.2.2.2.2.2.1 | exact absurd (by omega) h⟩, ⟨fun h => by first | rfl | exact absurd h (by omega), fun h => by first | exact trivial.2.2.2.2.2.2 | exact absurd (by omega) h⟩⟩), Iq0, frq0⟩
          · have pq44 : ¬ (0 ≤ a5 ∧ a5 ≤ 1) := by first | omega | (rcases hq30 with ⟨z1, z2⟩ | ⟨z1, z2⟩ <;> first | exact z2 | (exfalso; omega))
            clear hq30 cq31 tq29
            refine g_bipush X (-2) dX6_line_57 (by decide) ?_
            exact g_iret X dX6_line_59 ⟨_, _, rfl, (show ((-2) : Int32).toInt = (-2) by decide), (by omega), (⟨by first | omega | (have z := trivial.1; omega), ⟨fun h => by first | rfl | exact absurd h (by omega), fun h => by first | exact trivial.2.1 | exact absurd (by omega) h⟩, ⟨fun h => by first | rfl | exact absurd h (by omega), fun h => by first | exact trivial.2.2.1 | exact absurd (by omega) h⟩, ⟨fun h => by first | rfl | exact absurd h (by omega), fun h => by first | exact trivial.2.2.2.1 | exact absurd (by omega) h⟩, ⟨fun h => by first | rfl | exact absurd h (by omega), fun h => by first | exact trivial.2.2.2.2.1 | exact absurd (by omega) h⟩, ⟨fun h => by first | rfl | exact absurd h (by omega), fun h => by first | exact trivial.2.2.2.2.2.1 | exact absurd (by omega) h⟩, ⟨fun h => by first | rfl | exact absurd h (by omega), fun h => by first | exact trivial.2.2.2.2.2.2 | exact absurd (by omega) h⟩⟩), Iq0, frq0⟩
        · have pq45 : ¬ (0 ≤ a4 ∧ a4 ≤ 9) := by first | omega | (rcases hq24 with ⟨z1, z2⟩ | ⟨z1, z2⟩ <;> first | exact z2 | (exfalso; omega))
          clear hq24 cq25 tq23
          refine g_iconst X (-1) dX6_line_45 (by decide) ?_
          exact g_iret X dX6_line_46 ⟨_, _, rfl, (show ((-1) : Int32).toInt = (-1) by decide), (by omega), (⟨by first | omega | (have z := trivial.1; omega), ⟨fun h => by first | rfl | exact absurd h (by omega), fun h => by first | exact trivial.2.1 | exact absurd (by omega) h⟩, ⟨fun h => by first | rfl | exact absurd h (by omega), fun h => by first | exact trivial.2.2.1 | exact absurd (by omega) h⟩, ⟨fun h => by first | rfl | exact absurd h (by omega), fun h => by first | exact trivial.2.2.2.1 | exact absurd (by omega) h⟩, ⟨fun h => by first | rfl | exact absurd h (by omega), fun h => by first | exact trivial.2.2.2.2.1 | exact absurd (by omega) h⟩, ⟨fun h => by first | rfl | exact absurd h (by omega), fun h => by first | exact trivial.2.2.2.2.2.1 | exact absurd (by omega) h⟩, ⟨fun h => by first | rfl | exact absurd h (by omega), fun h => by first | exact trivial.2.2.2.2.2.2 | exact absurd (by omega) h⟩⟩), Iq0, frq0⟩
    · have pq46 : ¬ (0 ≤ a2 ∧ a2 < ((Mq.1 1 3)).toInt) := by first | omega | (rcases hq11 with ⟨z1, z2⟩ | ⟨z1, z2⟩ <;> first | exact z2 | (exfalso; omega))
      clear hq11 cq12 tq10
      refine g_iconst X (-1) dX6_line_22 (by decide) ?_
      exact g_iret X dX6_line_23 ⟨_, _, rfl, (show ((-1) : Int32).toInt = (-1) by decide), (by omega), (⟨by first | omega | (have z := trivial.1; omega), ⟨fun h => by first | rfl | exact absurd h (by omega), fun h => by first | exact trivial.2.1 | exact absurd (by omega) h⟩, ⟨fun h => by first | rfl | exact absurd h (by omega), fun h => by first | exact trivial.2.2.1 | exact absurd (by omega) h⟩, ⟨fun h => by first | rfl | exact absurd h (by omega), fun h => by first | exact trivial.2.2.2.1 | exact absurd (by omega) h⟩, ⟨fun h => by first | rfl | exact absurd h (by omega), fun h => by first | exact trivial.2.2.2.2.1 | exact absurd (by omega) h⟩, ⟨fun h => by first | rfl | exact absurd h (by omega), fun h => by first | exact trivial.2.2.2.2.2.1 | exact absurd (by omega) h⟩, ⟨fun h => by first | rfl | exact absurd h (by omega), fun h => by first | exact trivial.2.2.2.2.2.2 | exact absurd (by omega) h⟩⟩), Iq0, frq0⟩
abbrev W_X7_line_V : List (Nat × Nat) := [(47, 12), (53, 99), (54, 99), (55, 99), (56, 99), (57, 99)]
set_option maxHeartbeats 4000000 in
set_option maxRecDepth 4000 in
theorem c_X7_line_V (ad : Nat → Nat) (Mq : Mem) (x1 : Int32) {a1 : Int} (t1 : x1.toInt = a1) (x2 : Int32) {a2 : Int} (t2 : x2.toInt = a2) (x3 : Int32) {a3 : Int} (t3 : x3.toInt = a3) (x4 : Int32) {a4 : Int} (t4 : x4.toInt = a4) (x5 : Int32) {a5 : Int} (t5 : x5.toInt = a5) (Iq0 : Iv TM Mq) : Ctr ad yX7_line cX7_line 6 (some .int) 1 [.ref (ad 47), .int x1, .int x2, .int x3, .int x4, .int x5] Mq (fun v M' => ∃ (r : Int32) (a : Int), v = some (.int r) ∧ r.toInt = a ∧ (((¬ ((0 ≤ a1 ∧ a1 < (Mq.1 47 11).toInt) ∧ (0 ≤ a2 ∧ a2 < (Mq.1 47 11).toInt) ∧ 0 ≤ a3 ∧ a3 ≤ 7 ∧ 0 ≤ a4 ∧ a4 ≤ 9)) ∧ (a = -1)) ∨ (¬ (¬ ((0 ≤ a1 ∧ a1 < (Mq.1 47 11).toInt) ∧ (0 ≤ a2 ∧ a2 < (Mq.1 47 11).toInt) ∧ 0 ≤ a3 ∧ a3 ≤ 7 ∧ 0 ≤ a4 ∧ a4 ≤ 9)) ∧ (¬ (0 ≤ a5 ∧ a5 ≤ 1)) ∧ (a = -2)) ∨ (¬ (¬ ((0 ≤ a1 ∧ a1 < (Mq.1 47 11).toInt) ∧ (0 ≤ a2 ∧ a2 < (Mq.1 47 11).toInt) ∧ 0 ≤ a3 ∧ a3 ≤ 7 ∧ 0 ≤ a4 ∧ a4 ≤ 9)) ∧ ¬ (¬ (0 ≤ a5 ∧ a5 ≤ 1)) ∧ (40 ≤ (Mq.1 47 12).toInt) ∧ (a = -4)) ∨ (¬ (¬ ((0 ≤ a1 ∧ a1 < (Mq.1 47 11).toInt) ∧ (0 ≤ a2 ∧ a2 < (Mq.1 47 11).toInt) ∧ 0 ≤ a3 ∧ a3 ≤ 7 ∧ 0 ≤ a4 ∧ a4 ≤ 9)) ∧ ¬ (¬ (0 ≤ a5 ∧ a5 ≤ 1)) ∧ ¬ (40 ≤ (Mq.1 47 12).toInt) ∧ (a = (Mq.1 47 12).toInt))) ∧ (((((¬ ((0 ≤ a1 ∧ a1 < (Mq.1 47 11).toInt) ∧ (0 ≤ a2 ∧ a2 < (Mq.1 47 11).toInt) ∧ 0 ≤ a3 ∧ a3 ≤ 7 ∧ 0 ≤ a4 ∧ a4 ≤ 9)) ∨ (¬ (0 ≤ a5 ∧ a5 ≤ 1)) ∨ (40 ≤ (Mq.1 47 12).toInt)) ∧ (M'.1 47 12).toInt = (Mq.1 47 12).toInt) ∨ (¬ ((¬ ((0 ≤ a1 ∧ a1 < (Mq.1 47 11).toInt) ∧ (0 ≤ a2 ∧ a2 < (Mq.1 47 11).toInt) ∧ 0 ≤ a3 ∧ a3 ≤ 7 ∧ 0 ≤ a4 ∧ a4 ≤ 9)) ∨ (¬ (0 ≤ a5 ∧ a5 ≤ 1)) ∨ (40 ≤ (Mq.1 47 12).toInt)) ∧ (M'.1 47 12).toInt = (Mq.1 47 12).toInt + 1)) ∧ ((((¬ ((0 ≤ a1 ∧ a1 < (Mq.1 47 11).toInt) ∧ (0 ≤ a2 ∧ a2 < (Mq.1 47 11).toInt) ∧ 0 ≤ a3 ∧ a3 ≤ 7 ∧ 0 ≤ a4 ∧ a4 ≤ 9)) ∨ (¬ (0 ≤ a5 ∧ a5 ≤ 1)) ∨ (40 ≤ (Mq.1 47 12).toInt)) → M'.1 53 = Mq.1 53) ∧ (¬ ((¬ ((0 ≤ a1 ∧ a1 < (Mq.1 47 11).toInt) ∧ (0 ≤ a2 ∧ a2 < (Mq.1 47 11).toInt) ∧ 0 ≤ a3 ∧ a3 ≤ 7 ∧ 0 ≤ a4 ∧ a4 ≤ 9)) ∨ (¬ (0 ≤ a5 ∧ a5 ≤ 1)) ∨ (40 ≤ (Mq.1 47 12).toInt)) → M'.1 53 = (ui Mq 53 ((Mq.1 47 12).toInt).toNat x1).1 53)) ∧ ((((¬ ((0 ≤ a1 ∧ a1 < (Mq.1 47 11).toInt) ∧ (0 ≤ a2 ∧ a2 < (Mq.1 47 11).toInt) ∧ 0 ≤ a3 ∧ a3 ≤ 7 ∧ 0 ≤ a4 ∧ a4 ≤ 9)) ∨ (¬ (0 ≤ a5 ∧ a5 ≤ 1)) ∨ (40 ≤ (Mq.1 47 12).toInt)) → M'.1 54 = Mq.1 54) ∧ (¬ ((¬ ((0 ≤ a1 ∧ a1 < (Mq.1 47 11).toInt) ∧ (0 ≤ a2 ∧ a2 < (Mq.1 47 11).toInt) ∧ 0 ≤ a3 ∧ a3 ≤ 7 ∧ 0 ≤ a4 ∧ a4 ≤ 9)) ∨ (¬ (0 ≤ a5 ∧ a5 ≤ 1)) ∨ (40 ≤ (Mq.1 47 12).toInt)) → M'.1 54 = (ui Mq 54 ((Mq.1 47 12).toInt).toNat x2).1 54)) ∧ ((((¬ ((0 ≤ a1 ∧ a1 < (Mq.1 47 11).toInt) ∧ (0 ≤ a2 ∧ a2 < (Mq.1 47 11).toInt) ∧ 0 ≤ a3 ∧ a3 ≤ 7 ∧ 0 ≤ a4 ∧ a4 ≤ 9)) ∨ (¬ (0 ≤ a5 ∧ a5 ≤ 1)) ∨ (40 ≤ (Mq.1 47 12).toInt)) → M'.1 55 = Mq.1 55) ∧ (¬ ((¬ ((0 ≤ a1 ∧ a1 < (Mq.1 47 11).toInt) ∧ (0 ≤ a2 ∧ a2 < (Mq.1 47 11).toInt) ∧ 0 ≤ a3 ∧ a3 ≤ 7 ∧ 0 ≤ a4 ∧ a4 ≤ 9)) ∨ (¬ (0 ≤ a5 ∧ a5 ≤ 1)) ∨ (40 ≤ (Mq.1 47 12).toInt)) → M'.1 55 = (ui Mq 55 ((Mq.1 47 12).toInt).toNat x3).1 55)) ∧ ((((¬ ((0 ≤ a1 ∧ a1 < (Mq.1 47 11).toInt) ∧ (0 ≤ a2 ∧ a2 < (Mq.1 47 11).toInt) ∧ 0 ≤ a3 ∧ a3 ≤ 7 ∧ 0 ≤ a4 ∧ a4 ≤ 9)) ∨ (¬ (0 ≤ a5 ∧ a5 ≤ 1)) ∨ (40 ≤ (Mq.1 47 12).toInt)) → M'.1 56 = Mq.1 56) ∧ (¬ ((¬ ((0 ≤ a1 ∧ a1 < (Mq.1 47 11).toInt) ∧ (0 ≤ a2 ∧ a2 < (Mq.1 47 11).toInt) ∧ 0 ≤ a3 ∧ a3 ≤ 7 ∧ 0 ≤ a4 ∧ a4 ≤ 9)) ∨ (¬ (0 ≤ a5 ∧ a5 ≤ 1)) ∨ (40 ≤ (Mq.1 47 12).toInt)) → M'.1 56 = (ui Mq 56 ((Mq.1 47 12).toInt).toNat x4).1 56)) ∧ ((((¬ ((0 ≤ a1 ∧ a1 < (Mq.1 47 11).toInt) ∧ (0 ≤ a2 ∧ a2 < (Mq.1 47 11).toInt) ∧ 0 ≤ a3 ∧ a3 ≤ 7 ∧ 0 ≤ a4 ∧ a4 ≤ 9)) ∨ (¬ (0 ≤ a5 ∧ a5 ≤ 1)) ∨ (40 ≤ (Mq.1 47 12).toInt)) → M'.1 57 = Mq.1 57) ∧ (¬ ((¬ ((0 ≤ a1 ∧ a1 < (Mq.1 47 11).toInt) ∧ (0 ≤ a2 ∧ a2 < (Mq.1 47 11).toInt) ∧ 0 ≤ a3 ∧ a3 ≤ 7 ∧ 0 ≤ a4 ∧ a4 ≤ 9)) ∨ (¬ (0 ≤ a5 ∧ a5 ≤ 1)) ∨ (40 ≤ (Mq.1 47 12).toInt)) → M'.1 57 = (ui Mq 57 ((Mq.1 47 12).toInt).toNat x5).1 57))) ∧ Iv TM M' ∧ Fr W_X7_line_V Mq M') := by
  refine ctr_of (L := [(0, .ref (ad 47)), (1, .int x1), (2, .int x2), (3, .int x3), (4, .int x4), (5, .int x5)]) (by decide) (Nat.le_of_ble_eq_true rfl) rfl ?_
  intro Γ X
  have X : gX Γ cX7_line RX7 6 (some .int) 1 ad _ := X
  have frq0 : Fr W_X7_line_V Mq Mq := Fr.rf
  have g47_11 := ig_47_11 Iq0
  have g47_12 := ig_47_12 Iq0
  have g47_43 := ig_47_43 Iq0
  refine g_aload_n X 0 rfl dX7_line_0 ?_
  refine g_iload_n X 1 rfl dX7_line_1 ?_
  refine g_callV X m_X7_164 (c_X7_isHalf ad Mq x1 t1) rfl (by decide) (Nat.le_of_ble_eq_true rfl) rfl dX7_line_2 ?_
  rintro _ _ ⟨rq1, aq2, rfl, tq3, hq4, rfl⟩
  show G Γ Mq 5 [(0, .ref (ad 47)), (1, .int x1), (2, .int x2), (3, .int x3), (4, .int x4), (5, .int x5)] [.int rq1]
  refine g_if_eq X tq3 (tgt := 36) dX7_line_5 (by decide) (fun cq5 => ?_) (fun cq5 => ?_)
  · have pq6 : ¬ (0 ≤ a1 ∧ a1 < ((Mq.1 47 11)).toInt) := by first | omega | (rcases hq4 with ⟨z1, z2⟩ | ⟨z1, z2⟩ <;> first | exact z2 | (exfalso; omega))
    clear hq4 cq5 tq3
    refine g_iconst X (-1) dX7_line_36 (by decide) ?_
    exact g_iret X dX7_line_37 ⟨_, _, rfl, (show ((-1) : Int32).toInt = (-1) by decide), (by omega), (⟨by first | omega | (rw [ui_eq]; omega), ⟨fun h => by first | rfl | exact absurd h (by omega), fun h => by first | (funext b; simp [ui]; done) | exact trivial.2.1 | exact absurd (by omega) h⟩, ⟨fun h => by first | rfl | exact absurd h (by omega), fun h => by first | (funext b; simp [ui]; done) | exact trivial.2.2.1 | exact absurd (by omega) h⟩, ⟨fun h => by first | rfl | exact absurd h (by omega), fun h => by first | (funext b; simp [ui]; done) | exact trivial.2.2.2.1 | exact absurd (by omega) h⟩, ⟨fun h => by first | rfl | exact absurd h (by omega), fun h => by first | (funext b; simp [ui]; done) | exact trivial.2.2.2.2.1 | exact absurd (by omega) h⟩, ⟨fun h => by first | rfl | exact absurd h (by omega), fun h => by first | (funext b; simp [ui]; done) | exact trivial.2.2.2.2.2 | exact absurd (by omega) h⟩⟩), Iq0, frq0⟩
  · have pq7 : (0 ≤ a1 ∧ a1 < ((Mq.1 47 11)).toInt) := by first | omega | (rcases hq4 with ⟨z1, z2⟩ | ⟨z1, z2⟩ <;> first | exact z2 | (exfalso; omega))
    clear hq4 cq5 tq3
    refine g_aload_n X 0 rfl dX7_line_8 ?_
    refine g_iload_n X 2 rfl dX7_line_9 ?_
    refine g_callV X m_X7_164 (c_X7_isHalf ad Mq x2 t2) rfl (by decide) (Nat.le_of_ble_eq_true rfl) rfl dX7_line_10 ?_
    rintro _ _ ⟨rq8, aq9, rfl, tq10, hq11, rfl⟩
    show G Γ Mq 13 [(0, .ref (ad 47)), (1, .int x1), (2, .int x2), (3, .int x3), (4, .int x4), (5, .int x5)] [.int rq8]
    refine g_if_eq X tq10 (tgt := 36) dX7_line_13 (by decide) (fun cq12 => ?_) (fun cq12 => ?_)
    · have pq13 : ¬ (0 ≤ a2 ∧ a2 < ((Mq.1 47 11)).toInt) := by first | omega | (rcases hq11 with ⟨z1, z2⟩ | ⟨z1, z2⟩ <;> first | exact z2 | (exfalso; omega))
      clear hq11 cq12 tq10
      refine g_iconst X (-1) dX7_line_36 (by decide) ?_
      exact g_iret X dX7_line_37 ⟨_, _, rfl, (show ((-1) : Int32).toInt = (-1) by decide), (by omega), (⟨by first | omega | (rw [ui_eq]; omega), ⟨fun h => by first | rfl | exact absurd h (by omega), fun h => by first | (funext b; simp [ui]; done) | exact trivial.2.1 | exact absurd (by omega) h⟩, ⟨fun h => by first | rfl | exact absurd h (by omega), fun h => by first | (funext b; simp [ui]; done) | exact trivial.2.2.1 | exact absurd (by omega) h⟩, ⟨fun h => by first | rfl | exact absurd h (by omega), fun h => by first | (funext b; simp [ui]; done) | exact trivial.2.2.2.1 | exact absurd (by omega) h⟩, ⟨fun h => by first | rfl | exact absurd h (by omega), fun h => by first | (funext b; simp [ui]; done) | exact trivial.2.2.2.2.1 | exact absurd (by omega) h⟩, ⟨fun h => by first | rfl | exact absurd h (by omega), fun h => by first | (funext b; simp [ui]; done) | exact trivial.2.2.2.2.2 | exact absurd (by omega) h⟩⟩), Iq0, frq0⟩
    · have pq14 : (0 ≤ a2 ∧ a2 < ((Mq.1 47 11)).toInt) := by first | omega | (rcases hq11 with ⟨z1, z2⟩ | ⟨z1, z2⟩ <;> first | exact z2 | (exfalso; omega))
      clear hq11 cq12 tq10
      refine g_iload_n X 3 rfl dX7_line_16 ?_
      refine g_i2l X dX7_line_17 (fun zq15 eq16 => ?_)
      have tq17 : zq15.toInt = a3 := i2l_nw eq16 t3
      refine g_lconst X 0 dX7_line_18 (by decide) ?_
      refine g_ldc2 X k_X7_167 dX7_line_19 ?_
      refine g_callS X m_X7_152 (c_X7_isIn ad Mq zq15 tq17 0 (show (0 : Int64).toInt = 0 by decide) 7 (show (7 : Int64).toInt = 7 by decide)) rfl (by decide) (Nat.le_of_ble_eq_true rfl) rfl dX7_line_22 ?_
      rintro _ _ ⟨rq18, aq19, rfl, tq20, hq21, rfl⟩
      show G Γ Mq 25 [(0, .ref (ad 47)), (1, .int x1), (2, .int x2), (3, .int x3), (4, .int x4), (5, .int x5)] [.int rq18]
      refine g_if_eq X tq20 (tgt := 36) dX7_line_25 (by decide) (fun cq22 => ?_) (fun cq22 => ?_)
      · have pq23 : ¬ (0 ≤ a3 ∧ a3 ≤ 7) := by first | omega | (rcases hq21 with ⟨z1, z2⟩ | ⟨z1, z2⟩ <;> first | exact z2 | (exfalso; omega))
        clear hq21 cq22 tq20
        refine g_iconst X (-1) dX7_line_36 (by decide) ?_
        exact g_iret X dX7_line_37 ⟨_, _, rfl, (show ((-1) : Int32).toInt = (-1) by decide), (by omega), (⟨by first | omega | (rw [ui_eq]; omega), ⟨fun h => by first | rfl | exact absurd h (by omega), fun h => by first | (funext b; simp [ui]; done) | exact trivial.2.1 | exact absurd (by omega) h⟩, ⟨fun h => by first | rfl | exact absurd h (by omega), fun h => by first | (funext b; simp [ui]; done) | exact trivial.2.2.1 | exact absurd (by omega) h⟩, ⟨fun h => by first | rfl | exact absurd h (by omega), fun h => by first | (funext b; simp [ui]; done) | exact trivial.2.2.2.1 | exact absurd (by omega) h⟩, ⟨fun h => by first | rfl | exact absurd h (by omega), fun h => by first | (funext b; simp [ui]; done) | exact trivial.2.2.2.2.1 | exact absurd (by omega) h⟩, ⟨fun h => by first | rfl | exact absurd h (by omega), fun h => by first | (funext b; simp [ui]; done) | exact trivial.2.2.2.2.2 | exact absurd (by omega) h⟩⟩), Iq0, frq0⟩
      · have pq24 : (0 ≤ a3 ∧ a3 ≤ 7) := by first | omega | (rcases hq21 with ⟨z1, z2⟩ | ⟨z1, z2⟩ <;> first | exact z2 | (exfalso; omega))
        clear hq21 cq22 tq20
        refine g_iload X 4 rfl dX7_line_28 ?_
        refine g_callS X m_X7_158 (c_X7_isName ad Mq x4 t4) rfl (by decide) (Nat.le_of_ble_eq_true rfl) rfl dX7_line_30 ?_
        rintro _ _ ⟨rq25, aq26, rfl, tq27, hq28, rfl⟩
        show G Γ Mq 33 [(0, .ref (ad 47)), (1, .int x1), (2, .int x2), (3, .int x3), (4, .int x4), (5, .int x5)] [.int rq25]
        refine g_if_ne X tq27 (tgt := 38) dX7_line_33 (by decide) (fun cq29 => ?_) (fun cq29 => ?_)
        · have pq30 : (0 ≤ a4 ∧ a4 ≤ 9) := by first | omega | (rcases hq28 with ⟨z1, z2⟩ | ⟨z1, z2⟩ <;> first | exact z2 | (exfalso; omega))
          clear hq28 cq29 tq27
          refine g_iload X 5 rfl dX7_line_38 ?_
          refine g_i2l X dX7_line_40 (fun zq31 eq32 => ?_)
          have tq33 : zq31.toInt = a5 := i2l_nw eq32 t5
          refine g_lconst X 0 dX7_line_41 (by decide) ?_
          refine g_lconst X 1 dX7_line_42 (by decide) ?_
          refine g_callS X m_X7_152 (c_X7_isIn ad Mq zq31 tq33 0 (show (0 : Int64).toInt = 0 by decide) 1 (show (1 : Int64).toInt = 1 by decide)) rfl (by decide) (Nat.le_of_ble_eq_true rfl) rfl dX7_line_43 ?_
          rintro _ _ ⟨rq34, aq35, rfl, tq36, hq37, rfl⟩
          show G Γ Mq 46 [(0, .ref (ad 47)), (1, .int x1), (2, .int x2), (3, .int x3), (4, .int x4), (5, .int x5)] [.int rq34]
          refine g_if_ne X tq36 (tgt := 52) dX7_line_46 (by decide) (fun cq38 => ?_) (fun cq38 => ?_)
          · have pq39 : (0 ≤ a5 ∧ a5 ≤ 1) := by first | omega | (rcases hq37 with ⟨z1, z2⟩ | ⟨z1, z2⟩ <;> first | exact z2 | (exfalso; omega))
            clear hq37 cq38 tq36
            refine g_aload_n X 0 rfl dX7_line_52 ?_
            refine g_geti X f_X7_147 dX7_line_53 (x := Mq.1 47 12) rfl ?_
            have bq40 := ig_47_12 Iq0
            refine g_bipush X 40 dX7_line_56 (by decide) ?_
            refine g_icmp_ne X rfl (show (40 : Int32).toInt = 40 by decide) (tgt := 64) dX7_line_58 (by decide) (fun cq41 => ?_) (fun cq41 => ?_)
            · refine g_aload_n X 0 rfl dX7_line_64 ?_
              refine g_getr X f_X7_25 dX7_line_65 ?_
              refine g_aload_n X 0 rfl dX7_line_68 ?_
              refine g_geti X f_X7_147 dX7_line_69 (x := Mq.1 47 12) rfl ?_
              have bq42 := ig_47_12 Iq0
              refine g_iload_n X 1 rfl dX7_line_72 ?_
              refine g_iast X la_53 rfl dX7_line_73 (by omega) ?_
              have Iq43 : Iv TM (ui Mq 53 (((Mq.1 47 12).toInt).toNat) x1) := Iq0.putA 0 39 t1 (by omega) rfl
              have frq44 : Fr W_X7_line_V Mq (ui Mq 53 (((Mq.1 47 12).toInt).toNat) x1) := frq0.ui rfl
              refine g_aload_n X 0 rfl dX7_line_74 ?_
              refine g_getr X f_X7_28 dX7_line_75 ?_
              refine g_aload_n X 0 rfl dX7_line_78 ?_
              refine g_geti X f_X7_147 dX7_line_79 (x := Mq.1 47 12) rfl ?_
              have bq45 := ig_47_12 Iq0
              refine g_iload_n X 2 rfl dX7_line_82 ?_
              refine g_iast X la_54 rfl dX7_line_83 (by omega) ?_
              have Iq46 : Iv TM (ui (ui Mq 53 (((Mq.1 47 12).toInt).toNat) x1) 54 (((Mq.1 47 12).toInt).toNat) x2) := Iq43.putA 0 39 t2 (by omega) rfl
              have frq47 : Fr W_X7_line_V Mq (ui (ui Mq 53 (((Mq.1 47 12).toInt).toNat) x1) 54 (((Mq.1 47 12).toInt).toNat) x2) := frq44.ui rfl
              refine g_aload_n X 0 rfl dX7_line_84 ?_
              refine g_getr X f_X7_31 dX7_line_85 ?_
              refine g_aload_n X 0 rfl dX7_line_88 ?_
              refine g_geti X f_X7_147 dX7_line_89 (x := Mq.1 47 12) rfl ?_
              have bq48 := ig_47_12 Iq0
              refine g_iload_n X 3 rfl dX7_line_92 ?_
              refine g_iast X la_55 rfl dX7_line_93 (by omega) ?_
              have Iq49 : Iv TM (ui (ui (ui Mq 53 (((Mq.1 47 12).toInt).toNat) x1) 54 (((Mq.1 47 12).toInt).toNat) x2) 55 (((Mq.1 47 12).toInt).toNat) x3) := Iq46.otherA rfl
              have frq50 : Fr W_X7_line_V Mq (ui (ui (ui Mq 53 (((Mq.1 47 12).toInt).toNat) x1) 54 (((Mq.1 47 12).toInt).toNat) x2) 55 (((Mq.1 47 12).toInt).toNat) x3) := frq47.ui rfl
              refine g_aload_n X 0 rfl dX7_line_94 ?_
              refine g_getr X f_X7_34 dX7_line_95 ?_
              refine g_aload_n X 0 rfl dX7_line_98 ?_
              refine g_geti X f_X7_147 dX7_line_99 (x := Mq.1 47 12) rfl ?_
              have bq51 := ig_47_12 Iq0
              refine g_iload X 4 rfl dX7_line_102 ?_
              refine g_iast X la_56 rfl dX7_line_104 (by omega) ?_
              have Iq52 : Iv TM (ui (ui (ui (ui Mq 53 (((Mq.1 47 12).toInt).toNat) x1) 54 (((Mq.1 47 12).toInt).toNat) x2) 55 (((Mq.1 47 12).toInt).toNat) x3) 56 (((Mq.1 47 12).toInt).toNat) x4) := Iq49.putA 0 9 t4 (by omega) rfl
              have frq53 : Fr W_X7_line_V Mq (ui (ui (ui (ui Mq 53 (((Mq.1 47 12).toInt).toNat) x1) 54 (((Mq.1 47 12).toInt).toNat) x2) 55 (((Mq.1 47 12).toInt).toNat) x3) 56 (((Mq.1 47 12).toInt).toNat) x4) := frq50.ui rfl
              refine g_aload_n X 0 rfl dX7_line_105 ?_
              refine g_getr X f_X7_37 dX7_line_106 ?_
              refine g_aload_n X 0 rfl dX7_line_109 ?_
              refine g_geti X f_X7_147 dX7_line_110 (x := Mq.1 47 12) rfl ?_
              have bq54 := ig_47_12 Iq0
              refine g_iload X 5 rfl dX7_line_113 ?_
              refine g_iast X la_57 rfl dX7_line_115 (by omega) ?_
              have Iq55 : Iv TM (ui (ui (ui (ui (ui Mq 53 (((Mq.1 47 12).toInt).toNat) x1) 54 (((Mq.1 47 12).toInt).toNat) x2) 55 (((Mq.1 47 12).toInt).toNat) x3) 56 (((Mq.1 47 12).toInt).toNat) x4) 57 (((Mq.1 47 12).toInt).toNat) x5) := Iq52.otherA rfl
              have frq56 : Fr W_X7_line_V Mq (ui (ui (ui (ui (ui Mq 53 (((Mq.1 47 12).toInt).toNat) x1) 54 (((Mq.1 47 12).toInt).toNat) x2) 55 (((Mq.1 47 12).toInt).toNat) x3) 56 (((Mq.1 47 12).toInt).toNat) x4) 57 (((Mq.1 47 12).toInt).toNat) x5) := frq53.ui rfl
              refine g_aload_n X 0 rfl dX7_line_116 ?_
              refine g_dup X dX7_line_117 rfl ?_
              refine g_geti X f_X7_147 dX7_line_118 (x := Mq.1 47 12) rfl ?_
              have bq57 := ig_47_12 Iq0
              refine g_iconst X 1 dX7_line_121 (by decide) ?_
              refine g_iadd X dX7_line_122 (fun zq58 eq59 => ?_)
              have tq60 : zq58.toInt = ((Mq.1 47 12).toInt) + 1 := add_nw eq59 rfl (show (1 : Int32).toInt = 1 by decide) (by omega)
              refine g_puti X p_X7_147 dX7_line_123 ?_
              have Iq61 : Iv TM (ui (ui (ui (ui (ui (ui Mq 53 (((Mq.1 47 12).toInt).toNat) x1) 54 (((Mq.1 47 12).toInt).toNat) x2) 55 (((Mq.1 47 12).toInt).toNat) x3) 56 (((Mq.1 47 12).toInt).toNat) x4) 57 (((Mq.1 47 12).toInt).toNat) x5) 47 12 zq58) := Iq55.put 0 40 tq60 (by omega) rfl
              have frq62 : Fr W_X7_line_V Mq (ui (ui (ui (ui (ui (ui Mq 53 (((Mq.1 47 12).toInt).toNat) x1) 54 (((Mq.1 47 12).toInt).toNat) x2) 55 (((Mq.1 47 12).toInt).toNat) x3) 56 (((Mq.1 47 12).toInt).toNat) x4) 57 (((Mq.1 47 12).toInt).toNat) x5) 47 12 zq58) := frq56.ui rfl
              refine g_aload_n X 0 rfl dX7_line_126 ?_
              refine g_geti X f_X7_147 dX7_line_127 (x := zq58) rfl ?_
              refine g_iconst X 1 dX7_line_130 (by decide) ?_
              refine g_isub X dX7_line_131 (fun zq63 eq64 => ?_)
              have tq65 : zq63.toInt = (((Mq.1 47 12).toInt) + 1) - 1 := sub_nw eq64 tq60 (show (1 : Int32).toInt = 1 by decide) (by omega)
              exact g_iret X dX7_line_132 ⟨_, _, rfl, tq65, (by omega), (⟨by first | omega | (rw [ui_eq]; omega), ⟨fun h => by first | rfl | exact absurd h (by omega), fun h => by first | (funext b; simp [ui]; done) | exact trivial.2.1 | exact absurd (by omega) h⟩, ⟨fun h => by first | rfl | exact absurd h (by omega), fun h => by first | (funext b; simp [ui]; done) | exact trivial.2.2.1 | exact absurd (by omega) h⟩, ⟨fun h => by first | rfl | exact absurd h (by omega), fun h => by first | (funext b; simp [ui]; done) | exact trivial.2.2.2.1 | exact absurd (by omega) h⟩, ⟨fun h => by first | rfl | exact absurd h (by omega), fun h => by first | (funext b; simp [ui]; done) | exact trivial.2.2.2.2.1 | exact absurd (by omega) h⟩, ⟨fun h => by first | rfl | exact absurd h (by omega), fun h => by first | (funext b; simp [ui]; done) | exact trivial.2.2.2.2.2 | exact absurd (by omega) h⟩⟩), Iq61, frq62⟩
            · refine g_bipush X (-4) dX7_line_61 (by decide) ?_
              exact g_iret X dX7_line_63 ⟨_, _, rfl, (show ((-4) : Int32).toInt = (-4) by decide), (by omega), (⟨by first | omega | (rw [ui_eq]; omega), ⟨fun h => by first | rfl | exact absurd h (by omega), fun h => by first | (funext b; simp [ui]; done) | exact trivial.2.1 | exact absurd (by omega) h⟩, ⟨fun h => by first | rfl | exact absurd h (by omega), fun h => by first | (funext b; simp [ui]; done) | exact trivial.2.2.1 | exact absurd (by omega) h⟩, ⟨fun h => by first | rfl | exact absurd h (by omega), fun h => by first | (funext b; simp [ui]; done) | exact trivial.2.2.2.1 | exact absurd (by omega) h⟩, ⟨fun h => by first | rfl | exact absurd h (by omega), fun h => by first | (funext b; simp [ui]; done) | exact trivial.2.2.2.2.1 | exact absurd (by omega) h⟩, ⟨fun h => by first | rfl | exact absurd h (by omega), fun h => by first | (funext b; simp [ui]; done) | exact trivial.2.2.2.2.2 | exact absurd (by omega) h⟩⟩), Iq0, frq0⟩
          · have pq66 : ¬ (0 ≤ a5 ∧ a5 ≤ 1) := by first | omega | (rcases hq37 with ⟨z1, z2⟩ | ⟨z1, z2⟩ <;> first | exact z2 | (exfalso; omega))
            clear hq37 cq38 tq36
            refine g_bipush X (-2) dX7_line_49 (by decide) ?_
            exact g_iret X dX7_line_51 ⟨_, _, rfl, (show ((-2) : Int32).toInt = (-2) by decide), (by omega), (⟨by first | omega | (rw [ui_eq]; omega), ⟨fun h => by first | rfl | exact absurd h (by omega), fun h => by first | (funext b; simp [ui]; done) | exact trivial.2.1 | exact absurd (by omega) h⟩, ⟨fun h => by first | rfl | exact absurd h (by omega), fun h => by first | (funext b; simp [ui]; done) | exact trivial.2.2.1 | exact absurd (by omega) h⟩, ⟨fun h => by first | rfl | exact absurd h (by omega), fun h => by first | (funext b; simp [ui]; done) | exact trivial.2.2.2.1 | exact absurd (by omega) h⟩, ⟨fun h => by first | rfl | exact absurd h (by omega), fun h => by first | (funext b; simp [ui]; done) | exact trivial.2.2.2.2.1 | exact absurd (by omega) h⟩, ⟨fun h => by first | rfl | exact absurd h (by omega), fun h => by first | (funext b; simp [ui]; done) | exact trivial.2.2.2.2.2 | exact absurd (by omega) h⟩⟩), Iq0, frq0⟩
        · have pq67 : ¬ (0 ≤ a4 ∧ a4 ≤ 9) := by first | omega | (rcases hq28 with ⟨z1, z2⟩ | ⟨z1, z2⟩ <;> first | exact z2 | (exfalso; omega))
          clear hq28 cq29 tq27
          refine g_iconst X (-1) dX7_line_36 (by decide) ?_
          exact g_iret X dX7_line_37 ⟨_, _, rfl, (show ((-1) : Int32).toInt = (-1) by decide), (by omega), (⟨by first | omega | (rw [ui_eq]; omega), ⟨fun h => by first | rfl | exact absurd h (by omega), fun h => by first | (funext b; simp [ui]; done) | exact trivial.2.1 | exact absurd (by omega) h⟩, ⟨fun h => by first | rfl | exact absurd h (by omega), fun h => by first | (funext b; simp [ui]; done) | exact trivial.2.2.1 | exact absurd (by omega) h⟩, ⟨fun h => by first | rfl | exact absurd h (by omega), fun h => by first | (funext b; simp [ui]; done) | exact trivial.2.2.2.1 | exact absurd (by omega) h⟩, ⟨fun h => by first | rfl | exact absurd h (by omega), fun h => by first | (funext b; simp [ui]; done) | exact trivial.2.2.2.2.1 | exact absurd (by omega) h⟩, ⟨fun h => by first | rfl | exact absurd h (by omega), fun h => by first | (funext b; simp [ui]; done) | exact trivial.2.2.2.2.2 | exact absurd (by omega) h⟩⟩), Iq0, frq0⟩
end
