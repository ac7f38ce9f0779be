section
abbrev W_X0_addSinger_E : List (Nat × Nat) := [(23, 2), (24, 99)]
set_option maxHeartbeats 4000000 in
set_option maxRecDepth 4000 in
theorem c_X0_addSinger_E (ad : Nat → Nat) (Mq : Mem) (x1 : Int32) {a1 : Int} (t1 : x1.toInt = a1) (Iq0 : Iv TX Mq) (h1 : (Mq.1 23 2).toInt < 8) : Ctr ad yX0_addSinger cX0_addSinger 2 (some .int) 0 [.ref (ad 23), .int x1] Mq (fun v M' => ∃ (r : Int32) (a : Int), v = some (.int r) ∧ r.toInt = a ∧ (a = (Mq.1 23 2).toInt) ∧ ((M'.1 23 2).toInt = (Mq.1 23 2).toInt + 1 ∧ M'.1 24 = (ui Mq 24 ((Mq.1 23 2).toInt).toNat x1).1 24) ∧ Iv TX M' ∧ Fr W_X0_addSinger_E Mq M') := by
  refine ctr_of (L := [(0, .ref (ad 23)), (1, .int x1)]) (by decide) (Nat.le_of_ble_eq_true rfl) rfl ?_
  intro Γ X
  have X : gX Γ cX0_addSinger RX0 2 (some .int) 0 ad _ := X
  have frq0 : Fr W_X0_addSinger_E Mq Mq := Fr.rf
  refine g_aload_n X 0 rfl dX0_addSinger_0 ?_
  refine g_getr X f_X0_9 dX0_addSinger_1 ?_
  refine g_aload_n X 0 rfl dX0_addSinger_4 ?_
  refine g_geti X f_X0_18 dX0_addSinger_5 (x := Mq.1 23 2) rfl ?_
  have bq1 := ig_23_2 Iq0
  refine g_iload_n X 1 rfl dX0_addSinger_8 ?_
  refine g_iast X la_24 rfl dX0_addSinger_9 (by omega) ?_
  have Iq2 : Iv TX (ui Mq 24 (((Mq.1 23 2).toInt).toNat) x1) := Iq0.otherA rfl
  have frq3 : Fr W_X0_addSinger_E Mq (ui Mq 24 (((Mq.1 23 2).toInt).toNat) x1) := frq0.ui rfl
  refine g_aload_n X 0 rfl dX0_addSinger_10 ?_
  refine g_dup X dX0_addSinger_11 rfl ?_
  refine g_geti X f_X0_18 dX0_addSinger_12 (x := Mq.1 23 2) rfl ?_
  have bq4 := ig_23_2 Iq0
  refine g_iconst X 1 dX0_addSinger_15 (by decide) ?_
  refine g_iadd X dX0_addSinger_16 (fun zq5 eq6 => ?_)
  have tq7 : zq5.toInt = ((Mq.1 23 2).toInt) + 1 := add_nw eq6 rfl (show (1 : Int32).toInt = 1 by decide) (by omega)
  refine g_puti X p_X0_18 dX0_addSinger_17 ?_
  have Iq8 : Iv TX (ui (ui Mq 24 (((Mq.1 23 2).toInt).toNat) x1) 23 2 zq5) := Iq2.put 0 8 tq7 (by omega) rfl
  have frq9 : Fr W_X0_addSinger_E Mq (ui (ui Mq 24 (((Mq.1 23 2).toInt).toNat) x1) 23 2 zq5) := frq3.ui rfl
  refine g_aload_n X 0 rfl dX0_addSinger_20 ?_
  refine g_geti X f_X0_18 dX0_addSinger_21 (x := zq5) rfl ?_
  refine g_iconst X 1 dX0_addSinger_24 (by decide) ?_
  refine g_isub X dX0_addSinger_25 (fun zq10 eq11 => ?_)
  have tq12 : zq10.toInt = (((Mq.1 23 2).toInt) + 1) - 1 := sub_nw eq11 tq7 (show (1 : Int32).toInt = 1 by decide) (by omega)
  exact g_iret X dX0_addSinger_26 ⟨_, _, rfl, tq12, (by omega), (⟨by rw [ui_eq]; omega, (by funext b; simp [ui])⟩), Iq8, frq9⟩
abbrev W_X0_enter_E : List (Nat × Nat) := [(23, 7), (26, 99), (27, 99), (28, 99), (29, 99)]
set_option maxHeartbeats 4000000 in
set_option maxRecDepth 4000 in
theorem c_X0_enter_E (ad : Nat → Nat) (Mq : Mem) (x1 : Int32) {a1 : Int} (t1 : x1.toInt = a1) (x2 : Int32) {a2 : Int} (t2 : x2.toInt = a2) (x3 : Int32) {a3 : Int} (t3 : x3.toInt = a3) (x4 : Int32) {a4 : Int} (t4 : x4.toInt = a4) (Iq0 : Iv TX Mq) (h1 : (Mq.1 23 7).toInt < 200) (h2 : 0 ≤ a2 ∧ a2 < 40) (h3 : a4 = 0 ∨ a4 = 1) : Ctr ad yX0_enter cX0_enter 5 (some .int) 0 [.ref (ad 23), .int x1, .int x2, .int x3, .int x4] Mq (fun v M' => ∃ (r : Int32) (a : Int), v = some (.int r) ∧ r.toInt = a ∧ (a = (Mq.1 23 7).toInt + 1) ∧ ((M'.1 23 7).toInt = (Mq.1 23 7).toInt + 1 ∧ M'.1 26 = (ui Mq 26 ((Mq.1 23 7).toInt).toNat x1).1 26 ∧ M'.1 27 = (ui Mq 27 ((Mq.1 23 7).toInt).toNat x2).1 27 ∧ M'.1 28 = (ui Mq 28 ((Mq.1 23 7).toInt).toNat x3).1 28 ∧ M'.1 29 = (ui Mq 29 ((Mq.1 23 7).toInt).toNat x4).1 29) ∧ Iv TX M' ∧ Fr W_X0_enter_E Mq M') := by
  refine ctr_of (L := [(0, .ref (ad 23)), (1, .int x1), (2, .int x2), (3, .int x3), (4, .int x4)]) (by decide) (Nat.le_of_ble_eq_true rfl) rfl ?_
  intro Γ X
  have X : gX Γ cX0_enter RX0 5 (some .int) 0 ad _ := X
  have frq0 : Fr W_X0_enter_E Mq Mq := Fr.rf
  refine g_aload_n X 0 rfl dX0_enter_0 ?_
  refine g_getr X f_X0_22 dX0_enter_1 ?_
  refine g_aload_n X 0 rfl dX0_enter_4 ?_
  refine g_geti X f_X0_35 dX0_enter_5 (x := Mq.1 23 7) rfl ?_
  have bq1 := ig_23_7 Iq0
  refine g_iload_n X 1 rfl dX0_enter_8 ?_
  refine g_iast X la_26 rfl dX0_enter_9 (by omega) ?_
  have Iq2 : Iv TX (ui Mq 26 (((Mq.1 23 7).toInt).toNat) x1) := Iq0.otherA rfl
  have frq3 : Fr W_X0_enter_E Mq (ui Mq 26 (((Mq.1 23 7).toInt).toNat) x1) := frq0.ui rfl
  refine g_aload_n X 0 rfl dX0_enter_10 ?_
  refine g_getr X f_X0_25 dX0_enter_11 ?_
  refine g_aload_n X 0 rfl dX0_enter_14 ?_
  refine g_geti X f_X0_35 dX0_enter_15 (x := Mq.1 23 7) rfl ?_
  have bq4 := ig_23_7 Iq0
  refine g_iload_n X 2 rfl dX0_enter_18 ?_
  refine g_iast X la_27 rfl dX0_enter_19 (by omega) ?_
  have Iq5 : Iv TX (ui (ui Mq 26 (((Mq.1 23 7).toInt).toNat) x1) 27 (((Mq.1 23 7).toInt).toNat) x2) := Iq2.putA 0 39 t2 (by omega) rfl
  have frq6 : Fr W_X0_enter_E Mq (ui (ui Mq 26 (((Mq.1 23 7).toInt).toNat) x1) 27 (((Mq.1 23 7).toInt).toNat) x2) := frq3.ui rfl
  refine g_aload_n X 0 rfl dX0_enter_20 ?_
  refine g_getr X f_X0_28 dX0_enter_21 ?_
  refine g_aload_n X 0 rfl dX0_enter_24 ?_
  refine g_geti X f_X0_35 dX0_enter_25 (x := Mq.1 23 7) rfl ?_
  have bq7 := ig_23_7 Iq0
  refine g_iload_n X 3 rfl dX0_enter_28 ?_
  refine g_iast X la_28 rfl dX0_enter_29 (by omega) ?_
  have Iq8 : Iv TX (ui (ui (ui Mq 26 (((Mq.1 23 7).toInt).toNat) x1) 27 (((Mq.1 23 7).toInt).toNat) x2) 28 (((Mq.1 23 7).toInt).toNat) x3) := Iq5.otherA rfl
  have frq9 : Fr W_X0_enter_E Mq (ui (ui (ui Mq 26 (((Mq.1 23 7).toInt).toNat) x1) 27 (((Mq.1 23 7).toInt).toNat) x2) 28 (((Mq.1 23 7).toInt).toNat) x3) := frq6.ui rfl
  refine g_aload_n X 0 rfl dX0_enter_30 ?_
  refine g_getr X f_X0_31 dX0_enter_31 ?_
  refine g_aload_n X 0 rfl dX0_enter_34 ?_
  refine g_geti X f_X0_35 dX0_enter_35 (x := Mq.1 23 7) rfl ?_
  have bq10 := ig_23_7 Iq0
  refine g_iload X 4 rfl dX0_enter_38 ?_
  refine g_zast X la_29 (b01 t4 (by omega)) rfl dX0_enter_40 (by omega) ?_
  have Iq11 : Iv TX (ui (ui (ui (ui Mq 26 (((Mq.1 23 7).toInt).toNat) x1) 27 (((Mq.1 23 7).toInt).toNat) x2) 28 (((Mq.1 23 7).toInt).toNat) x3) 29 (((Mq.1 23 7).toInt).toNat) x4) := Iq8.putA 0 1 t4 (by omega) rfl
  have frq12 : Fr W_X0_enter_E Mq (ui (ui (ui (ui Mq 26 (((Mq.1 23 7).toInt).toNat) x1) 27 (((Mq.1 23 7).toInt).toNat) x2) 28 (((Mq.1 23 7).toInt).toNat) x3) 29 (((Mq.1 23 7).toInt).toNat) x4) := frq9.ui rfl
  refine g_aload_n X 0 rfl dX0_enter_41 ?_
  refine g_dup X dX0_enter_42 rfl ?_
  refine g_geti X f_X0_35 dX0_enter_43 (x := Mq.1 23 7) rfl ?_
  have bq13 := ig_23_7 Iq0
  refine g_iconst X 1 dX0_enter_46 (by decide) ?_
  refine g_iadd X dX0_enter_47 (fun zq14 eq15 => ?_)
  have tq16 : zq14.toInt = ((Mq.1 23 7).toInt) + 1 := add_nw eq15 rfl (show (1 : Int32).toInt = 1 by decide) (by omega)
  refine g_puti X p_X0_35 dX0_enter_48 ?_
  have Iq17 : Iv TX (ui (ui (ui (ui (ui Mq 26 (((Mq.1 23 7).toInt).toNat) x1) 27 (((Mq.1 23 7).toInt).toNat) x2) 28 (((Mq.1 23 7).toInt).toNat) x3) 29 (((Mq.1 23 7).toInt).toNat) x4) 23 7 zq14) := Iq11.put 0 200 tq16 (by omega) rfl
  have frq18 : Fr W_X0_enter_E Mq (ui (ui (ui (ui (ui Mq 26 (((Mq.1 23 7).toInt).toNat) x1) 27 (((Mq.1 23 7).toInt).toNat) x2) 28 (((Mq.1 23 7).toInt).toNat) x3) 29 (((Mq.1 23 7).toInt).toNat) x4) 23 7 zq14) := frq12.ui rfl
  refine g_aload_n X 0 rfl dX0_enter_51 ?_
  refine g_geti X f_X0_35 dX0_enter_52 (x := zq14) rfl ?_
  exact g_iret X dX0_enter_55 ⟨_, _, rfl, tq16, (by omega), (⟨by rw [ui_eq]; omega, (by funext b; simp [ui]), (by funext b; simp [ui]), (by funext b; simp [ui]), (by funext b; simp [ui])⟩), Iq17, frq18⟩
abbrev W_X6_singer_E : List (Nat × Nat) := [(23, 2), (24, 99)]
set_option maxHeartbeats 4000000 in
set_option maxRecDepth 4000 in
theorem c_X6_singer_E (ad : Nat → Nat) (Mq : Mem) (x1 : Int32) {a1 : Int} (t1 : x1.toInt = a1) (Iq0 : Iv TX Mq) : Ctr ad yX6_singer cX6_singer 2 (some .int) 2 [.ref (ad 0), .int x1] Mq (fun v M' => ∃ (r : Int32) (a : Int), v = some (.int r) ∧ r.toInt = a ∧ (((¬ (0 ≤ a1 ∧ a1 ≤ 999)) ∧ (a = -2)) ∨ (¬ (¬ (0 ≤ a1 ∧ a1 ≤ 999)) ∧ (8 ≤ (Mq.1 23 2).toInt) ∧ (a = -4)) ∨ (¬ (¬ (0 ≤ a1 ∧ a1 ≤ 999)) ∧ ¬ (8 ≤ (Mq.1 23 2).toInt) ∧ (a = (Mq.1 23 2).toInt))) ∧ (((((¬ (0 ≤ a1 ∧ a1 ≤ 999)) ∨ (8 ≤ (Mq.1 23 2).toInt)) ∧ (M'.1 23 2).toInt = (Mq.1 23 2).toInt) ∨ (¬ ((¬ (0 ≤ a1 ∧ a1 ≤ 999)) ∨ (8 ≤ (Mq.1 23 2).toInt)) ∧ (M'.1 23 2).toInt = (Mq.1 23 2).toInt + 1)) ∧ ((((¬ (0 ≤ a1 ∧ a1 ≤ 999)) ∨ (8 ≤ (Mq.1 23 2).toInt)) → M'.1 24 = Mq.1 24) ∧ (¬ ((¬ (0 ≤ a1 ∧ a1 ≤ 999)) ∨ (8 ≤ (Mq.1 23 2).toInt)) → M'.1 24 = (ui Mq 24 ((Mq.1 23 2).toInt).toNat x1).1 24))) ∧ Iv TX M' ∧ Fr W_X6_singer_E Mq M') := by
  refine ctr_of (L := [(0, .ref (ad 0)), (1, .int x1)]) (by decide) (Nat.le_of_ble_eq_true rfl) rfl ?_
  intro Γ X
  have X : gX Γ cX6_singer RX6 2 (some .int) 2 ad _ := X
  have frq0 : Fr W_X6_singer_E Mq Mq := Fr.rf
  have g1_3 := ig_1_3 Iq0
  have g1_12 := ig_1_12 Iq0
  have g23_2 := ig_23_2 Iq0
  have g23_7 := ig_23_7 Iq0
  refine g_iload_n X 1 rfl dX6_singer_0 ?_
  refine g_callS X m_X6_162 (c_X6_isYear ad Mq x1 t1) rfl (by decide) (Nat.le_of_ble_eq_true rfl) rfl dX6_singer_1 ?_
  rintro _ _ ⟨rq1, aq2, rfl, tq3, hq4, rfl⟩
  show G Γ Mq 4 [(0, .ref (ad 0)), (1, .int x1)] [.int rq1]
  refine g_if_ne X tq3 (tgt := 10) dX6_singer_4 (by decide) (fun cq5 => ?_) (fun cq5 => ?_)
  · have pq6 : (0 ≤ a1 ∧ a1 ≤ 999) := by first | omega | (rcases hq4 with ⟨z1, z2⟩ | ⟨z1, z2⟩ <;> first | exact z2 | (exfalso; omega))
    clear hq4 cq5 tq3
    refine g_aload_n X 0 rfl dX6_singer_10 ?_
    refine g_getr X f_X6_26 dX6_singer_11 ?_
    refine g_geti X f_X6_179 dX6_singer_14 (x := Mq.1 23 2) rfl ?_
    have bq7 := ig_23_2 Iq0
    refine g_bipush X 8 dX6_singer_17 (by decide) ?_
    refine g_icmp_lt X rfl (show (8 : Int32).toInt = 8 by decide) (tgt := 25) dX6_singer_19 (by decide) (fun cq8 => ?_) (fun cq8 => ?_)
    · refine g_aload_n X 0 rfl dX6_singer_25 ?_
      refine g_getr X f_X6_26 dX6_singer_26 ?_
      refine g_iload_n X 1 rfl dX6_singer_29 ?_
      refine g_callV X m_X6_182 (c_X0_addSinger_E ad Mq x1 t1 Iq0 (by omega)) rfl (by decide) (Nat.le_of_ble_eq_true rfl) rfl dX6_singer_30 ?_
      rintro _ Mq14 ⟨rq9, aq10, rfl, tq11, hq12, hq13, Iq15, frq16⟩
      have frq17 : Fr W_X6_singer_E Mq Mq14 := frq0.trans frq16 rfl
      show G Γ Mq14 33 [(0, .ref (ad 0)), (1, .int x1)] [.int rq9]
      exact g_iret X dX6_singer_33 ⟨_, _, rfl, tq11, (by omega), (⟨by first | omega | (rw [ui_eq]; omega), ⟨fun h => by first | rfl | exact absurd h (by omega), fun h => by first | (funext b; simp [ui]; done) | exact hq13.2 | exact absurd (by omega) h⟩⟩), Iq15, frq17⟩
    · refine g_bipush X (-4) dX6_singer_22 (by decide) ?_
      exact g_iret X dX6_singer_24 ⟨_, _, rfl, (show ((-4) : Int32).toInt = (-4) by decide), (by omega), (⟨by first | omega | (rw [ui_eq]; omega), ⟨fun h => by first | rfl | exact absurd h (by omega), fun h => by first | (funext b; simp [ui]; done) | exact trivial.2 | exact absurd (by omega) h⟩⟩), Iq0, frq0⟩
  · have pq18 : ¬ (0 ≤ a1 ∧ a1 ≤ 999) := by first | omega | (rcases hq4 with ⟨z1, z2⟩ | ⟨z1, z2⟩ <;> first | exact z2 | (exfalso; omega))
    clear hq4 cq5 tq3
    refine g_bipush X (-2) dX6_singer_7 (by decide) ?_
    exact g_iret X dX6_singer_9 ⟨_, _, rfl, (show ((-2) : Int32).toInt = (-2) by decide), (by omega), (⟨by first | omega | (rw [ui_eq]; omega), ⟨fun h => by first | rfl | exact absurd h (by omega), fun h => by first | (funext b; simp [ui]; done) | exact trivial.2 | exact absurd (by omega) h⟩⟩), Iq0, frq0⟩
abbrev W_X6_learn_E : List (Nat × Nat) := [(23, 7), (26, 99), (27, 99), (28, 99), (29, 99)]
set_option maxHeartbeats 4000000 in
set_option maxRecDepth 4000 in
theorem c_X6_learn_E (ad : Nat → Nat) (Mq : Mem) (x1 : Int32) {a1 : Int} (t1 : x1.toInt = a1) (x2 : Int32) {a2 : Int} (t2 : x2.toInt = a2) (x3 : Int32) {a3 : Int} (t3 : x3.toInt = a3) (x4 : Int32) {a4 : Int} (t4 : x4.toInt = a4) (Iq0 : Iv TX Mq) : Ctr ad yX6_learn cX6_learn 5 (some .int) 2 [.ref (ad 0), .int x1, .int x2, .int x3, .int x4] Mq (fun v M' => ∃ (r : Int32) (a : Int), v = some (.int r) ∧ r.toInt = a ∧ (((¬ ((0 ≤ a1 ∧ a1 < (Mq.1 23 2).toInt) ∧ (0 ≤ a2 ∧ a2 < (Mq.1 1 12).toInt) ∧ (a3 = -1 ∨ (0 ≤ a3 ∧ a3 < (Mq.1 23 2).toInt)))) ∧ (a = -1)) ∨ (¬ (¬ ((0 ≤ a1 ∧ a1 < (Mq.1 23 2).toInt) ∧ (0 ≤ a2 ∧ a2 < (Mq.1 1 12).toInt) ∧ (a3 = -1 ∨ (0 ≤ a3 ∧ a3 < (Mq.1 23 2).toInt)))) ∧ (¬ (0 ≤ a4 ∧ a4 ≤ 999) ∨ a3 = a1) ∧ (a = -2)) ∨ (¬ (¬ ((0 ≤ a1 ∧ a1 < (Mq.1 23 2).toInt) ∧ (0 ≤ a2 ∧ a2 < (Mq.1 1 12).toInt) ∧ (a3 = -1 ∨ (0 ≤ a3 ∧ a3 < (Mq.1 23 2).toInt)))) ∧ ¬ (¬ (0 ≤ a4 ∧ a4 ≤ 999) ∨ a3 = a1) ∧ (200 ≤ (Mq.1 23 7).toInt) ∧ (a = -4)) ∨ (¬ (¬ ((0 ≤ a1 ∧ a1 < (Mq.1 23 2).toInt) ∧ (0 ≤ a2 ∧ a2 < (Mq.1 1 12).toInt) ∧ (a3 = -1 ∨ (0 ≤ a3 ∧ a3 < (Mq.1 23 2).toInt)))) ∧ ¬ (¬ (0 ≤ a4 ∧ a4 ≤ 999) ∨ a3 = a1) ∧ ¬ (200 ≤ (Mq.1 23 7).toInt) ∧ (a = (Mq.1 23 7).toInt + 1))) ∧ (((((¬ ((0 ≤ a1 ∧ a1 < (Mq.1 23 2).toInt) ∧ (0 ≤ a2 ∧ a2 < (Mq.1 1 12).toInt) ∧ (a3 = -1 ∨ (0 ≤ a3 ∧ a3 < (Mq.1 23 2).toInt)))) ∨ (¬ (0 ≤ a4 ∧ a4 ≤ 999) ∨ a3 = a1) ∨ (200 ≤ (Mq.1 23 7).toInt)) ∧ (M'.1 23 7).toInt = (Mq.1 23 7).toInt) ∨ (¬ ((¬ ((0 ≤ a1 ∧ a1 < (Mq.1 23 2).toInt) ∧ (0 ≤ a2 ∧ a2 < (Mq.1 1 12).toInt) ∧ (a3 = -1 ∨ (0 ≤ a3 ∧ a3 < (Mq.1 23 2).toInt)))) ∨ (¬ (0 ≤ a4 ∧ a4 ≤ 999) ∨ a3 = a1) ∨ (200 ≤ (Mq.1 23 7).toInt)) ∧ (M'.1 23 7).toInt = (Mq.1 23 7).toInt + 1)) ∧ ((((¬ ((0 ≤ a1 ∧ a1 < (Mq.1 23 2).toInt) ∧ (0 ≤ a2 ∧ a2 < (Mq.1 1 12).toInt) ∧ (a3 = -1 ∨ (0 ≤ a3 ∧ a3 < (Mq.1 23 2).toInt)))) ∨ (¬ (0 ≤ a4 ∧ a4 ≤ 999) ∨ a3 = a1) ∨ (200 ≤ (Mq.1 23 7).toInt)) → M'.1 26 = Mq.1 26) ∧ (¬ ((¬ ((0 ≤ a1 ∧ a1 < (Mq.1 23 2).toInt) ∧ (0 ≤ a2 ∧ a2 < (Mq.1 1 12).toInt) ∧ (a3 = -1 ∨ (0 ≤ a3 ∧ a3 < (Mq.1 23 2).toInt)))) ∨ (¬ (0 ≤ a4 ∧ a4 ≤ 999) ∨ a3 = a1) ∨ (200 ≤ (Mq.1 23 7).toInt)) → M'.1 26 = (ui Mq 26 ((Mq.1 23 7).toInt).toNat x1).1 26)) ∧ ((((¬ ((0 ≤ a1 ∧ a1 < (Mq.1 23 2).toInt) ∧ (0 ≤ a2 ∧ a2 < (Mq.1 1 12).toInt) ∧ (a3 = -1 ∨ (0 ≤ a3 ∧ a3 < (Mq.1 23 2).toInt)))) ∨ (¬ (0 ≤ a4 ∧ a4 ≤ 999) ∨ a3 = a1) ∨ (200 ≤ (Mq.1 23 7).toInt)) → M'.1 27 = Mq.1 27) ∧ (¬ ((¬ ((0 ≤ a1 ∧ a1 < (Mq.1 23 2).toInt) ∧ (0 ≤ a2 ∧ a2 < (Mq.1 1 12).toInt) ∧ (a3 = -1 ∨ (0 ≤ a3 ∧ a3 < (Mq.1 23 2).toInt)))) ∨ (¬ (0 ≤ a4 ∧ a4 ≤ 999) ∨ a3 = a1) ∨ (200 ≤ (Mq.1 23 7).toInt)) → M'.1 27 = (ui Mq 27 ((Mq.1 23 7).toInt).toNat x2).1 27)) ∧ ((((¬ ((0 ≤ a1 ∧ a1 < (Mq.1 23 2).toInt) ∧ (0 ≤ a2 ∧ a2 < (Mq.1 1 12).toInt) ∧ (a3 = -1 ∨ (0 ≤ a3 ∧ a3 < (Mq.1 23 2).toInt)))) ∨ (¬ (0 ≤ a4 ∧ a4 ≤ 999) ∨ a3 = a1) ∨ (200 ≤ (Mq.1 23 7).toInt)) → M'.1 28 = Mq.1 28) ∧ (¬ ((¬ ((0 ≤ a1 ∧ a1 < (Mq.1 23 2).toInt) ∧ (0 ≤ a2 ∧ a2 < (Mq.1 1 12).toInt) ∧ (a3 = -1 ∨ (0 ≤ a3 ∧ a3 < (Mq.1 23 2).toInt)))) ∨ (¬ (0 ≤ a4 ∧ a4 ≤ 999) ∨ a3 = a1) ∨ (200 ≤ (Mq.1 23 7).toInt)) → M'.1 28 = (ui Mq 28 ((Mq.1 23 7).toInt).toNat x4).1 28)) ∧ ((((¬ ((0 ≤ a1 ∧ a1 < (Mq.1 23 2).toInt) ∧ (0 ≤ a2 ∧ a2 < (Mq.1 1 12).toInt) ∧ (a3 = -1 ∨ (0 ≤ a3 ∧ a3 < (Mq.1 23 2).toInt)))) ∨ (¬ (0 ≤ a4 ∧ a4 ≤ 999) ∨ a3 = a1) ∨ (200 ≤ (Mq.1 23 7).toInt)) → M'.1 29 = Mq.1 29) ∧ (¬ ((¬ ((0 ≤ a1 ∧ a1 < (Mq.1 23 2).toInt) ∧ (0 ≤ a2 ∧ a2 < (Mq.1 1 12).toInt) ∧ (a3 = -1 ∨ (0 ≤ a3 ∧ a3 < (Mq.1 23 2).toInt)))) ∨ (¬ (0 ≤ a4 ∧ a4 ≤ 999) ∨ a3 = a1) ∨ (200 ≤ (Mq.1 23 7).toInt)) → M'.1 29 = (ui Mq 29 ((Mq.1 23 7).toInt).toNat 1).1 29))) ∧ Iv TX M' ∧ Fr W_X6_learn_E Mq M') := by
  refine ctr_of (L := [(0, .ref (ad 0)), (1, .int x1), (2, .int x2), (3, .int x3), (4, .int x4)]) (by decide) (Nat.le_of_ble_eq_true rfl) rfl ?_
  intro Γ X
  have X : gX Γ cX6_learn RX6 5 (some .int) 2 ad _ := X
  have frq0 : Fr W_X6_learn_E Mq Mq := Fr.rf
  have g1_3 := ig_1_3 Iq0
  have g1_12 := ig_1_12 Iq0
  have g23_2 := ig_23_2 Iq0
  have g23_7 := ig_23_7 Iq0
  refine g_aload_n X 0 rfl dX6_learn_0 ?_
  refine g_getr X f_X6_26 dX6_learn_1 ?_
  refine g_iload_n X 1 rfl dX6_learn_4 ?_
  refine g_callV X m_X6_159 (c_X0_isSinger ad Mq x1 t1) rfl (by decide) (Nat.le_of_ble_eq_true rfl) rfl dX6_learn_5 ?_
  rintro _ _ ⟨rq1, aq2, rfl, tq3, hq4, rfl⟩
  show G Γ Mq 8 [(0, .ref (ad 0)), (1, .int x1), (2, .int x2), (3, .int x3), (4, .int x4)] [.int rq1]
  refine g_if_eq X tq3 (tgt := 22) dX6_learn_8 (by decide) (fun cq5 => ?_) (fun cq5 => ?_)
  · have pq6 : ¬ (0 ≤ a1 ∧ a1 < ((Mq.1 23 2)).toInt) := by first | omega | (rcases hq4 with ⟨z1, z2⟩ | ⟨z1, z2⟩ <;> first | exact z2 | (exfalso; omega))
    clear hq4 cq5 tq3
    refine g_iconst X (-1) dX6_learn_22 (by decide) ?_
    exact g_iret X dX6_learn_23 ⟨_, _, rfl, (show ((-1) : Int32).toInt = (-1) by decide), (by omega), (⟨by first | omega | (have z := trivial.1; omega), ⟨fun h => by first | rfl | exact absurd h (by omega), fun h => by first | exact trivial.2.1 | exact absurd (by omega) h⟩, ⟨fun h => by first | rfl | exact absurd h (by omega), fun h => by first | exact trivial.2.2.1 | exact absurd (by omega) h⟩, ⟨fun h => by first | rfl | exact absurd h (by omega), fun h => by first | exact trivial.2.2.2.1 | exact absurd (by omega) h⟩, ⟨fun h => by first | rfl | exact absurd h (by omega), fun h => by first | exact trivial.2.2.2.2 | exact absurd (by omega) h⟩⟩), Iq0, frq0⟩
  · have pq7 : (0 ≤ a1 ∧ a1 < ((Mq.1 23 2)).toInt) := by first | omega | (rcases hq4 with ⟨z1, z2⟩ | ⟨z1, z2⟩ <;> first | exact z2 | (exfalso; omega))
    clear hq4 cq5 tq3
    refine g_aload_n X 0 rfl dX6_learn_11 ?_
    refine g_getr X f_X6_10 dX6_learn_12 ?_
    refine g_iload_n X 2 rfl dX6_learn_15 ?_
    refine g_callV X m_X6_96 (c_X5_isLine ad Mq x2 t2) rfl (by decide) (Nat.le_of_ble_eq_true rfl) rfl dX6_learn_16 ?_
    rintro _ _ ⟨rq8, aq9, rfl, tq10, hq11, rfl⟩
    show G Γ Mq 19 [(0, .ref (ad 0)), (1, .int x1), (2, .int x2), (3, .int x3), (4, .int x4)] [.int rq8]
    refine g_if_ne X tq10 (tgt := 24) dX6_learn_19 (by decide) (fun cq12 => ?_) (fun cq12 => ?_)
    · have pq13 : (0 ≤ a2 ∧ a2 < ((Mq.1 1 12)).toInt) := by first | omega | (rcases hq11 with ⟨z1, z2⟩ | ⟨z1, z2⟩ <;> first | exact z2 | (exfalso; omega))
      clear hq11 cq12 tq10
      refine g_iload_n X 3 rfl dX6_learn_24 ?_
      refine g_iconst X (-1) dX6_learn_25 (by decide) ?_
      refine g_icmp_eq X t3 (show ((-1) : Int32).toInt = (-1) by decide) (tgt := 42) dX6_learn_26 (by decide) (fun cq14 => ?_) (fun cq14 => ?_)
      · refine g_iload X 4 rfl dX6_learn_42 ?_
        refine g_callS X m_X6_162 (c_X6_isYear ad Mq x4 t4) rfl (by decide) (Nat.le_of_ble_eq_true rfl) rfl dX6_learn_44 ?_
        rintro _ _ ⟨rq15, aq16, rfl, tq17, hq18, rfl⟩
        show G Γ Mq 47 [(0, .ref (ad 0)), (1, .int x1), (2, .int x2), (3, .int x3), (4, .int x4)] [.int rq15]
        refine g_if_eq X tq17 (tgt := 55) dX6_learn_47 (by decide) (fun cq19 => ?_) (fun cq19 => ?_)
        · have pq20 : ¬ (0 ≤ a4 ∧ a4 ≤ 999) := by first | omega | (rcases hq18 with ⟨z1, z2⟩ | ⟨z1, z2⟩ <;> first | exact z2 | (exfalso; omega))
          clear hq18 cq19 tq17
          refine g_bipush X (-2) dX6_learn_55 (by decide) ?_
          exact g_iret X dX6_learn_57 ⟨_, _, rfl, (show ((-2) : Int32).toInt = (-2) by decide), (by omega), (⟨by first | omega | (have z := trivial.1; omega), ⟨fun h => by first | rfl | exact absurd h (by omega), fun h => by first | exact trivial.2.1 | exact absurd (by omega) h⟩, ⟨fun h => by first | rfl | exact absurd h (by omega), fun h => by first | exact trivial.2.2.1 | exact absurd (by omega) h⟩, ⟨fun h => by first | rfl | exact absurd h (by omega), fun h => by first | exact trivial.2.2.2.1 | exact absurd (by omega) h⟩, ⟨fun h => by first | rfl | exact absurd h (by omega), fun h => by first | exact trivial.2.2.2.2 | exact absurd (by omega) h⟩⟩), Iq0, frq0⟩
        · have pq21 : (0 ≤ a4 ∧ a4 ≤ 999) := by first | omega | (rcases hq18 with ⟨z1, z2⟩ | ⟨z1, z2⟩ <;> first | exact z2 | (exfalso; omega))
          clear hq18 cq19 tq17
          refine g_iload_n X 3 rfl dX6_learn_50 ?_
          refine g_iload_n X 1 rfl dX6_learn_51 ?_
          refine g_icmp_ne X t3 t1 (tgt := 58) dX6_learn_52 (by decide) (fun cq22 => ?_) (fun cq22 => ?_)
          · refine g_aload_n X 0 rfl dX6_learn_58 ?_
            refine g_getr X f_X6_26 dX6_learn_59 ?_
            refine g_geti X f_X6_188 dX6_learn_62 (x := Mq.1 23 7) rfl ?_
            have bq23 := ig_23_7 Iq0
            refine g_sipush X 200 dX6_learn_65 (by decide) ?_
            refine g_icmp_lt X rfl (show (200 : Int32).toInt = 200 by decide) (tgt := 74) dX6_learn_68 (by decide) (fun cq24 => ?_) (fun cq24 => ?_)
            · refine g_aload_n X 0 rfl dX6_learn_74 ?_
              refine g_getr X f_X6_26 dX6_learn_75 ?_
              refine g_iload_n X 1 rfl dX6_learn_78 ?_
              refine g_iload_n X 2 rfl dX6_learn_79 ?_
              refine g_iload X 4 rfl dX6_learn_80 ?_
              refine g_iconst X 1 dX6_learn_82 (by decide) ?_
              refine g_callV X m_X6_191 (c_X0_enter_E ad Mq x1 t1 x2 t2 x4 t4 1 (show (1 : Int32).toInt = 1 by decide) Iq0 (by omega) (by omega) (by omega)) rfl (by decide) (Nat.le_of_ble_eq_true rfl) rfl dX6_learn_83 ?_
              rintro _ Mq30 ⟨rq25, aq26, rfl, tq27, hq28, hq29, Iq31, frq32⟩
              have frq33 : Fr W_X6_learn_E Mq Mq30 := frq0.trans frq32 rfl
              show G Γ Mq30 86 [(0, .ref (ad 0)), (1, .int x1), (2, .int x2), (3, .int x3), (4, .int x4)] [.int rq25]
              exact g_iret X dX6_learn_86 ⟨_, _, rfl, tq27, (by omega), (⟨by first | omega | (have z := hq29.1; omega), ⟨fun h => by first | rfl | exact absurd h (by omega), fun h => by first | exact hq29.2.1 | exact absurd (by omega) h⟩, ⟨fun h => by first | rfl | exact absurd h (by omega), fun h => by first | exact hq29.2.2.1 | exact absurd (by omega) h⟩, ⟨fun h => by first | rfl | exact absurd h (by omega), fun h => by first | exact hq29.2.2.2.1 | exact absurd (by omega) h⟩, ⟨fun h => by first | rfl | exact absurd h (by omega), fun h => by first | exact hq29.2.2.2.2 | exact absurd (by omega) h⟩⟩), Iq31, frq33⟩
            · refine g_bipush X (-4) dX6_learn_71 (by decide) ?_
              exact g_iret X dX6_learn_73 ⟨_, _, rfl, (show ((-4) : Int32).toInt = (-4) by decide), (by omega), (⟨by first | omega | (have z := trivial.1; omega), ⟨fun h => by first | rfl | exact absurd h (by omega), fun h => by first | exact trivial.2.1 | exact absurd (by omega) h⟩, ⟨fun h => by first | rfl | exact absurd h (by omega), fun h => by first | exact trivial.2.2.1 | exact absurd (by omega) h⟩, ⟨fun h => by first | rfl | exact absurd h (by omega), fun h => by first | exact trivial.2.2.2.1 | exact absurd (by omega) h⟩, ⟨fun h => by first | rfl | exact absurd h (by omega), fun h => by first | exact trivial.2.2.2.2 | exact absurd (by omega) h⟩⟩), Iq0, frq0⟩
          · refine g_bipush X (-2) dX6_learn_55 (by decide) ?_
            exact g_iret X dX6_learn_57 ⟨_, _, rfl, (show ((-2) : Int32).toInt = (-2) by decide), (by omega), (⟨by first | omega | (have z := trivial.1; omega), ⟨fun h => by first | rfl | exact absurd h (by omega), fun h => by first | exact trivial.2.1 | exact absurd (by omega) h⟩, ⟨fun h => by first | rfl | exact absurd h (by omega), fun h => by first | exact trivial.2.2.1 | exact absurd (by omega) h⟩, ⟨fun h => by first | rfl | exact absurd h (by omega), fun h => by first | exact trivial.2.2.2.1 | exact absurd (by omega) h⟩, ⟨fun h => by first | rfl | exact absurd h (by omega), fun h => by first | exact trivial.2.2.2.2 | exact absurd (by omega) h⟩⟩), Iq0, frq0⟩
      · refine g_aload_n X 0 rfl dX6_learn_29 ?_
        refine g_getr X f_X6_26 dX6_learn_30 ?_
        refine g_iload_n X 3 rfl dX6_learn_33 ?_
        refine g_callV X m_X6_159 (c_X0_isSinger ad Mq x3 t3) rfl (by decide) (Nat.le_of_ble_eq_true rfl) rfl dX6_learn_34 ?_
        rintro _ _ ⟨rq34, aq35, rfl, tq36, hq37, rfl⟩
        show G Γ Mq 37 [(0, .ref (ad 0)), (1, .int x1), (2, .int x2), (3, .int x3), (4, .int x4)] [.int rq34]
        refine g_if_ne X tq36 (tgt := 42) dX6_learn_37 (by decide) (fun cq38 => ?_) (fun cq38 => ?_)
        · have pq39 : (0 ≤ a3 ∧ a3 < ((Mq.1 23 2)).toInt) := by first | omega | (rcases hq37 with ⟨z1, z2⟩ | ⟨z1, z2⟩ <;> first | exact z2 | (exfalso; omega))
          clear hq37 cq38 tq36
          refine g_iload X 4 rfl dX6_learn_42 ?_
          refine g_callS X m_X6_162 (c_X6_isYear ad Mq x4 t4) rfl (by decide) (Nat.le_of_ble_eq_true rfl) rfl dX6_learn_44 ?_
          rintro _ _ ⟨rq40, aq41, rfl, tq42, hq43, rfl⟩
          show G Γ Mq 47 [(0, .ref (ad 0)), (1, .int x1), (2, .int x2), (3, .int x3), (4, .int x4)] [.int rq40]
          refine g_if_eq X tq42 (tgt := 55) dX6_learn_47 (by decide) (fun cq44 => ?_) (fun cq44 => ?_)
          · have pq45 : ¬ (0 ≤ a4 ∧ a4 ≤ 999) := by first | omega | (rcases hq43 with ⟨z1, z2⟩ | ⟨z1, z2⟩ <;> first | exact z2 | (exfalso; omega))
            clear hq43 cq44 tq42
            refine g_bipush X (-2) dX6_learn_55 (by decide) ?_
            exact g_iret X dX6_learn_57 ⟨_, _, rfl, (show ((-2) : Int32).toInt = (-2) by decide), (by omega), (⟨by first | omega | (have z := trivial.1; omega), ⟨fun h => by first | rfl | exact absurd h (by omega), fun h => by first | exact trivial.2.1 | exact absurd (by omega) h⟩, ⟨fun h => by first | rfl | exact absurd h (by omega), fun h => by first | exact trivial.2.2.1 | exact absurd (by omega) h⟩, ⟨fun h => by first | rfl | exact absurd h (by omega), fun h => by first | exact trivial.2.2.2.1 | exact absurd (by omega) h⟩, ⟨fun h => by first | rfl | exact absurd h (by omega), fun h => by first | exact trivial.2.2.2.2 | exact absurd (by omega) h⟩⟩), Iq0, frq0⟩
          · have pq46 : (0 ≤ a4 ∧ a4 ≤ 999) := by first | omega | (rcases hq43 with ⟨z1, z2⟩ | ⟨z1, z2⟩ <;> first | exact z2 | (exfalso; omega))
            clear hq43 cq44 tq42
            refine g_iload_n X 3 rfl dX6_learn_50 ?_
            refine g_iload_n X 1 rfl dX6_learn_51 ?_
            refine g_icmp_ne X t3 t1 (tgt := 58) dX6_learn_52 (by decide) (fun cq47 => ?_) (fun cq47 => ?_)
            · refine g_aload_n X 0 rfl dX6_learn_58 ?_
              refine g_getr X f_X6_26 dX6_learn_59 ?_
              refine g_geti X f_X6_188 dX6_learn_62 (x := Mq.1 23 7) rfl ?_
              have bq48 := ig_23_7 Iq0
              refine g_sipush X 200 dX6_learn_65 (by decide) ?_
              refine g_icmp_lt X rfl (show (200 : Int32).toInt = 200 by decide) (tgt := 74) dX6_learn_68 (by decide) (fun cq49 => ?_) (fun cq49 => ?_)
              · refine g_aload_n X 0 rfl dX6_learn_74 ?_
                refine g_getr X f_X6_26 dX6_learn_75 ?_
                refine g_iload_n X 1 rfl dX6_learn_78 ?_
                refine g_iload_n X 2 rfl dX6_learn_79 ?_
                refine g_iload X 4 rfl dX6_learn_80 ?_
                refine g_iconst X 1 dX6_learn_82 (by decide) ?_
                refine g_callV X m_X6_191 (c_X0_enter_E ad Mq x1 t1 x2 t2 x4 t4 1 (show (1 : Int32).toInt = 1 by decide) Iq0 (by omega) (by omega) (by omega)) rfl (by decide) (Nat.le_of_ble_eq_true rfl) rfl dX6_learn_83 ?_
                rintro _ Mq55 ⟨rq50, aq51, rfl, tq52, hq53, hq54, Iq56, frq57⟩
                have frq58 : Fr W_X6_learn_E Mq Mq55 := frq0.trans frq57 rfl
                show G Γ Mq55 86 [(0, .ref (ad 0)), (1, .int x1), (2, .int x2), (3, .int x3), (4, .int x4)] [.int rq50]
                exact g_iret X dX6_learn_86 ⟨_, _, rfl, tq52, (by omega), (⟨by first | omega | (have z := hq54.1; omega), ⟨fun h => by first | rfl | exact absurd h (by omega), fun h => by first | exact hq54.2.1 | exact absurd (by omega) h⟩, ⟨fun h => by first | rfl | exact absurd h (by omega), fun h => by first | exact hq54.2.2.1 | exact absurd (by omega) h⟩, ⟨fun h => by first | rfl | exact absurd h (by omega), fun h => by first | exact hq54.2.2.2.1 | exact absurd (by omega) h⟩, ⟨fun h => by first | rfl | exact absurd h (by omega), fun h => by first | exact hq54.2.2.2.2 | exact absurd (by omega) h⟩⟩), Iq56, frq58⟩
              · refine g_bipush X (-4) dX6_learn_71 (by decide) ?_
                exact g_iret X dX6_learn_73 ⟨_, _, rfl, (show ((-4) : Int32).toInt = (-4) by decide), (by omega), (⟨by first | omega | (have z := trivial.1; omega), ⟨fun h => by first | rfl | exact absurd h (by omega), fun h => by first | exact trivial.2.1 | exact absurd (by omega) h⟩, ⟨fun h => by first | rfl | exact absurd h (by omega), fun h => by first | exact trivial.2.2.1 | exact absurd (by omega) h⟩, ⟨fun h => by first | rfl | exact absurd h (by omega), fun h => by first | exact trivial.2.2.2.1 | exact absurd (by omega) h⟩, ⟨fun h => by first | rfl | exact absurd h (by omega), fun h => by first | exact trivial.2.2.2.2 | exact absurd (by omega) h⟩⟩), Iq0, frq0⟩
            · refine g_bipush X (-2) dX6_learn_55 (by decide) ?_
              exact g_iret X dX6_learn_57 ⟨_, _, rfl, (show ((-2) : Int32).toInt = (-2) by decide), (by omega), (⟨by first | omega | (have z := trivial.1; omega), ⟨fun h => by first | rfl | exact absurd h (by omega), fun h => by first | exact trivial.2.1 | exact absurd (by omega) h⟩, ⟨fun h => by first | rfl | exact absurd h (by omega), fun h => by first | exact trivial.2.2.1 | exact absurd (by omega) h⟩, ⟨fun h => by first | rfl | exact absurd h (by omega), fun h => by first | exact trivial.2.2.2.1 | exact absurd (by omega) h⟩, ⟨fun h => by first | rfl | exact absurd h (by omega), fun h => by first | exact trivial.2.2.2.2 | exact absurd (by omega) h⟩⟩), Iq0, frq0⟩
        · have pq59 : ¬ (0 ≤ a3 ∧ a3 < ((Mq.1 23 2)).toInt) := by first | omega | (rcases hq37 with ⟨z1, z2⟩ | ⟨z1, z2⟩ <;> first | exact z2 | (exfalso; omega))
          clear hq37 cq38 tq36
          refine g_iconst X (-1) dX6_learn_40 (by decide) ?_
          exact g_iret X dX6_learn_41 ⟨_, _, rfl, (show ((-1) : Int32).toInt = (-1) by decide), (by omega), (⟨by first | omega | (have z := trivial.1; omega), ⟨fun h => by first | rfl | exact absurd h (by omega), fun h => by first | exact trivial.2.1 | exact absurd (by omega) h⟩, ⟨fun h => by first | rfl | exact absurd h (by omega), fun h => by first | exact trivial.2.2.1 | exact absurd (by omega) h⟩, ⟨fun h => by first | rfl | exact absurd h (by omega), fun h => by first | exact trivial.2.2.2.1 | exact absurd (by omega) h⟩, ⟨fun h => by first | rfl | exact absurd h (by omega), fun h => by first | exact trivial.2.2.2.2 | exact absurd (by omega) h⟩⟩), Iq0, frq0⟩
    · have pq60 : ¬ (0 ≤ a2 ∧ a2 < ((Mq.1 1 12)).toInt) := by first | omega | (rcases hq11 with ⟨z1, z2⟩ | ⟨z1, z2⟩ <;> first | exact z2 | (exfalso; omega))
      clear hq11 cq12 tq10
      refine g_iconst X (-1) dX6_learn_22 (by decide) ?_
      exact g_iret X dX6_learn_23 ⟨_, _, rfl, (show ((-1) : Int32).toInt = (-1) by decide), (by omega), (⟨by first | omega | (have z := trivial.1; omega), ⟨fun h => by first | rfl | exact absurd h (by omega), fun h => by first | exact trivial.2.1 | exact absurd (by omega) h⟩, ⟨fun h => by first | rfl | exact absurd h (by omega), fun h => by first | exact trivial.2.2.1 | exact absurd (by omega) h⟩, ⟨fun h => by first | rfl | exact absurd h (by omega), fun h => by first | exact trivial.2.2.2.1 | exact absurd (by omega) h⟩, ⟨fun h => by first | rfl | exact absurd h (by omega), fun h => by first | exact trivial.2.2.2.2 | exact absurd (by omega) h⟩⟩), Iq0, frq0⟩
abbrev W_X6_forget_E : List (Nat × Nat) := [(23, 7), (26, 99), (27, 99), (28, 99), (29, 99)]
set_option maxHeartbeats 4000000 in
set_option maxRecDepth 4000 in
theorem c_X6_forget_E (ad : Nat → Nat) (Mq : Mem) (x1 : Int32) {a1 : Int} (t1 : x1.toInt = a1) (x2 : Int32) {a2 : Int} (t2 : x2.toInt = a2) (x3 : Int32) {a3 : Int} (t3 : x3.toInt = a3) (Iq0 : Iv TX Mq) : Ctr ad yX6_forget cX6_forget 4 (some .int) 2 [.ref (ad 0), .int x1, .int x2, .int x3] Mq (fun v M' => ∃ (r : Int32) (a : Int), v = some (.int r) ∧ r.toInt = a ∧ (((¬ ((0 ≤ a1 ∧ a1 < (Mq.1 23 2).toInt) ∧ (0 ≤ a2 ∧ a2 < (Mq.1 1 12).toInt))) ∧ (a = -1)) ∨ (¬ (¬ ((0 ≤ a1 ∧ a1 < (Mq.1 23 2).toInt) ∧ (0 ≤ a2 ∧ a2 < (Mq.1 1 12).toInt))) ∧ (¬ (0 ≤ a3 ∧ a3 ≤ 999)) ∧ (a = -2)) ∨ (¬ (¬ ((0 ≤ a1 ∧ a1 < (Mq.1 23 2).toInt) ∧ (0 ≤ a2 ∧ a2 < (Mq.1 1 12).toInt))) ∧ ¬ (¬ (0 ≤ a3 ∧ a3 ≤ 999)) ∧ (200 ≤ (Mq.1 23 7).toInt) ∧ (a = -4)) ∨ (¬ (¬ ((0 ≤ a1 ∧ a1 < (Mq.1 23 2).toInt) ∧ (0 ≤ a2 ∧ a2 < (Mq.1 1 12).toInt))) ∧ ¬ (¬ (0 ≤ a3 ∧ a3 ≤ 999)) ∧ ¬ (200 ≤ (Mq.1 23 7).toInt) ∧ (a = (Mq.1 23 7).toInt + 1))) ∧ (((((¬ ((0 ≤ a1 ∧ a1 < (Mq.1 23 2).toInt) ∧ (0 ≤ a2 ∧ a2 < (Mq.1 1 12).toInt))) ∨ (¬ (0 ≤ a3 ∧ a3 ≤ 999)) ∨ (200 ≤ (Mq.1 23 7).toInt)) ∧ (M'.1 23 7).toInt = (Mq.1 23 7).toInt) ∨ (¬ ((¬ ((0 ≤ a1 ∧ a1 < (Mq.1 23 2).toInt) ∧ (0 ≤ a2 ∧ a2 < (Mq.1 1 12).toInt))) ∨ (¬ (0 ≤ a3 ∧ a3 ≤ 999)) ∨ (200 ≤ (Mq.1 23 7).toInt)) ∧ (M'.1 23 7).toInt = (Mq.1 23 7).toInt + 1)) ∧ ((((¬ ((0 ≤ a1 ∧ a1 < (Mq.1 23 2).toInt) ∧ (0 ≤ a2 ∧ a2 < (Mq.1 1 12).toInt))) ∨ (¬ (0 ≤ a3 ∧ a3 ≤ 999)) ∨ (200 ≤ (Mq.1 23 7).toInt)) → M'.1 26 = Mq.1 26) ∧ (¬ ((¬ ((0 ≤ a1 ∧ a1 < (Mq.1 23 2).toInt) ∧ (0 ≤ a2 ∧ a2 < (Mq.1 1 12).toInt))) ∨ (¬ (0 ≤ a3 ∧ a3 ≤ 999)) ∨ (200 ≤ (Mq.1 23 7).toInt)) → M'.1 26 = (ui Mq 26 ((Mq.1 23 7).toInt).toNat x1).1 26)) ∧ ((((¬ ((0 ≤ a1 ∧ a1 < (Mq.1 23 2).toInt) ∧ (0 ≤ a2 ∧ a2 < (Mq.1 1 12).toInt))) ∨ (¬ (0 ≤ a3 ∧ a3 ≤ 999)) ∨ (200 ≤ (Mq.1 23 7).toInt)) → M'.1 27 = Mq.1 27) ∧ (¬ ((¬ ((0 ≤ a1 ∧ a1 < (Mq.1 23 2).toInt) ∧ (0 ≤ a2 ∧ a2 < (Mq.1 1 12).toInt))) ∨ (¬ (0 ≤ a3 ∧ a3 ≤ 999)) ∨ (200 ≤ (Mq.1 23 7).toInt)) → M'.1 27 = (ui Mq 27 ((Mq.1 23 7).toInt).toNat x2).1 27)) ∧ ((((¬ ((0 ≤ a1 ∧ a1 < (Mq.1 23 2).toInt) ∧ (0 ≤ a2 ∧ a2 < (Mq.1 1 12).toInt))) ∨ (¬ (0 ≤ a3 ∧ a3 ≤ 999)) ∨ (200 ≤ (Mq.1 23 7).toInt)) → M'.1 28 = Mq.1 28) ∧ (¬ ((¬ ((0 ≤ a1 ∧ a1 < (Mq.1 23 2).toInt) ∧ (0 ≤ a2 ∧ a2 < (Mq.1 1 12).toInt))) ∨ (¬ (0 ≤ a3 ∧ a3 ≤ 999)) ∨ (200 ≤ (Mq.1 23 7).toInt)) → M'.1 28 = (ui Mq 28 ((Mq.1 23 7).toInt).toNat x3).1 28)) ∧ ((((¬ ((0 ≤ a1 ∧ a1 < (Mq.1 23 2).toInt) ∧ (0 ≤ a2 ∧ a2 < (Mq.1 1 12).toInt))) ∨ (¬ (0 ≤ a3 ∧ a3 ≤ 999)) ∨ (200 ≤ (Mq.1 23 7).toInt)) → M'.1 29 = Mq.1 29) ∧ (¬ ((¬ ((0 ≤ a1 ∧ a1 < (Mq.1 23 2).toInt) ∧ (0 ≤ a2 ∧ a2 < (Mq.1 1 12).toInt))) ∨ (¬ (0 ≤ a3 ∧ a3 ≤ 999)) ∨ (200 ≤ (Mq.1 23 7).toInt)) → M'.1 29 = (ui Mq 29 ((Mq.1 23 7).toInt).toNat 0).1 29))) ∧ Iv TX M' ∧ Fr W_X6_forget_E Mq M') := by
  refine ctr_of (L := [(0, .ref (ad 0)), (1, .int x1), (2, .int x2), (3, .int x3)]) (by decide) (Nat.le_of_ble_eq_true rfl) rfl ?_
  intro Γ X
  have X : gX Γ cX6_forget RX6 4 (some .int) 2 ad _ := X
  have frq0 : Fr W_X6_forget_E Mq Mq := Fr.rf
  have g1_3 := ig_1_3 Iq0
  have g1_12 := ig_1_12 Iq0
  have g23_2 := ig_23_2 Iq0
  have g23_7 := ig_23_7 Iq0
  refine g_aload_n X 0 rfl dX6_forget_0 ?_
  refine g_getr X f_X6_26 dX6_forget_1 ?_
  refine g_iload_n X 1 rfl dX6_forget_4 ?_
  refine g_callV X m_X6_159 (c_X0_isSinger ad Mq x1 t1) rfl (by decide) (Nat.le_of_ble_eq_true rfl) rfl dX6_forget_5 ?_
  rintro _ _ ⟨rq1, aq2, rfl, tq3, hq4, rfl⟩
  show G Γ Mq 8 [(0, .ref (ad 0)), (1, .int x1), (2, .int x2), (3, .int x3)] [.int rq1]
  refine g_if_eq X tq3 (tgt := 22) dX6_forget_8 (by decide) (fun cq5 => ?_) (fun cq5 => ?_)
  · have pq6 : ¬ (0 ≤ a1 ∧ a1 < ((Mq.1 23 2)).toInt) := by first | omega | (rcases hq4 with ⟨z1, z2⟩ | ⟨z1, z2⟩ <;> first | exact z2 | (exfalso; omega))
    clear hq4 cq5 tq3
    refine g_iconst X (-1) dX6_forget_22 (by decide) ?_
    exact g_iret X dX6_forget_23 ⟨_, _, rfl, (show ((-1) : Int32).toInt = (-1) by decide), (by omega), (⟨by first | omega | (have z := trivial.1; omega), ⟨fun h => by first | rfl | exact absurd h (by omega), fun h => by first | exact trivial.2.1 | exact absurd (by omega) h⟩, ⟨fun h => by first | rfl | exact absurd h (by omega), fun h => by first | exact trivial.2.2.1 | exact absurd (by omega) h⟩, ⟨fun h => by first | rfl | exact absurd h (by omega), fun h => by first | exact trivial.2.2.2.1 | exact absurd (by omega) h⟩, ⟨fun h => by first | rfl | exact absurd h (by omega), fun h => by first | exact trivial.2.2.2.2 | exact absurd (by omega) h⟩⟩), Iq0, frq0⟩
  · have pq7 : (0 ≤ a1 ∧ a1 < ((Mq.1 23 2)).toInt) := by first | omega | (rcases hq4 with ⟨z1, z2⟩ | ⟨z1, z2⟩ <;> first | exact z2 | (exfalso; omega))
    clear hq4 cq5 tq3
    refine g_aload_n X 0 rfl dX6_forget_11 ?_
    refine g_getr X f_X6_10 dX6_forget_12 ?_
    refine g_iload_n X 2 rfl dX6_forget_15 ?_
    refine g_callV X m_X6_96 (c_X5_isLine ad Mq x2 t2) rfl (by decide) (Nat.le_of_ble_eq_true rfl) rfl dX6_forget_16 ?_
    rintro _ _ ⟨rq8, aq9, rfl, tq10, hq11, rfl⟩
    show G Γ Mq 19 [(0, .ref (ad 0)), (1, .int x1), (2, .int x2), (3, .int x3)] [.int rq8]
    refine g_if_ne X tq10 (tgt := 24) dX6_forget_19 (by decide) (fun cq12 => ?_) (fun cq12 => ?_)
    · have pq13 : (0 ≤ a2 ∧ a2 < ((Mq.1 1 12)).toInt) := by first | omega | (rcases hq11 with ⟨z1, z2⟩ | ⟨z1, z2⟩ <;> first | exact z2 | (exfalso; omega))
      clear hq11 cq12 tq10
      refine g_iload_n X 3 rfl dX6_forget_24 ?_
      refine g_callS X m_X6_162 (c_X6_isYear ad Mq x3 t3) rfl (by decide) (Nat.le_of_ble_eq_true rfl) rfl dX6_forget_25 ?_
      rintro _ _ ⟨rq14, aq15, rfl, tq16, hq17, rfl⟩
      show G Γ Mq 28 [(0, .ref (ad 0)), (1, .int x1), (2, .int x2), (3, .int x3)] [.int rq14]
      refine g_if_ne X tq16 (tgt := 34) dX6_forget_28 (by decide) (fun cq18 => ?_) (fun cq18 => ?_)
      · have pq19 : (0 ≤ a3 ∧ a3 ≤ 999) := by first | omega | (rcases hq17 with ⟨z1, z2⟩ | ⟨z1, z2⟩ <;> first | exact z2 | (exfalso; omega))
        clear hq17 cq18 tq16
        refine g_aload_n X 0 rfl dX6_forget_34 ?_
        refine g_getr X f_X6_26 dX6_forget_35 ?_
        refine g_geti X f_X6_188 dX6_forget_38 (x := Mq.1 23 7) rfl ?_
        have bq20 := ig_23_7 Iq0
        refine g_sipush X 200 dX6_forget_41 (by decide) ?_
        refine g_icmp_lt X rfl (show (200 : Int32).toInt = 200 by decide) (tgt := 50) dX6_forget_44 (by decide) (fun cq21 => ?_) (fun cq21 => ?_)
        · refine g_aload_n X 0 rfl dX6_forget_50 ?_
          refine g_getr X f_X6_26 dX6_forget_51 ?_
          refine g_iload_n X 1 rfl dX6_forget_54 ?_
          refine g_iload_n X 2 rfl dX6_forget_55 ?_
          refine g_iload_n X 3 rfl dX6_forget_56 ?_
          refine g_iconst X 0 dX6_forget_57 (by decide) ?_
          refine g_callV X m_X6_191 (c_X0_enter_E ad Mq x1 t1 x2 t2 x3 t3 0 (show (0 : Int32).toInt = 0 by decide) Iq0 (by omega) (by omega) (by omega)) rfl (by decide) (Nat.le_of_ble_eq_true rfl) rfl dX6_forget_58 ?_
          rintro _ Mq27 ⟨rq22, aq23, rfl, tq24, hq25, hq26, Iq28, frq29⟩
          have frq30 : Fr W_X6_forget_E Mq Mq27 := frq0.trans frq29 rfl
          show G Γ Mq27 61 [(0, .ref (ad 0)), (1, .int x1), (2, .int x2), (3, .int x3)] [.int rq22]
          exact g_iret X dX6_forget_61 ⟨_, _, rfl, tq24, (by omega), (⟨by first | omega | (have z := hq26.1; omega), ⟨fun h => by first | rfl | exact absurd h (by omega), fun h => by first | exact hq26.2.1 | exact absurd (by omega) h⟩, ⟨fun h => by first | rfl | exact absurd h (by omega), fun h => by first | exact hq26.2.2.1 | exact absurd (by omega) h⟩, ⟨fun h => by first | rfl | exact absurd h (by omega), fun h => by first | exact hq26.2.2.2.1 | exact absurd (by omega) h⟩, ⟨fun h => by first | rfl | exact absurd h (by omega), fun h => by first | exact hq26.2.2.2.2 | exact absurd (by omega) h⟩⟩), Iq28, frq30⟩
        · refine g_bipush X (-4) dX6_forget_47 (by decide) ?_
          exact g_iret X dX6_forget_49 ⟨_, _, rfl, (show ((-4) : Int32).toInt = (-4) by decide), (by omega), (⟨by first | omega | (have z := trivial.1; omega), ⟨fun h => by first | rfl | exact absurd h (by omega), fun h => by first | exact trivial.2.1 | exact absurd (by omega) h⟩, ⟨fun h => by first | rfl | exact absurd h (by omega), fun h => by first | exact trivial.2.2.1 | exact absurd (by omega) h⟩, ⟨fun h => by first | rfl | exact absurd h (by omega), fun h => by first | exact trivial.2.2.2.1 | exact absurd (by omega) h⟩, ⟨fun h => by first | rfl | exact absurd h (by omega), fun h => by first | exact trivial.2.2.2.2 | exact absurd (by omega) h⟩⟩), Iq0, frq0⟩
      · have pq31 : ¬ (0 ≤ a3 ∧ a3 ≤ 999) := by first | omega | (rcases hq17 with ⟨z1, z2⟩ | ⟨z1, z2⟩ <;> first | exact z2 | (exfalso; omega))
        clear hq17 cq18 tq16
        refine g_bipush X (-2) dX6_forget_31 (by decide) ?_
        exact g_iret X dX6_forget_33 ⟨_, _, rfl, (show ((-2) : Int32).toInt = (-2) by decide), (by omega), (⟨by first | omega | (have z := trivial.1; omega), ⟨fun h => by first | rfl | exact absurd h (by omega), fun h => by first | exact trivial.2.1 | exact absurd (by omega) h⟩, ⟨fun h => by first | rfl | exact absurd h (by omega), fun h => by first | exact trivial.2.2.1 | exact absurd (by omega) h⟩, ⟨fun h => by first | rfl | exact absurd h (by omega), fun h => by first | exact trivial.2.2.2.1 | exact absurd (by omega) h⟩, ⟨fun h => by first | rfl | exact absurd h (by omega), fun h => by first | exact trivial.2.2.2.2 | exact absurd (by omega) h⟩⟩), Iq0, frq0⟩
    · have pq32 : ¬ (0 ≤ a2 ∧ a2 < ((Mq.1 1 12)).toInt) := by first | omega | (rcases hq11 with ⟨z1, z2⟩ | ⟨z1, z2⟩ <;> first | exact z2 | (exfalso; omega))
      clear hq11 cq12 tq10
      refine g_iconst X (-1) dX6_forget_22 (by decide) ?_
      exact g_iret X dX6_forget_23 ⟨_, _, rfl, (show ((-1) : Int32).toInt = (-1) by decide), (by omega), (⟨by first | omega | (have z := trivial.1; omega), ⟨fun h => by first | rfl | exact absurd h (by omega), fun h => by first | exact trivial.2.1 | exact absurd (by omega) h⟩, ⟨fun h => by first | rfl | exact absurd h (by omega), fun h => by first | exact trivial.2.2.1 | exact absurd (by omega) h⟩, ⟨fun h => by first | rfl | exact absurd h (by omega), fun h => by first | exact trivial.2.2.2.1 | exact absurd (by omega) h⟩, ⟨fun h => by first | rfl | exact absurd h (by omega), fun h => by first | exact trivial.2.2.2.2 | exact absurd (by omega) h⟩⟩), Iq0, frq0⟩
abbrev W_X7_enters_E : List (Nat × Nat) := [(47, 53), (81, 99), (82, 99), (83, 99), (84, 99)]
set_option maxHeartbeats 4000000 in
set_option maxRecDepth 4000 in
theorem c_X7_enters_E (ad : Nat → Nat) (Mq : Mem) (x1 : Int32) {a1 : Int} (t1 : x1.toInt = a1) (x2 : Int32) {a2 : Int} (t2 : x2.toInt = a2) (x3 : Int32) {a3 : Int} (t3 : x3.toInt = a3) (x4 : Int32) {a4 : Int} (t4 : x4.toInt = a4) (Iq0 : Iv TM Mq) (h4 : a4 = 0 ∨ a4 = 1) : Ctr ad yX7_enters cX7_enters 5 (some .int) 0 [.ref (ad 47), .int x1, .int x2, .int x3, .int x4] Mq (fun v M' => ∃ (r : Int32) (a : Int), v = some (.int r) ∧ r.toInt = a ∧ ((200 ≤ (Mq.1 47 53).toInt ∧ a = -4) ∨ ((Mq.1 47 53).toInt < 200 ∧ a = (Mq.1 47 53).toInt + 1)) ∧ (((200 ≤ (Mq.1 47 53).toInt ∧ (M'.1 47 53).toInt = (Mq.1 47 53).toInt) ∨ ((Mq.1 47 53).toInt < 200 ∧ (M'.1 47 53).toInt = (Mq.1 47 53).toInt + 1)) ∧ (((200 ≤ (Mq.1 47 53).toInt) → M'.1 81 = Mq.1 81) ∧ (¬ (200 ≤ (Mq.1 47 53).toInt) → M'.1 81 = (ui Mq 81 ((Mq.1 47 53).toInt).toNat x1).1 81)) ∧ (((200 ≤ (Mq.1 47 53).toInt) → M'.1 82 = Mq.1 82) ∧ (¬ (200 ≤ (Mq.1 47 53).toInt) → M'.1 82 = (ui Mq 82 ((Mq.1 47 53).toInt).toNat x2).1 82)) ∧ (((200 ≤ (Mq.1 47 53).toInt) → M'.1 83 = Mq.1 83) ∧ (¬ (200 ≤ (Mq.1 47 53).toInt) → M'.1 83 = (ui Mq 83 ((Mq.1 47 53).toInt).toNat x3).1 83)) ∧ (((200 ≤ (Mq.1 47 53).toInt) → M'.1 84 = Mq.1 84) ∧ (¬ (200 ≤ (Mq.1 47 53).toInt) → M'.1 84 = (ui Mq 84 ((Mq.1 47 53).toInt).toNat x4).1 84))) ∧ Iv TM M' ∧ Fr W_X7_enters_E Mq M') := by
  refine ctr_of (L := [(0, .ref (ad 47)), (1, .int x1), (2, .int x2), (3, .int x3), (4, .int x4)]) (by decide) (Nat.le_of_ble_eq_true rfl) rfl ?_
  intro Γ X
  have X : gX Γ cX7_enters RX7 5 (some .int) 0 ad _ := X
  have frq0 : Fr W_X7_enters_E Mq Mq := Fr.rf
  have g47_11 := ig_47_11 Iq0
  have g47_12 := ig_47_12 Iq0
  have g47_52 := ig_47_52 Iq0
  have g47_53 := ig_47_53 Iq0
  refine g_aload_n X 0 rfl dX7_enters_0 ?_
  refine g_geti X f_X7_266 dX7_enters_1 (x := Mq.1 47 53) rfl ?_
  have bq1 := ig_47_53 Iq0
  refine g_sipush X 200 dX7_enters_4 (by decide) ?_
  refine g_icmp_ne X rfl (show (200 : Int32).toInt = 200 by decide) (tgt := 13) dX7_enters_7 (by decide) (fun cq2 => ?_) (fun cq2 => ?_)
  · refine g_aload_n X 0 rfl dX7_enters_13 ?_
    refine g_getr X f_X7_113 dX7_enters_14 ?_
    refine g_aload_n X 0 rfl dX7_enters_17 ?_
    refine g_geti X f_X7_266 dX7_enters_18 (x := Mq.1 47 53) rfl ?_
    have bq3 := ig_47_53 Iq0
    refine g_iload_n X 1 rfl dX7_enters_21 ?_
    refine g_iast X la_81 rfl dX7_enters_22 (by omega) ?_
    have Iq4 : Iv TM (ui Mq 81 (((Mq.1 47 53).toInt).toNat) x1) := Iq0.otherA rfl
    have frq5 : Fr W_X7_enters_E Mq (ui Mq 81 (((Mq.1 47 53).toInt).toNat) x1) := frq0.ui rfl
    refine g_aload_n X 0 rfl dX7_enters_23 ?_
    refine g_getr X f_X7_116 dX7_enters_24 ?_
    refine g_aload_n X 0 rfl dX7_enters_27 ?_
    refine g_geti X f_X7_266 dX7_enters_28 (x := Mq.1 47 53) rfl ?_
    have bq6 := ig_47_53 Iq0
    refine g_iload_n X 2 rfl dX7_enters_31 ?_
    refine g_iast X la_82 rfl dX7_enters_32 (by omega) ?_
    have Iq7 : Iv TM (ui (ui Mq 81 (((Mq.1 47 53).toInt).toNat) x1) 82 (((Mq.1 47 53).toInt).toNat) x2) := Iq4.otherA rfl
    have frq8 : Fr W_X7_enters_E Mq (ui (ui Mq 81 (((Mq.1 47 53).toInt).toNat) x1) 82 (((Mq.1 47 53).toInt).toNat) x2) := frq5.ui rfl
    refine g_aload_n X 0 rfl dX7_enters_33 ?_
    refine g_getr X f_X7_119 dX7_enters_34 ?_
    refine g_aload_n X 0 rfl dX7_enters_37 ?_
    refine g_geti X f_X7_266 dX7_enters_38 (x := Mq.1 47 53) rfl ?_
    have bq9 := ig_47_53 Iq0
    refine g_iload_n X 3 rfl dX7_enters_41 ?_
    refine g_iast X la_83 rfl dX7_enters_42 (by omega) ?_
    have Iq10 : Iv TM (ui (ui (ui Mq 81 (((Mq.1 47 53).toInt).toNat) x1) 82 (((Mq.1 47 53).toInt).toNat) x2) 83 (((Mq.1 47 53).toInt).toNat) x3) := Iq7.otherA rfl
    have frq11 : Fr W_X7_enters_E Mq (ui (ui (ui Mq 81 (((Mq.1 47 53).toInt).toNat) x1) 82 (((Mq.1 47 53).toInt).toNat) x2) 83 (((Mq.1 47 53).toInt).toNat) x3) := frq8.ui rfl
    refine g_aload_n X 0 rfl dX7_enters_43 ?_
    refine g_getr X f_X7_122 dX7_enters_44 ?_
    refine g_aload_n X 0 rfl dX7_enters_47 ?_
    refine g_geti X f_X7_266 dX7_enters_48 (x := Mq.1 47 53) rfl ?_
    have bq12 := ig_47_53 Iq0
    refine g_iload X 4 rfl dX7_enters_51 ?_
    refine g_zast X la_84 (b01 t4 (by omega)) rfl dX7_enters_53 (by omega) ?_
    have Iq13 : Iv TM (ui (ui (ui (ui Mq 81 (((Mq.1 47 53).toInt).toNat) x1) 82 (((Mq.1 47 53).toInt).toNat) x2) 83 (((Mq.1 47 53).toInt).toNat) x3) 84 (((Mq.1 47 53).toInt).toNat) x4) := Iq10.putA 0 1 t4 (by omega) rfl
    have frq14 : Fr W_X7_enters_E Mq (ui (ui (ui (ui Mq 81 (((Mq.1 47 53).toInt).toNat) x1) 82 (((Mq.1 47 53).toInt).toNat) x2) 83 (((Mq.1 47 53).toInt).toNat) x3) 84 (((Mq.1 47 53).toInt).toNat) x4) := frq11.ui rfl
    refine g_aload_n X 0 rfl dX7_enters_54 ?_
    refine g_dup X dX7_enters_55 rfl ?_
    refine g_geti X f_X7_266 dX7_enters_56 (x := Mq.1 47 53) rfl ?_
    have bq15 := ig_47_53 Iq0
    refine g_iconst X 1 dX7_enters_59 (by decide) ?_
    refine g_iadd X dX7_enters_60 (fun zq16 eq17 => ?_)
    have tq18 : zq16.toInt = ((Mq.1 47 53).toInt) + 1 := add_nw eq17 rfl (show (1 : Int32).toInt = 1 by decide) (by omega)
    refine g_puti X p_X7_266 dX7_enters_61 ?_
    have Iq19 : Iv TM (ui (ui (ui (ui (ui Mq 81 (((Mq.1 47 53).toInt).toNat) x1) 82 (((Mq.1 47 53).toInt).toNat) x2) 83 (((Mq.1 47 53).toInt).toNat) x3) 84 (((Mq.1 47 53).toInt).toNat) x4) 47 53 zq16) := Iq13.put 0 200 tq18 (by omega) rfl
    have frq20 : Fr W_X7_enters_E Mq (ui (ui (ui (ui (ui Mq 81 (((Mq.1 47 53).toInt).toNat) x1) 82 (((Mq.1 47 53).toInt).toNat) x2) 83 (((Mq.1 47 53).toInt).toNat) x3) 84 (((Mq.1 47 53).toInt).toNat) x4) 47 53 zq16) := frq14.ui rfl
    refine g_aload_n X 0 rfl dX7_enters_64 ?_
    refine g_geti X f_X7_266 dX7_enters_65 (x := zq16) rfl ?_
    exact g_iret X dX7_enters_68 ⟨_, _, rfl, tq18, (by omega), (⟨by first | omega | (rw [ui_eq]; omega), ⟨fun h => by first | rfl | exact absurd h (by omega), fun h => by first | (funext b; simp [ui]; done) | exact trivial.2.1 | exact absurd (by omega) h⟩, ⟨fun h => by first | rfl | exact absurd h (by omega), fun h => by first | (funext b; simp [ui]; done) | exact trivial.2.2.1 | exact absurd (by omega) h⟩, ⟨fun h => by first | rfl | exact absurd h (by omega), fun h => by first | (funext b; simp [ui]; done) | exact trivial.2.2.2.1 | exact absurd (by omega) h⟩, ⟨fun h => by first | rfl | exact absurd h (by omega), fun h => by first | (funext b; simp [ui]; done) | exact trivial.2.2.2.2 | exact absurd (by omega) h⟩⟩), Iq19, frq20⟩
  · refine g_bipush X (-4) dX7_enters_10 (by decide) ?_
    exact g_iret X dX7_enters_12 ⟨_, _, rfl, (show ((-4) : Int32).toInt = (-4) by decide), (by omega), (⟨by first | omega | (rw [ui_eq]; omega), ⟨fun h => by first | rfl | exact absurd h (by omega), fun h => by first | (funext b; simp [ui]; done) | exact trivial.2.1 | exact absurd (by omega) h⟩, ⟨fun h => by first | rfl | exact absurd h (by omega), fun h => by first | (funext b; simp [ui]; done) | exact trivial.2.2.1 | exact absurd (by omega) h⟩, ⟨fun h => by first | rfl | exact absurd h (by omega), fun h => by first | (funext b; simp [ui]; done) | exact trivial.2.2.2.1 | exact absurd (by omega) h⟩, ⟨fun h => by first | rfl | exact absurd h (by omega), fun h => by first | (funext b; simp [ui]; done) | exact trivial.2.2.2.2 | exact absurd (by omega) h⟩⟩), Iq0, frq0⟩
abbrev W_X7_singer_E : List (Nat × Nat) := [(47, 52), (79, 99)]
set_option maxHeartbeats 4000000 in
set_option maxRecDepth 4000 in
theorem c_X7_singer_E (ad : Nat → Nat) (Mq : Mem) (x1 : Int32) {a1 : Int} (t1 : x1.toInt = a1) (Iq0 : Iv TM Mq) : Ctr ad yX7_singer cX7_singer 2 (some .int) 1 [.ref (ad 47), .int x1] Mq (fun v M' => ∃ (r : Int32) (a : Int), v = some (.int r) ∧ r.toInt = a ∧ (((¬ (0 ≤ a1 ∧ a1 ≤ 999)) ∧ (a = -2)) ∨ (¬ (¬ (0 ≤ a1 ∧ a1 ≤ 999)) ∧ (8 ≤ (Mq.1 47 52).toInt) ∧ (a = -4)) ∨ (¬ (¬ (0 ≤ a1 ∧ a1 ≤ 999)) ∧ ¬ (8 ≤ (Mq.1 47 52).toInt) ∧ (a = (Mq.1 47 52).toInt))) ∧ (((((¬ (0 ≤ a1 ∧ a1 ≤ 999)) ∨ (8 ≤ (Mq.1 47 52).toInt)) ∧ (M'.1 47 52).toInt = (Mq.1 47 52).toInt) ∨ (¬ ((¬ (0 ≤ a1 ∧ a1 ≤ 999)) ∨ (8 ≤ (Mq.1 47 52).toInt)) ∧ (M'.1 47 52).toInt = (Mq.1 47 52).toInt + 1)) ∧ ((((¬ (0 ≤ a1 ∧ a1 ≤ 999)) ∨ (8 ≤ (Mq.1 47 52).toInt)) → M'.1 79 = Mq.1 79) ∧ (¬ ((¬ (0 ≤ a1 ∧ a1 ≤ 999)) ∨ (8 ≤ (Mq.1 47 52).toInt)) → M'.1 79 = (ui Mq 79 ((Mq.1 47 52).toInt).toNat x1).1 79))) ∧ Iv TM M' ∧ Fr W_X7_singer_E Mq M') := by
  refine ctr_of (L := [(0, .ref (ad 47)), (1, .int x1)]) (by decide) (Nat.le_of_ble_eq_true rfl) rfl ?_
  intro Γ X
  have X : gX Γ cX7_singer RX7 2 (some .int) 1 ad _ := X
  have frq0 : Fr W_X7_singer_E Mq Mq := Fr.rf
  have g47_11 := ig_47_11 Iq0
  have g47_12 := ig_47_12 Iq0
  have g47_52 := ig_47_52 Iq0
  have g47_53 := ig_47_53 Iq0
  refine g_iload_n X 1 rfl dX7_singer_0 ?_
  refine g_callS X m_X7_263 (c_X7_isYear ad Mq x1 t1) rfl (by decide) (Nat.le_of_ble_eq_true rfl) rfl dX7_singer_1 ?_
  rintro _ _ ⟨rq1, aq2, rfl, tq3, hq4, rfl⟩
  show G Γ Mq 4 [(0, .ref (ad 47)), (1, .int x1)] [.int rq1]
  refine g_if_ne X tq3 (tgt := 10) dX7_singer_4 (by decide) (fun cq5 => ?_) (fun cq5 => ?_)
  · have pq6 : (0 ≤ a1 ∧ a1 ≤ 999) := by first | omega | (rcases hq4 with ⟨z1, z2⟩ | ⟨z1, z2⟩ <;> first | exact z2 | (exfalso; omega))
    clear hq4 cq5 tq3
    refine g_aload_n X 0 rfl dX7_singer_10 ?_
    refine g_geti X f_X7_313 dX7_singer_11 (x := Mq.1 47 52) rfl ?_
    have bq7 := ig_47_52 Iq0
    refine g_bipush X 8 dX7_singer_14 (by decide) ?_
    refine g_icmp_ne X rfl (show (8 : Int32).toInt = 8 by decide) (tgt := 22) dX7_singer_16 (by decide) (fun cq8 => ?_) (fun cq8 => ?_)
    · refine g_aload_n X 0 rfl dX7_singer_22 ?_
      refine g_getr X f_X7_107 dX7_singer_23 ?_
      refine g_aload_n X 0 rfl dX7_singer_26 ?_
      refine g_geti X f_X7_313 dX7_singer_27 (x := Mq.1 47 52) rfl ?_
      have bq9 := ig_47_52 Iq0
      refine g_iload_n X 1 rfl dX7_singer_30 ?_
      refine g_iast X la_79 rfl dX7_singer_31 (by omega) ?_
      have Iq10 : Iv TM (ui Mq 79 (((Mq.1 47 52).toInt).toNat) x1) := Iq0.otherA rfl
      have frq11 : Fr W_X7_singer_E Mq (ui Mq 79 (((Mq.1 47 52).toInt).toNat) x1) := frq0.ui rfl
      refine g_aload_n X 0 rfl dX7_singer_32 ?_
      refine g_dup X dX7_singer_33 rfl ?_
      refine g_geti X f_X7_313 dX7_singer_34 (x := Mq.1 47 52) rfl ?_
      have bq12 := ig_47_52 Iq0
      refine g_iconst X 1 dX7_singer_37 (by decide) ?_
      refine g_iadd X dX7_singer_38 (fun zq13 eq14 => ?_)
      have tq15 : zq13.toInt = ((Mq.1 47 52).toInt) + 1 := add_nw eq14 rfl (show (1 : Int32).toInt = 1 by decide) (by omega)
      refine g_puti X p_X7_313 dX7_singer_39 ?_
      have Iq16 : Iv TM (ui (ui Mq 79 (((Mq.1 47 52).toInt).toNat) x1) 47 52 zq13) := Iq10.put 0 8 tq15 (by omega) rfl
      have frq17 : Fr W_X7_singer_E Mq (ui (ui Mq 79 (((Mq.1 47 52).toInt).toNat) x1) 47 52 zq13) := frq11.ui rfl
      refine g_aload_n X 0 rfl dX7_singer_42 ?_
      refine g_geti X f_X7_313 dX7_singer_43 (x := zq13) rfl ?_
      refine g_iconst X 1 dX7_singer_46 (by decide) ?_
      refine g_isub X dX7_singer_47 (fun zq18 eq19 => ?_)
      have tq20 : zq18.toInt = (((Mq.1 47 52).toInt) + 1) - 1 := sub_nw eq19 tq15 (show (1 : Int32).toInt = 1 by decide) (by omega)
      exact g_iret X dX7_singer_48 ⟨_, _, rfl, tq20, (by omega), (⟨by first | omega | (rw [ui_eq]; omega), ⟨fun h => by first | rfl | exact absurd h (by omega), fun h => by first | (funext b; simp [ui]; done) | exact trivial.2 | exact absurd (by omega) h⟩⟩), Iq16, frq17⟩
    · refine g_bipush X (-4) dX7_singer_19 (by decide) ?_
      exact g_iret X dX7_singer_21 ⟨_, _, rfl, (show ((-4) : Int32).toInt = (-4) by decide), (by omega), (⟨by first | omega | (rw [ui_eq]; omega), ⟨fun h => by first | rfl | exact absurd h (by omega), fun h => by first | (funext b; simp [ui]; done) | exact trivial.2 | exact absurd (by omega) h⟩⟩), Iq0, frq0⟩
  · have pq21 : ¬ (0 ≤ a1 ∧ a1 ≤ 999) := by first | omega | (rcases hq4 with ⟨z1, z2⟩ | ⟨z1, z2⟩ <;> first | exact z2 | (exfalso; omega))
    clear hq4 cq5 tq3
    refine g_bipush X (-2) dX7_singer_7 (by decide) ?_
    exact g_iret X dX7_singer_9 ⟨_, _, rfl, (show ((-2) : Int32).toInt = (-2) by decide), (by omega), (⟨by first | omega | (rw [ui_eq]; omega), ⟨fun h => by first | rfl | exact absurd h (by omega), fun h => by first | (funext b; simp [ui]; done) | exact trivial.2 | exact absurd (by omega) h⟩⟩), Iq0, frq0⟩
abbrev W_X7_learn_E : List (Nat × Nat) := [(47, 53), (81, 99), (82, 99), (83, 99), (84, 99)]
set_option maxHeartbeats 4000000 in
set_option maxRecDepth 4000 in
theorem c_X7_learn_E (ad : Nat → Nat) (Mq : Mem) (x1 : Int32) {a1 : Int} (t1 : x1.toInt = a1) (x2 : Int32) {a2 : Int} (t2 : x2.toInt = a2) (x3 : Int32) {a3 : Int} (t3 : x3.toInt = a3) (x4 : Int32) {a4 : Int} (t4 : x4.toInt = a4) (Iq0 : Iv TM Mq) : Ctr ad yX7_learn cX7_learn 5 (some .int) 1 [.ref (ad 47), .int x1, .int x2, .int x3, .int x4] Mq (fun v M' => ∃ (r : Int32) (a : Int), v = some (.int r) ∧ r.toInt = a ∧ (((¬ ((0 ≤ a1 ∧ a1 < (Mq.1 47 52).toInt) ∧ (0 ≤ a2 ∧ a2 < (Mq.1 47 12).toInt) ∧ (a3 = -1 ∨ (0 ≤ a3 ∧ a3 < (Mq.1 47 52).toInt)))) ∧ (a = -1)) ∨ (¬ (¬ ((0 ≤ a1 ∧ a1 < (Mq.1 47 52).toInt) ∧ (0 ≤ a2 ∧ a2 < (Mq.1 47 12).toInt) ∧ (a3 = -1 ∨ (0 ≤ a3 ∧ a3 < (Mq.1 47 52).toInt)))) ∧ (¬ (0 ≤ a4 ∧ a4 ≤ 999) ∨ a3 = a1) ∧ (a = -2)) ∨ (¬ (¬ ((0 ≤ a1 ∧ a1 < (Mq.1 47 52).toInt) ∧ (0 ≤ a2 ∧ a2 < (Mq.1 47 12).toInt) ∧ (a3 = -1 ∨ (0 ≤ a3 ∧ a3 < (Mq.1 47 52).toInt)))) ∧ ¬ (¬ (0 ≤ a4 ∧ a4 ≤ 999) ∨ a3 = a1) ∧ (200 ≤ (Mq.1 47 53).toInt) ∧ (a = -4)) ∨ (¬ (¬ ((0 ≤ a1 ∧ a1 < (Mq.1 47 52).toInt) ∧ (0 ≤ a2 ∧ a2 < (Mq.1 47 12).toInt) ∧ (a3 = -1 ∨ (0 ≤ a3 ∧ a3 < (Mq.1 47 52).toInt)))) ∧ ¬ (¬ (0 ≤ a4 ∧ a4 ≤ 999) ∨ a3 = a1) ∧ ¬ (200 ≤ (Mq.1 47 53).toInt) ∧ (a = (Mq.1 47 53).toInt + 1))) ∧ (((((¬ ((0 ≤ a1 ∧ a1 < (Mq.1 47 52).toInt) ∧ (0 ≤ a2 ∧ a2 < (Mq.1 47 12).toInt) ∧ (a3 = -1 ∨ (0 ≤ a3 ∧ a3 < (Mq.1 47 52).toInt)))) ∨ (¬ (0 ≤ a4 ∧ a4 ≤ 999) ∨ a3 = a1) ∨ (200 ≤ (Mq.1 47 53).toInt)) ∧ (M'.1 47 53).toInt = (Mq.1 47 53).toInt) ∨ (¬ ((¬ ((0 ≤ a1 ∧ a1 < (Mq.1 47 52).toInt) ∧ (0 ≤ a2 ∧ a2 < (Mq.1 47 12).toInt) ∧ (a3 = -1 ∨ (0 ≤ a3 ∧ a3 < (Mq.1 47 52).toInt)))) ∨ (¬ (0 ≤ a4 ∧ a4 ≤ 999) ∨ a3 = a1) ∨ (200 ≤ (Mq.1 47 53).toInt)) ∧ (M'.1 47 53).toInt = (Mq.1 47 53).toInt + 1)) ∧ ((((¬ ((0 ≤ a1 ∧ a1 < (Mq.1 47 52).toInt) ∧ (0 ≤ a2 ∧ a2 < (Mq.1 47 12).toInt) ∧ (a3 = -1 ∨ (0 ≤ a3 ∧ a3 < (Mq.1 47 52).toInt)))) ∨ (¬ (0 ≤ a4 ∧ a4 ≤ 999) ∨ a3 = a1) ∨ (200 ≤ (Mq.1 47 53).toInt)) → M'.1 81 = Mq.1 81) ∧ (¬ ((¬ ((0 ≤ a1 ∧ a1 < (Mq.1 47 52).toInt) ∧ (0 ≤ a2 ∧ a2 < (Mq.1 47 12).toInt) ∧ (a3 = -1 ∨ (0 ≤ a3 ∧ a3 < (Mq.1 47 52).toInt)))) ∨ (¬ (0 ≤ a4 ∧ a4 ≤ 999) ∨ a3 = a1) ∨ (200 ≤ (Mq.1 47 53).toInt)) → M'.1 81 = (ui Mq 81 ((Mq.1 47 53).toInt).toNat x1).1 81)) ∧ ((((¬ ((0 ≤ a1 ∧ a1 < (Mq.1 47 52).toInt) ∧ (0 ≤ a2 ∧ a2 < (Mq.1 47 12).toInt) ∧ (a3 = -1 ∨ (0 ≤ a3 ∧ a3 < (Mq.1 47 52).toInt)))) ∨ (¬ (0 ≤ a4 ∧ a4 ≤ 999) ∨ a3 = a1) ∨ (200 ≤ (Mq.1 47 53).toInt)) → M'.1 82 = Mq.1 82) ∧ (¬ ((¬ ((0 ≤ a1 ∧ a1 < (Mq.1 47 52).toInt) ∧ (0 ≤ a2 ∧ a2 < (Mq.1 47 12).toInt) ∧ (a3 = -1 ∨ (0 ≤ a3 ∧ a3 < (Mq.1 47 52).toInt)))) ∨ (¬ (0 ≤ a4 ∧ a4 ≤ 999) ∨ a3 = a1) ∨ (200 ≤ (Mq.1 47 53).toInt)) → M'.1 82 = (ui Mq 82 ((Mq.1 47 53).toInt).toNat x2).1 82)) ∧ ((((¬ ((0 ≤ a1 ∧ a1 < (Mq.1 47 52).toInt) ∧ (0 ≤ a2 ∧ a2 < (Mq.1 47 12).toInt) ∧ (a3 = -1 ∨ (0 ≤ a3 ∧ a3 < (Mq.1 47 52).toInt)))) ∨ (¬ (0 ≤ a4 ∧ a4 ≤ 999) ∨ a3 = a1) ∨ (200 ≤ (Mq.1 47 53).toInt)) → M'.1 83 = Mq.1 83) ∧ (¬ ((¬ ((0 ≤ a1 ∧ a1 < (Mq.1 47 52).toInt) ∧ (0 ≤ a2 ∧ a2 < (Mq.1 47 12).toInt) ∧ (a3 = -1 ∨ (0 ≤ a3 ∧ a3 < (Mq.1 47 52).toInt)))) ∨ (¬ (0 ≤ a4 ∧ a4 ≤ 999) ∨ a3 = a1) ∨ (200 ≤ (Mq.1 47 53).toInt)) → M'.1 83 = (ui Mq 83 ((Mq.1 47 53).toInt).toNat x4).1 83)) ∧ ((((¬ ((0 ≤ a1 ∧ a1 < (Mq.1 47 52).toInt) ∧ (0 ≤ a2 ∧ a2 < (Mq.1 47 12).toInt) ∧ (a3 = -1 ∨ (0 ≤ a3 ∧ a3 < (Mq.1 47 52).toInt)))) ∨ (¬ (0 ≤ a4 ∧ a4 ≤ 999) ∨ a3 = a1) ∨ (200 ≤ (Mq.1 47 53).toInt)) → M'.1 84 = Mq.1 84) ∧ (¬ ((¬ ((0 ≤ a1 ∧ a1 < (Mq.1 47 52).toInt) ∧ (0 ≤ a2 ∧ a2 < (Mq.1 47 12).toInt) ∧ (a3 = -1 ∨ (0 ≤ a3 ∧ a3 < (Mq.1 47 52).toInt)))) ∨ (¬ (0 ≤ a4 ∧ a4 ≤ 999) ∨ a3 = a1) ∨ (200 ≤ (Mq.1 47 53).toInt)) → M'.1 84 = (ui Mq 84 ((Mq.1 47 53).toInt).toNat 1).1 84))) ∧ Iv TM M' ∧ Fr W_X7_learn_E Mq M') := by
  refine ctr_of (L := [(0, .ref (ad 47)), (1, .int x1), (2, .int x2), (3, .int x3), (4, .int x4)]) (by decide) (Nat.le_of_ble_eq_true rfl) rfl ?_
  intro Γ X
  have X : gX Γ cX7_learn RX7 5 (some .int) 1 ad _ := X
  have frq0 : Fr W_X7_learn_E Mq Mq := Fr.rf
  have g47_11 := ig_47_11 Iq0
  have g47_12 := ig_47_12 Iq0
  have g47_52 := ig_47_52 Iq0
  have g47_53 := ig_47_53 Iq0
  refine g_aload_n X 0 rfl dX7_learn_0 ?_
  refine g_iload_n X 1 rfl dX7_learn_1 ?_
  refine g_callV X m_X7_260 (c_X7_isSinger ad Mq x1 t1) rfl (by decide) (Nat.le_of_ble_eq_true rfl) rfl dX7_learn_2 ?_
  rintro _ _ ⟨rq1, aq2, rfl, tq3, hq4, rfl⟩
  show G Γ Mq 5 [(0, .ref (ad 47)), (1, .int x1), (2, .int x2), (3, .int x3), (4, .int x4)] [.int rq1]
  refine g_if_eq X tq3 (tgt := 29) dX7_learn_5 (by decide) (fun cq5 => ?_) (fun cq5 => ?_)
  · have pq6 : ¬ (0 ≤ a1 ∧ a1 < ((Mq.1 47 52)).toInt) := by first | omega | (rcases hq4 with ⟨z1, z2⟩ | ⟨z1, z2⟩ <;> first | exact z2 | (exfalso; omega))
    clear hq4 cq5 tq3
    refine g_iconst X (-1) dX7_learn_29 (by decide) ?_
    exact g_iret X dX7_learn_30 ⟨_, _, rfl, (show ((-1) : Int32).toInt = (-1) by decide), (by omega), (⟨by first | omega | (have z := trivial.1; omega), ⟨fun h => by first | rfl | exact (trivial.2.1).1 (by omega) | exact absurd h (by omega), fun h => by first | exact (trivial.2.1).2 (by omega) | exact absurd (by omega) h⟩, ⟨fun h => by first | rfl | exact (trivial.2.2.1).1 (by omega) | exact absurd h (by omega), fun h => by first | exact (trivial.2.2.1).2 (by omega) | exact absurd (by omega) h⟩, ⟨fun h => by first | rfl | exact (trivial.2.2.2.1).1 (by omega) | exact absurd h (by omega), fun h => by first | exact (trivial.2.2.2.1).2 (by omega) | exact absurd (by omega) h⟩, ⟨fun h => by first | rfl | exact (trivial.2.2.2.2).1 (by omega) | exact absurd h (by omega), fun h => by first | exact (trivial.2.2.2.2).2 (by omega) | exact absurd (by omega) h⟩⟩), Iq0, frq0⟩
  · have pq7 : (0 ≤ a1 ∧ a1 < ((Mq.1 47 52)).toInt) := by first | omega | (rcases hq4 with ⟨z1, z2⟩ | ⟨z1, z2⟩ <;> first | exact z2 | (exfalso; omega))
    clear hq4 cq5 tq3
    refine g_aload_n X 0 rfl dX7_learn_8 ?_
    refine g_iload_n X 2 rfl dX7_learn_9 ?_
    refine g_callV X m_X7_186 (c_X7_isLine ad Mq x2 t2) rfl (by decide) (Nat.le_of_ble_eq_true rfl) rfl dX7_learn_10 ?_
    rintro _ _ ⟨rq8, aq9, rfl, tq10, hq11, rfl⟩
    show G Γ Mq 13 [(0, .ref (ad 47)), (1, .int x1), (2, .int x2), (3, .int x3), (4, .int x4)] [.int rq8]
    refine g_if_eq X tq10 (tgt := 29) dX7_learn_13 (by decide) (fun cq12 => ?_) (fun cq12 => ?_)
    · have pq13 : ¬ (0 ≤ a2 ∧ a2 < ((Mq.1 47 12)).toInt) := by first | omega | (rcases hq11 with ⟨z1, z2⟩ | ⟨z1, z2⟩ <;> first | exact z2 | (exfalso; omega))
      clear hq11 cq12 tq10
      refine g_iconst X (-1) dX7_learn_29 (by decide) ?_
      exact g_iret X dX7_learn_30 ⟨_, _, rfl, (show ((-1) : Int32).toInt = (-1) by decide), (by omega), (⟨by first | omega | (have z := trivial.1; omega), ⟨fun h => by first | rfl | exact (trivial.2.1).1 (by omega) | exact absurd h (by omega), fun h => by first | exact (trivial.2.1).2 (by omega) | exact absurd (by omega) h⟩, ⟨fun h => by first | rfl | exact (trivial.2.2.1).1 (by omega) | exact absurd h (by omega), fun h => by first | exact (trivial.2.2.1).2 (by omega) | exact absurd (by omega) h⟩, ⟨fun h => by first | rfl | exact (trivial.2.2.2.1).1 (by omega) | exact absurd h (by omega), fun h => by first | exact (trivial.2.2.2.1).2 (by omega) | exact absurd (by omega) h⟩, ⟨fun h => by first | rfl | exact (trivial.2.2.2.2).1 (by omega) | exact absurd h (by omega), fun h => by first | exact (trivial.2.2.2.2).2 (by omega) | exact absurd (by omega) h⟩⟩), Iq0, frq0⟩
    · have pq14 : (0 ≤ a2 ∧ a2 < ((Mq.1 47 12)).toInt) := by first | omega | (rcases hq11 with ⟨z1, z2⟩ | ⟨z1, z2⟩ <;> first | exact z2 | (exfalso; omega))
      clear hq11 cq12 tq10
      refine g_iload_n X 3 rfl dX7_learn_16 ?_
      refine g_iconst X (-1) dX7_learn_17 (by decide) ?_
      refine g_icmp_eq X t3 (show ((-1) : Int32).toInt = (-1) by decide) (tgt := 31) dX7_learn_18 (by decide) (fun cq15 => ?_) (fun cq15 => ?_)
      · refine g_iload X 4 rfl dX7_learn_31 ?_
        refine g_callS X m_X7_263 (c_X7_isYear ad Mq x4 t4) rfl (by decide) (Nat.le_of_ble_eq_true rfl) rfl dX7_learn_33 ?_
        rintro _ _ ⟨rq16, aq17, rfl, tq18, hq19, rfl⟩
        show G Γ Mq 36 [(0, .ref (ad 47)), (1, .int x1), (2, .int x2), (3, .int x3), (4, .int x4)] [.int rq16]
        refine g_if_eq X tq18 (tgt := 44) dX7_learn_36 (by decide) (fun cq20 => ?_) (fun cq20 => ?_)
        · have pq21 : ¬ (0 ≤ a4 ∧ a4 ≤ 999) := by first | omega | (rcases hq19 with ⟨z1, z2⟩ | ⟨z1, z2⟩ <;> first | exact z2 | (exfalso; omega))
          clear hq19 cq20 tq18
          refine g_bipush X (-2) dX7_learn_44 (by decide) ?_
          exact g_iret X dX7_learn_46 ⟨_, _, rfl, (show ((-2) : Int32).toInt = (-2) by decide), (by omega), (⟨by first | omega | (have z := trivial.1; omega), ⟨fun h => by first | rfl | exact (trivial.2.1).1 (by omega) | exact absurd h (by omega), fun h => by first | exact (trivial.2.1).2 (by omega) | exact absurd (by omega) h⟩, ⟨fun h => by first | rfl | exact (trivial.2.2.1).1 (by omega) | exact absurd h (by omega), fun h => by first | exact (trivial.2.2.1).2 (by omega) | exact absurd (by omega) h⟩, ⟨fun h => by first | rfl | exact (trivial.2.2.2.1).1 (by omega) | exact absurd h (by omega), fun h => by first | exact (trivial.2.2.2.1).2 (by omega) | exact absurd (by omega) h⟩, ⟨fun h => by first | rfl | exact (trivial.2.2.2.2).1 (by omega) | exact absurd h (by omega), fun h => by first | exact (trivial.2.2.2.2).2 (by omega) | exact absurd (by omega) h⟩⟩), Iq0, frq0⟩
        · have pq22 : (0 ≤ a4 ∧ a4 ≤ 999) := by first | omega | (rcases hq19 with ⟨z1, z2⟩ | ⟨z1, z2⟩ <;> first | exact z2 | (exfalso; omega))
          clear hq19 cq20 tq18
          refine g_iload_n X 3 rfl dX7_learn_39 ?_
          refine g_iload_n X 1 rfl dX7_learn_40 ?_
          refine g_icmp_ne X t3 t1 (tgt := 47) dX7_learn_41 (by decide) (fun cq23 => ?_) (fun cq23 => ?_)
          · refine g_aload_n X 0 rfl dX7_learn_47 ?_
            refine g_iload_n X 1 rfl dX7_learn_48 ?_
            refine g_iload_n X 2 rfl dX7_learn_49 ?_
            refine g_iload X 4 rfl dX7_learn_50 ?_
            refine g_iconst X 1 dX7_learn_52 (by decide) ?_
            refine g_callV X m_X7_318 (c_X7_enters_E ad Mq x1 t1 x2 t2 x4 t4 1 (show (1 : Int32).toInt = 1 by decide) Iq0 (by omega)) rfl (by decide) (Nat.le_of_ble_eq_true rfl) rfl dX7_learn_53 ?_
            rintro _ Mq29 ⟨rq24, aq25, rfl, tq26, hq27, hq28, Iq30, frq31⟩
            have frq32 : Fr W_X7_learn_E Mq Mq29 := frq0.trans frq31 rfl
            show G Γ Mq29 56 [(0, .ref (ad 47)), (1, .int x1), (2, .int x2), (3, .int x3), (4, .int x4)] [.int rq24]
            exact g_iret X dX7_learn_56 ⟨_, _, rfl, tq26, (by clear hq28; rcases hq27 with z | z <;> omega), (⟨by have z := hq28.1; clear hq27 hq28; rcases z with z | z <;> omega, ⟨fun h => by first | rfl | exact (hq28.2.1).1 (by omega) | exact absurd h (by omega), fun h => by first | exact (hq28.2.1).2 (by omega) | exact absurd (by omega) h⟩, ⟨fun h => by first | rfl | exact (hq28.2.2.1).1 (by omega) | exact absurd h (by omega), fun h => by first | exact (hq28.2.2.1).2 (by omega) | exact absurd (by omega) h⟩, ⟨fun h => by first | rfl | exact (hq28.2.2.2.1).1 (by omega) | exact absurd h (by omega), fun h => by first | exact (hq28.2.2.2.1).2 (by omega) | exact absurd (by omega) h⟩, ⟨fun h => by first | rfl | exact (hq28.2.2.2.2).1 (by omega) | exact absurd h (by omega), fun h => by first | exact (hq28.2.2.2.2).2 (by omega) | exact absurd (by omega) h⟩⟩), Iq30, frq32⟩
          · refine g_bipush X (-2) dX7_learn_44 (by decide) ?_
            exact g_iret X dX7_learn_46 ⟨_, _, rfl, (show ((-2) : Int32).toInt = (-2) by decide), (by omega), (⟨by first | omega | (have z := trivial.1; omega), ⟨fun h => by first | rfl | exact (trivial.2.1).1 (by omega) | exact absurd h (by omega), fun h => by first | exact (trivial.2.1).2 (by omega) | exact absurd (by omega) h⟩, ⟨fun h => by first | rfl | exact (trivial.2.2.1).1 (by omega) | exact absurd h (by omega), fun h => by first | exact (trivial.2.2.1).2 (by omega) | exact absurd (by omega) h⟩, ⟨fun h => by first | rfl | exact (trivial.2.2.2.1).1 (by omega) | exact absurd h (by omega), fun h => by first | exact (trivial.2.2.2.1).2 (by omega) | exact absurd (by omega) h⟩, ⟨fun h => by first | rfl | exact (trivial.2.2.2.2).1 (by omega) | exact absurd h (by omega), fun h => by first | exact (trivial.2.2.2.2).2 (by omega) | exact absurd (by omega) h⟩⟩), Iq0, frq0⟩
      · refine g_aload_n X 0 rfl dX7_learn_21 ?_
        refine g_iload_n X 3 rfl dX7_learn_22 ?_
        refine g_callV X m_X7_260 (c_X7_isSinger ad Mq x3 t3) rfl (by decide) (Nat.le_of_ble_eq_true rfl) rfl dX7_learn_23 ?_
        rintro _ _ ⟨rq33, aq34, rfl, tq35, hq36, rfl⟩
        show G Γ Mq 26 [(0, .ref (ad 47)), (1, .int x1), (2, .int x2), (3, .int x3), (4, .int x4)] [.int rq33]
        refine g_if_ne X tq35 (tgt := 31) dX7_learn_26 (by decide) (fun cq37 => ?_) (fun cq37 => ?_)
        · have pq38 : (0 ≤ a3 ∧ a3 < ((Mq.1 47 52)).toInt) := by first | omega | (rcases hq36 with ⟨z1, z2⟩ | ⟨z1, z2⟩ <;> first | exact z2 | (exfalso; omega))
          clear hq36 cq37 tq35
          refine g_iload X 4 rfl dX7_learn_31 ?_
          refine g_callS X m_X7_263 (c_X7_isYear ad Mq x4 t4) rfl (by decide) (Nat.le_of_ble_eq_true rfl) rfl dX7_learn_33 ?_
          rintro _ _ ⟨rq39, aq40, rfl, tq41, hq42, rfl⟩
          show G Γ Mq 36 [(0, .ref (ad 47)), (1, .int x1), (2, .int x2), (3, .int x3), (4, .int x4)] [.int rq39]
          refine g_if_eq X tq41 (tgt := 44) dX7_learn_36 (by decide) (fun cq43 => ?_) (fun cq43 => ?_)
          · have pq44 : ¬ (0 ≤ a4 ∧ a4 ≤ 999) := by first | omega | (rcases hq42 with ⟨z1, z2⟩ | ⟨z1, z2⟩ <;> first | exact z2 | (exfalso; omega))
            clear hq42 cq43 tq41
            refine g_bipush X (-2) dX7_learn_44 (by decide) ?_
            exact g_iret X dX7_learn_46 ⟨_, _, rfl, (show ((-2) : Int32).toInt = (-2) by decide), (by omega), (⟨by first | omega | (have z := trivial.1; omega), ⟨fun h => by first | rfl | exact (trivial.2.1).1 (by omega) | exact absurd h (by omega), fun h => by first | exact (trivial.2.1).2 (by omega) | exact absurd (by omega) h⟩, ⟨fun h => by first | rfl | exact (trivial.2.2.1).1 (by omega) | exact absurd h (by omega), fun h => by first | exact (trivial.2.2.1).2 (by omega) | exact absurd (by omega) h⟩, ⟨fun h => by first | rfl | exact (trivial.2.2.2.1).1 (by omega) | exact absurd h (by omega), fun h => by first | exact (trivial.2.2.2.1).2 (by omega) | exact absurd (by omega) h⟩, ⟨fun h => by first | rfl | exact (trivial.2.2.2.2).1 (by omega) | exact absurd h (by omega), fun h => by first | exact (trivial.2.2.2.2).2 (by omega) | exact absurd (by omega) h⟩⟩), Iq0, frq0⟩
          · have pq45 : (0 ≤ a4 ∧ a4 ≤ 999) := by first | omega | (rcases hq42 with ⟨z1, z2⟩ | ⟨z1, z2⟩ <;> first | exact z2 | (exfalso; omega))
            clear hq42 cq43 tq41
            refine g_iload_n X 3 rfl dX7_learn_39 ?_
            refine g_iload_n X 1 rfl dX7_learn_40 ?_
            refine g_icmp_ne X t3 t1 (tgt := 47) dX7_learn_41 (by decide) (fun cq46 => ?_) (fun cq46 => ?_)
            · refine g_aload_n X 0 rfl dX7_learn_47 ?_
              refine g_iload_n X 1 rfl dX7_learn_48 ?_
              refine g_iload_n X 2 rfl dX7_learn_49 ?_
              refine g_iload X 4 rfl dX7_learn_50 ?_
              refine g_iconst X 1 dX7_learn_52 (by decide) ?_
              refine g_callV X m_X7_318 (c_X7_enters_E ad Mq x1 t1 x2 t2 x4 t4 1 (show (1 : Int32).toInt = 1 by decide) Iq0 (by omega)) rfl (by decide) (Nat.le_of_ble_eq_true rfl) rfl dX7_learn_53 ?_
              rintro _ Mq52 ⟨rq47, aq48, rfl, tq49, hq50, hq51, Iq53, frq54⟩
              have frq55 : Fr W_X7_learn_E Mq Mq52 := frq0.trans frq54 rfl
              show G Γ Mq52 56 [(0, .ref (ad 47)), (1, .int x1), (2, .int x2), (3, .int x3), (4, .int x4)] [.int rq47]
              exact g_iret X dX7_learn_56 ⟨_, _, rfl, tq49, (by clear hq51; rcases hq50 with z | z <;> omega), (⟨by have z := hq51.1; clear hq50 hq51; rcases z with z | z <;> omega, ⟨fun h => by first | rfl | exact (hq51.2.1).1 (by omega) | exact absurd h (by omega), fun h => by first | exact (hq51.2.1).2 (by omega) | exact absurd (by omega) h⟩, ⟨fun h => by first | rfl | exact (hq51.2.2.1).1 (by omega) | exact absurd h (by omega), fun h => by first | exact (hq51.2.2.1).2 (by omega) | exact absurd (by omega) h⟩, ⟨fun h => by first | rfl | exact (hq51.2.2.2.1).1 (by omega) | exact absurd h (by omega), fun h => by first | exact (hq51.2.2.2.1).2 (by omega) | exact absurd (by omega) h⟩, ⟨fun h => by first | rfl | exact (hq51.2.2.2.2).1 (by omega) | exact absurd h (by omega), fun h => by first | exact (hq51.2.2.2.2).2 (by omega) | exact absurd (by omega) h⟩⟩), Iq53, frq55⟩
            · refine g_bipush X (-2) dX7_learn_44 (by decide) ?_
              exact g_iret X dX7_learn_46 ⟨_, _, rfl, (show ((-2) : Int32).toInt = (-2) by decide), (by omega), (⟨by first | omega | (have z := trivial.1; omega), ⟨fun h => by first | rfl | exact (trivial.2.1).1 (by omega) | exact absurd h (by omega), fun h => by first | exact (trivial.2.1).2 (by omega) | exact absurd (by omega) h⟩, ⟨fun h => by first | rfl | exact (trivial.2.2.1).1 (by omega) | exact absurd h (by omega), fun h => by first | exact (trivial.2.2.1).2 (by omega) | exact absurd (by omega) h⟩, ⟨fun h => by first | rfl | exact (trivial.2.2.2.1).1 (by omega) | exact absurd h (by omega), fun h => by first | exact (trivial.2.2.2.1).2 (by omega) | exact absurd (by omega) h⟩, ⟨fun h => by first | rfl | exact (trivial.2.2.2.2).1 (by omega) | exact absurd h (by omega), fun h => by first | exact (trivial.2.2.2.2).2 (by omega) | exact absurd (by omega) h⟩⟩), Iq0, frq0⟩
        · have pq56 : ¬ (0 ≤ a3 ∧ a3 < ((Mq.1 47 52)).toInt) := by first | omega | (rcases hq36 with ⟨z1, z2⟩ | ⟨z1, z2⟩ <;> first | exact z2 | (exfalso; omega))
          clear hq36 cq37 tq35
          refine g_iconst X (-1) dX7_learn_29 (by decide) ?_
          exact g_iret X dX7_learn_30 ⟨_, _, rfl, (show ((-1) : Int32).toInt = (-1) by decide), (by omega), (⟨by first | omega | (have z := trivial.1; omega), ⟨fun h => by first | rfl | exact (trivial.2.1).1 (by omega) | exact absurd h (by omega), fun h => by first | exact (trivial.2.1).2 (by omega) | exact absurd (by omega) h⟩, ⟨fun h => by first | rfl | exact (trivial.2.2.1).1 (by omega) | exact absurd h (by omega), fun h => by first | exact (trivial.2.2.1).2 (by omega) | exact absurd (by omega) h⟩, ⟨fun h => by first | rfl | exact (trivial.2.2.2.1).1 (by omega) | exact absurd h (by omega), fun h => by first | exact (trivial.2.2.2.1).2 (by omega) | exact absurd (by omega) h⟩, ⟨fun h => by first | rfl | exact (trivial.2.2.2.2).1 (by omega) | exact absurd h (by omega), fun h => by first | exact (trivial.2.2.2.2).2 (by omega) | exact absurd (by omega) h⟩⟩), Iq0, frq0⟩
abbrev W_X7_forget_E : List (Nat × Nat) := [(47, 53), (81, 99), (82, 99), (83, 99), (84, 99)]
set_option maxHeartbeats 4000000 in
set_option maxRecDepth 4000 in
theorem c_X7_forget_E (ad : Nat → Nat) (Mq : Mem) (x1 : Int32) {a1 : Int} (t1 : x1.toInt = a1) (x2 : Int32) {a2 : Int} (t2 : x2.toInt = a2) (x3 : Int32) {a3 : Int} (t3 : x3.toInt = a3) (Iq0 : Iv TM Mq) : Ctr ad yX7_forget cX7_forget 4 (some .int) 1 [.ref (ad 47), .int x1, .int x2, .int x3] Mq (fun v M' => ∃ (r : Int32) (a : Int), v = some (.int r) ∧ r.toInt = a ∧ (((¬ ((0 ≤ a1 ∧ a1 < (Mq.1 47 52).toInt) ∧ (0 ≤ a2 ∧ a2 < (Mq.1 47 12).toInt))) ∧ (a = -1)) ∨ (¬ (¬ ((0 ≤ a1 ∧ a1 < (Mq.1 47 52).toInt) ∧ (0 ≤ a2 ∧ a2 < (Mq.1 47 12).toInt))) ∧ (¬ (0 ≤ a3 ∧ a3 ≤ 999)) ∧ (a = -2)) ∨ (¬ (¬ ((0 ≤ a1 ∧ a1 < (Mq.1 47 52).toInt) ∧ (0 ≤ a2 ∧ a2 < (Mq.1 47 12).toInt))) ∧ ¬ (¬ (0 ≤ a3 ∧ a3 ≤ 999)) ∧ (200 ≤ (Mq.1 47 53).toInt) ∧ (a = -4)) ∨ (¬ (¬ ((0 ≤ a1 ∧ a1 < (Mq.1 47 52).toInt) ∧ (0 ≤ a2 ∧ a2 < (Mq.1 47 12).toInt))) ∧ ¬ (¬ (0 ≤ a3 ∧ a3 ≤ 999)) ∧ ¬ (200 ≤ (Mq.1 47 53).toInt) ∧ (a = (Mq.1 47 53).toInt + 1))) ∧ (((((¬ ((0 ≤ a1 ∧ a1 < (Mq.1 47 52).toInt) ∧ (0 ≤ a2 ∧ a2 < (Mq.1 47 12).toInt))) ∨ (¬ (0 ≤ a3 ∧ a3 ≤ 999)) ∨ (200 ≤ (Mq.1 47 53).toInt)) ∧ (M'.1 47 53).toInt = (Mq.1 47 53).toInt) ∨ (¬ ((¬ ((0 ≤ a1 ∧ a1 < (Mq.1 47 52).toInt) ∧ (0 ≤ a2 ∧ a2 < (Mq.1 47 12).toInt))) ∨ (¬ (0 ≤ a3 ∧ a3 ≤ 999)) ∨ (200 ≤ (Mq.1 47 53).toInt)) ∧ (M'.1 47 53).toInt = (Mq.1 47 53).toInt + 1)) ∧ ((((¬ ((0 ≤ a1 ∧ a1 < (Mq.1 47 52).toInt) ∧ (0 ≤ a2 ∧ a2 < (Mq.1 47 12).toInt))) ∨ (¬ (0 ≤ a3 ∧ a3 ≤ 999)) ∨ (200 ≤ (Mq.1 47 53).toInt)) → M'.1 81 = Mq.1 81) ∧ (¬ ((¬ ((0 ≤ a1 ∧ a1 < (Mq.1 47 52).toInt) ∧ (0 ≤ a2 ∧ a2 < (Mq.1 47 12).toInt))) ∨ (¬ (0 ≤ a3 ∧ a3 ≤ 999)) ∨ (200 ≤ (Mq.1 47 53).toInt)) → M'.1 81 = (ui Mq 81 ((Mq.1 47 53).toInt).toNat x1).1 81)) ∧ ((((¬ ((0 ≤ a1 ∧ a1 < (Mq.1 47 52).toInt) ∧ (0 ≤ a2 ∧ a2 < (Mq.1 47 12).toInt))) ∨ (¬ (0 ≤ a3 ∧ a3 ≤ 999)) ∨ (200 ≤ (Mq.1 47 53).toInt)) → M'.1 82 = Mq.1 82) ∧ (¬ ((¬ ((0 ≤ a1 ∧ a1 < (Mq.1 47 52).toInt) ∧ (0 ≤ a2 ∧ a2 < (Mq.1 47 12).toInt))) ∨ (¬ (0 ≤ a3 ∧ a3 ≤ 999)) ∨ (200 ≤ (Mq.1 47 53).toInt)) → M'.1 82 = (ui Mq 82 ((Mq.1 47 53).toInt).toNat x2).1 82)) ∧ ((((¬ ((0 ≤ a1 ∧ a1 < (Mq.1 47 52).toInt) ∧ (0 ≤ a2 ∧ a2 < (Mq.1 47 12).toInt))) ∨ (¬ (0 ≤ a3 ∧ a3 ≤ 999)) ∨ (200 ≤ (Mq.1 47 53).toInt)) → M'.1 83 = Mq.1 83) ∧ (¬ ((¬ ((0 ≤ a1 ∧ a1 < (Mq.1 47 52).toInt) ∧ (0 ≤ a2 ∧ a2 < (Mq.1 47 12).toInt))) ∨ (¬ (0 ≤ a3 ∧ a3 ≤ 999)) ∨ (200 ≤ (Mq.1 47 53).toInt)) → M'.1 83 = (ui Mq 83 ((Mq.1 47 53).toInt).toNat x3).1 83)) ∧ ((((¬ ((0 ≤ a1 ∧ a1 < (Mq.1 47 52).toInt) ∧ (0 ≤ a2 ∧ a2 < (Mq.1 47 12).toInt))) ∨ (¬ (0 ≤ a3 ∧ a3 ≤ 999)) ∨ (200 ≤ (Mq.1 47 53).toInt)) → M'.1 84 = Mq.1 84) ∧ (¬ ((¬ ((0 ≤ a1 ∧ a1 < (Mq.1 47 52).toInt) ∧ (0 ≤ a2 ∧ a2 < (Mq.1 47 12).toInt))) ∨ (¬ (0 ≤ a3 ∧ a3 ≤ 999)) ∨ (200 ≤ (Mq.1 47 53).toInt)) → M'.1 84 = (ui Mq 84 ((Mq.1 47 53).toInt).toNat 0).1 84))) ∧ Iv TM M' ∧ Fr W_X7_forget_E Mq M') := by
  refine ctr_of (L := [(0, .ref (ad 47)), (1, .int x1), (2, .int x2), (3, .int x3)]) (by decide) (Nat.le_of_ble_eq_true rfl) rfl ?_
  intro Γ X
  have X : gX Γ cX7_forget RX7 4 (some .int) 1 ad _ := X
  have frq0 : Fr W_X7_forget_E Mq Mq := Fr.rf
  have g47_11 := ig_47_11 Iq0
  have g47_12 := ig_47_12 Iq0
  have g47_52 := ig_47_52 Iq0
  have g47_53 := ig_47_53 Iq0
  refine g_aload_n X 0 rfl dX7_forget_0 ?_
  refine g_iload_n X 1 rfl dX7_forget_1 ?_
  refine g_callV X m_X7_260 (c_X7_isSinger ad Mq x1 t1) rfl (by decide) (Nat.le_of_ble_eq_true rfl) rfl dX7_forget_2 ?_
  rintro _ _ ⟨rq1, aq2, rfl, tq3, hq4, rfl⟩
  show G Γ Mq 5 [(0, .ref (ad 47)), (1, .int x1), (2, .int x2), (3, .int x3)] [.int rq1]
  refine g_if_eq X tq3 (tgt := 16) dX7_forget_5 (by decide) (fun cq5 => ?_) (fun cq5 => ?_)
  · have pq6 : ¬ (0 ≤ a1 ∧ a1 < ((Mq.1 47 52)).toInt) := by first | omega | (rcases hq4 with ⟨z1, z2⟩ | ⟨z1, z2⟩ <;> first | exact z2 | (exfalso; omega))
    clear hq4 cq5 tq3
    refine g_iconst X (-1) dX7_forget_16 (by decide) ?_
    exact g_iret X dX7_forget_17 ⟨_, _, rfl, (show ((-1) : Int32).toInt = (-1) by decide), (by omega), (⟨by first | omega | (have z := trivial.1; omega), ⟨fun h => by first | rfl | exact (trivial.2.1).1 (by omega) | exact absurd h (by omega), fun h => by first | exact (trivial.2.1).2 (by omega) | exact absurd (by omega) h⟩, ⟨fun h => by first | rfl | exact (trivial.2.2.1).1 (by omega) | exact absurd h (by omega), fun h => by first | exact (trivial.2.2.1).2 (by omega) | exact absurd (by omega) h⟩, ⟨fun h => by first | rfl | exact (trivial.2.2.2.1).1 (by omega) | exact absurd h (by omega), fun h => by first | exact (trivial.2.2.2.1).2 (by omega) | exact absurd (by omega) h⟩, ⟨fun h => by first | rfl | exact (trivial.2.2.2.2).1 (by omega) | exact absurd h (by omega), fun h => by first | exact (trivial.2.2.2.2).2 (by omega) | exact absurd (by omega) h⟩⟩), Iq0, frq0⟩
  · have pq7 : (0 ≤ a1 ∧ a1 < ((Mq.1 47 52)).toInt) := by first | omega | (rcases hq4 with ⟨z1, z2⟩ | ⟨z1, z2⟩ <;> first | exact z2 | (exfalso; omega))
    clear hq4 cq5 tq3
    refine g_aload_n X 0 rfl dX7_forget_8 ?_
    refine g_iload_n X 2 rfl dX7_forget_9 ?_
    refine g_callV X m_X7_186 (c_X7_isLine ad Mq x2 t2) rfl (by decide) (Nat.le_of_ble_eq_true rfl) rfl dX7_forget_10 ?_
    rintro _ _ ⟨rq8, aq9, rfl, tq10, hq11, rfl⟩
    show G Γ Mq 13 [(0, .ref (ad 47)), (1, .int x1), (2, .int x2), (3, .int x3)] [.int rq8]
    refine g_if_ne X tq10 (tgt := 18) dX7_forget_13 (by decide) (fun cq12 => ?_) (fun cq12 => ?_)
    · have pq13 : (0 ≤ a2 ∧ a2 < ((Mq.1 47 12)).toInt) := by first | omega | (rcases hq11 with ⟨z1, z2⟩ | ⟨z1, z2⟩ <;> first | exact z2 | (exfalso; omega))
      clear hq11 cq12 tq10
      refine g_iload_n X 3 rfl dX7_forget_18 ?_
      refine g_callS X m_X7_263 (c_X7_isYear ad Mq x3 t3) rfl (by decide) (Nat.le_of_ble_eq_true rfl) rfl dX7_forget_19 ?_
      rintro _ _ ⟨rq14, aq15, rfl, tq16, hq17, rfl⟩
      show G Γ Mq 22 [(0, .ref (ad 47)), (1, .int x1), (2, .int x2), (3, .int x3)] [.int rq14]
      refine g_if_ne X tq16 (tgt := 28) dX7_forget_22 (by decide) (fun cq18 => ?_) (fun cq18 => ?_)
      · have pq19 : (0 ≤ a3 ∧ a3 ≤ 999) := by first | omega | (rcases hq17 with ⟨z1, z2⟩ | ⟨z1, z2⟩ <;> first | exact z2 | (exfalso; omega))
        clear hq17 cq18 tq16
        refine g_aload_n X 0 rfl dX7_forget_28 ?_
        refine g_iload_n X 1 rfl dX7_forget_29 ?_
        refine g_iload_n X 2 rfl dX7_forget_30 ?_
        refine g_iload_n X 3 rfl dX7_forget_31 ?_
        refine g_iconst X 0 dX7_forget_32 (by decide) ?_
        refine g_callV X m_X7_318 (c_X7_enters_E ad Mq x1 t1 x2 t2 x3 t3 0 (show (0 : Int32).toInt = 0 by decide) Iq0 (by omega)) rfl (by decide) (Nat.le_of_ble_eq_true rfl) rfl dX7_forget_33 ?_
        rintro _ Mq25 ⟨rq20, aq21, rfl, tq22, hq23, hq24, Iq26, frq27⟩
        have frq28 : Fr W_X7_forget_E Mq Mq25 := frq0.trans frq27 rfl
        show G Γ Mq25 36 [(0, .ref (ad 47)), (1, .int x1), (2, .int x2), (3, .int x3)] [.int rq20]
        exact g_iret X dX7_forget_36 ⟨_, _, rfl, tq22, (by clear hq24; rcases hq23 with z | z <;> omega), (⟨by have z := hq24.1; clear hq23 hq24; rcases z with z | z <;> omega, ⟨fun h => by first | rfl | exact (hq24.2.1).1 (by omega) | exact absurd h (by omega), fun h => by first | exact (hq24.2.1).2 (by omega) | exact absurd (by omega) h⟩, ⟨fun h => by first | rfl | exact (hq24.2.2.1).1 (by omega) | exact absurd h (by omega), fun h => by first | exact (hq24.2.2.1).2 (by omega) | exact absurd (by omega) h⟩, ⟨fun h => by first | rfl | exact (hq24.2.2.2.1).1 (by omega) | exact absurd h (by omega), fun h => by first | exact (hq24.2.2.2.1).2 (by omega) | exact absurd (by omega) h⟩, ⟨fun h => by first | rfl | exact (hq24.2.2.2.2).1 (by omega) | exact absurd h (by omega), fun h => by first | exact (hq24.2.2.2.2).2 (by omega) | exact absurd (by omega) h⟩⟩), Iq26, frq28⟩
      · have pq29 : ¬ (0 ≤ a3 ∧ a3 ≤ 999) := by first | omega | (rcases hq17 with ⟨z1, z2⟩ | ⟨z1, z2⟩ <;> first | exact z2 | (exfalso; omega))
        clear hq17 cq18 tq16
        refine g_bipush X (-2) dX7_forget_25 (by decide) ?_
        exact g_iret X dX7_forget_27 ⟨_, _, rfl, (show ((-2) : Int32).toInt = (-2) by decide), (by omega), (⟨by first | omega | (have z := trivial.1; omega), ⟨fun h => by first | rfl | exact (trivial.2.1).1 (by omega) | exact absurd h (by omega), fun h => by first | exact (trivial.2.1).2 (by omega) | exact absurd (by omega) h⟩, ⟨fun h => by first | rfl | exact (trivial.2.2.1).1 (by omega) | exact absurd h (by omega), fun h => by first | exact (trivial.2.2.1).2 (by omega) | exact absurd (by omega) h⟩, ⟨fun h => by first | rfl | exact (trivial.2.2.2.1).1 (by omega) | exact absurd h (by omega), fun h => by first | exact (trivial.2.2.2.1).2 (by omega) | exact absurd (by omega) h⟩, ⟨fun h => by first | rfl | exact (trivial.2.2.2.2).1 (by omega) | exact absurd h (by omega), fun h => by first | exact (trivial.2.2.2.2).2 (by omega) | exact absurd (by omega) h⟩⟩), Iq0, frq0⟩
    · have pq30 : ¬ (0 ≤ a2 ∧ a2 < ((Mq.1 47 12)).toInt) := by first | omega | (rcases hq11 with ⟨z1, z2⟩ | ⟨z1, z2⟩ <;> first | exact z2 | (exfalso; omega))
      clear hq11 cq12 tq10
      refine g_iconst X (-1) dX7_forget_16 (by decide) ?_
      exact g_iret X dX7_forget_17 ⟨_, _, rfl, (show ((-1) : Int32).toInt = (-1) by decide), (by omega), (⟨by first | omega | (have z := trivial.1; omega), ⟨fun h => by first | rfl | exact (trivial.2.1).1 (by omega) | exact absurd h (by omega), fun h => by first | exact (trivial.2.1).2 (by omega) | exact absurd (by omega) h⟩, ⟨fun h => by first | rfl | exact (trivial.2.2.1).1 (by omega) | exact absurd h (by omega), fun h => by first | exact (trivial.2.2.1).2 (by omega) | exact absurd (by omega) h⟩, ⟨fun h => by first | rfl | exact (trivial.2.2.2.1).1 (by omega) | exact absurd h (by omega), fun h => by first | exact (trivial.2.2.2.1).2 (by omega) | exact absurd (by omega) h⟩, ⟨fun h => by first | rfl | exact (trivial.2.2.2.2).1 (by omega) | exact absurd h (by omega), fun h => by first | exact (trivial.2.2.2.2).2 (by omega) | exact absurd (by omega) h⟩⟩), Iq0, frq0⟩
end
