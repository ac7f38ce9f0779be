section
set_option maxHeartbeats 4000000 in
set_option maxRecDepth 4000 in
theorem c_X0_isSinger (ad : Nat → Nat) (Mq : Mem) (x1 : Int32) {a1 : Int} (t1 : x1.toInt = a1) : Ctr ad yX0_isSinger cX0_isSinger 2 (some .boolean) 0 [.ref (ad 23), .int x1] Mq (fun v M' => ∃ (r : Int32) (a : Int), v = some (.int r) ∧ r.toInt = a ∧ ((a = 1 ∧ (0 ≤ a1 ∧ a1 < (Mq.1 23 2).toInt)) ∨ (a = 0 ∧ ¬ (0 ≤ a1 ∧ a1 < (Mq.1 23 2).toInt))) ∧ Mq = M') := by
  refine ctr_of (L := [(0, .ref (ad 23)), (1, .int x1)]) (by decide) (Nat.le_of_ble_eq_true rfl) rfl ?_
  intro Γ X
  have X : gX Γ cX0_isSinger RX0 2 (some .boolean) 0 ad _ := X
  refine g_iload_n X 1 rfl dX0_isSinger_0 ?_
  refine g_if_lt X t1 (tgt := 16) dX0_isSinger_1 (by decide) (fun cq1 => ?_) (fun cq1 => ?_)
  · refine g_iconst X 0 dX0_isSinger_16 (by decide) ?_
    exact g_zret X (b01 (show (0 : Int32).toInt = 0 by decide) (by omega)) dX0_isSinger_17 ⟨_, _, rfl, (show (0 : Int32).toInt = 0 by decide), (by omega), rfl⟩
  · refine g_iload_n X 1 rfl dX0_isSinger_4 ?_
    refine g_aload_n X 0 rfl dX0_isSinger_5 ?_
    refine g_geti X f_X0_18 dX0_isSinger_6 (x := Mq.1 23 2) rfl ?_
    refine g_icmp_ge X t1 rfl (tgt := 16) dX0_isSinger_9 (by decide) (fun cq2 => ?_) (fun cq2 => ?_)
    · refine g_iconst X 0 dX0_isSinger_16 (by decide) ?_
      exact g_zret X (b01 (show (0 : Int32).toInt = 0 by decide) (by omega)) dX0_isSinger_17 ⟨_, _, rfl, (show (0 : Int32).toInt = 0 by decide), (by omega), rfl⟩
    · refine g_iconst X 1 dX0_isSinger_12 (by decide) ?_
      refine g_goto X (tgt := 17) dX0_isSinger_13 (by decide) ?_
      exact g_zret X (b01 (show (1 : Int32).toInt = 1 by decide) (by omega)) dX0_isSinger_17 ⟨_, _, rfl, (show (1 : Int32).toInt = 1 by decide), (by omega), rfl⟩
set_option maxHeartbeats 4000000 in
set_option maxRecDepth 4000 in
theorem c_X0_isKnown (ad : Nat → Nat) (Mq : Mem) (x1 : Int32) {a1 : Int} (t1 : x1.toInt = a1) : Ctr ad yX0_isKnown cX0_isKnown 2 (some .boolean) 0 [.ref (ad 23), .int x1] Mq (fun v M' => ∃ (r : Int32) (a : Int), v = some (.int r) ∧ r.toInt = a ∧ ((a = 1 ∧ (-1 ≤ a1 ∧ a1 ≤ (Mq.1 23 7).toInt)) ∨ (a = 0 ∧ ¬ (-1 ≤ a1 ∧ a1 ≤ (Mq.1 23 7).toInt))) ∧ Mq = M') := by
  refine ctr_of (L := [(0, .ref (ad 23)), (1, .int x1)]) (by decide) (Nat.le_of_ble_eq_true rfl) rfl ?_
  intro Γ X
  have X : gX Γ cX0_isKnown RX0 2 (some .boolean) 0 ad _ := X
  refine g_iload_n X 1 rfl dX0_isKnown_0 ?_
  refine g_iconst X (-1) dX0_isKnown_1 (by decide) ?_
  refine g_icmp_lt X t1 (show ((-1) : Int32).toInt = (-1) by decide) (tgt := 17) dX0_isKnown_2 (by decide) (fun cq1 => ?_) (fun cq1 => ?_)
  · refine g_iconst X 0 dX0_isKnown_17 (by decide) ?_
    exact g_zret X (b01 (show (0 : Int32).toInt = 0 by decide) (by omega)) dX0_isKnown_18 ⟨_, _, rfl, (show (0 : Int32).toInt = 0 by decide), (by omega), rfl⟩
  · refine g_iload_n X 1 rfl dX0_isKnown_5 ?_
    refine g_aload_n X 0 rfl dX0_isKnown_6 ?_
    refine g_geti X f_X0_35 dX0_isKnown_7 (x := Mq.1 23 7) rfl ?_
    refine g_icmp_gt X t1 rfl (tgt := 17) dX0_isKnown_10 (by decide) (fun cq2 => ?_) (fun cq2 => ?_)
    · refine g_iconst X 0 dX0_isKnown_17 (by decide) ?_
      exact g_zret X (b01 (show (0 : Int32).toInt = 0 by decide) (by omega)) dX0_isKnown_18 ⟨_, _, rfl, (show (0 : Int32).toInt = 0 by decide), (by omega), rfl⟩
    · refine g_iconst X 1 dX0_isKnown_13 (by decide) ?_
      refine g_goto X (tgt := 18) dX0_isKnown_14 (by decide) ?_
      exact g_zret X (b01 (show (1 : Int32).toInt = 1 by decide) (by omega)) dX0_isKnown_18 ⟨_, _, rfl, (show (1 : Int32).toInt = 1 by decide), (by omega), rfl⟩
abbrev W_X0_addSinger : List (Nat × Nat) := [(23, 2), (24, 99)]
set_option maxHeartbeats 4000000 in
set_option maxRecDepth 4000 in
theorem c_X0_addSinger (ad : Nat → Nat) (Mq : Mem) (x1 : Int32) {a1 : Int} (t1 : x1.toInt = a1) (Iq0 : Iv TX Mq) (h1 : (Mq.1 23 2).toInt < 8) : Ctr ad yX0_addSinger cX0_addSinger 2 (some .int) 0 [.ref (ad 23), .int x1] Mq (fun v M' => ∃ (r : Int32) (a : Int), v = some (.int r) ∧ r.toInt = a ∧ (a = (Mq.1 23 2).toInt) ∧ ((M'.1 23 2).toInt = (Mq.1 23 2).toInt + 1) ∧ Iv TX M' ∧ Fr W_X0_addSinger Mq M') := by
  refine ctr_of (L := [(0, .ref (ad 23)), (1, .int x1)]) (by decide) (Nat.le_of_ble_eq_true rfl) rfl ?_
  intro Γ X
  have X : gX Γ cX0_addSinger RX0 2 (some .int) 0 ad _ := X
  have frq0 : Fr W_X0_addSinger Mq Mq := Fr.rf
  refine g_aload_n X 0 rfl dX0_addSinger_0 ?_
  refine g_getr X f_X0_9 dX0_addSinger_1 ?_
  refine g_aload_n X 0 rfl dX0_addSinger_4 ?_
  refine g_geti X f_X0_18 dX0_addSinger_5 (x := Mq.1 23 2) rfl ?_
  have bq1 := ig_23_2 Iq0
  refine g_iload_n X 1 rfl dX0_addSinger_8 ?_
  refine g_iast X la_24 rfl dX0_addSinger_9 (by omega) ?_
  have Iq2 : Iv TX (ui Mq 24 (((Mq.1 23 2).toInt).toNat) x1) := Iq0.otherA rfl
  have frq3 : Fr W_X0_addSinger Mq (ui Mq 24 (((Mq.1 23 2).toInt).toNat) x1) := frq0.ui rfl
  refine g_aload_n X 0 rfl dX0_addSinger_10 ?_
  refine g_dup X dX0_addSinger_11 rfl ?_
  refine g_geti X f_X0_18 dX0_addSinger_12 (x := Mq.1 23 2) rfl ?_
  have bq4 := ig_23_2 Iq0
  refine g_iconst X 1 dX0_addSinger_15 (by decide) ?_
  refine g_iadd X dX0_addSinger_16 (fun zq5 eq6 => ?_)
  have tq7 : zq5.toInt = ((Mq.1 23 2).toInt) + 1 := add_nw eq6 rfl (show (1 : Int32).toInt = 1 by decide) (by omega)
  refine g_puti X p_X0_18 dX0_addSinger_17 ?_
  have Iq8 : Iv TX (ui (ui Mq 24 (((Mq.1 23 2).toInt).toNat) x1) 23 2 zq5) := Iq2.put 0 8 tq7 (by omega) rfl
  have frq9 : Fr W_X0_addSinger Mq (ui (ui Mq 24 (((Mq.1 23 2).toInt).toNat) x1) 23 2 zq5) := frq3.ui rfl
  refine g_aload_n X 0 rfl dX0_addSinger_20 ?_
  refine g_geti X f_X0_18 dX0_addSinger_21 (x := zq5) rfl ?_
  refine g_iconst X 1 dX0_addSinger_24 (by decide) ?_
  refine g_isub X dX0_addSinger_25 (fun zq10 eq11 => ?_)
  have tq12 : zq10.toInt = (((Mq.1 23 2).toInt) + 1) - 1 := sub_nw eq11 tq7 (show (1 : Int32).toInt = 1 by decide) (by omega)
  exact g_iret X dX0_addSinger_26 ⟨_, _, rfl, tq12, (by omega), (by rw [ui_eq]; omega), Iq8, frq9⟩
abbrev W_X0_enter : List (Nat × Nat) := [(23, 7), (26, 99), (27, 99), (28, 99), (29, 99)]
set_option maxHeartbeats 4000000 in
set_option maxRecDepth 4000 in
theorem c_X0_enter (ad : Nat → Nat) (Mq : Mem) (x1 : Int32) {a1 : Int} (t1 : x1.toInt = a1) (x2 : Int32) {a2 : Int} (t2 : x2.toInt = a2) (x3 : Int32) {a3 : Int} (t3 : x3.toInt = a3) (x4 : Int32) {a4 : Int} (t4 : x4.toInt = a4) (Iq0 : Iv TX Mq) (h1 : (Mq.1 23 7).toInt < 200) (h2 : 0 ≤ a2 ∧ a2 < 40) (h3 : a4 = 0 ∨ a4 = 1) : Ctr ad yX0_enter cX0_enter 5 (some .int) 0 [.ref (ad 23), .int x1, .int x2, .int x3, .int x4] Mq (fun v M' => ∃ (r : Int32) (a : Int), v = some (.int r) ∧ r.toInt = a ∧ (a = (Mq.1 23 7).toInt + 1) ∧ ((M'.1 23 7).toInt = (Mq.1 23 7).toInt + 1) ∧ Iv TX M' ∧ Fr W_X0_enter Mq M') := by
  refine ctr_of (L := [(0, .ref (ad 23)), (1, .int x1), (2, .int x2), (3, .int x3), (4, .int x4)]) (by decide) (Nat.le_of_ble_eq_true rfl) rfl ?_
  intro Γ X
  have X : gX Γ cX0_enter RX0 5 (some .int) 0 ad _ := X
  have frq0 : Fr W_X0_enter Mq Mq := Fr.rf
  refine g_aload_n X 0 rfl dX0_enter_0 ?_
  refine g_getr X f_X0_22 dX0_enter_1 ?_
  refine g_aload_n X 0 rfl dX0_enter_4 ?_
  refine g_geti X f_X0_35 dX0_enter_5 (x := Mq.1 23 7) rfl ?_
  have bq1 := ig_23_7 Iq0
  refine g_iload_n X 1 rfl dX0_enter_8 ?_
  refine g_iast X la_26 rfl dX0_enter_9 (by omega) ?_
  have Iq2 : Iv TX (ui Mq 26 (((Mq.1 23 7).toInt).toNat) x1) := Iq0.otherA rfl
  have frq3 : Fr W_X0_enter Mq (ui Mq 26 (((Mq.1 23 7).toInt).toNat) x1) := frq0.ui rfl
  refine g_aload_n X 0 rfl dX0_enter_10 ?_
  refine g_getr X f_X0_25 dX0_enter_11 ?_
  refine g_aload_n X 0 rfl dX0_enter_14 ?_
  refine g_geti X f_X0_35 dX0_enter_15 (x := Mq.1 23 7) rfl ?_
  have bq4 := ig_23_7 Iq0
  refine g_iload_n X 2 rfl dX0_enter_18 ?_
  refine g_iast X la_27 rfl dX0_enter_19 (by omega) ?_
  have Iq5 : Iv TX (ui (ui Mq 26 (((Mq.1 23 7).toInt).toNat) x1) 27 (((Mq.1 23 7).toInt).toNat) x2) := Iq2.putA 0 39 t2 (by omega) rfl
  have frq6 : Fr W_X0_enter Mq (ui (ui Mq 26 (((Mq.1 23 7).toInt).toNat) x1) 27 (((Mq.1 23 7).toInt).toNat) x2) := frq3.ui rfl
  refine g_aload_n X 0 rfl dX0_enter_20 ?_
  refine g_getr X f_X0_28 dX0_enter_21 ?_
  refine g_aload_n X 0 rfl dX0_enter_24 ?_
  refine g_geti X f_X0_35 dX0_enter_25 (x := Mq.1 23 7) rfl ?_
  have bq7 := ig_23_7 Iq0
  refine g_iload_n X 3 rfl dX0_enter_28 ?_
  refine g_iast X la_28 rfl dX0_enter_29 (by omega) ?_
  have Iq8 : Iv TX (ui (ui (ui Mq 26 (((Mq.1 23 7).toInt).toNat) x1) 27 (((Mq.1 23 7).toInt).toNat) x2) 28 (((Mq.1 23 7).toInt).toNat) x3) := Iq5.otherA rfl
  have frq9 : Fr W_X0_enter Mq (ui (ui (ui Mq 26 (((Mq.1 23 7).toInt).toNat) x1) 27 (((Mq.1 23 7).toInt).toNat) x2) 28 (((Mq.1 23 7).toInt).toNat) x3) := frq6.ui rfl
  refine g_aload_n X 0 rfl dX0_enter_30 ?_
  refine g_getr X f_X0_31 dX0_enter_31 ?_
  refine g_aload_n X 0 rfl dX0_enter_34 ?_
  refine g_geti X f_X0_35 dX0_enter_35 (x := Mq.1 23 7) rfl ?_
  have bq10 := ig_23_7 Iq0
  refine g_iload X 4 rfl dX0_enter_38 ?_
  refine g_zast X la_29 (b01 t4 (by omega)) rfl dX0_enter_40 (by omega) ?_
  have Iq11 : Iv TX (ui (ui (ui (ui Mq 26 (((Mq.1 23 7).toInt).toNat) x1) 27 (((Mq.1 23 7).toInt).toNat) x2) 28 (((Mq.1 23 7).toInt).toNat) x3) 29 (((Mq.1 23 7).toInt).toNat) x4) := Iq8.putA 0 1 t4 (by omega) rfl
  have frq12 : Fr W_X0_enter Mq (ui (ui (ui (ui Mq 26 (((Mq.1 23 7).toInt).toNat) x1) 27 (((Mq.1 23 7).toInt).toNat) x2) 28 (((Mq.1 23 7).toInt).toNat) x3) 29 (((Mq.1 23 7).toInt).toNat) x4) := frq9.ui rfl
  refine g_aload_n X 0 rfl dX0_enter_41 ?_
  refine g_dup X dX0_enter_42 rfl ?_
  refine g_geti X f_X0_35 dX0_enter_43 (x := Mq.1 23 7) rfl ?_
  have bq13 := ig_23_7 Iq0
  refine g_iconst X 1 dX0_enter_46 (by decide) ?_
  refine g_iadd X dX0_enter_47 (fun zq14 eq15 => ?_)
  have tq16 : zq14.toInt = ((Mq.1 23 7).toInt) + 1 := add_nw eq15 rfl (show (1 : Int32).toInt = 1 by decide) (by omega)
  refine g_puti X p_X0_35 dX0_enter_48 ?_
  have Iq17 : Iv TX (ui (ui (ui (ui (ui Mq 26 (((Mq.1 23 7).toInt).toNat) x1) 27 (((Mq.1 23 7).toInt).toNat) x2) 28 (((Mq.1 23 7).toInt).toNat) x3) 29 (((Mq.1 23 7).toInt).toNat) x4) 23 7 zq14) := Iq11.put 0 200 tq16 (by omega) rfl
  have frq18 : Fr W_X0_enter Mq (ui (ui (ui (ui (ui Mq 26 (((Mq.1 23 7).toInt).toNat) x1) 27 (((Mq.1 23 7).toInt).toNat) x2) 28 (((Mq.1 23 7).toInt).toNat) x3) 29 (((Mq.1 23 7).toInt).toNat) x4) 23 7 zq14) := frq12.ui rfl
  refine g_aload_n X 0 rfl dX0_enter_51 ?_
  refine g_geti X f_X0_35 dX0_enter_52 (x := zq14) rfl ?_
  exact g_iret X dX0_enter_55 ⟨_, _, rfl, tq16, (by omega), (by rw [ui_eq]; omega), Iq17, frq18⟩
abbrev W_X0_stockOf : List (Nat × Nat) := [(30, 99)]
set_option maxHeartbeats 4000000 in
set_option maxRecDepth 4000 in
theorem c_X0_stockOf (ad : Nat → Nat) (Mq : Mem) (x1 : Int32) {a1 : Int} (t1 : x1.toInt = a1) (x2 : Int32) {a2 : Int} (t2 : x2.toInt = a2) (x3 : Int32) {a3 : Int} (t3 : x3.toInt = a3) (Iq0 : Iv TX Mq) (h1 : -1 ≤ a3 ∧ a3 ≤ (Mq.1 23 7).toInt) : Ctr ad yX0_stockOf cX0_stockOf 9 (some .long) 1 [.ref (ad 23), .int x1, .int x2, .int x3] Mq (fun v M' => ∃ (r : Int64) (a : Int), v = some (.long r) ∧ r.toInt = a ∧ (True) ∧ Iv TX M' ∧ Fr W_X0_stockOf Mq M') := by
  refine ctr_of (L := [(0, .ref (ad 23)), (1, .int x1), (2, .int x2), (3, .int x3)]) (by decide) (Nat.le_of_ble_eq_true rfl) rfl ?_
  intro Γ X
  have X : gX Γ cX0_stockOf RX0 9 (some .long) 1 ad _ := X
  have frq0 : Fr W_X0_stockOf Mq Mq := Fr.rf
  have hE := ig_23_7 Iq0
  refine g_iload_n X 3 rfl dX0_stockOf_0 ?_
  refine g_iconst X (-1) dX0_stockOf_1 (by decide) ?_
  refine g_icmp_ne X t3 (show ((-1) : Int32).toInt = (-1) by decide) (tgt := 12) dX0_stockOf_2 (by decide) (fun cq1 => ?_) (fun cq1 => ?_)
  · refine g_iload_n X 3 rfl dX0_stockOf_12 ?_
    refine g_istore X [(4, .int x3), (0, .ref (ad 23)), (1, .int x1), (2, .int x2), (3, .int x3)] dX0_stockOf_13 (by decide) rfl ?_
    refine g_lconst X 0 dX0_stockOf_15 (by decide) ?_
    refine g_lstore X [(5, .long 0), (4, .int x3), (0, .ref (ad 23)), (1, .int x1), (2, .int x2), (3, .int x3)] dX0_stockOf_16 (by decide) rfl ?_
    refine g_aload_n X 2 rfl dX0_stockOf_18 ?_
    refine g_getr X f_X0_38 dX0_stockOf_19 ?_
    refine g_iconst X (-1) dX0_stockOf_22 (by decide) ?_
    refine g_callS X m_X0_48 (c_J7_fill_53178_30 ad Mq (-1) (show ((-1) : Int32).toInt = (-1) by decide) Iq0) rfl (by decide) (Nat.le_of_ble_eq_true rfl) rfl dX0_stockOf_23 ?_
    rintro _ Mq6 ⟨rfl, hq5, Iq7, frq8⟩
    have frq9 : Fr W_X0_stockOf Mq Mq6 := frq0.trans frq8 rfl
    show G Γ Mq6 26 [(5, .long 0), (4, .int x3), (0, .ref (ad 23)), (1, .int x1), (2, .int x2), (3, .int x3)] []
    refine g_iconst X 0 dX0_stockOf_26 (by decide) ?_
    refine g_istore X [(7, .int 0), (5, .long 0), (4, .int x3), (0, .ref (ad 23)), (1, .int x1), (2, .int x2), (3, .int x3)] dX0_stockOf_27 (by decide) rfl ?_
    have lp29 : ∀ n : Nat, ∀ (y7_29 : Int32) (b7_29 : Int), y7_29.toInt = b7_29 → ∀ (y5_29 : Int64) (b5_29 : Int), y5_29.toInt = b5_29 → ∀ (M_29 : Mem), (0 ≤ b7_29) → (Iv TX M_29) → (Fr W_X0_stockOf Mq M_29) → (a3 - b7_29).toNat < n → G Γ M_29 29 [(7, .int y7_29), (5, .long y5_29), (4, .int x3), (0, .ref (ad 23)), (1, .int x1), (2, .int x2), (3, .int x3)] [] := by
      intro n
      induction n with
      | zero => intro y7_29 b7_29 e7_29 y5_29 b5_29 e5_29 M_29 i1 I_29 fr_29 hm; exact absurd hm (Nat.not_lt_zero _)
      | succ n ih29 =>
        intro y7_29 b7_29 e7_29 y5_29 b5_29 e5_29 M_29 i1 I_29 fr_29 hm29
        refine g_iload X 0 rfl dX0_stockOf_29 ?_
        refine g_iload X 2 rfl dX0_stockOf_31 ?_
        refine g_icmp_ge X e7_29 t3 (tgt := 137) dX0_stockOf_33 (by decide) (fun cq10 => ?_) (fun cq10 => ?_)
        · refine g_lload X 1 rfl dX0_stockOf_137 ?_
          exact g_lret X dX0_stockOf_139 ⟨_, _, rfl, e5_29, trivial, I_29, fr_29⟩
        · refine g_aload_n X 3 rfl dX0_stockOf_36 ?_
          refine g_getr X f_X0_25 dX0_stockOf_37 ?_
          refine g_iload X 0 rfl dX0_stockOf_40 ?_
          refine g_iald X la_27 e7_29 dX0_stockOf_42 (by omega) (x := M_29.1 27 b7_29.toNat) rfl ?_
          have bq11 := ig_27 I_29 b7_29.toNat (by omega)
          refine g_istore X [(8, .int (M_29.1 27 b7_29.toNat)), (7, .int y7_29), (5, .long y5_29), (4, .int x3), (0, .ref (ad 23)), (1, .int x1), (2, .int x2), (3, .int x3)] dX0_stockOf_43 (by decide) rfl ?_
          refine g_aload_n X 4 rfl dX0_stockOf_45 ?_
          refine g_getr X f_X0_22 dX0_stockOf_46 ?_
          refine g_iload X 1 rfl dX0_stockOf_49 ?_
          refine g_iald X la_26 e7_29 dX0_stockOf_51 (by omega) (x := M_29.1 26 b7_29.toNat) rfl ?_
          refine g_iload_n X 5 rfl dX0_stockOf_52 ?_
          refine g_icmp_ne X rfl t1 (tgt := 131) dX0_stockOf_53 (by decide) (fun cq12 => ?_) (fun cq12 => ?_)
          · refine g_iinc X 1 (fun v => [(7, .int v), (8, .int (M_29.1 27 b7_29.toNat)), (5, .long y5_29), (4, .int x3), (0, .ref (ad 23)), (1, .int x1), (2, .int x2), (3, .int x3)]) dX0_stockOf_131 rfl (by decide) (fun _ => rfl) (fun zq13 eq14 => ?_)
            have tq15 : zq13.toInt = b7_29 + 1 := add_nw eq14 e7_29 (show (Int32.ofInt 1).toInt = 1 by decide) (by omega)
            refine g_goto X (tgt := 29) dX0_stockOf_134 (by decide) ?_
            refine g_sub [0, 2, 3, 4, 5, 6, 7] rfl ?_
            exact ih29 zq13 _ tq15 y5_29 _ e5_29 M_29 (by omega) I_29 fr_29 (by omega)
          · refine g_aload_n X 4 rfl dX0_stockOf_56 ?_
            refine g_getr X f_X0_28 dX0_stockOf_57 ?_
            refine g_iload X 1 rfl dX0_stockOf_60 ?_
            refine g_iald X la_28 e7_29 dX0_stockOf_62 (by omega) (x := M_29.1 28 b7_29.toNat) rfl ?_
            refine g_iload_n X 6 rfl dX0_stockOf_63 ?_
            refine g_icmp_gt X rfl t2 (tgt := 131) dX0_stockOf_64 (by decide) (fun cq16 => ?_) (fun cq16 => ?_)
            · refine g_iinc X 1 (fun v => [(7, .int v), (8, .int (M_29.1 27 b7_29.toNat)), (5, .long y5_29), (4, .int x3), (0, .ref (ad 23)), (1, .int x1), (2, .int x2), (3, .int x3)]) dX0_stockOf_131 rfl (by decide) (fun _ => rfl) (fun zq17 eq18 => ?_)
              have tq19 : zq17.toInt = b7_29 + 1 := add_nw eq18 e7_29 (show (Int32.ofInt 1).toInt = 1 by decide) (by omega)
              refine g_goto X (tgt := 29) dX0_stockOf_134 (by decide) ?_
              refine g_sub [0, 2, 3, 4, 5, 6, 7] rfl ?_
              exact ih29 zq17 _ tq19 y5_29 _ e5_29 M_29 (by omega) I_29 fr_29 (by omega)
            · refine g_aload_n X 4 rfl dX0_stockOf_67 ?_
              refine g_getr X f_X0_28 dX0_stockOf_68 ?_
              refine g_iload X 1 rfl dX0_stockOf_71 ?_
              refine g_iald X la_28 e7_29 dX0_stockOf_73 (by omega) (x := M_29.1 28 b7_29.toNat) rfl ?_
              refine g_aload_n X 4 rfl dX0_stockOf_74 ?_
              refine g_getr X f_X0_38 dX0_stockOf_75 ?_
              refine g_iload X 0 rfl dX0_stockOf_78 ?_
              refine g_iald X la_30 rfl dX0_stockOf_80 (by omega) (x := M_29.1 30 (((M_29.1 27 b7_29.toNat).toInt).toNat)) rfl ?_
              refine g_icmp_lt X rfl rfl (tgt := 131) dX0_stockOf_81 (by decide) (fun cq20 => ?_) (fun cq20 => ?_)
              · refine g_iinc X 1 (fun v => [(7, .int v), (8, .int (M_29.1 27 b7_29.toNat)), (5, .long y5_29), (4, .int x3), (0, .ref (ad 23)), (1, .int x1), (2, .int x2), (3, .int x3)]) dX0_stockOf_131 rfl (by decide) (fun _ => rfl) (fun zq21 eq22 => ?_)
                have tq23 : zq21.toInt = b7_29 + 1 := add_nw eq22 e7_29 (show (Int32.ofInt 1).toInt = 1 by decide) (by omega)
                refine g_goto X (tgt := 29) dX0_stockOf_134 (by decide) ?_
                refine g_sub [0, 2, 3, 4, 5, 6, 7] rfl ?_
                exact ih29 zq21 _ tq23 y5_29 _ e5_29 M_29 (by omega) I_29 fr_29 (by omega)
              · refine g_aload_n X 4 rfl dX0_stockOf_84 ?_
                refine g_getr X f_X0_38 dX0_stockOf_85 ?_
                refine g_iload X 0 rfl dX0_stockOf_88 ?_
                refine g_aload_n X 4 rfl dX0_stockOf_90 ?_
                refine g_getr X f_X0_28 dX0_stockOf_91 ?_
                refine g_iload X 1 rfl dX0_stockOf_94 ?_
                refine g_iald X la_28 e7_29 dX0_stockOf_96 (by omega) (x := M_29.1 28 b7_29.toNat) rfl ?_
                refine g_iast X la_30 rfl dX0_stockOf_97 (by omega) ?_
                have Iq24 : Iv TX (ui M_29 30 (((M_29.1 27 b7_29.toNat).toInt).toNat) (M_29.1 28 b7_29.toNat)) := I_29.otherA rfl
                have frq25 : Fr W_X0_stockOf Mq (ui M_29 30 (((M_29.1 27 b7_29.toNat).toInt).toNat) (M_29.1 28 b7_29.toNat)) := fr_29.ui rfl
                refine g_aload_n X 4 rfl dX0_stockOf_98 ?_
                refine g_getr X f_X0_31 dX0_stockOf_99 ?_
                refine g_iload X 1 rfl dX0_stockOf_102 ?_
                refine g_zald X la_29 e7_29 dX0_stockOf_104 (by omega) (x := M_29.1 29 b7_29.toNat) rfl ?_
                have bq26 := ig_29 I_29 b7_29.toNat (by omega)
                refine g_if_eq X rfl (tgt := 118) dX0_stockOf_105 (by decide) (fun cq27 => ?_) (fun cq27 => ?_)
                · refine g_lload X 2 rfl dX0_stockOf_118 ?_
                  refine g_lconst X 1 dX0_stockOf_120 (by decide) ?_
                  refine g_iload X 0 rfl dX0_stockOf_121 ?_
                  refine g_lshl X dX0_stockOf_123 (fun zq28 eq29 => ?_)
                  refine g_ldc2 X k_X0_54 dX0_stockOf_124 ?_
                  refine g_lxor X dX0_stockOf_127 (fun zq30 eq31 => ?_)
                  refine g_land X dX0_stockOf_128 (fun zq32 eq33 => ?_)
                  refine g_lstore X [(5, .long zq32), (8, .int (M_29.1 27 b7_29.toNat)), (7, .int y7_29), (4, .int x3), (0, .ref (ad 23)), (1, .int x1), (2, .int x2), (3, .int x3)] dX0_stockOf_129 (by decide) rfl ?_
                  refine g_iinc X 2 (fun v => [(7, .int v), (5, .long zq32), (8, .int (M_29.1 27 b7_29.toNat)), (4, .int x3), (0, .ref (ad 23)), (1, .int x1), (2, .int x2), (3, .int x3)]) dX0_stockOf_131 rfl (by decide) (fun _ => rfl) (fun zq34 eq35 => ?_)
                  have tq36 : zq34.toInt = b7_29 + 1 := add_nw eq35 e7_29 (show (Int32.ofInt 1).toInt = 1 by decide) (by omega)
                  refine g_goto X (tgt := 29) dX0_stockOf_134 (by decide) ?_
                  refine g_sub [0, 1, 3, 4, 5, 6, 7] rfl ?_
                  exact ih29 zq34 _ tq36 zq32 _ rfl (ui M_29 30 (((M_29.1 27 b7_29.toNat).toInt).toNat) (M_29.1 28 b7_29.toNat)) (by omega) Iq24 frq25 (by omega)
                · refine g_lload X 2 rfl dX0_stockOf_108 ?_
                  refine g_lconst X 1 dX0_stockOf_110 (by decide) ?_
                  refine g_iload X 0 rfl dX0_stockOf_111 ?_
                  refine g_lshl X dX0_stockOf_113 (fun zq37 eq38 => ?_)
                  refine g_lor X dX0_stockOf_114 (fun zq39 eq40 => ?_)
                  refine g_goto X (tgt := 129) dX0_stockOf_115 (by decide) ?_
                  refine g_lstore X [(5, .long zq39), (8, .int (M_29.1 27 b7_29.toNat)), (7, .int y7_29), (4, .int x3), (0, .ref (ad 23)), (1, .int x1), (2, .int x2), (3, .int x3)] dX0_stockOf_129 (by decide) rfl ?_
                  refine g_iinc X 2 (fun v => [(7, .int v), (5, .long zq39), (8, .int (M_29.1 27 b7_29.toNat)), (4, .int x3), (0, .ref (ad 23)), (1, .int x1), (2, .int x2), (3, .int x3)]) dX0_stockOf_131 rfl (by decide) (fun _ => rfl) (fun zq41 eq42 => ?_)
                  have tq43 : zq41.toInt = b7_29 + 1 := add_nw eq42 e7_29 (show (Int32.ofInt 1).toInt = 1 by decide) (by omega)
                  refine g_goto X (tgt := 29) dX0_stockOf_134 (by decide) ?_
                  refine g_sub [0, 1, 3, 4, 5, 6, 7] rfl ?_
                  exact ih29 zq41 _ tq43 zq39 _ rfl (ui M_29 30 (((M_29.1 27 b7_29.toNat).toInt).toNat) (M_29.1 28 b7_29.toNat)) (by omega) Iq24 frq25 (by omega)
    refine g_sub [0, 1, 2, 3, 4, 5, 6] rfl ?_
    exact lp29 _ 0 _ (show (0 : Int32).toInt = 0 by decide) 0 _ (show (0 : Int64).toInt = 0 by decide) Mq6 (by omega) Iq7 frq9 (Nat.lt_succ_self _)
  · refine g_aload_n X 0 rfl dX0_stockOf_5 ?_
    refine g_geti X f_X0_35 dX0_stockOf_6 (x := Mq.1 23 7) rfl ?_
    have bq44 := ig_23_7 Iq0
    refine g_goto X (tgt := 13) dX0_stockOf_9 (by decide) ?_
    refine g_istore X [(4, .int (Mq.1 23 7)), (0, .ref (ad 23)), (1, .int x1), (2, .int x2), (3, .int x3)] dX0_stockOf_13 (by decide) rfl ?_
    refine g_lconst X 0 dX0_stockOf_15 (by decide) ?_
    refine g_lstore X [(5, .long 0), (4, .int (Mq.1 23 7)), (0, .ref (ad 23)), (1, .int x1), (2, .int x2), (3, .int x3)] dX0_stockOf_16 (by decide) rfl ?_
    refine g_aload_n X 2 rfl dX0_stockOf_18 ?_
    refine g_getr X f_X0_38 dX0_stockOf_19 ?_
    refine g_iconst X (-1) dX0_stockOf_22 (by decide) ?_
    refine g_callS X m_X0_48 (c_J7_fill_53178_30 ad Mq (-1) (show ((-1) : Int32).toInt = (-1) by decide) Iq0) rfl (by decide) (Nat.le_of_ble_eq_true rfl) rfl dX0_stockOf_23 ?_
    rintro _ Mq49 ⟨rfl, hq48, Iq50, frq51⟩
    have frq52 : Fr W_X0_stockOf Mq Mq49 := frq0.trans frq51 rfl
    show G Γ Mq49 26 [(5, .long 0), (4, .int (Mq.1 23 7)), (0, .ref (ad 23)), (1, .int x1), (2, .int x2), (3, .int x3)] []
    refine g_iconst X 0 dX0_stockOf_26 (by decide) ?_
    refine g_istore X [(7, .int 0), (5, .long 0), (4, .int (Mq.1 23 7)), (0, .ref (ad 23)), (1, .int x1), (2, .int x2), (3, .int x3)] dX0_stockOf_27 (by decide) rfl ?_
    have lp29 : ∀ n : Nat, ∀ (y7_29 : Int32) (b7_29 : Int), y7_29.toInt = b7_29 → ∀ (y5_29 : Int64) (b5_29 : Int), y5_29.toInt = b5_29 → ∀ (M_29 : Mem), (0 ≤ b7_29) → (Iv TX M_29) → (Fr W_X0_stockOf Mq M_29) → (((Mq.1 23 7).toInt) - b7_29).toNat < n → G Γ M_29 29 [(7, .int y7_29), (5, .long y5_29), (4, .int (Mq.1 23 7)), (0, .ref (ad 23)), (1, .int x1), (2, .int x2), (3, .int x3)] [] := by
      intro n
      induction n with
      | zero => intro y7_29 b7_29 e7_29 y5_29 b5_29 e5_29 M_29 i1 I_29 fr_29 hm; exact absurd hm (Nat.not_lt_zero _)
      | succ n ih29 =>
        intro y7_29 b7_29 e7_29 y5_29 b5_29 e5_29 M_29 i1 I_29 fr_29 hm29
        refine g_iload X 0 rfl dX0_stockOf_29 ?_
        refine g_iload X 2 rfl dX0_stockOf_31 ?_
        refine g_icmp_ge X e7_29 rfl (tgt := 137) dX0_stockOf_33 (by decide) (fun cq53 => ?_) (fun cq53 => ?_)
        · refine g_lload X 1 rfl dX0_stockOf_137 ?_
          exact g_lret X dX0_stockOf_139 ⟨_, _, rfl, e5_29, trivial, I_29, fr_29⟩
        · refine g_aload_n X 3 rfl dX0_stockOf_36 ?_
          refine g_getr X f_X0_25 dX0_stockOf_37 ?_
          refine g_iload X 0 rfl dX0_stockOf_40 ?_
          refine g_iald X la_27 e7_29 dX0_stockOf_42 (by omega) (x := M_29.1 27 b7_29.toNat) rfl ?_
          have bq54 := ig_27 I_29 b7_29.toNat (by omega)
          refine g_istore X [(8, .int (M_29.1 27 b7_29.toNat)), (7, .int y7_29), (5, .long y5_29), (4, .int (Mq.1 23 7)), (0, .ref (ad 23)), (1, .int x1), (2, .int x2), (3, .int x3)] dX0_stockOf_43 (by decide) rfl ?_
          refine g_aload_n X 4 rfl dX0_stockOf_45 ?_
          refine g_getr X f_X0_22 dX0_stockOf_46 ?_
          refine g_iload X 1 rfl dX0_stockOf_49 ?_
          refine g_iald X la_26 e7_29 dX0_stockOf_51 (by omega) (x := M_29.1 26 b7_29.toNat) rfl ?_
          refine g_iload_n X 5 rfl dX0_stockOf_52 ?_
          refine g_icmp_ne X rfl t1 (tgt := 131) dX0_stockOf_53 (by decide) (fun cq55 => ?_) (fun cq55 => ?_)
          · refine g_iinc X 1 (fun v => [(7, .int v), (8, .int (M_29.1 27 b7_29.toNat)), (5, .long y5_29), (4, .int (Mq.1 23 7)), (0, .ref (ad 23)), (1, .int x1), (2, .int x2), (3, .int x3)]) dX0_stockOf_131 rfl (by decide) (fun _ => rfl) (fun zq56 eq57 => ?_)
            have tq58 : zq56.toInt = b7_29 + 1 := add_nw eq57 e7_29 (show (Int32.ofInt 1).toInt = 1 by decide) (by omega)
            refine g_goto X (tgt := 29) dX0_stockOf_134 (by decide) ?_
            refine g_sub [0, 2, 3, 4, 5, 6, 7] rfl ?_
            exact ih29 zq56 _ tq58 y5_29 _ e5_29 M_29 (by omega) I_29 fr_29 (by omega)
          · refine g_aload_n X 4 rfl dX0_stockOf_56 ?_
            refine g_getr X f_X0_28 dX0_stockOf_57 ?_
            refine g_iload X 1 rfl dX0_stockOf_60 ?_
            refine g_iald X la_28 e7_29 dX0_stockOf_62 (by omega) (x := M_29.1 28 b7_29.toNat) rfl ?_
            refine g_iload_n X 6 rfl dX0_stockOf_63 ?_
            refine g_icmp_gt X rfl t2 (tgt := 131) dX0_stockOf_64 (by decide) (fun cq59 => ?_) (fun cq59 => ?_)
            · refine g_iinc X 1 (fun v => [(7, .int v), (8, .int (M_29.1 27 b7_29.toNat)), (5, .long y5_29), (4, .int (Mq.1 23 7)), (0, .ref (ad 23)), (1, .int x1), (2, .int x2), (3, .int x3)]) dX0_stockOf_131 rfl (by decide) (fun _ => rfl) (fun zq60 eq61 => ?_)
              have tq62 : zq60.toInt = b7_29 + 1 := add_nw eq61 e7_29 (show (Int32.ofInt 1).toInt = 1 by decide) (by omega)
              refine g_goto X (tgt := 29) dX0_stockOf_134 (by decide) ?_
              refine g_sub [0, 2, 3, 4, 5, 6, 7] rfl ?_
              exact ih29 zq60 _ tq62 y5_29 _ e5_29 M_29 (by omega) I_29 fr_29 (by omega)
            · refine g_aload_n X 4 rfl dX0_stockOf_67 ?_
              refine g_getr X f_X0_28 dX0_stockOf_68 ?_
              refine g_iload X 1 rfl dX0_stockOf_71 ?_
              refine g_iald X la_28 e7_29 dX0_stockOf_73 (by omega) (x := M_29.1 28 b7_29.toNat) rfl ?_
              refine g_aload_n X 4 rfl dX0_stockOf_74 ?_
              refine g_getr X f_X0_38 dX0_stockOf_75 ?_
              refine g_iload X 0 rfl dX0_stockOf_78 ?_
              refine g_iald X la_30 rfl dX0_stockOf_80 (by omega) (x := M_29.1 30 (((M_29.1 27 b7_29.toNat).toInt).toNat)) rfl ?_
              refine g_icmp_lt X rfl rfl (tgt := 131) dX0_stockOf_81 (by decide) (fun cq63 => ?_) (fun cq63 => ?_)
              · refine g_iinc X 1 (fun v => [(7, .int v), (8, .int (M_29.1 27 b7_29.toNat)), (5, .long y5_29), (4, .int (Mq.1 23 7)), (0, .ref (ad 23)), (1, .int x1), (2, .int x2), (3, .int x3)]) dX0_stockOf_131 rfl (by decide) (fun _ => rfl) (fun zq64 eq65 => ?_)
                have tq66 : zq64.toInt = b7_29 + 1 := add_nw eq65 e7_29 (show (Int32.ofInt 1).toInt = 1 by decide) (by omega)
                refine g_goto X (tgt := 29) dX0_stockOf_134 (by decide) ?_
                refine g_sub [0, 2, 3, 4, 5, 6, 7] rfl ?_
                exact ih29 zq64 _ tq66 y5_29 _ e5_29 M_29 (by omega) I_29 fr_29 (by omega)
              · refine g_aload_n X 4 rfl dX0_stockOf_84 ?_
                refine g_getr X f_X0_38 dX0_stockOf_85 ?_
                refine g_iload X 0 rfl dX0_stockOf_88 ?_
                refine g_aload_n X 4 rfl dX0_stockOf_90 ?_
                refine g_getr X f_X0_28 dX0_stockOf_91 ?_
                refine g_iload X 1 rfl dX0_stockOf_94 ?_
                refine g_iald X la_28 e7_29 dX0_stockOf_96 (by omega) (x := M_29.1 28 b7_29.toNat) rfl ?_
                refine g_iast X la_30 rfl dX0_stockOf_97 (by omega) ?_
                have Iq67 : Iv TX (ui M_29 30 (((M_29.1 27 b7_29.toNat).toInt).toNat) (M_29.1 28 b7_29.toNat)) := I_29.otherA rfl
                have frq68 : Fr W_X0_stockOf Mq (ui M_29 30 (((M_29.1 27 b7_29.toNat).toInt).toNat) (M_29.1 28 b7_29.toNat)) := fr_29.ui rfl
                refine g_aload_n X 4 rfl dX0_stockOf_98 ?_
                refine g_getr X f_X0_31 dX0_stockOf_99 ?_
                refine g_iload X 1 rfl dX0_stockOf_102 ?_
                refine g_zald X la_29 e7_29 dX0_stockOf_104 (by omega) (x := M_29.1 29 b7_29.toNat) rfl ?_
                have bq69 := ig_29 I_29 b7_29.toNat (by omega)
                refine g_if_eq X rfl (tgt := 118) dX0_stockOf_105 (by decide) (fun cq70 => ?_) (fun cq70 => ?_)
                · refine g_lload X 2 rfl dX0_stockOf_118 ?_
                  refine g_lconst X 1 dX0_stockOf_120 (by decide) ?_
                  refine g_iload X 0 rfl dX0_stockOf_121 ?_
                  refine g_lshl X dX0_stockOf_123 (fun zq71 eq72 => ?_)
                  refine g_ldc2 X k_X0_54 dX0_stockOf_124 ?_
                  refine g_lxor X dX0_stockOf_127 (fun zq73 eq74 => ?_)
                  refine g_land X dX0_stockOf_128 (fun zq75 eq76 => ?_)
                  refine g_lstore X [(5, .long zq75), (8, .int (M_29.1 27 b7_29.toNat)), (7, .int y7_29), (4, .int (Mq.1 23 7)), (0, .ref (ad 23)), (1, .int x1), (2, .int x2), (3, .int x3)] dX0_stockOf_129 (by decide) rfl ?_
                  refine g_iinc X 2 (fun v => [(7, .int v), (5, .long zq75), (8, .int (M_29.1 27 b7_29.toNat)), (4, .int (Mq.1 23 7)), (0, .ref (ad 23)), (1, .int x1), (2, .int x2), (3, .int x3)]) dX0_stockOf_131 rfl (by decide) (fun _ => rfl) (fun zq77 eq78 => ?_)
                  have tq79 : zq77.toInt = b7_29 + 1 := add_nw eq78 e7_29 (show (Int32.ofInt 1).toInt = 1 by decide) (by omega)
                  refine g_goto X (tgt := 29) dX0_stockOf_134 (by decide) ?_
                  refine g_sub [0, 1, 3, 4, 5, 6, 7] rfl ?_
                  exact ih29 zq77 _ tq79 zq75 _ rfl (ui M_29 30 (((M_29.1 27 b7_29.toNat).toInt).toNat) (M_29.1 28 b7_29.toNat)) (by omega) Iq67 frq68 (by omega)
                · refine g_lload X 2 rfl dX0_stockOf_108 ?_
                  refine g_lconst X 1 dX0_stockOf_110 (by decide) ?_
                  refine g_iload X 0 rfl dX0_stockOf_111 ?_
                  refine g_lshl X dX0_stockOf_113 (fun zq80 eq81 => ?_)
                  refine g_lor X dX0_stockOf_114 (fun zq82 eq83 => ?_)
                  refine g_goto X (tgt := 129) dX0_stockOf_115 (by decide) ?_
                  refine g_lstore X [(5, .long zq82), (8, .int (M_29.1 27 b7_29.toNat)), (7, .int y7_29), (4, .int (Mq.1 23 7)), (0, .ref (ad 23)), (1, .int x1), (2, .int x2), (3, .int x3)] dX0_stockOf_129 (by decide) rfl ?_
                  refine g_iinc X 2 (fun v => [(7, .int v), (5, .long zq82), (8, .int (M_29.1 27 b7_29.toNat)), (4, .int (Mq.1 23 7)), (0, .ref (ad 23)), (1, .int x1), (2, .int x2), (3, .int x3)]) dX0_stockOf_131 rfl (by decide) (fun _ => rfl) (fun zq84 eq85 => ?_)
                  have tq86 : zq84.toInt = b7_29 + 1 := add_nw eq85 e7_29 (show (Int32.ofInt 1).toInt = 1 by decide) (by omega)
                  refine g_goto X (tgt := 29) dX0_stockOf_134 (by decide) ?_
                  refine g_sub [0, 1, 3, 4, 5, 6, 7] rfl ?_
                  exact ih29 zq84 _ tq86 zq82 _ rfl (ui M_29 30 (((M_29.1 27 b7_29.toNat).toInt).toNat) (M_29.1 28 b7_29.toNat)) (by omega) Iq67 frq68 (by omega)
    refine g_sub [0, 1, 2, 3, 4, 5, 6] rfl ?_
    exact lp29 _ 0 _ (show (0 : Int32).toInt = 0 by decide) 0 _ (show (0 : Int64).toInt = 0 by decide) Mq49 (by omega) Iq50 frq52 (Nat.lt_succ_self _)
abbrev W_X0_openAt : List (Nat × Nat) := [(30, 99), (31, 99)]
set_option maxHeartbeats 4000000 in
set_option maxRecDepth 4000 in
theorem c_X0_openAt (ad : Nat → Nat) (Mq : Mem) (x1 : Int32) {a1 : Int} (t1 : x1.toInt = a1) (x2 : Int32) {a2 : Int} (t2 : x2.toInt = a2) (Iq0 : Iv TX Mq) (h1 : -1 ≤ a2 ∧ a2 ≤ (Mq.1 23 7).toInt) : Ctr ad yX0_openAt cX0_openAt 4 none 2 [.ref (ad 23), .int x1, .int x2] Mq (fun v M' => v = none ∧ (True) ∧ Iv TX M' ∧ Fr W_X0_openAt Mq M') := by
  refine ctr_of (L := [(0, .ref (ad 23)), (1, .int x1), (2, .int x2)]) (by decide) (Nat.le_of_ble_eq_true rfl) rfl ?_
  intro Γ X
  have X : gX Γ cX0_openAt RX0 4 none 2 ad _ := X
  have frq0 : Fr W_X0_openAt Mq Mq := Fr.rf
  refine g_iconst X 0 dX0_openAt_0 (by decide) ?_
  refine g_istore_n X (i := 3) [(3, .int 0), (0, .ref (ad 23)), (1, .int x1), (2, .int x2)] dX0_openAt_1 rfl (by decide) rfl ?_
  have lp2 : ∀ n : Nat, ∀ (y3_2 : Int32) (b3_2 : Int), y3_2.toInt = b3_2 → ∀ (M_2 : Mem), (0 ≤ b3_2) → (Iv TX M_2) → (Fr W_X0_openAt Mq M_2) → ((Mq.1 23 2).toInt - b3_2).toNat < n → G Γ M_2 2 [(3, .int y3_2), (0, .ref (ad 23)), (1, .int x1), (2, .int x2)] [] := by
    intro n
    induction n with
    | zero => intro y3_2 b3_2 e3_2 M_2 i1 I_2 fr_2 hm; exact absurd hm (Nat.not_lt_zero _)
    | succ n ih2 =>
      intro y3_2 b3_2 e3_2 M_2 i1 I_2 fr_2 hm2
      have q1 : (M_2.1 23 7).toInt = (Mq.1 23 7).toInt := congrArg Int32.toInt (fr_2.at 23 7 rfl)
      have q2 : (M_2.1 23 2).toInt = (Mq.1 23 2).toInt := congrArg Int32.toInt (fr_2.at 23 2 rfl)
      refine g_iload_n X 0 rfl dX0_openAt_2 ?_
      refine g_aload_n X 1 rfl dX0_openAt_3 ?_
      refine g_geti X f_X0_18 dX0_openAt_4 (x := M_2.1 23 2) rfl ?_
      have bq1 := ig_23_2 I_2
      refine g_icmp_ge X e3_2 rfl (tgt := 29) dX0_openAt_7 (by decide) (fun cq2 => ?_) (fun cq2 => ?_)
      · exact g_vret X dX0_openAt_29 ⟨rfl, trivial, I_2, fr_2⟩
      · refine g_aload_n X 1 rfl dX0_openAt_10 ?_
        refine g_getr X f_X0_41 dX0_openAt_11 ?_
        refine g_iload_n X 0 rfl dX0_openAt_14 ?_
        refine g_aload_n X 1 rfl dX0_openAt_15 ?_
        refine g_iload_n X 0 rfl dX0_openAt_16 ?_
        refine g_iload_n X 2 rfl dX0_openAt_17 ?_
        refine g_iload_n X 3 rfl dX0_openAt_18 ?_
        refine g_callV X m_X0_56 (c_X0_stockOf ad M_2 y3_2 e3_2 x1 t1 x2 t2 I_2 (by omega)) rfl (by decide) (Nat.le_of_ble_eq_true rfl) rfl dX0_openAt_19 ?_
        rintro _ Mq7 ⟨rq3, aq4, rfl, tq5, hq6, Iq8, frq9⟩
        have frq10 : Fr W_X0_openAt Mq Mq7 := fr_2.trans frq9 rfl
        show G Γ Mq7 22 [(3, .int y3_2), (0, .ref (ad 23)), (1, .int x1), (2, .int x2)] [.long rq3, .int y3_2, .ref (ad 31)]
        refine g_last X la_31 e3_2 dX0_openAt_22 (by omega) ?_
        have Iq11 : Iv TX (ul Mq7 31 b3_2.toNat rq3) := Iq8.long
        have frq12 : Fr W_X0_openAt Mq (ul Mq7 31 b3_2.toNat rq3) := frq10.ul rfl
        refine g_iinc X 0 (fun v => [(3, .int v), (0, .ref (ad 23)), (1, .int x1), (2, .int x2)]) dX0_openAt_23 rfl (by decide) (fun _ => rfl) (fun zq13 eq14 => ?_)
        have tq15 : zq13.toInt = b3_2 + 1 := add_nw eq14 e3_2 (show (Int32.ofInt 1).toInt = 1 by decide) (by omega)
        refine g_goto X (tgt := 2) dX0_openAt_26 (by decide) ?_
        refine g_sub [0, 1, 2, 3] rfl ?_
        exact ih2 zq13 _ tq15 (ul Mq7 31 b3_2.toNat rq3) (by omega) Iq11 frq12 (by omega)
  refine g_sub [0, 1, 2, 3] rfl ?_
  exact lp2 _ 0 _ (show (0 : Int32).toInt = 0 by decide) Mq (by omega) Iq0 frq0 (Nat.lt_succ_self _)
set_option maxHeartbeats 4000000 in
set_option maxRecDepth 4000 in
theorem c_X0_changes (ad : Nat → Nat) (Mq : Mem) (x1 : Int32) {a1 : Int} (t1 : x1.toInt = a1) (x2 : Int32) {a2 : Int} (t2 : x2.toInt = a2) (h1 : 0 ≤ a1 ∧ a1 < 8) (h2 : 0 ≤ a2 ∧ a2 < 8) : Ctr ad yX0_changes cX0_changes 3 (some .int) 1 [.ref (ad 23), .int x1, .int x2] Mq (fun v M' => ∃ (r : Int32) (a : Int), v = some (.int r) ∧ r.toInt = a ∧ (True) ∧ Mq = M') := by
  refine ctr_of (L := [(0, .ref (ad 23)), (1, .int x1), (2, .int x2)]) (by decide) (Nat.le_of_ble_eq_true rfl) rfl ?_
  intro Γ X
  have X : gX Γ cX0_changes RX0 3 (some .int) 1 ad _ := X
  refine g_aload_n X 0 rfl dX0_changes_0 ?_
  refine g_getr X f_X0_41 dX0_changes_1 ?_
  refine g_iload_n X 1 rfl dX0_changes_4 ?_
  refine g_lald X la_31 t1 dX0_changes_5 (by omega) (x := Mq.2 31 a1.toNat) rfl ?_
  refine g_aload_n X 0 rfl dX0_changes_6 ?_
  refine g_getr X f_X0_41 dX0_changes_7 ?_
  refine g_iload_n X 2 rfl dX0_changes_10 ?_
  refine g_lald X la_31 t2 dX0_changes_11 (by omega) (x := Mq.2 31 a2.toNat) rfl ?_
  refine g_lxor X dX0_changes_12 (fun zq1 eq2 => ?_)
  refine g_callS X m_X0_60 (c_J13_bitCount_95d88 ad Mq zq1 rfl) rfl (by decide) (Nat.le_of_ble_eq_true rfl) rfl dX0_changes_13 ?_
  rintro _ _ ⟨rq3, aq4, rfl, tq5, hq6, rfl⟩
  show G Γ Mq 16 [(0, .ref (ad 23)), (1, .int x1), (2, .int x2)] [.int rq3]
  exact g_iret X dX0_changes_16 ⟨_, _, rfl, tq5, trivial, rfl⟩
set_option maxHeartbeats 4000000 in
set_option maxRecDepth 4000 in
theorem c_X0_isNearer (ad : Nat → Nat) (Mq : Mem) (x1 : Int32) {a1 : Int} (t1 : x1.toInt = a1) (x2 : Int32) {a2 : Int} (t2 : x2.toInt = a2) (x3 : Int32) {a3 : Int} (t3 : x3.toInt = a3) (h1 : 0 ≤ a1 ∧ a1 < 8) (h2 : 0 ≤ a2 ∧ a2 < 8) (h3 : 0 ≤ a3 ∧ a3 < 8) : Ctr ad yX0_isNearer cX0_isNearer 5 (some .boolean) 2 [.ref (ad 23), .int x1, .int x2, .int x3] Mq (fun v M' => ∃ (r : Int32) (a : Int), v = some (.int r) ∧ r.toInt = a ∧ (a = 0 ∨ a = 1) ∧ Mq = M') := by
  refine ctr_of (L := [(0, .ref (ad 23)), (1, .int x1), (2, .int x2), (3, .int x3)]) (by decide) (Nat.le_of_ble_eq_true rfl) rfl ?_
  intro Γ X
  have X : gX Γ cX0_isNearer RX0 5 (some .boolean) 2 ad _ := X
  refine g_aload_n X 0 rfl dX0_isNearer_0 ?_
  refine g_iload_n X 1 rfl dX0_isNearer_1 ?_
  refine g_iload_n X 3 rfl dX0_isNearer_2 ?_
  refine g_callV X m_X0_70 (c_X0_changes ad Mq x1 t1 x3 t3 (by omega) (by omega)) rfl (by decide) (Nat.le_of_ble_eq_true rfl) rfl dX0_isNearer_3 ?_
  rintro _ _ ⟨rq1, aq2, rfl, tq3, hq4, rfl⟩
  show G Γ Mq 6 [(0, .ref (ad 23)), (1, .int x1), (2, .int x2), (3, .int x3)] [.int rq1]
  refine g_aload_n X 0 rfl dX0_isNearer_6 ?_
  refine g_iload_n X 2 rfl dX0_isNearer_7 ?_
  refine g_iload_n X 3 rfl dX0_isNearer_8 ?_
  refine g_callV X m_X0_70 (c_X0_changes ad Mq x2 t2 x3 t3 (by omega) (by omega)) rfl (by decide) (Nat.le_of_ble_eq_true rfl) rfl dX0_isNearer_9 ?_
  rintro _ _ ⟨rq5, aq6, rfl, tq7, hq8, rfl⟩
  show G Γ Mq 12 [(0, .ref (ad 23)), (1, .int x1), (2, .int x2), (3, .int x3)] [.int rq5, .int rq1]
  refine g_isub X dX0_isNearer_12 (fun zq9 eq10 => ?_)
  refine g_istore X [(4, .int zq9), (0, .ref (ad 23)), (1, .int x1), (2, .int x2), (3, .int x3)] dX0_isNearer_13 (by decide) rfl ?_
  refine g_iload X 0 rfl dX0_isNearer_15 ?_
  refine g_if_eq X rfl (tgt := 33) dX0_isNearer_17 (by decide) (fun cq12 => ?_) (fun cq12 => ?_)
  · refine g_aload_n X 1 rfl dX0_isNearer_33 ?_
    refine g_getr X f_X0_9 dX0_isNearer_34 ?_
    refine g_iload_n X 2 rfl dX0_isNearer_37 ?_
    refine g_iald X la_24 t1 dX0_isNearer_38 (by omega) (x := Mq.1 24 a1.toNat) rfl ?_
    refine g_aload_n X 1 rfl dX0_isNearer_39 ?_
    refine g_getr X f_X0_9 dX0_isNearer_40 ?_
    refine g_iload_n X 3 rfl dX0_isNearer_43 ?_
    refine g_iald X la_24 t2 dX0_isNearer_44 (by omega) (x := Mq.1 24 a2.toNat) rfl ?_
    refine g_icmp_le X rfl rfl (tgt := 52) dX0_isNearer_45 (by decide) (fun cq13 => ?_) (fun cq13 => ?_)
    · refine g_iconst X 0 dX0_isNearer_52 (by decide) ?_
      exact g_zret X (b01 (show (0 : Int32).toInt = 0 by decide) (by omega)) dX0_isNearer_53 ⟨_, _, rfl, (show (0 : Int32).toInt = 0 by decide), (by omega), rfl⟩
    · refine g_iconst X 1 dX0_isNearer_48 (by decide) ?_
      refine g_goto X (tgt := 53) dX0_isNearer_49 (by decide) ?_
      exact g_zret X (b01 (show (1 : Int32).toInt = 1 by decide) (by omega)) dX0_isNearer_53 ⟨_, _, rfl, (show (1 : Int32).toInt = 1 by decide), (by omega), rfl⟩
  · refine g_iload X 0 rfl dX0_isNearer_20 ?_
    refine g_if_ge X rfl (tgt := 29) dX0_isNearer_22 (by decide) (fun cq14 => ?_) (fun cq14 => ?_)
    · refine g_iconst X 0 dX0_isNearer_29 (by decide) ?_
      refine g_goto X (tgt := 53) dX0_isNearer_30 (by decide) ?_
      exact g_zret X (b01 (show (0 : Int32).toInt = 0 by decide) (by omega)) dX0_isNearer_53 ⟨_, _, rfl, (show (0 : Int32).toInt = 0 by decide), (by omega), rfl⟩
    · refine g_iconst X 1 dX0_isNearer_25 (by decide) ?_
      refine g_goto X (tgt := 53) dX0_isNearer_26 (by decide) ?_
      exact g_zret X (b01 (show (1 : Int32).toInt = 1 by decide) (by omega)) dX0_isNearer_53 ⟨_, _, rfl, (show (1 : Int32).toInt = 1 by decide), (by omega), rfl⟩
set_option maxHeartbeats 4000000 in
set_option maxRecDepth 4000 in
theorem c_X0_masterOf (ad : Nat → Nat) (Mq : Mem) (x1 : Int32) {a1 : Int} (t1 : x1.toInt = a1) (Iq0 : Iv TX Mq) (h1 : 0 ≤ a1 ∧ a1 < (Mq.1 23 2).toInt) : Ctr ad yX0_masterOf cX0_masterOf 4 (some .int) 3 [.ref (ad 23), .int x1] Mq (fun v M' => ∃ (r : Int32) (a : Int), v = some (.int r) ∧ r.toInt = a ∧ (a = -5 ∨ (0 ≤ a ∧ a < (Mq.1 23 2).toInt)) ∧ Mq = M') := by
  refine ctr_of (L := [(0, .ref (ad 23)), (1, .int x1)]) (by decide) (Nat.le_of_ble_eq_true rfl) rfl ?_
  intro Γ X
  have X : gX Γ cX0_masterOf RX0 4 (some .int) 3 ad _ := X
  have hE := ig_23_2 Iq0
  refine g_bipush X (-5) dX0_masterOf_0 (by decide) ?_
  refine g_istore_n X (i := 2) [(2, .int (-5)), (0, .ref (ad 23)), (1, .int x1)] dX0_masterOf_2 rfl (by decide) rfl ?_
  refine g_iconst X 0 dX0_masterOf_3 (by decide) ?_
  refine g_istore_n X (i := 3) [(3, .int 0), (2, .int (-5)), (0, .ref (ad 23)), (1, .int x1)] dX0_masterOf_4 rfl (by decide) rfl ?_
  have lp5 : ∀ n : Nat, ∀ (y3_5 : Int32) (b3_5 : Int), y3_5.toInt = b3_5 → ∀ (y2_5 : Int32) (b2_5 : Int), y2_5.toInt = b2_5 → (0 ≤ b3_5) → (b2_5 = -5 ∨ (0 ≤ b2_5 ∧ b2_5 < (Mq.1 23 2).toInt)) → ((Mq.1 23 2).toInt - b3_5).toNat < n → G Γ Mq 5 [(3, .int y3_5), (2, .int y2_5), (0, .ref (ad 23)), (1, .int x1)] [] := by
    intro n
    induction n with
    | zero => intro y3_5 b3_5 e3_5 y2_5 b2_5 e2_5 i1 i2 hm; exact absurd hm (Nat.not_lt_zero _)
    | succ n ih5 =>
      intro y3_5 b3_5 e3_5 y2_5 b2_5 e2_5 i1 i2 hm5
      refine g_iload_n X 0 rfl dX0_masterOf_5 ?_
      refine g_aload_n X 2 rfl dX0_masterOf_6 ?_
      refine g_geti X f_X0_18 dX0_masterOf_7 (x := Mq.1 23 2) rfl ?_
      have bq1 := ig_23_2 Iq0
      refine g_icmp_ge X e3_5 rfl (tgt := 52) dX0_masterOf_10 (by decide) (fun cq2 => ?_) (fun cq2 => ?_)
      · refine g_iload_n X 1 rfl dX0_masterOf_52 ?_
        exact g_iret X dX0_masterOf_53 ⟨_, _, rfl, e2_5, (by omega), rfl⟩
      · refine g_aload_n X 2 rfl dX0_masterOf_13 ?_
        refine g_getr X f_X0_9 dX0_masterOf_14 ?_
        refine g_iload_n X 0 rfl dX0_masterOf_17 ?_
        refine g_iald X la_24 e3_5 dX0_masterOf_18 (by omega) (x := Mq.1 24 b3_5.toNat) rfl ?_
        refine g_aload_n X 2 rfl dX0_masterOf_19 ?_
        refine g_getr X f_X0_9 dX0_masterOf_20 ?_
        refine g_iload_n X 3 rfl dX0_masterOf_23 ?_
        refine g_iald X la_24 t1 dX0_masterOf_24 (by omega) (x := Mq.1 24 a1.toNat) rfl ?_
        refine g_icmp_ge X rfl rfl (tgt := 46) dX0_masterOf_25 (by decide) (fun cq3 => ?_) (fun cq3 => ?_)
        · refine g_iinc X 0 (fun v => [(3, .int v), (2, .int y2_5), (0, .ref (ad 23)), (1, .int x1)]) dX0_masterOf_46 rfl (by decide) (fun _ => rfl) (fun zq4 eq5 => ?_)
          have tq6 : zq4.toInt = b3_5 + 1 := add_nw eq5 e3_5 (show (Int32.ofInt 1).toInt = 1 by decide) (by omega)
          refine g_goto X (tgt := 5) dX0_masterOf_49 (by decide) ?_
          refine g_sub [0, 1, 2, 3] rfl ?_
          exact ih5 zq4 _ tq6 y2_5 _ e2_5 (by omega) (by omega) (by omega)
        · refine g_iload_n X 1 rfl dX0_masterOf_28 ?_
          refine g_bipush X (-5) dX0_masterOf_29 (by decide) ?_
          refine g_icmp_eq X e2_5 (show ((-5) : Int32).toInt = (-5) by decide) (tgt := 44) dX0_masterOf_31 (by decide) (fun cq7 => ?_) (fun cq7 => ?_)
          · refine g_iload_n X 0 rfl dX0_masterOf_44 ?_
            refine g_istore_n X (i := 2) [(2, .int y3_5), (3, .int y3_5), (0, .ref (ad 23)), (1, .int x1)] dX0_masterOf_45 rfl (by decide) rfl ?_
            refine g_iinc X 1 (fun v => [(3, .int v), (2, .int y3_5), (0, .ref (ad 23)), (1, .int x1)]) dX0_masterOf_46 rfl (by decide) (fun _ => rfl) (fun zq8 eq9 => ?_)
            have tq10 : zq8.toInt = b3_5 + 1 := add_nw eq9 e3_5 (show (Int32.ofInt 1).toInt = 1 by decide) (by omega)
            refine g_goto X (tgt := 5) dX0_masterOf_49 (by decide) ?_
            refine g_sub [0, 1, 2, 3] rfl ?_
            exact ih5 zq8 _ tq10 y3_5 _ e3_5 (by omega) (by omega) (by omega)
          · refine g_aload_n X 2 rfl dX0_masterOf_34 ?_
            refine g_iload_n X 0 rfl dX0_masterOf_35 ?_
            refine g_iload_n X 1 rfl dX0_masterOf_36 ?_
            refine g_iload_n X 3 rfl dX0_masterOf_37 ?_
            refine g_callV X m_X0_66 (c_X0_isNearer ad Mq y3_5 e3_5 y2_5 e2_5 x1 t1 (by omega) (by omega) (by omega)) rfl (by decide) (Nat.le_of_ble_eq_true rfl) rfl dX0_masterOf_38 ?_
            rintro _ _ ⟨rq11, aq12, rfl, tq13, hq14, rfl⟩
            show G Γ Mq 41 [(3, .int y3_5), (2, .int y2_5), (0, .ref (ad 23)), (1, .int x1)] [.int rq11]
            refine g_if_eq X tq13 (tgt := 46) dX0_masterOf_41 (by decide) (fun cq15 => ?_) (fun cq15 => ?_)
            · refine g_iinc X 0 (fun v => [(3, .int v), (2, .int y2_5), (0, .ref (ad 23)), (1, .int x1)]) dX0_masterOf_46 rfl (by decide) (fun _ => rfl) (fun zq16 eq17 => ?_)
              have tq18 : zq16.toInt = b3_5 + 1 := add_nw eq17 e3_5 (show (Int32.ofInt 1).toInt = 1 by decide) (by omega)
              refine g_goto X (tgt := 5) dX0_masterOf_49 (by decide) ?_
              refine g_sub [0, 1, 2, 3] rfl ?_
              exact ih5 zq16 _ tq18 y2_5 _ e2_5 (by omega) (by omega) (by omega)
            · refine g_iload_n X 0 rfl dX0_masterOf_44 ?_
              refine g_istore_n X (i := 2) [(2, .int y3_5), (3, .int y3_5), (0, .ref (ad 23)), (1, .int x1)] dX0_masterOf_45 rfl (by decide) rfl ?_
              refine g_iinc X 1 (fun v => [(3, .int v), (2, .int y3_5), (0, .ref (ad 23)), (1, .int x1)]) dX0_masterOf_46 rfl (by decide) (fun _ => rfl) (fun zq19 eq20 => ?_)
              have tq21 : zq19.toInt = b3_5 + 1 := add_nw eq20 e3_5 (show (Int32.ofInt 1).toInt = 1 by decide) (by omega)
              refine g_goto X (tgt := 5) dX0_masterOf_49 (by decide) ?_
              refine g_sub [0, 1, 2, 3] rfl ?_
              exact ih5 zq19 _ tq21 y3_5 _ e3_5 (by omega) (by omega) (by omega)
  refine g_sub [0, 1, 2, 3] rfl ?_
  exact lp5 _ 0 _ (show (0 : Int32).toInt = 0 by decide) (-5) _ (show ((-5) : Int32).toInt = (-5) by decide) (by omega) (by omega) (Nat.lt_succ_self _)
set_option maxHeartbeats 4000000 in
set_option maxRecDepth 4000 in
theorem c_X0_masterStock (ad : Nat → Nat) (Mq : Mem) (x1 : Int32) {a1 : Int} (t1 : x1.toInt = a1) (Iq0 : Iv TX Mq) (h1 : 0 ≤ a1 ∧ a1 < (Mq.1 23 2).toInt) : Ctr ad yX0_masterStock cX0_masterStock 3 (some .long) 4 [.ref (ad 23), .int x1] Mq (fun v M' => ∃ (r : Int64) (a : Int), v = some (.long r) ∧ r.toInt = a ∧ (True) ∧ Mq = M') := by
  refine ctr_of (L := [(0, .ref (ad 23)), (1, .int x1)]) (by decide) (Nat.le_of_ble_eq_true rfl) rfl ?_
  intro Γ X
  have X : gX Γ cX0_masterStock RX0 3 (some .long) 4 ad _ := X
  have hE := ig_23_2 Iq0
  refine g_aload_n X 0 rfl dX0_masterStock_0 ?_
  refine g_iload_n X 1 rfl dX0_masterStock_1 ?_
  refine g_callV X m_X0_74 (c_X0_masterOf ad Mq x1 t1 Iq0 (by omega)) rfl (by decide) (Nat.le_of_ble_eq_true rfl) rfl dX0_masterStock_2 ?_
  rintro _ _ ⟨rq1, aq2, rfl, tq3, hq4, rfl⟩
  show G Γ Mq 5 [(0, .ref (ad 23)), (1, .int x1)] [.int rq1]
  refine g_istore_n X (i := 2) [(2, .int rq1), (0, .ref (ad 23)), (1, .int x1)] dX0_masterStock_5 rfl (by decide) rfl ?_
  refine g_iload_n X 0 rfl dX0_masterStock_6 ?_
  refine g_bipush X (-5) dX0_masterStock_7 (by decide) ?_
  refine g_icmp_ne X tq3 (show ((-5) : Int32).toInt = (-5) by decide) (tgt := 16) dX0_masterStock_9 (by decide) (fun cq5 => ?_) (fun cq5 => ?_)
  · refine g_aload_n X 1 rfl dX0_masterStock_16 ?_
    refine g_getr X f_X0_41 dX0_masterStock_17 ?_
    refine g_iload_n X 0 rfl dX0_masterStock_20 ?_
    refine g_lald X la_31 tq3 dX0_masterStock_21 (by omega) (x := Mq.2 31 aq2.toNat) rfl ?_
    exact g_lret X dX0_masterStock_22 ⟨_, _, rfl, rfl, trivial, rfl⟩
  · refine g_lconst X 0 dX0_masterStock_12 (by decide) ?_
    refine g_goto X (tgt := 22) dX0_masterStock_13 (by decide) ?_
    exact g_lret X dX0_masterStock_22 ⟨_, _, rfl, (show (0 : Int64).toInt = 0 by decide), trivial, rfl⟩
set_option maxHeartbeats 4000000 in
set_option maxRecDepth 4000 in
theorem c_X0_stockAround (ad : Nat → Nat) (Mq : Mem) (x1 : Int32) {a1 : Int} (t1 : x1.toInt = a1) (Iq0 : Iv TX Mq) (h1 : 0 ≤ a1 ∧ a1 < (Mq.1 23 2).toInt) : Ctr ad yX0_stockAround cX0_stockAround 5 (some .long) 5 [.ref (ad 23), .int x1] Mq (fun v M' => ∃ (r : Int64) (a : Int), v = some (.long r) ∧ r.toInt = a ∧ (True) ∧ Mq = M') := by
  refine ctr_of (L := [(0, .ref (ad 23)), (1, .int x1)]) (by decide) (Nat.le_of_ble_eq_true rfl) rfl ?_
  intro Γ X
  have X : gX Γ cX0_stockAround RX0 5 (some .long) 5 ad _ := X
  have hE := ig_23_2 Iq0
  refine g_aload_n X 0 rfl dX0_stockAround_0 ?_
  refine g_getr X f_X0_41 dX0_stockAround_1 ?_
  refine g_iload_n X 1 rfl dX0_stockAround_4 ?_
  refine g_lald X la_31 t1 dX0_stockAround_5 (by omega) (x := Mq.2 31 a1.toNat) rfl ?_
  refine g_aload_n X 0 rfl dX0_stockAround_6 ?_
  refine g_iload_n X 1 rfl dX0_stockAround_7 ?_
  refine g_callV X m_X0_78 (c_X0_masterStock ad Mq x1 t1 Iq0 (by omega)) rfl (by decide) (Nat.le_of_ble_eq_true rfl) rfl dX0_stockAround_8 ?_
  rintro _ _ ⟨rq1, aq2, rfl, tq3, hq4, rfl⟩
  show G Γ Mq 11 [(0, .ref (ad 23)), (1, .int x1)] [.long rq1, .long (Mq.2 31 a1.toNat)]
  refine g_lor X dX0_stockAround_11 (fun zq5 eq6 => ?_)
  refine g_lstore_n X (i := 2) [(2, .long zq5), (0, .ref (ad 23)), (1, .int x1)] dX0_stockAround_12 rfl (by decide) rfl ?_
  refine g_iconst X 0 dX0_stockAround_13 (by decide) ?_
  refine g_istore X [(4, .int 0), (2, .long zq5), (0, .ref (ad 23)), (1, .int x1)] dX0_stockAround_14 (by decide) rfl ?_
  have lp16 : ∀ n : Nat, ∀ (y4_16 : Int32) (b4_16 : Int), y4_16.toInt = b4_16 → ∀ (y2_16 : Int64) (b2_16 : Int), y2_16.toInt = b2_16 → (0 ≤ b4_16) → ((Mq.1 23 2).toInt - b4_16).toNat < n → G Γ Mq 16 [(4, .int y4_16), (2, .long y2_16), (0, .ref (ad 23)), (1, .int x1)] [] := by
    intro n
    induction n with
    | zero => intro y4_16 b4_16 e4_16 y2_16 b2_16 e2_16 i1 hm; exact absurd hm (Nat.not_lt_zero _)
    | succ n ih16 =>
      intro y4_16 b4_16 e4_16 y2_16 b2_16 e2_16 i1 hm16
      refine g_iload X 0 rfl dX0_stockAround_16 ?_
      refine g_aload_n X 2 rfl dX0_stockAround_18 ?_
      refine g_geti X f_X0_18 dX0_stockAround_19 (x := Mq.1 23 2) rfl ?_
      have bq7 := ig_23_2 Iq0
      refine g_icmp_ge X e4_16 rfl (tgt := 51) dX0_stockAround_22 (by decide) (fun cq8 => ?_) (fun cq8 => ?_)
      · refine g_lload_n X 1 rfl dX0_stockAround_51 ?_
        exact g_lret X dX0_stockAround_52 ⟨_, _, rfl, e2_16, trivial, rfl⟩
      · refine g_aload_n X 2 rfl dX0_stockAround_25 ?_
        refine g_iload X 0 rfl dX0_stockAround_26 ?_
        refine g_callV X m_X0_74 (c_X0_masterOf ad Mq y4_16 e4_16 Iq0 (by omega)) rfl (by decide) (Nat.le_of_ble_eq_true rfl) rfl dX0_stockAround_28 ?_
        rintro _ _ ⟨rq9, aq10, rfl, tq11, hq12, rfl⟩
        show G Γ Mq 31 [(4, .int y4_16), (2, .long y2_16), (0, .ref (ad 23)), (1, .int x1)] [.int rq9]
        refine g_iload_n X 3 rfl dX0_stockAround_31 ?_
        refine g_icmp_ne X tq11 t1 (tgt := 45) dX0_stockAround_32 (by decide) (fun cq13 => ?_) (fun cq13 => ?_)
        · refine g_iinc X 0 (fun v => [(4, .int v), (2, .long y2_16), (0, .ref (ad 23)), (1, .int x1)]) dX0_stockAround_45 rfl (by decide) (fun _ => rfl) (fun zq14 eq15 => ?_)
          have tq16 : zq14.toInt = b4_16 + 1 := add_nw eq15 e4_16 (show (Int32.ofInt 1).toInt = 1 by decide) (by omega)
          refine g_goto X (tgt := 16) dX0_stockAround_48 (by decide) ?_
          refine g_sub [0, 1, 2, 3] rfl ?_
          exact ih16 zq14 _ tq16 y2_16 _ e2_16 (by omega) (by omega)
        · refine g_lload_n X 1 rfl dX0_stockAround_35 ?_
          refine g_aload_n X 2 rfl dX0_stockAround_36 ?_
          refine g_getr X f_X0_41 dX0_stockAround_37 ?_
          refine g_iload X 0 rfl dX0_stockAround_40 ?_
          refine g_lald X la_31 e4_16 dX0_stockAround_42 (by omega) (x := Mq.2 31 b4_16.toNat) rfl ?_
          refine g_lor X dX0_stockAround_43 (fun zq17 eq18 => ?_)
          refine g_lstore_n X (i := 2) [(2, .long zq17), (4, .int y4_16), (0, .ref (ad 23)), (1, .int x1)] dX0_stockAround_44 rfl (by decide) rfl ?_
          refine g_iinc X 1 (fun v => [(4, .int v), (2, .long zq17), (0, .ref (ad 23)), (1, .int x1)]) dX0_stockAround_45 rfl (by decide) (fun _ => rfl) (fun zq19 eq20 => ?_)
          have tq21 : zq19.toInt = b4_16 + 1 := add_nw eq20 e4_16 (show (Int32.ofInt 1).toInt = 1 by decide) (by omega)
          refine g_goto X (tgt := 16) dX0_stockAround_48 (by decide) ?_
          refine g_sub [0, 1, 2, 3] rfl ?_
          exact ih16 zq19 _ tq21 zq17 _ rfl (by omega) (by omega)
  refine g_sub [0, 1, 2, 3] rfl ?_
  exact lp16 _ 0 _ (show (0 : Int32).toInt = 0 by decide) zq5 _ rfl (by omega) (Nat.lt_succ_self _)
set_option maxHeartbeats 4000000 in
set_option maxRecDepth 4000 in
theorem c_X0_commonStock (ad : Nat → Nat) (Mq : Mem) (Iq0 : Iv TX Mq) : Ctr ad yX0_commonStock cX0_commonStock 4 (some .long) 0 [.ref (ad 23)] Mq (fun v M' => ∃ (r : Int64) (a : Int), v = some (.long r) ∧ r.toInt = a ∧ (True) ∧ Mq = M') := by
  refine ctr_of (L := [(0, .ref (ad 23))]) (by decide) (Nat.le_of_ble_eq_true rfl) rfl ?_
  intro Γ X
  have X : gX Γ cX0_commonStock RX0 4 (some .long) 0 ad _ := X
  have hE := ig_23_2 Iq0
  refine g_aload_n X 0 rfl dX0_commonStock_0 ?_
  refine g_geti X f_X0_18 dX0_commonStock_1 (x := Mq.1 23 2) rfl ?_
  have bq1 := ig_23_2 Iq0
  refine g_if_ne X rfl (tgt := 9) dX0_commonStock_4 (by decide) (fun cq2 => ?_) (fun cq2 => ?_)
  · refine g_aload_n X 0 rfl dX0_commonStock_9 ?_
    refine g_getr X f_X0_41 dX0_commonStock_10 ?_
    refine g_iconst X 0 dX0_commonStock_13 (by decide) ?_
    refine g_lald X la_31 (show (0 : Int32).toInt = 0 by decide) dX0_commonStock_14 (by omega) (x := Mq.2 31 0) rfl ?_
    refine g_lstore_n X (i := 1) [(1, .long (Mq.2 31 0)), (0, .ref (ad 23))] dX0_commonStock_15 rfl (by decide) rfl ?_
    refine g_iconst X 1 dX0_commonStock_16 (by decide) ?_
    refine g_istore_n X (i := 3) [(3, .int 1), (1, .long (Mq.2 31 0)), (0, .ref (ad 23))] dX0_commonStock_17 rfl (by decide) rfl ?_
    have lp18 : ∀ n : Nat, ∀ (y3_18 : Int32) (b3_18 : Int), y3_18.toInt = b3_18 → ∀ (y1_18 : Int64) (b1_18 : Int), y1_18.toInt = b1_18 → (1 ≤ b3_18) → ((Mq.1 23 2).toInt - b3_18).toNat < n → G Γ Mq 18 [(3, .int y3_18), (1, .long y1_18), (0, .ref (ad 23))] [] := by
      intro n
      induction n with
      | zero => intro y3_18 b3_18 e3_18 y1_18 b1_18 e1_18 i1 hm; exact absurd hm (Nat.not_lt_zero _)
      | succ n ih18 =>
        intro y3_18 b3_18 e3_18 y1_18 b1_18 e1_18 i1 hm18
        refine g_iload_n X 0 rfl dX0_commonStock_18 ?_
        refine g_aload_n X 2 rfl dX0_commonStock_19 ?_
        refine g_geti X f_X0_18 dX0_commonStock_20 (x := Mq.1 23 2) rfl ?_
        have bq3 := ig_23_2 Iq0
        refine g_icmp_ge X e3_18 rfl (tgt := 41) dX0_commonStock_23 (by decide) (fun cq4 => ?_) (fun cq4 => ?_)
        · refine g_lload_n X 1 rfl dX0_commonStock_41 ?_
          exact g_lret X dX0_commonStock_42 ⟨_, _, rfl, e1_18, trivial, rfl⟩
        · refine g_lload_n X 1 rfl dX0_commonStock_26 ?_
          refine g_aload_n X 2 rfl dX0_commonStock_27 ?_
          refine g_getr X f_X0_41 dX0_commonStock_28 ?_
          refine g_iload_n X 0 rfl dX0_commonStock_31 ?_
          refine g_lald X la_31 e3_18 dX0_commonStock_32 (by omega) (x := Mq.2 31 b3_18.toNat) rfl ?_
          refine g_land X dX0_commonStock_33 (fun zq5 eq6 => ?_)
          refine g_lstore_n X (i := 1) [(1, .long zq5), (3, .int y3_18), (0, .ref (ad 23))] dX0_commonStock_34 rfl (by decide) rfl ?_
          refine g_iinc X 1 (fun v => [(3, .int v), (1, .long zq5), (0, .ref (ad 23))]) dX0_commonStock_35 rfl (by decide) (fun _ => rfl) (fun zq7 eq8 => ?_)
          have tq9 : zq7.toInt = b3_18 + 1 := add_nw eq8 e3_18 (show (Int32.ofInt 1).toInt = 1 by decide) (by omega)
          refine g_goto X (tgt := 18) dX0_commonStock_38 (by decide) ?_
          refine g_sub [0, 1, 2] rfl ?_
          exact ih18 zq7 _ tq9 zq5 _ rfl (by omega) (by omega)
    refine g_sub [0, 1, 2] rfl ?_
    exact lp18 _ 1 _ (show (1 : Int32).toInt = 1 by decide) (Mq.2 31 0) _ rfl (by omega) (Nat.lt_succ_self _)
  · refine g_lconst X 0 dX0_commonStock_7 (by decide) ?_
    exact g_lret X dX0_commonStock_8 ⟨_, _, rfl, (show (0 : Int64).toInt = 0 by decide), trivial, rfl⟩
abbrev W_X0_villageWithMost : List (Nat × Nat) := [(32, 99)]
set_option maxHeartbeats 4000000 in
set_option maxRecDepth 4000 in
theorem c_X0_villageWithMost (ad : Nat → Nat) (Mq : Mem) (x1 : Int32) {a1 : Int} (t1 : x1.toInt = a1) (Iq0 : Iv TX Mq) : Ctr ad yX0_villageWithMost cX0_villageWithMost 4 (some .int) 1 [.ref (ad 23), .int x1] Mq (fun v M' => ∃ (r : Int32) (a : Int), v = some (.int r) ∧ r.toInt = a ∧ (True) ∧ Iv TX M' ∧ Fr W_X0_villageWithMost Mq M') := by
  refine ctr_of (L := [(0, .ref (ad 23)), (1, .int x1)]) (by decide) (Nat.le_of_ble_eq_true rfl) rfl ?_
  intro Γ X
  have X : gX Γ cX0_villageWithMost RX0 4 (some .int) 1 ad _ := X
  have frq0 : Fr W_X0_villageWithMost Mq Mq := Fr.rf
  refine g_aload_n X 0 rfl dX0_villageWithMost_0 ?_
  refine g_getr X f_X0_45 dX0_villageWithMost_1 ?_
  refine g_iconst X 0 dX0_villageWithMost_4 (by decide) ?_
  refine g_callS X m_X0_48 (c_J7_fill_53178_32 ad Mq 0 (show (0 : Int32).toInt = 0 by decide) Iq0) rfl (by decide) (Nat.le_of_ble_eq_true rfl) rfl dX0_villageWithMost_5 ?_
  rintro _ Mq5 ⟨rfl, hq4, Iq6, frq7⟩
  have frq8 : Fr W_X0_villageWithMost Mq Mq5 := frq0.trans frq7 rfl
  show G Γ Mq5 8 [(0, .ref (ad 23)), (1, .int x1)] []
  refine g_iconst X 0 dX0_villageWithMost_8 (by decide) ?_
  refine g_istore_n X (i := 2) [(2, .int 0), (0, .ref (ad 23)), (1, .int x1)] dX0_villageWithMost_9 rfl (by decide) rfl ?_
  have lp10 : ∀ n : Nat, ∀ (y2_10 : Int32) (b2_10 : Int), y2_10.toInt = b2_10 → ∀ (M_10 : Mem), (0 ≤ b2_10) → (Iv TX M_10) → (Fr W_X0_villageWithMost Mq M_10) → ((Mq.1 23 2).toInt - b2_10).toNat < n → G Γ M_10 10 [(2, .int y2_10), (0, .ref (ad 23)), (1, .int x1)] [] := by
    intro n
    induction n with
    | zero => intro y2_10 b2_10 e2_10 M_10 i1 I_10 fr_10 hm; exact absurd hm (Nat.not_lt_zero _)
    | succ n ih10 =>
      intro y2_10 b2_10 e2_10 M_10 i1 I_10 fr_10 hm10
      have q2 : (M_10.1 23 2).toInt = (Mq.1 23 2).toInt := congrArg Int32.toInt (fr_10.at 23 2 rfl)
      refine g_iload_n X 0 rfl dX0_villageWithMost_10 ?_
      refine g_aload_n X 1 rfl dX0_villageWithMost_11 ?_
      refine g_geti X f_X0_18 dX0_villageWithMost_12 (x := M_10.1 23 2) rfl ?_
      have bq9 := ig_23_2 I_10
      refine g_icmp_ge X e2_10 rfl (tgt := 48) dX0_villageWithMost_15 (by decide) (fun cq10 => ?_) (fun cq10 => ?_)
      · refine g_iconst X 0 dX0_villageWithMost_48 (by decide) ?_
        refine g_istore_n X (i := 2) [(2, .int 0), (0, .ref (ad 23)), (1, .int x1)] dX0_villageWithMost_49 rfl (by decide) rfl ?_
        refine g_iconst X 1 dX0_villageWithMost_50 (by decide) ?_
        refine g_istore_n X (i := 3) [(3, .int 1), (2, .int 0), (0, .ref (ad 23)), (1, .int x1)] dX0_villageWithMost_51 rfl (by decide) rfl ?_
        have lp52 : ∀ n : Nat, ∀ (y3_52 : Int32) (b3_52 : Int), y3_52.toInt = b3_52 → ∀ (y2_52 : Int32) (b2_52 : Int), y2_52.toInt = b2_52 → (1 ≤ b3_52 ∧ b3_52 ≤ 10) → (0 ≤ b2_52 ∧ b2_52 ≤ 9) → (10 - b3_52).toNat < n → G Γ M_10 52 [(3, .int y3_52), (2, .int y2_52), (0, .ref (ad 23)), (1, .int x1)] [] := by
          intro n
          induction n with
          | zero => intro y3_52 b3_52 e3_52 y2_52 b2_52 e2_52 i1 i2 hm; exact absurd hm (Nat.not_lt_zero _)
          | succ n ih52 =>
            intro y3_52 b3_52 e3_52 y2_52 b2_52 e2_52 i1 i2 hm52
            refine g_iload_n X 0 rfl dX0_villageWithMost_52 ?_
            refine g_bipush X 10 dX0_villageWithMost_53 (by decide) ?_
            refine g_icmp_ge X e3_52 (show (10 : Int32).toInt = 10 by decide) (tgt := 81) dX0_villageWithMost_55 (by decide) (fun cq11 => ?_) (fun cq11 => ?_)
            · refine g_aload_n X 2 rfl dX0_villageWithMost_81 ?_
              refine g_getr X f_X0_45 dX0_villageWithMost_82 ?_
              refine g_iload_n X 1 rfl dX0_villageWithMost_85 ?_
              refine g_iald X la_32 e2_52 dX0_villageWithMost_86 (by omega) (x := M_10.1 32 b2_52.toNat) rfl ?_
              refine g_if_ne X rfl (tgt := 95) dX0_villageWithMost_87 (by decide) (fun cq12 => ?_) (fun cq12 => ?_)
              · refine g_iload_n X 1 rfl dX0_villageWithMost_95 ?_
                exact g_iret X dX0_villageWithMost_96 ⟨_, _, rfl, e2_52, trivial, I_10, fr_10⟩
              · refine g_bipush X (-5) dX0_villageWithMost_90 (by decide) ?_
                refine g_goto X (tgt := 96) dX0_villageWithMost_92 (by decide) ?_
                exact g_iret X dX0_villageWithMost_96 ⟨_, _, rfl, (show ((-5) : Int32).toInt = (-5) by decide), trivial, I_10, fr_10⟩
            · refine g_aload_n X 2 rfl dX0_villageWithMost_58 ?_
              refine g_getr X f_X0_45 dX0_villageWithMost_59 ?_
              refine g_iload_n X 0 rfl dX0_villageWithMost_62 ?_
              refine g_iald X la_32 e3_52 dX0_villageWithMost_63 (by omega) (x := M_10.1 32 b3_52.toNat) rfl ?_
              refine g_aload_n X 2 rfl dX0_villageWithMost_64 ?_
              refine g_getr X f_X0_45 dX0_villageWithMost_65 ?_
              refine g_iload_n X 1 rfl dX0_villageWithMost_68 ?_
              refine g_iald X la_32 e2_52 dX0_villageWithMost_69 (by omega) (x := M_10.1 32 b2_52.toNat) rfl ?_
              refine g_icmp_le X rfl rfl (tgt := 75) dX0_villageWithMost_70 (by decide) (fun cq13 => ?_) (fun cq13 => ?_)
              · refine g_iinc X 0 (fun v => [(3, .int v), (2, .int y2_52), (0, .ref (ad 23)), (1, .int x1)]) dX0_villageWithMost_75 rfl (by decide) (fun _ => rfl) (fun zq14 eq15 => ?_)
                have tq16 : zq14.toInt = b3_52 + 1 := add_nw eq15 e3_52 (show (Int32.ofInt 1).toInt = 1 by decide) (by omega)
                refine g_goto X (tgt := 52) dX0_villageWithMost_78 (by decide) ?_
                refine g_sub [0, 1, 2, 3] rfl ?_
                exact ih52 zq14 _ tq16 y2_52 _ e2_52 (by omega) (by omega) (by omega)
              · refine g_iload_n X 0 rfl dX0_villageWithMost_73 ?_
                refine g_istore_n X (i := 2) [(2, .int y3_52), (3, .int y3_52), (0, .ref (ad 23)), (1, .int x1)] dX0_villageWithMost_74 rfl (by decide) rfl ?_
                refine g_iinc X 1 (fun v => [(3, .int v), (2, .int y3_52), (0, .ref (ad 23)), (1, .int x1)]) dX0_villageWithMost_75 rfl (by decide) (fun _ => rfl) (fun zq17 eq18 => ?_)
                have tq19 : zq17.toInt = b3_52 + 1 := add_nw eq18 e3_52 (show (Int32.ofInt 1).toInt = 1 by decide) (by omega)
                refine g_goto X (tgt := 52) dX0_villageWithMost_78 (by decide) ?_
                refine g_sub [0, 1, 2, 3] rfl ?_
                exact ih52 zq17 _ tq19 y3_52 _ e3_52 (by omega) (by omega) (by omega)
        refine g_sub [0, 1, 2, 3] rfl ?_
        exact lp52 _ 1 _ (show (1 : Int32).toInt = 1 by decide) 0 _ (show (0 : Int32).toInt = 0 by decide) (by omega) (by omega) (Nat.lt_succ_self _)
      · refine g_aload_n X 1 rfl dX0_villageWithMost_18 ?_
        refine g_getr X f_X0_45 dX0_villageWithMost_19 ?_
        refine g_aload_n X 1 rfl dX0_villageWithMost_22 ?_
        refine g_getr X f_X0_15 dX0_villageWithMost_23 ?_
        refine g_iload_n X 0 rfl dX0_villageWithMost_26 ?_
        refine g_iald X la_25 e2_10 dX0_villageWithMost_27 (by omega) (x := M_10.1 25 b2_10.toNat) rfl ?_
        have bq20 := ig_25 I_10 b2_10.toNat (by omega)
        refine g_dup2 X dX0_villageWithMost_28 rfl rfl ?_
        refine g_iald X la_32 rfl dX0_villageWithMost_29 (by omega) (x := M_10.1 32 (((M_10.1 25 b2_10.toNat).toInt).toNat)) rfl ?_
        refine g_aload_n X 1 rfl dX0_villageWithMost_30 ?_
        refine g_getr X f_X0_41 dX0_villageWithMost_31 ?_
        refine g_iload_n X 0 rfl dX0_villageWithMost_34 ?_
        refine g_lald X la_31 e2_10 dX0_villageWithMost_35 (by omega) (x := M_10.2 31 b2_10.toNat) rfl ?_
        refine g_iload_n X 2 rfl dX0_villageWithMost_36 ?_
        refine g_callS X m_X0_82 (c_X6_bit ad M_10 (M_10.2 31 b2_10.toNat) rfl x1 t1) rfl (by decide) (Nat.le_of_ble_eq_true rfl) rfl dX0_villageWithMost_37 ?_
        rintro _ _ ⟨rq21, aq22, rfl, tq23, hq24, rfl⟩
        show G Γ M_10 40 [(2, .int y2_10), (0, .ref (ad 23)), (1, .int x1)] [.int rq21, .int (M_10.1 32 (((M_10.1 25 b2_10.toNat).toInt).toNat)), .int (M_10.1 25 b2_10.toNat), .ref (ad 32)]
        refine g_iadd X dX0_villageWithMost_40 (fun zq25 eq26 => ?_)
        refine g_iast X la_32 rfl dX0_villageWithMost_41 (by omega) ?_
        have Iq28 : Iv TX (ui M_10 32 (((M_10.1 25 b2_10.toNat).toInt).toNat) zq25) := I_10.otherA rfl
        have frq29 : Fr W_X0_villageWithMost Mq (ui M_10 32 (((M_10.1 25 b2_10.toNat).toInt).toNat) zq25) := fr_10.ui rfl
        refine g_iinc X 0 (fun v => [(2, .int v), (0, .ref (ad 23)), (1, .int x1)]) dX0_villageWithMost_42 rfl (by decide) (fun _ => rfl) (fun zq30 eq31 => ?_)
        have tq32 : zq30.toInt = b2_10 + 1 := add_nw eq31 e2_10 (show (Int32.ofInt 1).toInt = 1 by decide) (by omega)
        refine g_goto X (tgt := 10) dX0_villageWithMost_45 (by decide) ?_
        refine g_sub [0, 1, 2] rfl ?_
        exact ih10 zq30 _ tq32 (ui M_10 32 (((M_10.1 25 b2_10.toNat).toInt).toNat) zq25) (by omega) Iq28 frq29 (by omega)
  refine g_sub [0, 1, 2] rfl ?_
  exact lp10 _ 0 _ (show (0 : Int32).toInt = 0 by decide) Mq5 (by omega) Iq6 frq8 (Nat.lt_succ_self _)
end
