section
set_option maxHeartbeats 4000000 in
set_option maxRecDepth 4000 in
theorem c_X3_isRecording (ad : Nat → Nat) (Mq : Mem) (x1 : Int32) {a1 : Int} (t1 : x1.toInt = a1) : Ctr ad yX3_isRecording cX3_isRecording 2 (some .boolean) 0 [.ref (ad 40), .int x1] Mq (fun v M' => ∃ (r : Int32) (a : Int), v = some (.int r) ∧ r.toInt = a ∧ ((a = 1 ∧ (0 ≤ a1 ∧ a1 < (Mq.1 40 5).toInt)) ∨ (a = 0 ∧ ¬ (0 ≤ a1 ∧ a1 < (Mq.1 40 5).toInt))) ∧ Mq = M') := by
  refine ctr_of (L := [(0, .ref (ad 40)), (1, .int x1)]) (by decide) (Nat.le_of_ble_eq_true rfl) rfl ?_
  intro Γ X
  have X : gX Γ cX3_isRecording RX3 2 (some .boolean) 0 ad _ := X
  refine g_iload_n X 1 rfl dX3_isRecording_0 ?_
  refine g_if_lt X t1 (tgt := 16) dX3_isRecording_1 (by decide) (fun cq1 => ?_) (fun cq1 => ?_)
  · refine g_iconst X 0 dX3_isRecording_16 (by decide) ?_
    exact g_zret X (b01 (show (0 : Int32).toInt = 0 by decide) (by omega)) dX3_isRecording_17 ⟨_, _, rfl, (show (0 : Int32).toInt = 0 by decide), (by omega), rfl⟩
  · refine g_iload_n X 1 rfl dX3_isRecording_4 ?_
    refine g_aload_n X 0 rfl dX3_isRecording_5 ?_
    refine g_geti X f_X3_27 dX3_isRecording_6 (x := Mq.1 40 5) rfl ?_
    refine g_icmp_ge X t1 rfl (tgt := 16) dX3_isRecording_9 (by decide) (fun cq2 => ?_) (fun cq2 => ?_)
    · refine g_iconst X 0 dX3_isRecording_16 (by decide) ?_
      exact g_zret X (b01 (show (0 : Int32).toInt = 0 by decide) (by omega)) dX3_isRecording_17 ⟨_, _, rfl, (show (0 : Int32).toInt = 0 by decide), (by omega), rfl⟩
    · refine g_iconst X 1 dX3_isRecording_12 (by decide) ?_
      refine g_goto X (tgt := 17) dX3_isRecording_13 (by decide) ?_
      exact g_zret X (b01 (show (1 : Int32).toInt = 1 by decide) (by omega)) dX3_isRecording_17 ⟨_, _, rfl, (show (1 : Int32).toInt = 1 by decide), (by omega), rfl⟩
abbrev W_X3_addRecording_46 : List (Nat × Nat) := [(40, 5), (41, 99), (42, 99), (43, 99), (44, 99), (45, 99)]
set_option maxHeartbeats 4000000 in
set_option maxRecDepth 4000 in
theorem c_X3_addRecording_46 (ad : Nat → Nat) (Mq : Mem) (x1 : Int32) {a1 : Int} (t1 : x1.toInt = a1) (x2 : Int32) {a2 : Int} (t2 : x2.toInt = a2) (x3 : Int32) {a3 : Int} (t3 : x3.toInt = a3) (x5 : Int32) {a5 : Int} (t5 : x5.toInt = a5) (Iq0 : Iv TX Mq) (h1 : (Mq.1 40 5).toInt < 12) (h2 : 0 ≤ a2 ∧ a2 ≤ 7) (h3 : 0 ≤ a5 ∧ a5 ≤ 24) : Ctr ad yX3_addRecording cX3_addRecording 6 (some .int) 1 [.ref (ad 40), .int x1, .int x2, .int x3, .ref (ad 46), .int x5] Mq (fun v M' => ∃ (r : Int32) (a : Int), v = some (.int r) ∧ r.toInt = a ∧ (True) ∧ Iv TX M' ∧ Fr W_X3_addRecording_46 Mq M') := by
  refine ctr_of (L := [(0, .ref (ad 40)), (1, .int x1), (2, .int x2), (3, .int x3), (4, .ref (ad 46)), (5, .int x5)]) (by decide) (Nat.le_of_ble_eq_true rfl) rfl ?_
  intro Γ X
  have X : gX Γ cX3_addRecording RX3 6 (some .int) 1 ad _ := X
  have frq0 : Fr W_X3_addRecording_46 Mq Mq := Fr.rf
  have hR := ig_40_5 Iq0
  refine g_aload_n X 0 rfl dX3_addRecording_0 ?_
  refine g_getr X f_X3_9 dX3_addRecording_1 ?_
  refine g_aload_n X 0 rfl dX3_addRecording_4 ?_
  refine g_geti X f_X3_27 dX3_addRecording_5 (x := Mq.1 40 5) rfl ?_
  have bq1 := ig_40_5 Iq0
  refine g_iload_n X 1 rfl dX3_addRecording_8 ?_
  refine g_iast X la_41 rfl dX3_addRecording_9 (by omega) ?_
  have Iq2 : Iv TX (ui Mq 41 (((Mq.1 40 5).toInt).toNat) x1) := Iq0.otherA rfl
  have frq3 : Fr W_X3_addRecording_46 Mq (ui Mq 41 (((Mq.1 40 5).toInt).toNat) x1) := frq0.ui rfl
  refine g_aload_n X 0 rfl dX3_addRecording_10 ?_
  refine g_getr X f_X3_15 dX3_addRecording_11 ?_
  refine g_aload_n X 0 rfl dX3_addRecording_14 ?_
  refine g_geti X f_X3_27 dX3_addRecording_15 (x := Mq.1 40 5) rfl ?_
  have bq4 := ig_40_5 Iq0
  refine g_iload_n X 2 rfl dX3_addRecording_18 ?_
  refine g_iast X la_42 rfl dX3_addRecording_19 (by omega) ?_
  have Iq5 : Iv TX (ui (ui Mq 41 (((Mq.1 40 5).toInt).toNat) x1) 42 (((Mq.1 40 5).toInt).toNat) x2) := Iq2.putA 0 7 t2 (by omega) rfl
  have frq6 : Fr W_X3_addRecording_46 Mq (ui (ui Mq 41 (((Mq.1 40 5).toInt).toNat) x1) 42 (((Mq.1 40 5).toInt).toNat) x2) := frq3.ui rfl
  refine g_aload_n X 0 rfl dX3_addRecording_20 ?_
  refine g_getr X f_X3_18 dX3_addRecording_21 ?_
  refine g_aload_n X 0 rfl dX3_addRecording_24 ?_
  refine g_geti X f_X3_27 dX3_addRecording_25 (x := Mq.1 40 5) rfl ?_
  have bq7 := ig_40_5 Iq0
  refine g_iload_n X 3 rfl dX3_addRecording_28 ?_
  refine g_iast X la_43 rfl dX3_addRecording_29 (by omega) ?_
  have Iq8 : Iv TX (ui (ui (ui Mq 41 (((Mq.1 40 5).toInt).toNat) x1) 42 (((Mq.1 40 5).toInt).toNat) x2) 43 (((Mq.1 40 5).toInt).toNat) x3) := Iq5.otherA rfl
  have frq9 : Fr W_X3_addRecording_46 Mq (ui (ui (ui Mq 41 (((Mq.1 40 5).toInt).toNat) x1) 42 (((Mq.1 40 5).toInt).toNat) x2) 43 (((Mq.1 40 5).toInt).toNat) x3) := frq6.ui rfl
  refine g_aload_n X 0 rfl dX3_addRecording_30 ?_
  refine g_getr X f_X3_21 dX3_addRecording_31 ?_
  refine g_aload_n X 0 rfl dX3_addRecording_34 ?_
  refine g_geti X f_X3_27 dX3_addRecording_35 (x := Mq.1 40 5) rfl ?_
  have bq10 := ig_40_5 Iq0
  refine g_iload X 5 rfl dX3_addRecording_38 ?_
  refine g_iast X la_44 rfl dX3_addRecording_40 (by omega) ?_
  have Iq11 : Iv TX (ui (ui (ui (ui Mq 41 (((Mq.1 40 5).toInt).toNat) x1) 42 (((Mq.1 40 5).toInt).toNat) x2) 43 (((Mq.1 40 5).toInt).toNat) x3) 44 (((Mq.1 40 5).toInt).toNat) x5) := Iq8.putA 0 24 t5 (by omega) rfl
  have frq12 : Fr W_X3_addRecording_46 Mq (ui (ui (ui (ui Mq 41 (((Mq.1 40 5).toInt).toNat) x1) 42 (((Mq.1 40 5).toInt).toNat) x2) 43 (((Mq.1 40 5).toInt).toNat) x3) 44 (((Mq.1 40 5).toInt).toNat) x5) := frq9.ui rfl
  refine g_aload X 4 rfl dX3_addRecording_41 ?_
  refine g_iconst X 0 dX3_addRecording_43 (by decide) ?_
  refine g_aload_n X 0 rfl dX3_addRecording_44 ?_
  refine g_getr X f_X3_24 dX3_addRecording_45 ?_
  refine g_aload_n X 0 rfl dX3_addRecording_48 ?_
  refine g_geti X f_X3_27 dX3_addRecording_49 (x := Mq.1 40 5) rfl ?_
  have bq13 := ig_40_5 Iq0
  refine g_bipush X 24 dX3_addRecording_52 (by decide) ?_
  refine g_imul X dX3_addRecording_54 (fun zq14 eq15 => ?_)
  have tq16 : zq14.toInt = ((Mq.1 40 5).toInt) * 24 := mul_nw eq15 rfl (show (24 : Int32).toInt = 24 by decide) (by omega)
  refine g_iload X 5 rfl dX3_addRecording_55 ?_
  refine g_copy X (show (0 : Int32).toInt = 0 by decide) tq16 t5 la_46 la_45 cp_X3_31 cp_ok.1 cp_ok.2.1 cp_ok.2.2 (by decide) (Nat.le_of_ble_eq_true rfl) (by omega) dX3_addRecording_57 ?_
  have Iq17 : Iv TX (uc (ui (ui (ui (ui Mq 41 (((Mq.1 40 5).toInt).toNat) x1) 42 (((Mq.1 40 5).toInt).toNat) x2) 43 (((Mq.1 40 5).toInt).toNat) x3) 44 (((Mq.1 40 5).toInt).toNat) x5) 46 0 45 ((((Mq.1 40 5).toInt) * 24).toNat) a5.toNat) := Iq11.copyO rfl
  have frq18 : Fr W_X3_addRecording_46 Mq (uc (ui (ui (ui (ui Mq 41 (((Mq.1 40 5).toInt).toNat) x1) 42 (((Mq.1 40 5).toInt).toNat) x2) 43 (((Mq.1 40 5).toInt).toNat) x3) 44 (((Mq.1 40 5).toInt).toNat) x5) 46 0 45 ((((Mq.1 40 5).toInt) * 24).toNat) a5.toNat) := frq12.uc rfl
  refine g_aload_n X 0 rfl dX3_addRecording_60 ?_
  refine g_dup X dX3_addRecording_61 rfl ?_
  refine g_geti X f_X3_27 dX3_addRecording_62 (x := Mq.1 40 5) rfl ?_
  have bq19 := ig_40_5 Iq0
  refine g_iconst X 1 dX3_addRecording_65 (by decide) ?_
  refine g_iadd X dX3_addRecording_66 (fun zq20 eq21 => ?_)
  have tq22 : zq20.toInt = ((Mq.1 40 5).toInt) + 1 := add_nw eq21 rfl (show (1 : Int32).toInt = 1 by decide) (by omega)
  refine g_puti X p_X3_27 dX3_addRecording_67 ?_
  have Iq23 : Iv TX (ui (uc (ui (ui (ui (ui Mq 41 (((Mq.1 40 5).toInt).toNat) x1) 42 (((Mq.1 40 5).toInt).toNat) x2) 43 (((Mq.1 40 5).toInt).toNat) x3) 44 (((Mq.1 40 5).toInt).toNat) x5) 46 0 45 ((((Mq.1 40 5).toInt) * 24).toNat) a5.toNat) 40 5 zq20) := Iq17.put 0 12 tq22 (by omega) rfl
  have frq24 : Fr W_X3_addRecording_46 Mq (ui (uc (ui (ui (ui (ui Mq 41 (((Mq.1 40 5).toInt).toNat) x1) 42 (((Mq.1 40 5).toInt).toNat) x2) 43 (((Mq.1 40 5).toInt).toNat) x3) 44 (((Mq.1 40 5).toInt).toNat) x5) 46 0 45 ((((Mq.1 40 5).toInt) * 24).toNat) a5.toNat) 40 5 zq20) := frq18.ui rfl
  refine g_aload_n X 0 rfl dX3_addRecording_70 ?_
  refine g_geti X f_X3_27 dX3_addRecording_71 (x := zq20) rfl ?_
  refine g_iconst X 1 dX3_addRecording_74 (by decide) ?_
  refine g_isub X dX3_addRecording_75 (fun zq25 eq26 => ?_)
  have tq27 : zq25.toInt = (((Mq.1 40 5).toInt) + 1) - 1 := sub_nw eq26 tq22 (show (1 : Int32).toInt = 1 by decide) (by omega)
  exact g_iret X dX3_addRecording_76 ⟨_, _, rfl, tq27, trivial, Iq23, frq24⟩
set_option maxHeartbeats 4000000 in
set_option maxRecDepth 4000 in
theorem c_X3_isLost (ad : Nat → Nat) (Mq : Mem) (x1 : Int32) {a1 : Int} (t1 : x1.toInt = a1) (x2 : Int32) {a2 : Int} (t2 : x2.toInt = a2) (Iq0 : Iv TX Mq) (h1 : 0 ≤ a1 ∧ a1 < 12) : Ctr ad yX3_isLost cX3_isLost 3 (some .boolean) 0 [.ref (ad 40), .int x1, .int x2] Mq (fun v M' => ∃ (r : Int32) (a : Int), v = some (.int r) ∧ r.toInt = a ∧ ((a = 1 ∧ 0 ≤ a2 ∧ a2 < 24) ∨ a = 0) ∧ Mq = M') := by
  refine ctr_of (L := [(0, .ref (ad 40)), (1, .int x1), (2, .int x2)]) (by decide) (Nat.le_of_ble_eq_true rfl) rfl ?_
  intro Γ X
  have X : gX Γ cX3_isLost RX3 3 (some .boolean) 0 ad _ := X
  refine g_iload_n X 2 rfl dX3_isLost_0 ?_
  refine g_if_lt X t2 (tgt := 34) dX3_isLost_1 (by decide) (fun cq1 => ?_) (fun cq1 => ?_)
  · refine g_iconst X 0 dX3_isLost_34 (by decide) ?_
    exact g_zret X (b01 (show (0 : Int32).toInt = 0 by decide) (by omega)) dX3_isLost_35 ⟨_, _, rfl, (show (0 : Int32).toInt = 0 by decide), (by omega), rfl⟩
  · refine g_iload_n X 2 rfl dX3_isLost_4 ?_
    refine g_aload_n X 0 rfl dX3_isLost_5 ?_
    refine g_getr X f_X3_21 dX3_isLost_6 ?_
    refine g_iload_n X 1 rfl dX3_isLost_9 ?_
    refine g_iald X la_44 t1 dX3_isLost_10 (by omega) (x := Mq.1 44 a1.toNat) rfl ?_
    have bq2 := ig_44 Iq0 a1.toNat (by omega)
    refine g_icmp_ge X t2 rfl (tgt := 34) dX3_isLost_11 (by decide) (fun cq3 => ?_) (fun cq3 => ?_)
    · refine g_iconst X 0 dX3_isLost_34 (by decide) ?_
      exact g_zret X (b01 (show (0 : Int32).toInt = 0 by decide) (by omega)) dX3_isLost_35 ⟨_, _, rfl, (show (0 : Int32).toInt = 0 by decide), (by omega), rfl⟩
    · refine g_aload_n X 0 rfl dX3_isLost_14 ?_
      refine g_getr X f_X3_24 dX3_isLost_15 ?_
      refine g_iload_n X 1 rfl dX3_isLost_18 ?_
      refine g_bipush X 24 dX3_isLost_19 (by decide) ?_
      refine g_imul X dX3_isLost_21 (fun zq4 eq5 => ?_)
      have tq6 : zq4.toInt = a1 * 24 := mul_nw eq5 t1 (show (24 : Int32).toInt = 24 by decide) (by omega)
      refine g_iload_n X 2 rfl dX3_isLost_22 ?_
      refine g_iadd X dX3_isLost_23 (fun zq7 eq8 => ?_)
      have tq9 : zq7.toInt = (a1 * 24) + a2 := add_nw eq8 tq6 t2 (by omega)
      refine g_iald X la_45 tq9 dX3_isLost_24 (by omega) (x := Mq.1 45 (((a1 * 24) + a2).toNat)) rfl ?_
      refine g_bipush X 40 dX3_isLost_25 (by decide) ?_
      refine g_icmp_ne X rfl (show (40 : Int32).toInt = 40 by decide) (tgt := 34) dX3_isLost_27 (by decide) (fun cq10 => ?_) (fun cq10 => ?_)
      · refine g_iconst X 0 dX3_isLost_34 (by decide) ?_
        exact g_zret X (b01 (show (0 : Int32).toInt = 0 by decide) (by omega)) dX3_isLost_35 ⟨_, _, rfl, (show (0 : Int32).toInt = 0 by decide), (by omega), rfl⟩
      · refine g_iconst X 1 dX3_isLost_30 (by decide) ?_
        refine g_goto X (tgt := 35) dX3_isLost_31 (by decide) ?_
        exact g_zret X (b01 (show (1 : Int32).toInt = 1 by decide) (by omega)) dX3_isLost_35 ⟨_, _, rfl, (show (1 : Int32).toInt = 1 by decide), (by omega), rfl⟩
set_option maxHeartbeats 4000000 in
set_option maxRecDepth 4000 in
theorem c_X3_lostPlaces (ad : Nat → Nat) (Mq : Mem) (x1 : Int32) {a1 : Int} (t1 : x1.toInt = a1) (Iq0 : Iv TX Mq) (h1 : 0 ≤ a1 ∧ a1 < 12) : Ctr ad yX3_lostPlaces cX3_lostPlaces 4 (some .int) 1 [.ref (ad 40), .int x1] Mq (fun v M' => ∃ (r : Int32) (a : Int), v = some (.int r) ∧ r.toInt = a ∧ (True) ∧ Mq = M') := by
  refine ctr_of (L := [(0, .ref (ad 40)), (1, .int x1)]) (by decide) (Nat.le_of_ble_eq_true rfl) rfl ?_
  intro Γ X
  have X : gX Γ cX3_lostPlaces RX3 4 (some .int) 1 ad _ := X
  refine g_iconst X 0 dX3_lostPlaces_0 (by decide) ?_
  refine g_istore_n X (i := 2) [(2, .int 0), (0, .ref (ad 40)), (1, .int x1)] dX3_lostPlaces_1 rfl (by decide) rfl ?_
  refine g_iconst X 0 dX3_lostPlaces_2 (by decide) ?_
  refine g_istore_n X (i := 3) [(3, .int 0), (2, .int 0), (0, .ref (ad 40)), (1, .int x1)] dX3_lostPlaces_3 rfl (by decide) rfl ?_
  have lp4 : ∀ n : Nat, ∀ (y3_4 : Int32) (b3_4 : Int), y3_4.toInt = b3_4 → ∀ (y2_4 : Int32) (b2_4 : Int), y2_4.toInt = b2_4 → (0 ≤ b3_4) → ((Mq.1 44 a1.toNat).toInt - b3_4).toNat < n → G Γ Mq 4 [(3, .int y3_4), (2, .int y2_4), (0, .ref (ad 40)), (1, .int x1)] [] := by
    intro n
    induction n with
    | zero => intro y3_4 b3_4 e3_4 y2_4 b2_4 e2_4 i1 hm; exact absurd hm (Nat.not_lt_zero _)
    | succ n ih4 =>
      intro y3_4 b3_4 e3_4 y2_4 b2_4 e2_4 i1 hm4
      refine g_iload_n X 0 rfl dX3_lostPlaces_4 ?_
      refine g_aload_n X 2 rfl dX3_lostPlaces_5 ?_
      refine g_getr X f_X3_21 dX3_lostPlaces_6 ?_
      refine g_iload_n X 3 rfl dX3_lostPlaces_9 ?_
      refine g_iald X la_44 t1 dX3_lostPlaces_10 (by omega) (x := Mq.1 44 a1.toNat) rfl ?_
      have bq1 := ig_44 Iq0 a1.toNat (by omega)
      refine g_icmp_ge X e3_4 rfl (tgt := 32) dX3_lostPlaces_11 (by decide) (fun cq2 => ?_) (fun cq2 => ?_)
      · refine g_iload_n X 1 rfl dX3_lostPlaces_32 ?_
        exact g_iret X dX3_lostPlaces_33 ⟨_, _, rfl, e2_4, trivial, rfl⟩
      · refine g_aload_n X 2 rfl dX3_lostPlaces_14 ?_
        refine g_iload_n X 3 rfl dX3_lostPlaces_15 ?_
        refine g_iload_n X 0 rfl dX3_lostPlaces_16 ?_
        refine g_callV X m_X3_37 (c_X3_isLost ad Mq x1 t1 y3_4 e3_4 Iq0 (by omega)) rfl (by decide) (Nat.le_of_ble_eq_true rfl) rfl dX3_lostPlaces_17 ?_
        rintro _ _ ⟨rq3, aq4, rfl, tq5, hq6, rfl⟩
        show G Γ Mq 20 [(3, .int y3_4), (2, .int y2_4), (0, .ref (ad 40)), (1, .int x1)] [.int rq3]
        refine g_if_eq X tq5 (tgt := 26) dX3_lostPlaces_20 (by decide) (fun cq7 => ?_) (fun cq7 => ?_)
        · refine g_iinc X 0 (fun v => [(3, .int v), (2, .int y2_4), (0, .ref (ad 40)), (1, .int x1)]) dX3_lostPlaces_26 rfl (by decide) (fun _ => rfl) (fun zq8 eq9 => ?_)
          have tq10 : zq8.toInt = b3_4 + 1 := add_nw eq9 e3_4 (show (Int32.ofInt 1).toInt = 1 by decide) (by omega)
          refine g_goto X (tgt := 4) dX3_lostPlaces_29 (by decide) ?_
          refine g_sub [0, 1, 2, 3] rfl ?_
          exact ih4 zq8 _ tq10 y2_4 _ e2_4 (by omega) (by omega)
        · refine g_iinc X 1 (fun v => [(2, .int v), (3, .int y3_4), (0, .ref (ad 40)), (1, .int x1)]) dX3_lostPlaces_23 rfl (by decide) (fun _ => rfl) (fun zq11 eq12 => ?_)
          refine g_iinc X 1 (fun v => [(3, .int v), (2, .int zq11), (0, .ref (ad 40)), (1, .int x1)]) dX3_lostPlaces_26 rfl (by decide) (fun _ => rfl) (fun zq14 eq15 => ?_)
          have tq16 : zq14.toInt = b3_4 + 1 := add_nw eq15 e3_4 (show (Int32.ofInt 1).toInt = 1 by decide) (by omega)
          refine g_goto X (tgt := 4) dX3_lostPlaces_29 (by decide) ?_
          refine g_sub [0, 1, 2, 3] rfl ?_
          exact ih4 zq14 _ tq16 zq11 _ rfl (by omega) (by omega)
  refine g_sub [0, 1, 2, 3] rfl ?_
  exact lp4 _ 0 _ (show (0 : Int32).toInt = 0 by decide) 0 _ (show (0 : Int32).toInt = 0 by decide) (by omega) (Nat.lt_succ_self _)
set_option maxHeartbeats 4000000 in
set_option maxRecDepth 4000 in
theorem c_X3_lacking (ad : Nat → Nat) (Mq : Mem) (x1 : Int32) {a1 : Int} (t1 : x1.toInt = a1) (x2 : Int64) {a2 : Int} (t2 : x2.toInt = a2) (Iq0 : Iv TX Mq) (h1 : 0 ≤ a1 ∧ a1 < 12) : Ctr ad yX3_lacking cX3_lacking 7 (some .int) 1 [.ref (ad 40), .int x1, .long x2] Mq (fun v M' => ∃ (r : Int32) (a : Int), v = some (.int r) ∧ r.toInt = a ∧ (True) ∧ Mq = M') := by
  refine ctr_of (L := [(0, .ref (ad 40)), (1, .int x1), (2, .long x2)]) (by decide) (Nat.le_of_ble_eq_true rfl) rfl ?_
  intro Γ X
  have X : gX Γ cX3_lacking RX3 7 (some .int) 1 ad _ := X
  refine g_iconst X 0 dX3_lacking_0 (by decide) ?_
  refine g_istore X [(4, .int 0), (0, .ref (ad 40)), (1, .int x1), (2, .long x2)] dX3_lacking_1 (by decide) rfl ?_
  refine g_iconst X 0 dX3_lacking_3 (by decide) ?_
  refine g_istore X [(5, .int 0), (4, .int 0), (0, .ref (ad 40)), (1, .int x1), (2, .long x2)] dX3_lacking_4 (by decide) rfl ?_
  have lp6 : ∀ n : Nat, ∀ (y5_6 : Int32) (b5_6 : Int), y5_6.toInt = b5_6 → ∀ (y4_6 : Int32) (b4_6 : Int), y4_6.toInt = b4_6 → (0 ≤ b5_6) → ((Mq.1 44 a1.toNat).toInt - b5_6).toNat < n → G Γ Mq 6 [(5, .int y5_6), (4, .int y4_6), (0, .ref (ad 40)), (1, .int x1), (2, .long x2)] [] := by
    intro n
    induction n with
    | zero => intro y5_6 b5_6 e5_6 y4_6 b4_6 e4_6 i1 hm; exact absurd hm (Nat.not_lt_zero _)
    | succ n ih6 =>
      intro y5_6 b5_6 e5_6 y4_6 b4_6 e4_6 i1 hm6
      refine g_iload X 0 rfl dX3_lacking_6 ?_
      refine g_aload_n X 2 rfl dX3_lacking_8 ?_
      refine g_getr X f_X3_21 dX3_lacking_9 ?_
      refine g_iload_n X 3 rfl dX3_lacking_12 ?_
      refine g_iald X la_44 t1 dX3_lacking_13 (by omega) (x := Mq.1 44 a1.toNat) rfl ?_
      have bq1 := ig_44 Iq0 a1.toNat (by omega)
      refine g_icmp_ge X e5_6 rfl (tgt := 56) dX3_lacking_14 (by decide) (fun cq2 => ?_) (fun cq2 => ?_)
      · refine g_iload X 1 rfl dX3_lacking_56 ?_
        exact g_iret X dX3_lacking_58 ⟨_, _, rfl, e4_6, trivial, rfl⟩
      · refine g_aload_n X 2 rfl dX3_lacking_17 ?_
        refine g_getr X f_X3_24 dX3_lacking_18 ?_
        refine g_iload_n X 3 rfl dX3_lacking_21 ?_
        refine g_bipush X 24 dX3_lacking_22 (by decide) ?_
        refine g_imul X dX3_lacking_24 (fun zq3 eq4 => ?_)
        have tq5 : zq3.toInt = a1 * 24 := mul_nw eq4 t1 (show (24 : Int32).toInt = 24 by decide) (by omega)
        refine g_iload X 0 rfl dX3_lacking_25 ?_
        refine g_iadd X dX3_lacking_27 (fun zq6 eq7 => ?_)
        have tq8 : zq6.toInt = (a1 * 24) + b5_6 := add_nw eq7 tq5 e5_6 (by omega)
        refine g_iald X la_45 tq8 dX3_lacking_28 (by omega) (x := Mq.1 45 (((a1 * 24) + b5_6).toNat)) rfl ?_
        refine g_istore X [(6, .int (Mq.1 45 (((a1 * 24) + b5_6).toNat))), (5, .int y5_6), (4, .int y4_6), (0, .ref (ad 40)), (1, .int x1), (2, .long x2)] dX3_lacking_29 (by decide) rfl ?_
        refine g_iload X 0 rfl dX3_lacking_31 ?_
        refine g_bipush X 40 dX3_lacking_33 (by decide) ?_
        refine g_icmp_eq X rfl (show (40 : Int32).toInt = 40 by decide) (tgt := 50) dX3_lacking_35 (by decide) (fun cq9 => ?_) (fun cq9 => ?_)
        · refine g_iinc X 1 (fun v => [(5, .int v), (6, .int (Mq.1 45 (((a1 * 24) + b5_6).toNat))), (4, .int y4_6), (0, .ref (ad 40)), (1, .int x1), (2, .long x2)]) dX3_lacking_50 rfl (by decide) (fun _ => rfl) (fun zq10 eq11 => ?_)
          have tq12 : zq10.toInt = b5_6 + 1 := add_nw eq11 e5_6 (show (Int32.ofInt 1).toInt = 1 by decide) (by omega)
          refine g_goto X (tgt := 6) dX3_lacking_53 (by decide) ?_
          refine g_sub [0, 2, 3, 4, 5] rfl ?_
          exact ih6 zq10 _ tq12 y4_6 _ e4_6 (by omega) (by omega)
        · refine g_lload_n X 5 rfl dX3_lacking_38 ?_
          refine g_iload X 0 rfl dX3_lacking_39 ?_
          refine g_callS X m_X3_41 (c_X6_bit ad Mq x2 t2 (Mq.1 45 (((a1 * 24) + b5_6).toNat)) rfl) rfl (by decide) (Nat.le_of_ble_eq_true rfl) rfl dX3_lacking_41 ?_
          rintro _ _ ⟨rq13, aq14, rfl, tq15, hq16, rfl⟩
          show G Γ Mq 44 [(6, .int (Mq.1 45 (((a1 * 24) + b5_6).toNat))), (5, .int y5_6), (4, .int y4_6), (0, .ref (ad 40)), (1, .int x1), (2, .long x2)] [.int rq13]
          refine g_if_ne X tq15 (tgt := 50) dX3_lacking_44 (by decide) (fun cq17 => ?_) (fun cq17 => ?_)
          · refine g_iinc X 1 (fun v => [(5, .int v), (6, .int (Mq.1 45 (((a1 * 24) + b5_6).toNat))), (4, .int y4_6), (0, .ref (ad 40)), (1, .int x1), (2, .long x2)]) dX3_lacking_50 rfl (by decide) (fun _ => rfl) (fun zq18 eq19 => ?_)
            have tq20 : zq18.toInt = b5_6 + 1 := add_nw eq19 e5_6 (show (Int32.ofInt 1).toInt = 1 by decide) (by omega)
            refine g_goto X (tgt := 6) dX3_lacking_53 (by decide) ?_
            refine g_sub [0, 2, 3, 4, 5] rfl ?_
            exact ih6 zq18 _ tq20 y4_6 _ e4_6 (by omega) (by omega)
          · refine g_iinc X 2 (fun v => [(4, .int v), (6, .int (Mq.1 45 (((a1 * 24) + b5_6).toNat))), (5, .int y5_6), (0, .ref (ad 40)), (1, .int x1), (2, .long x2)]) dX3_lacking_47 rfl (by decide) (fun _ => rfl) (fun zq21 eq22 => ?_)
            refine g_iinc X 2 (fun v => [(5, .int v), (4, .int zq21), (6, .int (Mq.1 45 (((a1 * 24) + b5_6).toNat))), (0, .ref (ad 40)), (1, .int x1), (2, .long x2)]) dX3_lacking_50 rfl (by decide) (fun _ => rfl) (fun zq24 eq25 => ?_)
            have tq26 : zq24.toInt = b5_6 + 1 := add_nw eq25 e5_6 (show (Int32.ofInt 1).toInt = 1 by decide) (by omega)
            refine g_goto X (tgt := 6) dX3_lacking_53 (by decide) ?_
            refine g_sub [0, 1, 3, 4, 5] rfl ?_
            exact ih6 zq24 _ tq26 zq21 _ rfl (by omega) (by omega)
  refine g_sub [0, 1, 2, 3, 4] rfl ?_
  exact lp6 _ 0 _ (show (0 : Int32).toInt = 0 by decide) 0 _ (show (0 : Int32).toInt = 0 by decide) (by omega) (Nat.lt_succ_self _)
end
