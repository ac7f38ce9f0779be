section
abbrev W_X7_runsOf : List (Nat × Nat) := [(71, 99), (72, 99), (73, 99), (74, 99), (75, 99), (76, 99)]
set_option maxHeartbeats 4000000 in
set_option maxRecDepth 4000 in
theorem c_X7_runsOf (ad : Nat → Nat) (Mq : Mem) (x1 : Int32) {a1 : Int} (t1 : x1.toInt = a1) (Iq0 : Iv TM Mq) (h1 : 0 ≤ a1 ∧ a1 ≤ 7) (htl : 0 ≤ (Mq.1 47 23).toInt ∧ (Mq.1 47 23).toInt ≤ 1000000) (cy0 : WFM Mq) : Ctr ad yX7_runsOf cX7_runsOf 4 (some .int) 5 [.ref (ad 47), .int x1] Mq (fun v M' => ∃ (r : Int32) (a : Int), v = some (.int r) ∧ r.toInt = a ∧ (True) ∧ Iv TM M' ∧ Fr W_X7_runsOf Mq M') := by
  refine ctr_of (L := [(0, .ref (ad 47)), (1, .int x1)]) (by decide) (Nat.le_of_ble_eq_true rfl) rfl ?_
  intro Γ X
  have X : gX Γ cX7_runsOf RX7 4 (some .int) 5 ad _ := X
  have frq0 : Fr W_X7_runsOf Mq Mq := Fr.rf
  have g12 := ig_47_12 Iq0
  have g24 := ig_47_24 Iq0
  have g44 := ig_47_44 Iq0
  have g43 := ig_47_43 Iq0
  have g53 := ig_47_53 Iq0
  have g59 := ig_47_59 Iq0
  have g52 := ig_47_52 Iq0
  refine g_iconst X 1 dX7_runsOf_0 (by decide) ?_
  refine g_istore_n X (i := 2) [(2, .int 1), (0, .ref (ad 47)), (1, .int x1)] dX7_runsOf_1 rfl (by decide) rfl ?_
  have lp2 : ∀ n : Nat, ∀ (y2_2 : Int32) (b2_2 : Int), y2_2.toInt = b2_2 → ∀ (M_2 : Mem), (1 ≤ b2_2) → (Iv TM M_2) → (Fr W_X7_runsOf Mq M_2) → (WFM M_2) → ((Mq.1 47 23).toInt + 1 - b2_2).toNat < n → G Γ M_2 2 [(2, .int y2_2), (0, .ref (ad 47)), (1, .int x1)] [] := by
    intro n
    induction n with
    | zero => intro y2_2 b2_2 e2_2 M_2 i1 I_2 fr_2 cy0_2 hm; exact absurd hm (Nat.not_lt_zero _)
    | succ n ih2 =>
      intro y2_2 b2_2 e2_2 M_2 i1 I_2 fr_2 cy0_2 hm2
      have trq1 : (M_2.1 47 23).toInt = (Mq.1 47 23).toInt := congrArg Int32.toInt (fr_2.at 47 23 rfl)
      have trq2 : (M_2.1 47 12).toInt = (Mq.1 47 12).toInt := congrArg Int32.toInt (fr_2.at 47 12 rfl)
      have trq3 : (M_2.1 47 53).toInt = (Mq.1 47 53).toInt := congrArg Int32.toInt (fr_2.at 47 53 rfl)
      have trq4 : (M_2.1 47 59).toInt = (Mq.1 47 59).toInt := congrArg Int32.toInt (fr_2.at 47 59 rfl)
      refine g_iload_n X 0 rfl dX7_runsOf_2 ?_
      refine g_aload_n X 1 rfl dX7_runsOf_3 ?_
      refine g_geti X f_X7_232 dX7_runsOf_4 (x := M_2.1 47 23) rfl ?_
      refine g_icmp_gt X e2_2 rfl (tgt := 55) dX7_runsOf_7 (by decide) (fun cq5 => ?_) (fun cq5 => ?_)
      · refine g_aload_n X 1 rfl dX7_runsOf_55 ?_
        refine g_getr X f_X7_83 dX7_runsOf_56 ?_
        refine g_sipush X 625 dX7_runsOf_59 (by decide) ?_
        refine g_iload_n X 2 rfl dX7_runsOf_62 ?_
        refine g_imul X dX7_runsOf_63 (fun zq6 eq7 => ?_)
        have tq8 : zq6.toInt = 625 * a1 := mul_nw eq7 (show (625 : Int32).toInt = 625 by decide) t1 (by omega)
        refine g_aload_n X 1 rfl dX7_runsOf_64 ?_
        refine g_geti X f_X7_282 dX7_runsOf_65 (x := M_2.1 47 44) rfl ?_
        have bq9 := ig_47_44 I_2
        refine g_iadd X dX7_runsOf_68 (fun zq10 eq11 => ?_)
        have tq12 : zq10.toInt = (625 * a1) + ((M_2.1 47 44).toInt) := add_nw eq11 tq8 rfl (by omega)
        refine g_iald X la_71 tq12 dX7_runsOf_69 (by omega) (x := M_2.1 71 (((625 * a1) + ((M_2.1 47 44).toInt)).toNat)) rfl ?_
        exact g_iret X dX7_runsOf_70 ⟨_, _, rfl, rfl, trivial, I_2, fr_2⟩
      · refine g_iconst X 0 dX7_runsOf_10 (by decide) ?_
        refine g_istore_n X (i := 3) [(3, .int 0), (2, .int y2_2), (0, .ref (ad 47)), (1, .int x1)] dX7_runsOf_11 rfl (by decide) rfl ?_
        have lp12 : ∀ n : Nat, ∀ (y3_12 : Int32) (b3_12 : Int), y3_12.toInt = b3_12 → ∀ (M_12 : Mem), (0 ≤ b3_12 ∧ b3_12 ≤ 8) → (Iv TM M_12) → (Fr W_X7_runsOf Mq M_12) → (WFM M_12) → (8 - b3_12).toNat < n → G Γ M_12 12 [(3, .int y3_12), (2, .int y2_2), (0, .ref (ad 47)), (1, .int x1)] [] := by
          intro n
          induction n with
          | zero => intro y3_12 b3_12 e3_12 M_12 i2 I_12 fr_12 cy0_12 hm; exact absurd hm (Nat.not_lt_zero _)
          | succ n ih12 =>
            intro y3_12 b3_12 e3_12 M_12 i2 I_12 fr_12 cy0_12 hm12
            have trq13 : (M_12.1 47 23).toInt = (Mq.1 47 23).toInt := congrArg Int32.toInt (fr_12.at 47 23 rfl)
            have trq14 : (M_12.1 47 12).toInt = (Mq.1 47 12).toInt := congrArg Int32.toInt (fr_12.at 47 12 rfl)
            have trq15 : (M_12.1 47 53).toInt = (Mq.1 47 53).toInt := congrArg Int32.toInt (fr_12.at 47 53 rfl)
            have trq16 : (M_12.1 47 59).toInt = (Mq.1 47 59).toInt := congrArg Int32.toInt (fr_12.at 47 59 rfl)
            refine g_iload_n X 0 rfl dX7_runsOf_12 ?_
            refine g_bipush X 8 dX7_runsOf_13 (by decide) ?_
            refine g_icmp_ge X e3_12 (show (8 : Int32).toInt = 8 by decide) (tgt := 49) dX7_runsOf_15 (by decide) (fun cq17 => ?_) (fun cq17 => ?_)
            · refine g_iinc X 1 (fun v => [(2, .int v), (3, .int y3_12), (0, .ref (ad 47)), (1, .int x1)]) dX7_runsOf_49 rfl (by decide) (fun _ => rfl) (fun zq18 eq19 => ?_)
              have tq20 : zq18.toInt = b2_2 + 1 := add_nw eq19 e2_2 (show (Int32.ofInt 1).toInt = 1 by decide) (by omega)
              refine g_goto X (tgt := 2) dX7_runsOf_52 (by decide) ?_
              refine g_sub [0, 2, 3] rfl ?_
              exact ih2 zq18 _ tq20 M_12 (by omega) I_12 fr_12 cy0_12 (by omega)
            · refine g_aload_n X 2 rfl dX7_runsOf_18 ?_
              refine g_getr X f_X7_55 dX7_runsOf_19 ?_
              refine g_iload_n X 0 rfl dX7_runsOf_22 ?_
              refine g_iald X la_63 e3_12 dX7_runsOf_23 (by omega) (x := M_12.1 63 b3_12.toNat) rfl ?_
              refine g_iload_n X 1 rfl dX7_runsOf_24 ?_
              refine g_icmp_ne X rfl e2_2 (tgt := 43) dX7_runsOf_25 (by decide) (fun cq21 => ?_) (fun cq21 => ?_)
              · refine g_iinc X 0 (fun v => [(3, .int v), (2, .int y2_2), (0, .ref (ad 47)), (1, .int x1)]) dX7_runsOf_43 rfl (by decide) (fun _ => rfl) (fun zq22 eq23 => ?_)
                have tq24 : zq22.toInt = b3_12 + 1 := add_nw eq23 e3_12 (show (Int32.ofInt 1).toInt = 1 by decide) (by omega)
                refine g_goto X (tgt := 12) dX7_runsOf_46 (by decide) ?_
                refine g_sub [0, 1, 2, 3] rfl ?_
                exact ih12 zq22 _ tq24 M_12 (by omega) I_12 fr_12 cy0_12 (by omega)
              · refine g_iload_n X 1 rfl dX7_runsOf_28 ?_
                refine g_aload_n X 2 rfl dX7_runsOf_29 ?_
                refine g_getr X f_X7_55 dX7_runsOf_30 ?_
                refine g_iload_n X 3 rfl dX7_runsOf_33 ?_
                refine g_iald X la_63 t1 dX7_runsOf_34 (by omega) (x := M_12.1 63 a1.toNat) rfl ?_
                refine g_icmp_gt X e2_2 rfl (tgt := 43) dX7_runsOf_35 (by decide) (fun cq25 => ?_) (fun cq25 => ?_)
                · refine g_iinc X 0 (fun v => [(3, .int v), (2, .int y2_2), (0, .ref (ad 47)), (1, .int x1)]) dX7_runsOf_43 rfl (by decide) (fun _ => rfl) (fun zq26 eq27 => ?_)
                  have tq28 : zq26.toInt = b3_12 + 1 := add_nw eq27 e3_12 (show (Int32.ofInt 1).toInt = 1 by decide) (by omega)
                  refine g_goto X (tgt := 12) dX7_runsOf_46 (by decide) ?_
                  refine g_sub [0, 1, 2, 3] rfl ?_
                  exact ih12 zq26 _ tq28 M_12 (by omega) I_12 fr_12 cy0_12 (by omega)
                · refine g_aload_n X 2 rfl dX7_runsOf_38 ?_
                  refine g_iload_n X 0 rfl dX7_runsOf_39 ?_
                  refine g_callV X m_X7_310 (c_X7_findTable ad M_12 y3_12 e3_12 I_12 (by omega) ((cy0_12 (b3_12).toNat (by omega) (show 0 < (M_12.1 63 (b3_12).toNat).toInt by omega)).1)) rfl (by decide) (Nat.le_of_ble_eq_true rfl) rfl dX7_runsOf_40 ?_
                  rintro _ Mq33 ⟨rfl, hq32, Iq34, frq35⟩
                  have frq36 : Fr W_X7_runsOf Mq Mq33 := fr_12.trans frq35 rfl
                  have cyq37 : WFM Mq33 := WFM_fr cy0_12 frq35 rfl
                  have trq38 : (Mq33.1 47 23).toInt = (M_12.1 47 23).toInt := congrArg Int32.toInt (frq35.at 47 23 rfl)
                  have trq39 : (Mq33.1 47 12).toInt = (M_12.1 47 12).toInt := congrArg Int32.toInt (frq35.at 47 12 rfl)
                  have trq40 : (Mq33.1 47 53).toInt = (M_12.1 47 53).toInt := congrArg Int32.toInt (frq35.at 47 53 rfl)
                  have trq41 : (Mq33.1 47 59).toInt = (M_12.1 47 59).toInt := congrArg Int32.toInt (frq35.at 47 59 rfl)
                  show G Γ Mq33 43 [(3, .int y3_12), (2, .int y2_2), (0, .ref (ad 47)), (1, .int x1)] []
                  refine g_iinc X 0 (fun v => [(3, .int v), (2, .int y2_2), (0, .ref (ad 47)), (1, .int x1)]) dX7_runsOf_43 rfl (by decide) (fun _ => rfl) (fun zq42 eq43 => ?_)
                  have tq44 : zq42.toInt = b3_12 + 1 := add_nw eq43 e3_12 (show (Int32.ofInt 1).toInt = 1 by decide) (by omega)
                  refine g_goto X (tgt := 12) dX7_runsOf_46 (by decide) ?_
                  refine g_sub [0, 1, 2, 3] rfl ?_
                  exact ih12 zq42 _ tq44 Mq33 (by omega) Iq34 frq36 cyq37 (by omega)
        refine g_sub [0, 1, 2, 3] rfl ?_
        exact lp12 _ 0 _ (show (0 : Int32).toInt = 0 by decide) M_2 (by omega) I_2 fr_2 cy0_2 (Nat.lt_succ_self _)
  refine g_sub [0, 1, 2] rfl ?_
  exact lp2 _ 1 _ (show (1 : Int32).toInt = 1 by decide) Mq (by omega) Iq0 frq0 cy0 (Nat.lt_succ_self _)
abbrev W_X7_runs : List (Nat × Nat) := [(71, 99), (72, 99), (73, 99), (74, 99), (75, 99), (76, 99), (85, 99), (47, 44), (78, 99)]
set_option maxHeartbeats 4000000 in
set_option maxRecDepth 4000 in
theorem c_X7_runs (ad : Nat → Nat) (Mq : Mem) (x1 : Int32) {a1 : Int} (t1 : x1.toInt = a1) (x2 : Int32) {a2 : Int} (t2 : x2.toInt = a2) (x3 : Int32) {a3 : Int} (t3 : x3.toInt = a3) (x4 : Int32) {a4 : Int} (t4 : x4.toInt = a4) (Iq0 : Iv TM Mq) (htl : 0 ≤ (Mq.1 47 23).toInt ∧ (Mq.1 47 23).toInt ≤ 1000000) (cy0 : WFM Mq) : Ctr ad yX7_runs cX7_runs 5 (some .int) 6 [.ref (ad 47), .int x1, .int x2, .int x3, .int x4] Mq (fun v M' => ∃ (r : Int32) (a : Int), v = some (.int r) ∧ r.toInt = a ∧ (True) ∧ Iv TM M' ∧ Fr W_X7_runs Mq M') := by
  refine ctr_of (L := [(0, .ref (ad 47)), (1, .int x1), (2, .int x2), (3, .int x3), (4, .int x4)]) (by decide) (Nat.le_of_ble_eq_true rfl) rfl ?_
  intro Γ X
  have X : gX Γ cX7_runs RX7 5 (some .int) 6 ad _ := X
  have frq0 : Fr W_X7_runs Mq Mq := Fr.rf
  have g12 := ig_47_12 Iq0
  have g24 := ig_47_24 Iq0
  have g44 := ig_47_44 Iq0
  have g43 := ig_47_43 Iq0
  have g53 := ig_47_53 Iq0
  have g59 := ig_47_59 Iq0
  have g52 := ig_47_52 Iq0
  refine g_aload_n X 0 rfl dX7_runs_0 ?_
  refine g_iload_n X 1 rfl dX7_runs_1 ?_
  refine g_callV X m_X7_220 (c_X7_isTold ad Mq x1 t1) rfl (by decide) (Nat.le_of_ble_eq_true rfl) rfl dX7_runs_2 ?_
  rintro _ _ ⟨rq1, aq2, rfl, tq3, hq4, rfl⟩
  show G Γ Mq 5 [(0, .ref (ad 47)), (1, .int x1), (2, .int x2), (3, .int x3), (4, .int x4)] [.int rq1]
  refine g_if_eq X tq3 (tgt := 25) dX7_runs_5 (by decide) (fun cq5 => ?_) (fun cq5 => ?_)
  · have pq6 : ¬ (0 ≤ a1 ∧ a1 ≤ 7 ∧ 0 < (Mq.1 63 a1.toNat).toInt) := by omega
    clear hq4 cq5 tq3
    refine g_iconst X (-1) dX7_runs_25 (by decide) ?_
    exact g_iret X dX7_runs_26 ⟨_, _, rfl, (show ((-1) : Int32).toInt = (-1) by decide), trivial, Iq0, frq0⟩
  · have pq7 : (0 ≤ a1 ∧ a1 ≤ 7 ∧ 0 < (Mq.1 63 a1.toNat).toInt) := by omega
    clear hq4 cq5 tq3
    refine g_aload_n X 0 rfl dX7_runs_8 ?_
    refine g_iload_n X 2 rfl dX7_runs_9 ?_
    refine g_callV X m_X7_260 (c_X7_isSinger ad Mq x2 t2) rfl (by decide) (Nat.le_of_ble_eq_true rfl) rfl dX7_runs_10 ?_
    rintro _ _ ⟨rq8, aq9, rfl, tq10, hq11, rfl⟩
    show G Γ Mq 13 [(0, .ref (ad 47)), (1, .int x1), (2, .int x2), (3, .int x3), (4, .int x4)] [.int rq8]
    refine g_if_eq X tq10 (tgt := 25) dX7_runs_13 (by decide) (fun cq12 => ?_) (fun cq12 => ?_)
    · have pq13 : ¬ (0 ≤ a2 ∧ a2 < ((Mq.1 47 52)).toInt) := by omega
      clear hq11 cq12 tq10
      refine g_iconst X (-1) dX7_runs_25 (by decide) ?_
      exact g_iret X dX7_runs_26 ⟨_, _, rfl, (show ((-1) : Int32).toInt = (-1) by decide), trivial, Iq0, frq0⟩
    · have pq14 : (0 ≤ a2 ∧ a2 < ((Mq.1 47 52)).toInt) := by omega
      clear hq11 cq12 tq10
      refine g_aload_n X 0 rfl dX7_runs_16 ?_
      refine g_iload X 4 rfl dX7_runs_17 ?_
      refine g_callV X m_X7_326 (c_X7_isKnown ad Mq x4 t4) rfl (by decide) (Nat.le_of_ble_eq_true rfl) rfl dX7_runs_19 ?_
      rintro _ _ ⟨rq15, aq16, rfl, tq17, hq18, rfl⟩
      show G Γ Mq 22 [(0, .ref (ad 47)), (1, .int x1), (2, .int x2), (3, .int x3), (4, .int x4)] [.int rq15]
      refine g_if_ne X tq17 (tgt := 27) dX7_runs_22 (by decide) (fun cq19 => ?_) (fun cq19 => ?_)
      · have pq20 : (-1 ≤ a4 ∧ a4 ≤ ((Mq.1 47 53)).toInt) := by omega
        clear hq18 cq19 tq17
        refine g_iload_n X 3 rfl dX7_runs_27 ?_
        refine g_callS X m_X7_263 (c_X7_isYear ad Mq x3 t3) rfl (by decide) (Nat.le_of_ble_eq_true rfl) rfl dX7_runs_28 ?_
        rintro _ _ ⟨rq21, aq22, rfl, tq23, hq24, rfl⟩
        show G Γ Mq 31 [(0, .ref (ad 47)), (1, .int x1), (2, .int x2), (3, .int x3), (4, .int x4)] [.int rq21]
        refine g_if_ne X tq23 (tgt := 37) dX7_runs_31 (by decide) (fun cq25 => ?_) (fun cq25 => ?_)
        · have pq26 : (0 ≤ a3 ∧ a3 ≤ 999) := by omega
          clear hq24 cq25 tq23
          refine g_aload_n X 0 rfl dX7_runs_37 ?_
          refine g_geti X f_X7_339 dX7_runs_38 (x := Mq.1 47 43) rfl ?_
          have bq27 := ig_47_43 Iq0
          refine g_if_ne X rfl (tgt := 47) dX7_runs_41 (by decide) (fun cq28 => ?_) (fun cq28 => ?_)
          · refine g_aload_n X 0 rfl dX7_runs_47 ?_
            refine g_iload_n X 2 rfl dX7_runs_48 ?_
            refine g_iload_n X 3 rfl dX7_runs_49 ?_
            refine g_aload_n X 0 rfl dX7_runs_50 ?_
            refine g_iload X 4 rfl dX7_runs_51 ?_
            refine g_callV X m_X7_329 (c_X7_upTo ad Mq x4 t4) rfl (by decide) (Nat.le_of_ble_eq_true rfl) rfl dX7_runs_53 ?_
            rintro _ _ ⟨rq29, aq30, rfl, tq31, hq32, rfl⟩
            show G Γ Mq 56 [(0, .ref (ad 47)), (1, .int x1), (2, .int x2), (3, .int x3), (4, .int x4)] [.int rq29, .int x3, .int x2, .ref (ad 47)]
            refine g_callV X m_X7_269 (c_X7_findStock ad Mq x2 t2 x3 t3 rq29 tq31 Iq0 (by omega)) rfl (by decide) (Nat.le_of_ble_eq_true rfl) rfl dX7_runs_56 ?_
            rintro _ Mq37 ⟨rfl, hq36, Iq38, frq39⟩
            have frq40 : Fr W_X7_runs Mq Mq37 := frq0.trans frq39 rfl
            have cyq41 : WFM Mq37 := WFM_fr cy0 frq39 rfl
            have trq42 : (Mq37.1 47 23).toInt = (Mq.1 47 23).toInt := congrArg Int32.toInt (frq39.at 47 23 rfl)
            have trq43 : (Mq37.1 47 12).toInt = (Mq.1 47 12).toInt := congrArg Int32.toInt (frq39.at 47 12 rfl)
            have trq44 : (Mq37.1 47 53).toInt = (Mq.1 47 53).toInt := congrArg Int32.toInt (frq39.at 47 53 rfl)
            have trq45 : (Mq37.1 47 59).toInt = (Mq.1 47 59).toInt := congrArg Int32.toInt (frq39.at 47 59 rfl)
            show G Γ Mq37 59 [(0, .ref (ad 47)), (1, .int x1), (2, .int x2), (3, .int x3), (4, .int x4)] []
            refine g_aload_n X 0 rfl dX7_runs_59 ?_
            refine g_aload_n X 0 rfl dX7_runs_60 ?_
            refine g_getr X f_X7_101 dX7_runs_61 ?_
            refine g_iconst X 0 dX7_runs_64 (by decide) ?_
            refine g_aload_n X 0 rfl dX7_runs_65 ?_
            refine g_geti X f_X7_339 dX7_runs_66 (x := Mq37.1 47 43) rfl ?_
            have bq46 := ig_47_43 Iq38
            refine g_callV X m_X7_342 (c_X7_sees_77 ad Mq37 0 (show (0 : Int32).toInt = 0 by decide) (Mq37.1 47 43) rfl Iq38 (by omega) (by omega)) rfl (by decide) (Nat.le_of_ble_eq_true rfl) rfl dX7_runs_69 ?_
            rintro _ Mq51 ⟨rfl, hq50, Iq52, frq53⟩
            have frq54 : Fr W_X7_runs Mq Mq51 := frq40.trans frq53 rfl
            have cyq55 : WFM Mq51 := WFM_fr cyq41 frq53 rfl
            have trq56 : (Mq51.1 47 23).toInt = (Mq37.1 47 23).toInt := congrArg Int32.toInt (frq53.at 47 23 rfl)
            have trq57 : (Mq51.1 47 12).toInt = (Mq37.1 47 12).toInt := congrArg Int32.toInt (frq53.at 47 12 rfl)
            have trq58 : (Mq51.1 47 53).toInt = (Mq37.1 47 53).toInt := congrArg Int32.toInt (frq53.at 47 53 rfl)
            have trq59 : (Mq51.1 47 59).toInt = (Mq37.1 47 59).toInt := congrArg Int32.toInt (frq53.at 47 59 rfl)
            show G Γ Mq51 72 [(0, .ref (ad 47)), (1, .int x1), (2, .int x2), (3, .int x3), (4, .int x4)] []
            refine g_aload_n X 0 rfl dX7_runs_72 ?_
            refine g_iload_n X 1 rfl dX7_runs_73 ?_
            refine g_callV X m_X7_346 (c_X7_runsOf ad Mq51 x1 t1 Iq52 (by omega) (by omega) cyq55) rfl (by decide) (Nat.le_of_ble_eq_true rfl) rfl dX7_runs_74 ?_
            rintro _ Mq64 ⟨rq60, aq61, rfl, tq62, hq63, Iq65, frq66⟩
            have frq67 : Fr W_X7_runs Mq Mq64 := frq54.trans frq66 rfl
            have cyq68 : WFM Mq64 := WFM_fr cyq55 frq66 rfl
            have trq69 : (Mq64.1 47 23).toInt = (Mq51.1 47 23).toInt := congrArg Int32.toInt (frq66.at 47 23 rfl)
            have trq70 : (Mq64.1 47 12).toInt = (Mq51.1 47 12).toInt := congrArg Int32.toInt (frq66.at 47 12 rfl)
            have trq71 : (Mq64.1 47 53).toInt = (Mq51.1 47 53).toInt := congrArg Int32.toInt (frq66.at 47 53 rfl)
            have trq72 : (Mq64.1 47 59).toInt = (Mq51.1 47 59).toInt := congrArg Int32.toInt (frq66.at 47 59 rfl)
            show G Γ Mq64 77 [(0, .ref (ad 47)), (1, .int x1), (2, .int x2), (3, .int x3), (4, .int x4)] [.int rq60]
            exact g_iret X dX7_runs_77 ⟨_, _, rfl, tq62, trivial, Iq65, frq67⟩
          · refine g_bipush X (-3) dX7_runs_44 (by decide) ?_
            exact g_iret X dX7_runs_46 ⟨_, _, rfl, (show ((-3) : Int32).toInt = (-3) by decide), trivial, Iq0, frq0⟩
        · have pq73 : ¬ (0 ≤ a3 ∧ a3 ≤ 999) := by omega
          clear hq24 cq25 tq23
          refine g_bipush X (-2) dX7_runs_34 (by decide) ?_
          exact g_iret X dX7_runs_36 ⟨_, _, rfl, (show ((-2) : Int32).toInt = (-2) by decide), trivial, Iq0, frq0⟩
      · have pq74 : ¬ (-1 ≤ a4 ∧ a4 ≤ ((Mq.1 47 53)).toInt) := by omega
        clear hq18 cq19 tq17
        refine g_iconst X (-1) dX7_runs_25 (by decide) ?_
        exact g_iret X dX7_runs_26 ⟨_, _, rfl, (show ((-1) : Int32).toInt = (-1) by decide), trivial, Iq0, frq0⟩
abbrev W_X7_heard : List (Nat × Nat) := [(71, 99), (72, 99), (73, 99), (74, 99), (75, 99), (76, 99), (85, 99), (47, 44), (78, 99)]
set_option maxHeartbeats 4000000 in
set_option maxRecDepth 4000 in
theorem c_X7_heard (ad : Nat → Nat) (Mq : Mem) (x1 : Int32) {a1 : Int} (t1 : x1.toInt = a1) (x2 : Int32) {a2 : Int} (t2 : x2.toInt = a2) (x3 : Int32) {a3 : Int} (t3 : x3.toInt = a3) (Iq0 : Iv TM Mq) (htl : 0 ≤ (Mq.1 47 23).toInt ∧ (Mq.1 47 23).toInt ≤ 1000000) (cy0 : WFM Mq) : Ctr ad yX7_heard cX7_heard 7 (some .int) 6 [.ref (ad 47), .int x1, .int x2, .int x3] Mq (fun v M' => ∃ (r : Int32) (a : Int), v = some (.int r) ∧ r.toInt = a ∧ (True) ∧ Iv TM M' ∧ Fr W_X7_heard Mq M') := by
  refine ctr_of (L := [(0, .ref (ad 47)), (1, .int x1), (2, .int x2), (3, .int x3)]) (by decide) (Nat.le_of_ble_eq_true rfl) rfl ?_
  intro Γ X
  have X : gX Γ cX7_heard RX7 7 (some .int) 6 ad _ := X
  have frq0 : Fr W_X7_heard Mq Mq := Fr.rf
  have g12 := ig_47_12 Iq0
  have g24 := ig_47_24 Iq0
  have g44 := ig_47_44 Iq0
  have g43 := ig_47_43 Iq0
  have g53 := ig_47_53 Iq0
  have g59 := ig_47_59 Iq0
  have g52 := ig_47_52 Iq0
  refine g_aload_n X 0 rfl dX7_heard_0 ?_
  refine g_iload_n X 1 rfl dX7_heard_1 ?_
  refine g_callV X m_X7_355 (c_X7_isRecording ad Mq x1 t1) rfl (by decide) (Nat.le_of_ble_eq_true rfl) rfl dX7_heard_2 ?_
  rintro _ _ ⟨rq1, aq2, rfl, tq3, hq4, rfl⟩
  show G Γ Mq 5 [(0, .ref (ad 47)), (1, .int x1), (2, .int x2), (3, .int x3)] [.int rq1]
  refine g_if_eq X tq3 (tgt := 28) dX7_heard_5 (by decide) (fun cq5 => ?_) (fun cq5 => ?_)
  · have pq6 : ¬ (0 ≤ a1 ∧ a1 < ((Mq.1 47 59)).toInt) := by omega
    clear hq4 cq5 tq3
    refine g_iconst X (-1) dX7_heard_28 (by decide) ?_
    exact g_iret X dX7_heard_29 ⟨_, _, rfl, (show ((-1) : Int32).toInt = (-1) by decide), trivial, Iq0, frq0⟩
  · have pq7 : (0 ≤ a1 ∧ a1 < ((Mq.1 47 59)).toInt) := by omega
    clear hq4 cq5 tq3
    refine g_aload_n X 0 rfl dX7_heard_8 ?_
    refine g_iload_n X 2 rfl dX7_heard_9 ?_
    refine g_callV X m_X7_326 (c_X7_isKnown ad Mq x2 t2) rfl (by decide) (Nat.le_of_ble_eq_true rfl) rfl dX7_heard_10 ?_
    rintro _ _ ⟨rq8, aq9, rfl, tq10, hq11, rfl⟩
    show G Γ Mq 13 [(0, .ref (ad 47)), (1, .int x1), (2, .int x2), (3, .int x3)] [.int rq8]
    refine g_if_eq X tq10 (tgt := 28) dX7_heard_13 (by decide) (fun cq12 => ?_) (fun cq12 => ?_)
    · have pq13 : ¬ (-1 ≤ a2 ∧ a2 ≤ ((Mq.1 47 53)).toInt) := by omega
      clear hq11 cq12 tq10
      refine g_iconst X (-1) dX7_heard_28 (by decide) ?_
      exact g_iret X dX7_heard_29 ⟨_, _, rfl, (show ((-1) : Int32).toInt = (-1) by decide), trivial, Iq0, frq0⟩
    · have pq14 : (-1 ≤ a2 ∧ a2 ≤ ((Mq.1 47 53)).toInt) := by omega
      clear hq11 cq12 tq10
      refine g_iload_n X 3 rfl dX7_heard_16 ?_
      refine g_i2l X dX7_heard_17 (fun zq15 eq16 => ?_)
      have tq17 : zq15.toInt = a3 := i2l_nw eq16 t3
      refine g_lconst X 0 dX7_heard_18 (by decide) ?_
      refine g_ldc2 X k_X7_235 dX7_heard_19 ?_
      refine g_callS X m_X7_152 (c_X7_isIn ad Mq zq15 tq17 0 (show (0 : Int64).toInt = 0 by decide) 3 (show (3 : Int64).toInt = 3 by decide)) rfl (by decide) (Nat.le_of_ble_eq_true rfl) rfl dX7_heard_22 ?_
      rintro _ _ ⟨rq18, aq19, rfl, tq20, hq21, rfl⟩
      show G Γ Mq 25 [(0, .ref (ad 47)), (1, .int x1), (2, .int x2), (3, .int x3)] [.int rq18]
      refine g_if_ne X tq20 (tgt := 30) dX7_heard_25 (by decide) (fun cq22 => ?_) (fun cq22 => ?_)
      · have pq23 : (0 ≤ a3 ∧ a3 ≤ 3) := by omega
        clear hq21 cq22 tq20
        refine g_aload_n X 0 rfl dX7_heard_30 ?_
        refine g_iload_n X 1 rfl dX7_heard_31 ?_
        refine g_iload_n X 2 rfl dX7_heard_32 ?_
        refine g_callV X m_X7_358 (c_X7_plays ad Mq x1 t1 x2 t2 Iq0 (by omega) (by omega)) rfl (by decide) (Nat.le_of_ble_eq_true rfl) rfl dX7_heard_33 ?_
        rintro _ Mq28 ⟨rfl, hq27, Iq29, frq30⟩
        have frq31 : Fr W_X7_heard Mq Mq28 := frq0.trans frq30 rfl
        have cyq32 : WFM Mq28 := WFM_fr cy0 frq30 rfl
        have trq33 : (Mq28.1 47 23).toInt = (Mq.1 47 23).toInt := congrArg Int32.toInt (frq30.at 47 23 rfl)
        have trq34 : (Mq28.1 47 12).toInt = (Mq.1 47 12).toInt := congrArg Int32.toInt (frq30.at 47 12 rfl)
        have trq35 : (Mq28.1 47 53).toInt = (Mq.1 47 53).toInt := congrArg Int32.toInt (frq30.at 47 53 rfl)
        have trq36 : (Mq28.1 47 59).toInt = (Mq.1 47 59).toInt := congrArg Int32.toInt (frq30.at 47 59 rfl)
        show G Γ Mq28 36 [(0, .ref (ad 47)), (1, .int x1), (2, .int x2), (3, .int x3)] []
        refine g_iconst X 0 dX7_heard_36 (by decide) ?_
        refine g_istore X [(4, .int 0), (0, .ref (ad 47)), (1, .int x1), (2, .int x2), (3, .int x3)] dX7_heard_37 (by decide) rfl ?_
        refine g_iconst X 0 dX7_heard_39 (by decide) ?_
        refine g_istore X [(5, .int 0), (4, .int 0), (0, .ref (ad 47)), (1, .int x1), (2, .int x2), (3, .int x3)] dX7_heard_40 (by decide) rfl ?_
        refine g_iconst X 0 dX7_heard_42 (by decide) ?_
        refine g_istore X [(6, .int 0), (5, .int 0), (4, .int 0), (0, .ref (ad 47)), (1, .int x1), (2, .int x2), (3, .int x3)] dX7_heard_43 (by decide) rfl ?_
        have lp45 : ∀ n : Nat, ∀ (y6_45 : Int32) (b6_45 : Int), y6_45.toInt = b6_45 → ∀ (y5_45 : Int32) (b5_45 : Int), y5_45.toInt = b5_45 → ∀ (y4_45 : Int32) (b4_45 : Int), y4_45.toInt = b4_45 → (0 ≤ b6_45) → ((Mq28.1 47 44).toInt - b6_45).toNat < n → G Γ Mq28 45 [(6, .int y6_45), (5, .int y5_45), (4, .int y4_45), (0, .ref (ad 47)), (1, .int x1), (2, .int x2), (3, .int x3)] [] := by
          intro n
          induction n with
          | zero => intro y6_45 b6_45 e6_45 y5_45 b5_45 e5_45 y4_45 b4_45 e4_45 i1 hm; exact absurd hm (Nat.not_lt_zero _)
          | succ n ih45 =>
            intro y6_45 b6_45 e6_45 y5_45 b5_45 e5_45 y4_45 b4_45 e4_45 i1 hm45
            refine g_iload X 0 rfl dX7_heard_45 ?_
            refine g_aload_n X 3 rfl dX7_heard_47 ?_
            refine g_geti X f_X7_282 dX7_heard_48 (x := Mq28.1 47 44) rfl ?_
            have bq37 := ig_47_44 Iq29
            refine g_icmp_ge X e6_45 rfl (tgt := 119) dX7_heard_51 (by decide) (fun cq38 => ?_) (fun cq38 => ?_)
            · refine g_iload_n X 6 rfl dX7_heard_119 ?_
              refine g_if_ne X t3 (tgt := 144) dX7_heard_120 (by decide) (fun cq39 => ?_) (fun cq39 => ?_)
              · refine g_iload_n X 6 rfl dX7_heard_144 ?_
                refine g_iconst X 1 dX7_heard_145 (by decide) ?_
                refine g_icmp_ne X t3 (show (1 : Int32).toInt = 1 by decide) (tgt := 154) dX7_heard_146 (by decide) (fun cq40 => ?_) (fun cq40 => ?_)
                · refine g_iload_n X 6 rfl dX7_heard_154 ?_
                  refine g_iconst X 2 dX7_heard_155 (by decide) ?_
                  refine g_icmp_ne X t3 (show (2 : Int32).toInt = 2 by decide) (tgt := 164) dX7_heard_156 (by decide) (fun cq41 => ?_) (fun cq41 => ?_)
                  · refine g_aload_n X 3 rfl dX7_heard_164 ?_
                    refine g_geti X f_X7_282 dX7_heard_165 (x := Mq28.1 47 44) rfl ?_
                    have bq42 := ig_47_44 Iq29
                    exact g_iret X dX7_heard_168 ⟨_, _, rfl, rfl, trivial, Iq29, frq31⟩
                  · refine g_iload X 1 rfl dX7_heard_159 ?_
                    refine g_goto X (tgt := 168) dX7_heard_161 (by decide) ?_
                    exact g_iret X dX7_heard_168 ⟨_, _, rfl, e5_45, trivial, Iq29, frq31⟩
                · refine g_iload X 2 rfl dX7_heard_149 ?_
                  refine g_goto X (tgt := 168) dX7_heard_151 (by decide) ?_
                  exact g_iret X dX7_heard_168 ⟨_, _, rfl, e4_45, trivial, Iq29, frq31⟩
              · refine g_aload_n X 3 rfl dX7_heard_123 ?_
                refine g_aload_n X 3 rfl dX7_heard_124 ?_
                refine g_getr X f_X7_132 dX7_heard_125 ?_
                refine g_iload_n X 4 rfl dX7_heard_128 ?_
                refine g_iald X la_87 t1 dX7_heard_129 (by omega) (x := Mq28.1 87 a1.toNat) rfl ?_
                have bq43 := ig_87 Iq29 a1.toNat (by omega)
                refine g_callV X m_X7_346 (c_X7_runsOf ad Mq28 (Mq28.1 87 a1.toNat) rfl Iq29 (by omega) (by omega) cyq32) rfl (by decide) (Nat.le_of_ble_eq_true rfl) rfl dX7_heard_130 ?_
                rintro _ Mq48 ⟨rq44, aq45, rfl, tq46, hq47, Iq49, frq50⟩
                have frq51 : Fr W_X7_heard Mq Mq48 := frq31.trans frq50 rfl
                have cyq52 : WFM Mq48 := WFM_fr cyq32 frq50 rfl
                have trq53 : (Mq48.1 47 23).toInt = (Mq28.1 47 23).toInt := congrArg Int32.toInt (frq50.at 47 23 rfl)
                have trq54 : (Mq48.1 47 12).toInt = (Mq28.1 47 12).toInt := congrArg Int32.toInt (frq50.at 47 12 rfl)
                have trq55 : (Mq48.1 47 53).toInt = (Mq28.1 47 53).toInt := congrArg Int32.toInt (frq50.at 47 53 rfl)
                have trq56 : (Mq48.1 47 59).toInt = (Mq28.1 47 59).toInt := congrArg Int32.toInt (frq50.at 47 59 rfl)
                show G Γ Mq48 133 [(6, .int y6_45), (5, .int y5_45), (4, .int y4_45), (0, .ref (ad 47)), (1, .int x1), (2, .int x2), (3, .int x3)] [.int rq44]
                refine g_if_le X tq46 (tgt := 140) dX7_heard_133 (by decide) (fun cq57 => ?_) (fun cq57 => ?_)
                · refine g_iconst X 0 dX7_heard_140 (by decide) ?_
                  refine g_goto X (tgt := 168) dX7_heard_141 (by decide) ?_
                  exact g_iret X dX7_heard_168 ⟨_, _, rfl, (show (0 : Int32).toInt = 0 by decide), trivial, Iq49, frq51⟩
                · refine g_iconst X 1 dX7_heard_136 (by decide) ?_
                  refine g_goto X (tgt := 168) dX7_heard_137 (by decide) ?_
                  exact g_iret X dX7_heard_168 ⟨_, _, rfl, (show (1 : Int32).toInt = 1 by decide), trivial, Iq49, frq51⟩
            · refine g_iload X 1 rfl dX7_heard_54 ?_
              refine g_aload_n X 3 rfl dX7_heard_56 ?_
              refine g_getr X f_X7_104 dX7_heard_57 ?_
              refine g_iload X 0 rfl dX7_heard_60 ?_
              refine g_iald X la_78 e6_45 dX7_heard_62 (by omega) (x := Mq28.1 78 b6_45.toNat) rfl ?_
              have bq58 := ig_78 Iq29 b6_45.toNat (by omega)
              refine g_bipush X 40 dX7_heard_63 (by decide) ?_
              refine g_icmp_ne X rfl (show (40 : Int32).toInt = 40 by decide) (tgt := 72) dX7_heard_65 (by decide) (fun cq59 => ?_) (fun cq59 => ?_)
              · refine g_iconst X 0 dX7_heard_72 (by decide) ?_
                refine g_iadd X dX7_heard_73 (fun zq60 eq61 => ?_)
                refine g_istore X [(5, .int zq60), (6, .int y6_45), (4, .int y4_45), (0, .ref (ad 47)), (1, .int x1), (2, .int x2), (3, .int x3)] dX7_heard_74 (by decide) rfl ?_
                refine g_iload X 2 rfl dX7_heard_76 ?_
                refine g_aload_n X 3 rfl dX7_heard_78 ?_
                refine g_getr X f_X7_104 dX7_heard_79 ?_
                refine g_iload X 1 rfl dX7_heard_82 ?_
                refine g_iald X la_78 e6_45 dX7_heard_84 (by omega) (x := Mq28.1 78 b6_45.toNat) rfl ?_
                have bq63 := ig_78 Iq29 b6_45.toNat (by omega)
                refine g_bipush X 40 dX7_heard_85 (by decide) ?_
                refine g_icmp_eq X rfl (show (40 : Int32).toInt = 40 by decide) (tgt := 109) dX7_heard_87 (by decide) (fun cq64 => ?_) (fun cq64 => ?_)
                · refine g_iconst X 0 dX7_heard_109 (by decide) ?_
                  refine g_iadd X dX7_heard_110 (fun zq65 eq66 => ?_)
                  refine g_istore X [(4, .int zq65), (5, .int zq60), (6, .int y6_45), (0, .ref (ad 47)), (1, .int x1), (2, .int x2), (3, .int x3)] dX7_heard_111 (by decide) rfl ?_
                  refine g_iinc X 2 (fun v => [(6, .int v), (4, .int zq65), (5, .int zq60), (0, .ref (ad 47)), (1, .int x1), (2, .int x2), (3, .int x3)]) dX7_heard_113 rfl (by decide) (fun _ => rfl) (fun zq68 eq69 => ?_)
                  have tq70 : zq68.toInt = b6_45 + 1 := add_nw eq69 e6_45 (show (Int32.ofInt 1).toInt = 1 by decide) (by omega)
                  refine g_goto X (tgt := 45) dX7_heard_116 (by decide) ?_
                  refine g_sub [0, 2, 1, 3, 4, 5, 6] rfl ?_
                  exact ih45 zq68 _ tq70 zq60 _ rfl zq65 _ rfl (by omega) (by omega)
                · refine g_aload_n X 3 rfl dX7_heard_90 ?_
                  refine g_getr X f_X7_126 dX7_heard_91 ?_
                  refine g_aload_n X 3 rfl dX7_heard_94 ?_
                  refine g_getr X f_X7_104 dX7_heard_95 ?_
                  refine g_iload X 1 rfl dX7_heard_98 ?_
                  refine g_iald X la_78 e6_45 dX7_heard_100 (by omega) (x := Mq28.1 78 b6_45.toNat) rfl ?_
                  have bq71 := ig_78 Iq29 b6_45.toNat (by omega)
                  refine g_zald X la_85 rfl dX7_heard_101 (by omega) (x := Mq28.1 85 (((Mq28.1 78 b6_45.toNat).toInt).toNat)) rfl ?_
                  have bq72 := ig_85 Iq29 (((Mq28.1 78 b6_45.toNat).toInt).toNat) (by omega)
                  refine g_if_ne X rfl (tgt := 109) dX7_heard_102 (by decide) (fun cq73 => ?_) (fun cq73 => ?_)
                  · refine g_iconst X 0 dX7_heard_109 (by decide) ?_
                    refine g_iadd X dX7_heard_110 (fun zq74 eq75 => ?_)
                    refine g_istore X [(4, .int zq74), (5, .int zq60), (6, .int y6_45), (0, .ref (ad 47)), (1, .int x1), (2, .int x2), (3, .int x3)] dX7_heard_111 (by decide) rfl ?_
                    refine g_iinc X 2 (fun v => [(6, .int v), (4, .int zq74), (5, .int zq60), (0, .ref (ad 47)), (1, .int x1), (2, .int x2), (3, .int x3)]) dX7_heard_113 rfl (by decide) (fun _ => rfl) (fun zq77 eq78 => ?_)
                    have tq79 : zq77.toInt = b6_45 + 1 := add_nw eq78 e6_45 (show (Int32.ofInt 1).toInt = 1 by decide) (by omega)
                    refine g_goto X (tgt := 45) dX7_heard_116 (by decide) ?_
                    refine g_sub [0, 2, 1, 3, 4, 5, 6] rfl ?_
                    exact ih45 zq77 _ tq79 zq60 _ rfl zq74 _ rfl (by omega) (by omega)
                  · refine g_iconst X 1 dX7_heard_105 (by decide) ?_
                    refine g_goto X (tgt := 110) dX7_heard_106 (by decide) ?_
                    refine g_iadd X dX7_heard_110 (fun zq80 eq81 => ?_)
                    refine g_istore X [(4, .int zq80), (5, .int zq60), (6, .int y6_45), (0, .ref (ad 47)), (1, .int x1), (2, .int x2), (3, .int x3)] dX7_heard_111 (by decide) rfl ?_
                    refine g_iinc X 2 (fun v => [(6, .int v), (4, .int zq80), (5, .int zq60), (0, .ref (ad 47)), (1, .int x1), (2, .int x2), (3, .int x3)]) dX7_heard_113 rfl (by decide) (fun _ => rfl) (fun zq83 eq84 => ?_)
                    have tq85 : zq83.toInt = b6_45 + 1 := add_nw eq84 e6_45 (show (Int32.ofInt 1).toInt = 1 by decide) (by omega)
                    refine g_goto X (tgt := 45) dX7_heard_116 (by decide) ?_
                    refine g_sub [0, 2, 1, 3, 4, 5, 6] rfl ?_
                    exact ih45 zq83 _ tq85 zq60 _ rfl zq80 _ rfl (by omega) (by omega)
              · refine g_iconst X 1 dX7_heard_68 (by decide) ?_
                refine g_goto X (tgt := 73) dX7_heard_69 (by decide) ?_
                refine g_iadd X dX7_heard_73 (fun zq86 eq87 => ?_)
                refine g_istore X [(5, .int zq86), (6, .int y6_45), (4, .int y4_45), (0, .ref (ad 47)), (1, .int x1), (2, .int x2), (3, .int x3)] dX7_heard_74 (by decide) rfl ?_
                refine g_iload X 2 rfl dX7_heard_76 ?_
                refine g_aload_n X 3 rfl dX7_heard_78 ?_
                refine g_getr X f_X7_104 dX7_heard_79 ?_
                refine g_iload X 1 rfl dX7_heard_82 ?_
                refine g_iald X la_78 e6_45 dX7_heard_84 (by omega) (x := Mq28.1 78 b6_45.toNat) rfl ?_
                have bq89 := ig_78 Iq29 b6_45.toNat (by omega)
                refine g_bipush X 40 dX7_heard_85 (by decide) ?_
                refine g_icmp_eq X rfl (show (40 : Int32).toInt = 40 by decide) (tgt := 109) dX7_heard_87 (by decide) (fun cq90 => ?_) (fun cq90 => ?_)
                · refine g_iconst X 0 dX7_heard_109 (by decide) ?_
                  refine g_iadd X dX7_heard_110 (fun zq91 eq92 => ?_)
                  refine g_istore X [(4, .int zq91), (5, .int zq86), (6, .int y6_45), (0, .ref (ad 47)), (1, .int x1), (2, .int x2), (3, .int x3)] dX7_heard_111 (by decide) rfl ?_
                  refine g_iinc X 2 (fun v => [(6, .int v), (4, .int zq91), (5, .int zq86), (0, .ref (ad 47)), (1, .int x1), (2, .int x2), (3, .int x3)]) dX7_heard_113 rfl (by decide) (fun _ => rfl) (fun zq94 eq95 => ?_)
                  have tq96 : zq94.toInt = b6_45 + 1 := add_nw eq95 e6_45 (show (Int32.ofInt 1).toInt = 1 by decide) (by omega)
                  refine g_goto X (tgt := 45) dX7_heard_116 (by decide) ?_
                  refine g_sub [0, 2, 1, 3, 4, 5, 6] rfl ?_
                  exact ih45 zq94 _ tq96 zq86 _ rfl zq91 _ rfl (by omega) (by omega)
                · refine g_aload_n X 3 rfl dX7_heard_90 ?_
                  refine g_getr X f_X7_126 dX7_heard_91 ?_
                  refine g_aload_n X 3 rfl dX7_heard_94 ?_
                  refine g_getr X f_X7_104 dX7_heard_95 ?_
                  refine g_iload X 1 rfl dX7_heard_98 ?_
                  refine g_iald X la_78 e6_45 dX7_heard_100 (by omega) (x := Mq28.1 78 b6_45.toNat) rfl ?_
                  have bq97 := ig_78 Iq29 b6_45.toNat (by omega)
                  refine g_zald X la_85 rfl dX7_heard_101 (by omega) (x := Mq28.1 85 (((Mq28.1 78 b6_45.toNat).toInt).toNat)) rfl ?_
                  have bq98 := ig_85 Iq29 (((Mq28.1 78 b6_45.toNat).toInt).toNat) (by omega)
                  refine g_if_ne X rfl (tgt := 109) dX7_heard_102 (by decide) (fun cq99 => ?_) (fun cq99 => ?_)
                  · refine g_iconst X 0 dX7_heard_109 (by decide) ?_
                    refine g_iadd X dX7_heard_110 (fun zq100 eq101 => ?_)
                    refine g_istore X [(4, .int zq100), (5, .int zq86), (6, .int y6_45), (0, .ref (ad 47)), (1, .int x1), (2, .int x2), (3, .int x3)] dX7_heard_111 (by decide) rfl ?_
                    refine g_iinc X 2 (fun v => [(6, .int v), (4, .int zq100), (5, .int zq86), (0, .ref (ad 47)), (1, .int x1), (2, .int x2), (3, .int x3)]) dX7_heard_113 rfl (by decide) (fun _ => rfl) (fun zq103 eq104 => ?_)
                    have tq105 : zq103.toInt = b6_45 + 1 := add_nw eq104 e6_45 (show (Int32.ofInt 1).toInt = 1 by decide) (by omega)
                    refine g_goto X (tgt := 45) dX7_heard_116 (by decide) ?_
                    refine g_sub [0, 2, 1, 3, 4, 5, 6] rfl ?_
                    exact ih45 zq103 _ tq105 zq86 _ rfl zq100 _ rfl (by omega) (by omega)
                  · refine g_iconst X 1 dX7_heard_105 (by decide) ?_
                    refine g_goto X (tgt := 110) dX7_heard_106 (by decide) ?_
                    refine g_iadd X dX7_heard_110 (fun zq106 eq107 => ?_)
                    refine g_istore X [(4, .int zq106), (5, .int zq86), (6, .int y6_45), (0, .ref (ad 47)), (1, .int x1), (2, .int x2), (3, .int x3)] dX7_heard_111 (by decide) rfl ?_
                    refine g_iinc X 2 (fun v => [(6, .int v), (4, .int zq106), (5, .int zq86), (0, .ref (ad 47)), (1, .int x1), (2, .int x2), (3, .int x3)]) dX7_heard_113 rfl (by decide) (fun _ => rfl) (fun zq109 eq110 => ?_)
                    have tq111 : zq109.toInt = b6_45 + 1 := add_nw eq110 e6_45 (show (Int32.ofInt 1).toInt = 1 by decide) (by omega)
                    refine g_goto X (tgt := 45) dX7_heard_116 (by decide) ?_
                    refine g_sub [0, 2, 1, 3, 4, 5, 6] rfl ?_
                    exact ih45 zq109 _ tq111 zq86 _ rfl zq106 _ rfl (by omega) (by omega)
        refine g_sub [0, 1, 2, 3, 4, 5, 6] rfl ?_
        exact lp45 _ 0 _ (show (0 : Int32).toInt = 0 by decide) 0 _ (show (0 : Int32).toInt = 0 by decide) 0 _ (show (0 : Int32).toInt = 0 by decide) (by omega) (Nat.lt_succ_self _)
      · have pq112 : ¬ (0 ≤ a3 ∧ a3 ≤ 3) := by omega
        clear hq21 cq22 tq20
        refine g_iconst X (-1) dX7_heard_28 (by decide) ?_
        exact g_iret X dX7_heard_29 ⟨_, _, rfl, (show ((-1) : Int32).toInt = (-1) by decide), trivial, Iq0, frq0⟩
abbrev W_X7_filled : List (Nat × Nat) := [(71, 99), (72, 99), (73, 99), (74, 99), (75, 99), (76, 99), (85, 99), (47, 44), (78, 99)]
set_option maxHeartbeats 4000000 in
set_option maxRecDepth 4000 in
theorem c_X7_filled (ad : Nat → Nat) (Mq : Mem) (x1 : Int32) {a1 : Int} (t1 : x1.toInt = a1) (x2 : Int32) {a2 : Int} (t2 : x2.toInt = a2) (x3 : Int32) {a3 : Int} (t3 : x3.toInt = a3) (Iq0 : Iv TM Mq) (htl : 0 ≤ (Mq.1 47 23).toInt ∧ (Mq.1 47 23).toInt ≤ 1000000) (cy0 : WFM Mq) : Ctr ad yX7_filled cX7_filled 6 (some .int) 6 [.ref (ad 47), .int x1, .int x2, .int x3] Mq (fun v M' => ∃ (r : Int32) (a : Int), v = some (.int r) ∧ r.toInt = a ∧ (True) ∧ Iv TM M' ∧ Fr W_X7_filled Mq M') := by
  refine ctr_of (L := [(0, .ref (ad 47)), (1, .int x1), (2, .int x2), (3, .int x3)]) (by decide) (Nat.le_of_ble_eq_true rfl) rfl ?_
  intro Γ X
  have X : gX Γ cX7_filled RX7 6 (some .int) 6 ad _ := X
  have frq0 : Fr W_X7_filled Mq Mq := Fr.rf
  have g12 := ig_47_12 Iq0
  have g24 := ig_47_24 Iq0
  have g44 := ig_47_44 Iq0
  have g43 := ig_47_43 Iq0
  have g53 := ig_47_53 Iq0
  have g59 := ig_47_59 Iq0
  have g52 := ig_47_52 Iq0
  refine g_aload_n X 0 rfl dX7_filled_0 ?_
  refine g_iload_n X 1 rfl dX7_filled_1 ?_
  refine g_callV X m_X7_355 (c_X7_isRecording ad Mq x1 t1) rfl (by decide) (Nat.le_of_ble_eq_true rfl) rfl dX7_filled_2 ?_
  rintro _ _ ⟨rq1, aq2, rfl, tq3, hq4, rfl⟩
  show G Γ Mq 5 [(0, .ref (ad 47)), (1, .int x1), (2, .int x2), (3, .int x3)] [.int rq1]
  refine g_if_eq X tq3 (tgt := 50) dX7_filled_5 (by decide) (fun cq5 => ?_) (fun cq5 => ?_)
  · have pq6 : ¬ (0 ≤ a1 ∧ a1 < ((Mq.1 47 59)).toInt) := by omega
    clear hq4 cq5 tq3
    refine g_iconst X (-1) dX7_filled_50 (by decide) ?_
    exact g_iret X dX7_filled_51 ⟨_, _, rfl, (show ((-1) : Int32).toInt = (-1) by decide), trivial, Iq0, frq0⟩
  · have pq7 : (0 ≤ a1 ∧ a1 < ((Mq.1 47 59)).toInt) := by omega
    clear hq4 cq5 tq3
    refine g_aload_n X 0 rfl dX7_filled_8 ?_
    refine g_iload_n X 2 rfl dX7_filled_9 ?_
    refine g_callV X m_X7_326 (c_X7_isKnown ad Mq x2 t2) rfl (by decide) (Nat.le_of_ble_eq_true rfl) rfl dX7_filled_10 ?_
    rintro _ _ ⟨rq8, aq9, rfl, tq10, hq11, rfl⟩
    show G Γ Mq 13 [(0, .ref (ad 47)), (1, .int x1), (2, .int x2), (3, .int x3)] [.int rq8]
    refine g_if_eq X tq10 (tgt := 50) dX7_filled_13 (by decide) (fun cq12 => ?_) (fun cq12 => ?_)
    · have pq13 : ¬ (-1 ≤ a2 ∧ a2 ≤ ((Mq.1 47 53)).toInt) := by omega
      clear hq11 cq12 tq10
      refine g_iconst X (-1) dX7_filled_50 (by decide) ?_
      exact g_iret X dX7_filled_51 ⟨_, _, rfl, (show ((-1) : Int32).toInt = (-1) by decide), trivial, Iq0, frq0⟩
    · have pq14 : (-1 ≤ a2 ∧ a2 ≤ ((Mq.1 47 53)).toInt) := by omega
      clear hq11 cq12 tq10
      refine g_iload_n X 3 rfl dX7_filled_16 ?_
      refine g_i2l X dX7_filled_17 (fun zq15 eq16 => ?_)
      have tq17 : zq15.toInt = a3 := i2l_nw eq16 t3
      refine g_lconst X 0 dX7_filled_18 (by decide) ?_
      refine g_aload_n X 0 rfl dX7_filled_19 ?_
      refine g_getr X f_X7_138 dX7_filled_20 ?_
      refine g_iload_n X 1 rfl dX7_filled_23 ?_
      refine g_iald X la_89 t1 dX7_filled_24 (by omega) (x := Mq.1 89 a1.toNat) rfl ?_
      have bq18 := ig_89 Iq0 a1.toNat (by omega)
      refine g_iconst X 1 dX7_filled_25 (by decide) ?_
      refine g_isub X dX7_filled_26 (fun zq19 eq20 => ?_)
      have tq21 : zq19.toInt = ((Mq.1 89 a1.toNat).toInt) - 1 := sub_nw eq20 rfl (show (1 : Int32).toInt = 1 by decide) (by omega)
      refine g_i2l X dX7_filled_27 (fun zq22 eq23 => ?_)
      have tq24 : zq22.toInt = ((Mq.1 89 a1.toNat).toInt) - 1 := i2l_nw eq23 tq21
      refine g_callS X m_X7_152 (c_X7_isIn ad Mq zq15 tq17 0 (show (0 : Int64).toInt = 0 by decide) zq22 tq24) rfl (by decide) (Nat.le_of_ble_eq_true rfl) rfl dX7_filled_28 ?_
      rintro _ _ ⟨rq25, aq26, rfl, tq27, hq28, rfl⟩
      show G Γ Mq 31 [(0, .ref (ad 47)), (1, .int x1), (2, .int x2), (3, .int x3)] [.int rq25]
      refine g_if_eq X tq27 (tgt := 50) dX7_filled_31 (by decide) (fun cq29 => ?_) (fun cq29 => ?_)
      · have pq30 : ¬ (0 ≤ a3 ∧ a3 ≤ (((Mq.1 89 a1.toNat).toInt) - 1)) := by omega
        clear hq28 cq29 tq27
        refine g_iconst X (-1) dX7_filled_50 (by decide) ?_
        exact g_iret X dX7_filled_51 ⟨_, _, rfl, (show ((-1) : Int32).toInt = (-1) by decide), trivial, Iq0, frq0⟩
      · have pq31 : (0 ≤ a3 ∧ a3 ≤ (((Mq.1 89 a1.toNat).toInt) - 1)) := by omega
        clear hq28 cq29 tq27
        refine g_aload_n X 0 rfl dX7_filled_34 ?_
        refine g_getr X f_X7_141 dX7_filled_35 ?_
        refine g_bipush X 24 dX7_filled_38 (by decide) ?_
        refine g_iload_n X 1 rfl dX7_filled_40 ?_
        refine g_imul X dX7_filled_41 (fun zq32 eq33 => ?_)
        have tq34 : zq32.toInt = 24 * a1 := mul_nw eq33 (show (24 : Int32).toInt = 24 by decide) t1 (by omega)
        refine g_iload_n X 3 rfl dX7_filled_42 ?_
        refine g_iadd X dX7_filled_43 (fun zq35 eq36 => ?_)
        have tq37 : zq35.toInt = (24 * a1) + a3 := add_nw eq36 tq34 t3 (by omega)
        refine g_iald X la_90 tq37 dX7_filled_44 (by omega) (x := Mq.1 90 (((24 * a1) + a3).toNat)) rfl ?_
        have bq38 := ig_90 Iq0 (((24 * a1) + a3).toNat) (by omega)
        refine g_bipush X 40 dX7_filled_45 (by decide) ?_
        refine g_icmp_eq X rfl (show (40 : Int32).toInt = 40 by decide) (tgt := 52) dX7_filled_47 (by decide) (fun cq39 => ?_) (fun cq39 => ?_)
        · refine g_aload_n X 0 rfl dX7_filled_52 ?_
          refine g_iload_n X 1 rfl dX7_filled_53 ?_
          refine g_iload_n X 2 rfl dX7_filled_54 ?_
          refine g_callV X m_X7_358 (c_X7_plays ad Mq x1 t1 x2 t2 Iq0 (by omega) (by omega)) rfl (by decide) (Nat.le_of_ble_eq_true rfl) rfl dX7_filled_55 ?_
          rintro _ Mq44 ⟨rfl, hq43, Iq45, frq46⟩
          have frq47 : Fr W_X7_filled Mq Mq44 := frq0.trans frq46 rfl
          have cyq48 : WFM Mq44 := WFM_fr cy0 frq46 rfl
          have trq49 : (Mq44.1 47 23).toInt = (Mq.1 47 23).toInt := congrArg Int32.toInt (frq46.at 47 23 rfl)
          have trq50 : (Mq44.1 47 12).toInt = (Mq.1 47 12).toInt := congrArg Int32.toInt (frq46.at 47 12 rfl)
          have trq51 : (Mq44.1 47 53).toInt = (Mq.1 47 53).toInt := congrArg Int32.toInt (frq46.at 47 53 rfl)
          have trq52 : (Mq44.1 47 59).toInt = (Mq.1 47 59).toInt := congrArg Int32.toInt (frq46.at 47 59 rfl)
          show G Γ Mq44 58 [(0, .ref (ad 47)), (1, .int x1), (2, .int x2), (3, .int x3)] []
          refine g_iconst X (-1) dX7_filled_58 (by decide) ?_
          refine g_istore X [(4, .int (-1)), (0, .ref (ad 47)), (1, .int x1), (2, .int x2), (3, .int x3)] dX7_filled_59 (by decide) rfl ?_
          refine g_iconst X 0 dX7_filled_61 (by decide) ?_
          refine g_istore X [(5, .int 0), (4, .int (-1)), (0, .ref (ad 47)), (1, .int x1), (2, .int x2), (3, .int x3)] dX7_filled_62 (by decide) rfl ?_
          have lp64 : ∀ n : Nat, ∀ (y5_64 : Int32) (b5_64 : Int), y5_64.toInt = b5_64 → ∀ (y4_64 : Int32) (b4_64 : Int), y4_64.toInt = b4_64 → ∀ (M_64 : Mem), (0 ≤ b5_64) → (Iv TM M_64) → (Fr W_X7_filled Mq M_64) → (WFM M_64) → ((Mq.1 47 12).toInt - b5_64).toNat < n → G Γ M_64 64 [(5, .int y5_64), (4, .int y4_64), (0, .ref (ad 47)), (1, .int x1), (2, .int x2), (3, .int x3)] [] := by
            intro n
            induction n with
            | zero => intro y5_64 b5_64 e5_64 y4_64 b4_64 e4_64 M_64 i1 I_64 fr_64 cy0_64 hm; exact absurd hm (Nat.not_lt_zero _)
            | succ n ih64 =>
              intro y5_64 b5_64 e5_64 y4_64 b4_64 e4_64 M_64 i1 I_64 fr_64 cy0_64 hm64
              have trq53 : (M_64.1 47 23).toInt = (Mq.1 47 23).toInt := congrArg Int32.toInt (fr_64.at 47 23 rfl)
              have trq54 : (M_64.1 47 12).toInt = (Mq.1 47 12).toInt := congrArg Int32.toInt (fr_64.at 47 12 rfl)
              have trq55 : (M_64.1 47 53).toInt = (Mq.1 47 53).toInt := congrArg Int32.toInt (fr_64.at 47 53 rfl)
              have trq56 : (M_64.1 47 59).toInt = (Mq.1 47 59).toInt := congrArg Int32.toInt (fr_64.at 47 59 rfl)
              refine g_iload X 0 rfl dX7_filled_64 ?_
              refine g_aload_n X 2 rfl dX7_filled_66 ?_
              refine g_geti X f_X7_147 dX7_filled_67 (x := M_64.1 47 12) rfl ?_
              have bq57 := ig_47_12 I_64
              refine g_icmp_ge X e5_64 rfl (tgt := 125) dX7_filled_70 (by decide) (fun cq58 => ?_) (fun cq58 => ?_)
              · refine g_iload X 1 rfl dX7_filled_125 ?_
                refine g_if_ge X e4_64 (tgt := 135) dX7_filled_127 (by decide) (fun cq59 => ?_) (fun cq59 => ?_)
                · refine g_iload X 1 rfl dX7_filled_135 ?_
                  exact g_iret X dX7_filled_137 ⟨_, _, rfl, e4_64, trivial, I_64, fr_64⟩
                · refine g_bipush X (-3) dX7_filled_130 (by decide) ?_
                  refine g_goto X (tgt := 137) dX7_filled_132 (by decide) ?_
                  exact g_iret X dX7_filled_137 ⟨_, _, rfl, (show ((-3) : Int32).toInt = (-3) by decide), trivial, I_64, fr_64⟩
              · refine g_aload_n X 2 rfl dX7_filled_73 ?_
                refine g_getr X f_X7_104 dX7_filled_74 ?_
                refine g_iload_n X 5 rfl dX7_filled_77 ?_
                refine g_iload X 0 rfl dX7_filled_78 ?_
                refine g_iast X la_78 t3 dX7_filled_80 (by omega) ?_
                have Iq60 : Iv TM (ui M_64 78 a3.toNat y5_64) := I_64.putA 0 40 e5_64 (by omega) rfl
                have frq61 : Fr W_X7_filled Mq (ui M_64 78 a3.toNat y5_64) := fr_64.ui rfl
                have cyq62 : WFM (ui M_64 78 a3.toNat y5_64) := WFM_fr cy0_64 (Fr.ui (W := [(78, 99)]) Fr.rf rfl) rfl
                refine g_aload_n X 2 rfl dX7_filled_81 ?_
                refine g_getr X f_X7_126 dX7_filled_82 ?_
                refine g_iload X 0 rfl dX7_filled_85 ?_
                refine g_zald X la_85 e5_64 dX7_filled_87 (by omega) (x := M_64.1 85 b5_64.toNat) rfl ?_
                have bq63 := ig_85 I_64 b5_64.toNat (by omega)
                refine g_if_eq X rfl (tgt := 119) dX7_filled_88 (by decide) (fun cq64 => ?_) (fun cq64 => ?_)
                · refine g_iinc X 0 (fun v => [(5, .int v), (4, .int y4_64), (0, .ref (ad 47)), (1, .int x1), (2, .int x2), (3, .int x3)]) dX7_filled_119 rfl (by decide) (fun _ => rfl) (fun zq65 eq66 => ?_)
                  have tq67 : zq65.toInt = b5_64 + 1 := add_nw eq66 e5_64 (show (Int32.ofInt 1).toInt = 1 by decide) (by omega)
                  refine g_goto X (tgt := 64) dX7_filled_122 (by decide) ?_
                  refine g_sub [0, 1, 2, 3, 4, 5] rfl ?_
                  exact ih64 zq65 _ tq67 y4_64 _ e4_64 (ui M_64 78 a3.toNat y5_64) (by omega) Iq60 frq61 cyq62 (by omega)
                · refine g_aload_n X 2 rfl dX7_filled_91 ?_
                  refine g_aload_n X 2 rfl dX7_filled_92 ?_
                  refine g_getr X f_X7_132 dX7_filled_93 ?_
                  refine g_iload_n X 3 rfl dX7_filled_96 ?_
                  refine g_iald X la_87 t1 dX7_filled_97 (by omega) (x := M_64.1 87 a1.toNat) rfl ?_
                  have bq68 := ig_87 I_64 a1.toNat (by omega)
                  refine g_callV X m_X7_346 (c_X7_runsOf ad (ui M_64 78 a3.toNat y5_64) (M_64.1 87 a1.toNat) rfl Iq60 (by omega) (show 0 ≤ ((M_64.1 47 23)).toInt ∧ ((M_64.1 47 23)).toInt ≤ 1000000 by omega) cyq62) rfl (by decide) (Nat.le_of_ble_eq_true rfl) rfl dX7_filled_98 ?_
                  rintro _ Mq73 ⟨rq69, aq70, rfl, tq71, hq72, Iq74, frq75⟩
                  have frq76 : Fr W_X7_filled Mq Mq73 := frq61.trans frq75 rfl
                  have cyq77 : WFM Mq73 := WFM_fr cyq62 frq75 rfl
                  have trq78 : (Mq73.1 47 23).toInt = (M_64.1 47 23).toInt := congrArg Int32.toInt (frq75.at 47 23 rfl)
                  have trq79 : (Mq73.1 47 12).toInt = (M_64.1 47 12).toInt := congrArg Int32.toInt (frq75.at 47 12 rfl)
                  have trq80 : (Mq73.1 47 53).toInt = (M_64.1 47 53).toInt := congrArg Int32.toInt (frq75.at 47 53 rfl)
                  have trq81 : (Mq73.1 47 59).toInt = (M_64.1 47 59).toInt := congrArg Int32.toInt (frq75.at 47 59 rfl)
                  show G Γ Mq73 101 [(5, .int y5_64), (4, .int y4_64), (0, .ref (ad 47)), (1, .int x1), (2, .int x2), (3, .int x3)] [.int rq69]
                  refine g_if_ne X tq71 (tgt := 107) dX7_filled_101 (by decide) (fun cq82 => ?_) (fun cq82 => ?_)
                  · refine g_iload X 1 rfl dX7_filled_107 ?_
                    refine g_if_lt X e4_64 (tgt := 115) dX7_filled_109 (by decide) (fun cq83 => ?_) (fun cq83 => ?_)
                    · refine g_iload X 0 rfl dX7_filled_115 ?_
                      refine g_istore X [(4, .int y5_64), (5, .int y5_64), (0, .ref (ad 47)), (1, .int x1), (2, .int x2), (3, .int x3)] dX7_filled_117 (by decide) rfl ?_
                      refine g_iinc X 1 (fun v => [(5, .int v), (4, .int y5_64), (0, .ref (ad 47)), (1, .int x1), (2, .int x2), (3, .int x3)]) dX7_filled_119 rfl (by decide) (fun _ => rfl) (fun zq84 eq85 => ?_)
                      have tq86 : zq84.toInt = b5_64 + 1 := add_nw eq85 e5_64 (show (Int32.ofInt 1).toInt = 1 by decide) (by omega)
                      refine g_goto X (tgt := 64) dX7_filled_122 (by decide) ?_
                      refine g_sub [0, 1, 2, 3, 4, 5] rfl ?_
                      exact ih64 zq84 _ tq86 y5_64 _ e5_64 Mq73 (by omega) Iq74 frq76 cyq77 (by omega)
                    · refine g_bipush X (-3) dX7_filled_112 (by decide) ?_
                      exact g_iret X dX7_filled_114 ⟨_, _, rfl, (show ((-3) : Int32).toInt = (-3) by decide), trivial, Iq74, frq76⟩
                  · refine g_goto X (tgt := 119) dX7_filled_104 (by decide) ?_
                    refine g_iinc X 0 (fun v => [(5, .int v), (4, .int y4_64), (0, .ref (ad 47)), (1, .int x1), (2, .int x2), (3, .int x3)]) dX7_filled_119 rfl (by decide) (fun _ => rfl) (fun zq87 eq88 => ?_)
                    have tq89 : zq87.toInt = b5_64 + 1 := add_nw eq88 e5_64 (show (Int32.ofInt 1).toInt = 1 by decide) (by omega)
                    refine g_goto X (tgt := 64) dX7_filled_122 (by decide) ?_
                    refine g_sub [0, 1, 2, 3, 4, 5] rfl ?_
                    exact ih64 zq87 _ tq89 y4_64 _ e4_64 Mq73 (by omega) Iq74 frq76 cyq77 (by omega)
          refine g_sub [0, 1, 2, 3, 4, 5] rfl ?_
          exact lp64 _ 0 _ (show (0 : Int32).toInt = 0 by decide) (-1) _ (show ((-1) : Int32).toInt = (-1) by decide) Mq44 (by omega) Iq45 frq47 cyq48 (Nat.lt_succ_self _)
        · refine g_iconst X (-1) dX7_filled_50 (by decide) ?_
          exact g_iret X dX7_filled_51 ⟨_, _, rfl, (show ((-1) : Int32).toInt = (-1) by decide), trivial, Iq0, frq0⟩
end
