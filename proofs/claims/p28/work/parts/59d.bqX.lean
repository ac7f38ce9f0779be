section
abbrev W_X6_loan_E : List (Nat × Nat) := [(30, 99), (31, 99)]
set_option maxHeartbeats 4000000 in
set_option maxRecDepth 4000 in
theorem c_X6_loan_E (ad : Nat → Nat) (Mq : Mem) (x1 : Int32) {a1 : Int} (t1 : x1.toInt = a1) (x2 : Int32) {a2 : Int} (t2 : x2.toInt = a2) (x3 : Int32) {a3 : Int} (t3 : x3.toInt = a3) (x4 : Int32) {a4 : Int} (t4 : x4.toInt = a4) (Iq0 : Iv TX Mq) (hy : ∀ k : Nat, k < 200 → 0 ≤ (Mq.1 28 k).toInt) : Ctr ad yX6_loan cX6_loan 7 (some .int) 5 [.ref (ad 0), .int x1, .int x2, .int x3, .int x4] Mq (fun v M' => ∃ (r : Int32) (a : Int), v = some (.int r) ∧ r.toInt = a ∧ (((¬ ((0 ≤ a1 ∧ a1 < (Mq.1 23 2).toInt) ∧ (0 ≤ a2 ∧ a2 < (Mq.1 23 2).toInt) ∧ (-1 ≤ a4 ∧ a4 ≤ (Mq.1 23 7).toInt))) ∧ (a = -1)) ∨ (¬ (¬ ((0 ≤ a1 ∧ a1 < (Mq.1 23 2).toInt) ∧ (0 ≤ a2 ∧ a2 < (Mq.1 23 2).toInt) ∧ (-1 ≤ a4 ∧ a4 ≤ (Mq.1 23 7).toInt))) ∧ (¬ (0 ≤ a3 ∧ a3 ≤ 999) ∨ a1 = a2) ∧ (a = -2)) ∨ (¬ (¬ ((0 ≤ a1 ∧ a1 < (Mq.1 23 2).toInt) ∧ (0 ≤ a2 ∧ a2 < (Mq.1 23 2).toInt) ∧ (-1 ≤ a4 ∧ a4 ≤ (Mq.1 23 7).toInt))) ∧ ¬ (¬ (0 ≤ a3 ∧ a3 ≤ 999) ∨ a1 = a2) ∧ (a = (ctb (loH (fun s l => hsX Mq s l a3 (upk a4 (Mq.1 23 7).toInt).toNat) (b64 (Mq.2 1 11)) a1 a2 (mst (eW Mq 24) (fun k => ((unl (fun s l => hsX Mq s l a3 (upk a4 (Mq.1 23 7).toInt).toNat) k a1 64 : Nat) : Int)) (eW Mq 24 a1.toNat) ((Mq.1 23 2).toInt).toNat) (mst (eW Mq 24) (fun k => ((unl (fun s l => hsX Mq s l a3 (upk a4 (Mq.1 23 7).toInt).toNat) k a2 64 : Nat) : Int)) (eW Mq 24 a2.toNat) ((Mq.1 23 2).toInt).toNat)) 64 : Nat)))) ∧ Iv TX M' ∧ Fr W_X6_loan_E Mq M') := by
  refine ctr_of (L := [(0, .ref (ad 0)), (1, .int x1), (2, .int x2), (3, .int x3), (4, .int x4)]) (by decide) (Nat.le_of_ble_eq_true rfl) rfl ?_
  intro Γ X
  have X : gX Γ cX6_loan RX6 7 (some .int) 5 ad _ := X
  have frq0 : Fr W_X6_loan_E Mq Mq := Fr.rf
  have g1_3 := ig_1_3 Iq0
  have g1_12 := ig_1_12 Iq0
  have g23_2 := ig_23_2 Iq0
  have g23_7 := ig_23_7 Iq0
  have g40_5 := ig_40_5 Iq0
  have g0_7 := ig_0_7 Iq0
  refine g_aload_n X 0 rfl dX6_loan_0 ?_
  refine g_getr X f_X6_26 dX6_loan_1 ?_
  refine g_iload_n X 1 rfl dX6_loan_4 ?_
  refine g_callV X m_X6_159 (c_X0_isSinger ad Mq x1 t1) rfl (by decide) (Nat.le_of_ble_eq_true rfl) rfl dX6_loan_5 ?_
  rintro _ _ ⟨rq1, aq2, rfl, tq3, hq4, rfl⟩
  show G Γ Mq 8 [(0, .ref (ad 0)), (1, .int x1), (2, .int x2), (3, .int x3), (4, .int x4)] [.int rq1]
  refine g_if_eq X tq3 (tgt := 34) dX6_loan_8 (by decide) (fun cq5 => ?_) (fun cq5 => ?_)
  · have pq6 : ¬ (0 ≤ a1 ∧ a1 < ((Mq.1 23 2)).toInt) := by first | omega | (rcases hq4 with ⟨z1, z2⟩ | ⟨z1, z2⟩ <;> first | exact z2 | (exfalso; omega))
    clear hq4 cq5 tq3
    refine g_iconst X (-1) dX6_loan_34 (by decide) ?_
    exact g_iret X dX6_loan_35 ⟨_, _, rfl, (show ((-1) : Int32).toInt = (-1) by decide), (by first | exact Or.inl ⟨by omega, rfl⟩ | exact Or.inr (Or.inl ⟨by omega, by omega, rfl⟩) | exact Or.inr (Or.inr ⟨by omega, by omega, (by rw [hbc]; exact congrArg (fun n : Nat => (n : Int)) (loan_open (H := (fun s l => hsX Mq s l a3 (upk a4 (Mq.1 23 7).toInt).toNat)) hop h24 h232 (by omega) (by omega) hsp hq79 hq87 hq103 hq104 hq116 hq117 hmA hmB))⟩)), Iq0, frq0⟩
  · have pq7 : (0 ≤ a1 ∧ a1 < ((Mq.1 23 2)).toInt) := by first | omega | (rcases hq4 with ⟨z1, z2⟩ | ⟨z1, z2⟩ <;> first | exact z2 | (exfalso; omega))
    clear hq4 cq5 tq3
    refine g_aload_n X 0 rfl dX6_loan_11 ?_
    refine g_getr X f_X6_26 dX6_loan_12 ?_
    refine g_iload_n X 2 rfl dX6_loan_15 ?_
    refine g_callV X m_X6_159 (c_X0_isSinger ad Mq x2 t2) rfl (by decide) (Nat.le_of_ble_eq_true rfl) rfl dX6_loan_16 ?_
    rintro _ _ ⟨rq8, aq9, rfl, tq10, hq11, rfl⟩
    show G Γ Mq 19 [(0, .ref (ad 0)), (1, .int x1), (2, .int x2), (3, .int x3), (4, .int x4)] [.int rq8]
    refine g_if_eq X tq10 (tgt := 34) dX6_loan_19 (by decide) (fun cq12 => ?_) (fun cq12 => ?_)
    · have pq13 : ¬ (0 ≤ a2 ∧ a2 < ((Mq.1 23 2)).toInt) := by first | omega | (rcases hq11 with ⟨z1, z2⟩ | ⟨z1, z2⟩ <;> first | exact z2 | (exfalso; omega))
      clear hq11 cq12 tq10
      refine g_iconst X (-1) dX6_loan_34 (by decide) ?_
      exact g_iret X dX6_loan_35 ⟨_, _, rfl, (show ((-1) : Int32).toInt = (-1) by decide), (by first | exact Or.inl ⟨by omega, rfl⟩ | exact Or.inr (Or.inl ⟨by omega, by omega, rfl⟩) | exact Or.inr (Or.inr ⟨by omega, by omega, (by rw [hbc]; exact congrArg (fun n : Nat => (n : Int)) (loan_open (H := (fun s l => hsX Mq s l a3 (upk a4 (Mq.1 23 7).toInt).toNat)) hop h24 h232 (by omega) (by omega) hsp hq79 hq87 hq103 hq104 hq116 hq117 hmA hmB))⟩)), Iq0, frq0⟩
    · have pq14 : (0 ≤ a2 ∧ a2 < ((Mq.1 23 2)).toInt) := by first | omega | (rcases hq11 with ⟨z1, z2⟩ | ⟨z1, z2⟩ <;> first | exact z2 | (exfalso; omega))
      clear hq11 cq12 tq10
      refine g_aload_n X 0 rfl dX6_loan_22 ?_
      refine g_getr X f_X6_26 dX6_loan_23 ?_
      refine g_iload X 4 rfl dX6_loan_26 ?_
      refine g_callV X m_X6_195 (c_X0_isKnown ad Mq x4 t4) rfl (by decide) (Nat.le_of_ble_eq_true rfl) rfl dX6_loan_28 ?_
      rintro _ _ ⟨rq15, aq16, rfl, tq17, hq18, rfl⟩
      show G Γ Mq 31 [(0, .ref (ad 0)), (1, .int x1), (2, .int x2), (3, .int x3), (4, .int x4)] [.int rq15]
      refine g_if_ne X tq17 (tgt := 36) dX6_loan_31 (by decide) (fun cq19 => ?_) (fun cq19 => ?_)
      · have pq20 : (-1 ≤ a4 ∧ a4 ≤ ((Mq.1 23 7)).toInt) := by first | omega | (rcases hq18 with ⟨z1, z2⟩ | ⟨z1, z2⟩ <;> first | exact z2 | (exfalso; omega))
        clear hq18 cq19 tq17
        refine g_iload_n X 3 rfl dX6_loan_36 ?_
        refine g_callS X m_X6_162 (c_X6_isYear ad Mq x3 t3) rfl (by decide) (Nat.le_of_ble_eq_true rfl) rfl dX6_loan_37 ?_
        rintro _ _ ⟨rq21, aq22, rfl, tq23, hq24, rfl⟩
        show G Γ Mq 40 [(0, .ref (ad 0)), (1, .int x1), (2, .int x2), (3, .int x3), (4, .int x4)] [.int rq21]
        refine g_if_eq X tq23 (tgt := 48) dX6_loan_40 (by decide) (fun cq25 => ?_) (fun cq25 => ?_)
        · have pq26 : ¬ (0 ≤ a3 ∧ a3 ≤ 999) := by first | omega | (rcases hq24 with ⟨z1, z2⟩ | ⟨z1, z2⟩ <;> first | exact z2 | (exfalso; omega))
          clear hq24 cq25 tq23
          refine g_bipush X (-2) dX6_loan_48 (by decide) ?_
          exact g_iret X dX6_loan_50 ⟨_, _, rfl, (show ((-2) : Int32).toInt = (-2) by decide), (by first | exact Or.inl ⟨by omega, rfl⟩ | exact Or.inr (Or.inl ⟨by omega, by omega, rfl⟩) | exact Or.inr (Or.inr ⟨by omega, by omega, (by rw [hbc]; exact congrArg (fun n : Nat => (n : Int)) (loan_open (H := (fun s l => hsX Mq s l a3 (upk a4 (Mq.1 23 7).toInt).toNat)) hop h24 h232 (by omega) (by omega) hsp hq79 hq87 hq103 hq104 hq116 hq117 hmA hmB))⟩)), Iq0, frq0⟩
        · have pq27 : (0 ≤ a3 ∧ a3 ≤ 999) := by first | omega | (rcases hq24 with ⟨z1, z2⟩ | ⟨z1, z2⟩ <;> first | exact z2 | (exfalso; omega))
          clear hq24 cq25 tq23
          refine g_iload_n X 1 rfl dX6_loan_43 ?_
          refine g_iload_n X 2 rfl dX6_loan_44 ?_
          refine g_icmp_ne X t1 t2 (tgt := 51) dX6_loan_45 (by decide) (fun cq28 => ?_) (fun cq28 => ?_)
          · refine g_aload_n X 0 rfl dX6_loan_51 ?_
            refine g_getr X f_X6_26 dX6_loan_52 ?_
            refine g_iload_n X 3 rfl dX6_loan_55 ?_
            refine g_iload X 4 rfl dX6_loan_56 ?_
            refine g_callV X m_X6_204 (c_X0_openAt_E ad Mq x3 t3 x4 t4 Iq0 (by omega) hy) rfl (by decide) (Nat.le_of_ble_eq_true rfl) rfl dX6_loan_58 ?_
            rintro _ Mq34 ⟨rfl, hq32, hq33, Iq35, frq36⟩
            have frq37 : Fr W_X6_loan_E Mq Mq34 := frq0.trans frq36 rfl
            have trq38 : (Mq34.1 23 2).toInt = (Mq.1 23 2).toInt := congrArg Int32.toInt (frq36.at 23 2 rfl)
            have trq39 : (Mq34.1 23 7).toInt = (Mq.1 23 7).toInt := congrArg Int32.toInt (frq36.at 23 7 rfl)
            have hop := hq33
            have h24 := eW_fr frq36 (c := 24) rfl
            have h232 : (Mq34.1 23 2).toInt = (Mq.1 23 2).toInt := congrArg Int32.toInt (frq36.at 23 2 rfl)
            have hsp : Mq34.2 1 11 = Mq.2 1 11 := frq36.atL 1 11 rfl
            show G Γ Mq34 61 [(0, .ref (ad 0)), (1, .int x1), (2, .int x2), (3, .int x3), (4, .int x4)] []
            refine g_aload_n X 0 rfl dX6_loan_61 ?_
            refine g_getr X f_X6_26 dX6_loan_62 ?_
            refine g_getr X f_X6_214 dX6_loan_65 ?_
            refine g_iload_n X 1 rfl dX6_loan_68 ?_
            refine g_lald X la_31 t1 dX6_loan_69 (by omega) (x := Mq34.2 31 a1.toNat) rfl ?_
            refine g_aload_n X 0 rfl dX6_loan_70 ?_
            refine g_getr X f_X6_26 dX6_loan_71 ?_
            refine g_getr X f_X6_214 dX6_loan_74 ?_
            refine g_iload_n X 2 rfl dX6_loan_77 ?_
            refine g_lald X la_31 t2 dX6_loan_78 (by omega) (x := Mq34.2 31 a2.toNat) rfl ?_
            refine g_land X dX6_loan_79 (fun zq40 eq41 => ?_)
            have hq79 := eq41
            refine g_aload_n X 0 rfl dX6_loan_80 ?_
            refine g_getr X f_X6_10 dX6_loan_81 ?_
            refine g_getl X f_X6_111 dX6_loan_84 (x := Mq34.2 1 11) rfl ?_
            refine g_land X dX6_loan_87 (fun zq42 eq43 => ?_)
            have hq87 := eq43
            refine g_lstore X [(5, .long zq42), (0, .ref (ad 0)), (1, .int x1), (2, .int x2), (3, .int x3), (4, .int x4)] dX6_loan_88 (by decide) rfl ?_
            refine g_lload X 0 rfl dX6_loan_90 ?_
            refine g_aload_n X 1 rfl dX6_loan_92 ?_
            refine g_getr X f_X6_26 dX6_loan_93 ?_
            refine g_iload_n X 2 rfl dX6_loan_96 ?_
            refine g_callV X m_X6_218 (c_X0_masterStock_E ad Mq34 x1 t1 Iq35 (by omega)) rfl (by decide) (Nat.le_of_ble_eq_true rfl) rfl dX6_loan_97 ?_
            rintro _ _ ⟨rq44, aq45, rfl, tq46, hq47, rfl⟩
            have hmA := hq47
            show G Γ Mq34 100 [(5, .long zq42), (0, .ref (ad 0)), (1, .int x1), (2, .int x2), (3, .int x3), (4, .int x4)] [.long rq44, .long zq42]
            refine g_ldc2 X k_X6_222 dX6_loan_100 ?_
            refine g_lxor X dX6_loan_103 (fun zq48 eq49 => ?_)
            have hq103 := eq49
            refine g_land X dX6_loan_104 (fun zq50 eq51 => ?_)
            have hq104 := eq51
            refine g_aload_n X 1 rfl dX6_loan_105 ?_
            refine g_getr X f_X6_26 dX6_loan_106 ?_
            refine g_iload_n X 3 rfl dX6_loan_109 ?_
            refine g_callV X m_X6_218 (c_X0_masterStock_E ad Mq34 x2 t2 Iq35 (by omega)) rfl (by decide) (Nat.le_of_ble_eq_true rfl) rfl dX6_loan_110 ?_
            rintro _ _ ⟨rq52, aq53, rfl, tq54, hq55, rfl⟩
            have hmB := hq55
            show G Γ Mq34 113 [(5, .long zq42), (0, .ref (ad 0)), (1, .int x1), (2, .int x2), (3, .int x3), (4, .int x4)] [.long rq52, .long zq50]
            refine g_ldc2 X k_X6_222 dX6_loan_113 ?_
            refine g_lxor X dX6_loan_116 (fun zq56 eq57 => ?_)
            have hq116 := eq57
            refine g_land X dX6_loan_117 (fun zq58 eq59 => ?_)
            have hq117 := eq59
            refine g_callS X m_X6_198 (c_J13_bitCount_95d88_E ad Mq34 zq58 rfl) rfl (by decide) (Nat.le_of_ble_eq_true rfl) rfl dX6_loan_118 ?_
            rintro _ _ ⟨rq60, aq61, rfl, tq62, hq63, rfl⟩
            have hbc := hq63
            show G Γ Mq34 121 [(5, .long zq42), (0, .ref (ad 0)), (1, .int x1), (2, .int x2), (3, .int x3), (4, .int x4)] [.int rq60]
            exact g_iret X dX6_loan_121 ⟨_, _, rfl, tq62, (by first | exact Or.inl ⟨by omega, rfl⟩ | exact Or.inr (Or.inl ⟨by omega, by omega, rfl⟩) | exact Or.inr (Or.inr ⟨by omega, by omega, (by rw [hbc]; exact congrArg (fun n : Nat => (n : Int)) (loan_open (H := (fun s l => hsX Mq s l a3 (upk a4 (Mq.1 23 7).toInt).toNat)) hop h24 h232 (by omega) (by omega) hsp hq79 hq87 hq103 hq104 hq116 hq117 hmA hmB))⟩)), Iq35, frq37⟩
          · refine g_bipush X (-2) dX6_loan_48 (by decide) ?_
            exact g_iret X dX6_loan_50 ⟨_, _, rfl, (show ((-2) : Int32).toInt = (-2) by decide), (by first | exact Or.inl ⟨by omega, rfl⟩ | exact Or.inr (Or.inl ⟨by omega, by omega, rfl⟩) | exact Or.inr (Or.inr ⟨by omega, by omega, (by rw [hbc]; exact congrArg (fun n : Nat => (n : Int)) (loan_open (H := (fun s l => hsX Mq s l a3 (upk a4 (Mq.1 23 7).toInt).toNat)) hop h24 h232 (by omega) (by omega) hsp hq79 hq87 hq103 hq104 hq116 hq117 hmA hmB))⟩)), Iq0, frq0⟩
      · have pq64 : ¬ (-1 ≤ a4 ∧ a4 ≤ ((Mq.1 23 7)).toInt) := by first | omega | (rcases hq18 with ⟨z1, z2⟩ | ⟨z1, z2⟩ <;> first | exact z2 | (exfalso; omega))
        clear hq18 cq19 tq17
        refine g_iconst X (-1) dX6_loan_34 (by decide) ?_
        exact g_iret X dX6_loan_35 ⟨_, _, rfl, (show ((-1) : Int32).toInt = (-1) by decide), (by first | exact Or.inl ⟨by omega, rfl⟩ | exact Or.inr (Or.inl ⟨by omega, by omega, rfl⟩) | exact Or.inr (Or.inr ⟨by omega, by omega, (by rw [hbc]; exact congrArg (fun n : Nat => (n : Int)) (loan_open (H := (fun s l => hsX Mq s l a3 (upk a4 (Mq.1 23 7).toInt).toNat)) hop h24 h232 (by omega) (by omega) hsp hq79 hq87 hq103 hq104 hq116 hq117 hmA hmB))⟩)), Iq0, frq0⟩
abbrev W_X0_villageWithMost_E : List (Nat × Nat) := [(32, 99)]
set_option maxHeartbeats 4000000 in
set_option maxRecDepth 4000 in
theorem c_X0_villageWithMost_E (ad : Nat → Nat) (Mq : Mem) (x1 : Int32) {a1 : Int} (t1 : x1.toInt = a1) (Iq0 : Iv TX Mq) (h1 : 0 ≤ a1 ∧ a1 < 64) : Ctr ad yX0_villageWithMost cX0_villageWithMost 4 (some .int) 1 [.ref (ad 23), .int x1] Mq (fun v M' => ∃ (r : Int32) (a : Int), v = some (.int r) ∧ r.toInt = a ∧ (a = (mbo (fun v => vil (eW Mq 25) (fun s : Nat => b64 (Mq.2 31 s) a1.toNat) ((Mq.1 23 2).toInt).toNat v) 10).2) ∧ Iv TX M' ∧ Fr W_X0_villageWithMost_E Mq M') := by
  refine ctr_of (L := [(0, .ref (ad 23)), (1, .int x1)]) (by decide) (Nat.le_of_ble_eq_true rfl) rfl ?_
  intro Γ X
  have X : gX Γ cX0_villageWithMost RX0 4 (some .int) 1 ad _ := X
  have frq0 : Fr W_X0_villageWithMost_E Mq Mq := Fr.rf
  have hE := ig_23_2 Iq0
  refine g_aload_n X 0 rfl dX0_villageWithMost_0 ?_
  refine g_getr X f_X0_45 dX0_villageWithMost_1 ?_
  refine g_iconst X 0 dX0_villageWithMost_4 (by decide) ?_
  refine g_callS X m_X0_48 (c_J7_fill_53178_32_E ad Mq 0 (show (0 : Int32).toInt = 0 by decide) Iq0) rfl (by decide) (Nat.le_of_ble_eq_true rfl) rfl dX0_villageWithMost_5 ?_
  rintro _ Mq6 ⟨rfl, hq4, hq5, Iq7, frq8⟩
  have frq9 : Fr W_X0_villageWithMost_E Mq Mq6 := frq0.trans frq8 rfl
  have hfill := hq5
  show G Γ Mq6 8 [(0, .ref (ad 23)), (1, .int x1)] []
  refine g_iconst X 0 dX0_villageWithMost_8 (by decide) ?_
  refine g_istore_n X (i := 2) [(2, .int 0), (0, .ref (ad 23)), (1, .int x1)] dX0_villageWithMost_9 rfl (by decide) rfl ?_
  have lp10 : ∀ n : Nat, ∀ (y2_10 : Int32) (b2_10 : Int), y2_10.toInt = b2_10 → ∀ (M_10 : Mem), (0 ≤ b2_10 ∧ b2_10 ≤ (Mq.1 23 2).toInt) → (∀ v : Nat, v < 10 → (M_10.1 32 v).toInt = vil (eW Mq 25) (fun s : Nat => b64 (Mq.2 31 s) a1.toNat) (b2_10).toNat v) → (Iv TX M_10) → (Fr W_X0_villageWithMost_E Mq M_10) → ((Mq.1 23 2).toInt - b2_10).toNat < n → G Γ M_10 10 [(2, .int y2_10), (0, .ref (ad 23)), (1, .int x1)] [] := by
    intro n
    induction n with
    | zero => intro y2_10 b2_10 e2_10 M_10 i1 i2 I_10 fr_10 hm; exact absurd hm (Nat.not_lt_zero _)
    | succ n ih10 =>
      intro y2_10 b2_10 e2_10 M_10 i1 i2 I_10 fr_10 hm10
      have q2 : (M_10.1 23 2).toInt = (Mq.1 23 2).toInt := congrArg Int32.toInt (fr_10.at 23 2 rfl)
      have q25 : eW Mq 25 (b2_10).toNat = (M_10.1 25 (b2_10).toNat).toInt := (congrArg Int32.toInt (fr_10.at 25 _ rfl)).symm
      have q31 : M_10.2 31 (b2_10).toNat = Mq.2 31 (b2_10).toNat := fr_10.atL 31 _ rfl
      refine g_iload_n X 0 rfl dX0_villageWithMost_10 ?_
      refine g_aload_n X 1 rfl dX0_villageWithMost_11 ?_
      refine g_geti X f_X0_18 dX0_villageWithMost_12 (x := M_10.1 23 2) rfl ?_
      have bq10 := ig_23_2 I_10
      refine g_icmp_ge X e2_10 rfl (tgt := 48) dX0_villageWithMost_15 (by decide) (fun cq11 => ?_) (fun cq11 => ?_)
      · refine g_iconst X 0 dX0_villageWithMost_48 (by decide) ?_
        refine g_istore_n X (i := 2) [(2, .int 0), (0, .ref (ad 23)), (1, .int x1)] dX0_villageWithMost_49 rfl (by decide) rfl ?_
        refine g_iconst X 1 dX0_villageWithMost_50 (by decide) ?_
        refine g_istore_n X (i := 3) [(3, .int 1), (2, .int 0), (0, .ref (ad 23)), (1, .int x1)] dX0_villageWithMost_51 rfl (by decide) rfl ?_
        have lp52 : ∀ n : Nat, ∀ (y3_52 : Int32) (b3_52 : Int), y3_52.toInt = b3_52 → ∀ (y2_52 : Int32) (b2_52 : Int), y2_52.toInt = b2_52 → (1 ≤ b3_52 ∧ b3_52 ≤ 10) → (0 ≤ b2_52 ∧ b2_52 ≤ 9) → (VB (fun v => (M_10.1 32 v).toInt) b2_52 b3_52) → (10 - b3_52).toNat < n → G Γ M_10 52 [(3, .int y3_52), (2, .int y2_52), (0, .ref (ad 23)), (1, .int x1)] [] := by
          intro n
          induction n with
          | zero => intro y3_52 b3_52 e3_52 y2_52 b2_52 e2_52 j1 j2 j3 hm; exact absurd hm (Nat.not_lt_zero _)
          | succ n ih52 =>
            intro y3_52 b3_52 e3_52 y2_52 b2_52 e2_52 j1 j2 j3 hm52
            have hnn := vil_rng (eW Mq 25) (fun s : Nat => b64 (Mq.2 31 s) a1.toNat) b2_10.toNat (b2_52).toNat
            rw [← i2 (b2_52).toNat (by omega)] at hnn
            refine g_iload_n X 0 rfl dX0_villageWithMost_52 ?_
            refine g_bipush X 10 dX0_villageWithMost_53 (by decide) ?_
            refine g_icmp_ge X e3_52 (show (10 : Int32).toInt = 10 by decide) (tgt := 81) dX0_villageWithMost_55 (by decide) (fun cq12 => ?_) (fun cq12 => ?_)
            · refine g_aload_n X 2 rfl dX0_villageWithMost_81 ?_
              refine g_getr X f_X0_45 dX0_villageWithMost_82 ?_
              refine g_iload_n X 1 rfl dX0_villageWithMost_85 ?_
              refine g_iald X la_32 e2_52 dX0_villageWithMost_86 (by omega) (x := M_10.1 32 b2_52.toNat) rfl ?_
              refine g_if_ne X rfl (tgt := 95) dX0_villageWithMost_87 (by decide) (fun cq13 => ?_) (fun cq13 => ?_)
              · refine g_iload_n X 1 rfl dX0_villageWithMost_95 ?_
                exact g_iret X dX0_villageWithMost_96 ⟨_, _, rfl, e2_52, (by have e : b3_52 = 10 := (by omega); rw [e] at j3; have e2 : b2_10 = (Mq.1 23 2).toInt := (by omega); rw [e2] at i2; exact VB_ret j3 (fun v hv => i2 v hv) (by first | exact Or.inl ⟨by assumption, rfl⟩ | exact Or.inr ⟨by assumption, rfl⟩) hnn.1), I_10, fr_10⟩
              · refine g_bipush X (-5) dX0_villageWithMost_90 (by decide) ?_
                refine g_goto X (tgt := 96) dX0_villageWithMost_92 (by decide) ?_
                exact g_iret X dX0_villageWithMost_96 ⟨_, _, rfl, (show ((-5) : Int32).toInt = (-5) by decide), (by have e : b3_52 = 10 := (by omega); rw [e] at j3; have e2 : b2_10 = (Mq.1 23 2).toInt := (by omega); rw [e2] at i2; exact VB_ret j3 (fun v hv => i2 v hv) (by first | exact Or.inl ⟨by assumption, rfl⟩ | exact Or.inr ⟨by assumption, rfl⟩) hnn.1), I_10, fr_10⟩
            · refine g_aload_n X 2 rfl dX0_villageWithMost_58 ?_
              refine g_getr X f_X0_45 dX0_villageWithMost_59 ?_
              refine g_iload_n X 0 rfl dX0_villageWithMost_62 ?_
              refine g_iald X la_32 e3_52 dX0_villageWithMost_63 (by omega) (x := M_10.1 32 b3_52.toNat) rfl ?_
              refine g_aload_n X 2 rfl dX0_villageWithMost_64 ?_
              refine g_getr X f_X0_45 dX0_villageWithMost_65 ?_
              refine g_iload_n X 1 rfl dX0_villageWithMost_68 ?_
              refine g_iald X la_32 e2_52 dX0_villageWithMost_69 (by omega) (x := M_10.1 32 b2_52.toNat) rfl ?_
              refine g_icmp_le X rfl rfl (tgt := 75) dX0_villageWithMost_70 (by decide) (fun cq14 => ?_) (fun cq14 => ?_)
              · refine g_iinc X 0 (fun v => [(3, .int v), (2, .int y2_52), (0, .ref (ad 23)), (1, .int x1)]) dX0_villageWithMost_75 rfl (by decide) (fun _ => rfl) (fun zq15 eq16 => ?_)
                have tq17 : zq15.toInt = b3_52 + 1 := add_nw eq16 e3_52 (show (Int32.ofInt 1).toInt = 1 by decide) (by omega)
                refine g_goto X (tgt := 52) dX0_villageWithMost_78 (by decide) ?_
                refine g_sub [0, 1, 2, 3] rfl ?_
                exact ih52 zq15 _ tq17 y2_52 _ e2_52 (by omega) (by omega) (by first | exact VB_n j3 (by omega) (by assumption) | exact VB_y j3 (by omega) (by assumption) hnn.1) (by omega)
              · refine g_iload_n X 0 rfl dX0_villageWithMost_73 ?_
                refine g_istore_n X (i := 2) [(2, .int y3_52), (3, .int y3_52), (0, .ref (ad 23)), (1, .int x1)] dX0_villageWithMost_74 rfl (by decide) rfl ?_
                refine g_iinc X 1 (fun v => [(3, .int v), (2, .int y3_52), (0, .ref (ad 23)), (1, .int x1)]) dX0_villageWithMost_75 rfl (by decide) (fun _ => rfl) (fun zq18 eq19 => ?_)
                have tq20 : zq18.toInt = b3_52 + 1 := add_nw eq19 e3_52 (show (Int32.ofInt 1).toInt = 1 by decide) (by omega)
                refine g_goto X (tgt := 52) dX0_villageWithMost_78 (by decide) ?_
                refine g_sub [0, 1, 2, 3] rfl ?_
                exact ih52 zq18 _ tq20 y3_52 _ e3_52 (by omega) (by omega) (by first | exact VB_n j3 (by omega) (by assumption) | exact VB_y j3 (by omega) (by assumption) hnn.1) (by omega)
        refine g_sub [0, 1, 2, 3] rfl ?_
        exact lp52 _ 1 _ (show (1 : Int32).toInt = 1 by decide) 0 _ (show (0 : Int32).toInt = 0 by decide) (by omega) (by omega) (VB_1 (by show 0 ≤ (M_10.1 32 0).toInt; rw [i2 0 (by omega)]; exact (vil_rng _ _ _ _).1)) (Nat.lt_succ_self _)
      · refine g_aload_n X 1 rfl dX0_villageWithMost_18 ?_
        refine g_getr X f_X0_45 dX0_villageWithMost_19 ?_
        refine g_aload_n X 1 rfl dX0_villageWithMost_22 ?_
        refine g_getr X f_X0_15 dX0_villageWithMost_23 ?_
        refine g_iload_n X 0 rfl dX0_villageWithMost_26 ?_
        refine g_iald X la_25 e2_10 dX0_villageWithMost_27 (by omega) (x := M_10.1 25 b2_10.toNat) rfl ?_
        have bq21 := ig_25 I_10 b2_10.toNat (by omega)
        refine g_dup2 X dX0_villageWithMost_28 rfl rfl ?_
        have hv0 := i2 (((M_10.1 25 (b2_10).toNat).toInt).toNat) (by omega)
        have hvr := vil_rng (eW Mq 25) (fun s : Nat => b64 (Mq.2 31 s) a1.toNat) (b2_10).toNat (((M_10.1 25 (b2_10).toNat).toInt).toNat)
        refine g_iald X la_32 rfl dX0_villageWithMost_29 (by omega) (x := M_10.1 32 (((M_10.1 25 b2_10.toNat).toInt).toNat)) rfl ?_
        refine g_aload_n X 1 rfl dX0_villageWithMost_30 ?_
        refine g_getr X f_X0_41 dX0_villageWithMost_31 ?_
        refine g_iload_n X 0 rfl dX0_villageWithMost_34 ?_
        refine g_lald X la_31 e2_10 dX0_villageWithMost_35 (by omega) (x := M_10.2 31 b2_10.toNat) rfl ?_
        refine g_iload_n X 2 rfl dX0_villageWithMost_36 ?_
        refine g_callS X m_X0_82 (c_X6_bit_E ad M_10 (M_10.2 31 b2_10.toNat) rfl x1 t1 (by omega)) rfl (by decide) (Nat.le_of_ble_eq_true rfl) rfl dX0_villageWithMost_37 ?_
        rintro _ _ ⟨rq22, aq23, rfl, tq24, hq25, rfl⟩
        have hbit := hq25
        rw [q31] at hbit
        show G Γ M_10 40 [(2, .int y2_10), (0, .ref (ad 23)), (1, .int x1)] [.int rq22, .int (M_10.1 32 (((M_10.1 25 b2_10.toNat).toInt).toNat)), .int (M_10.1 25 b2_10.toNat), .ref (ad 32)]
        refine g_iadd X dX0_villageWithMost_40 (fun zq26 eq27 => ?_)
        have tq28 : zq26.toInt = ((M_10.1 32 (((M_10.1 25 b2_10.toNat).toInt).toNat)).toInt) + aq23 := add_nw eq27 rfl tq24 (by omega)
        refine g_iast X la_32 rfl dX0_villageWithMost_41 (by omega) ?_
        have Iq29 : Iv TX (ui M_10 32 (((M_10.1 25 b2_10.toNat).toInt).toNat) zq26) := I_10.otherA rfl
        have frq30 : Fr W_X0_villageWithMost_E Mq (ui M_10 32 (((M_10.1 25 b2_10.toNat).toInt).toNat) zq26) := fr_10.ui rfl
        refine g_iinc X 0 (fun v => [(2, .int v), (0, .ref (ad 23)), (1, .int x1)]) dX0_villageWithMost_42 rfl (by decide) (fun _ => rfl) (fun zq31 eq32 => ?_)
        have tq33 : zq31.toInt = b2_10 + 1 := add_nw eq32 e2_10 (show (Int32.ofInt 1).toInt = 1 by decide) (by omega)
        refine g_goto X (tgt := 10) dX0_villageWithMost_45 (by decide) ?_
        refine g_sub [0, 1, 2] rfl ?_
        exact ih10 zq31 _ tq33 (ui M_10 32 (((M_10.1 25 b2_10.toNat).toInt).toNat) zq26) (by omega) (vw_step (hb := (fun s : Nat => b64 (Mq.2 31 s) a1.toNat)) i2 q25 (by omega) hbit (by assumption) (by omega)) Iq29 frq30 (by omega)
  refine g_sub [0, 1, 2] rfl ?_
  exact lp10 _ 0 _ (show (0 : Int32).toInt = 0 by decide) Mq6 (by omega) (fun v hv => (congrArg Int32.toInt (hfill v hv)).trans rfl) Iq7 frq9 (Nat.lt_succ_self _)
abbrev W_X6_whose_E : List (Nat × Nat) := [(30, 99), (31, 99), (32, 99)]
set_option maxHeartbeats 4000000 in
set_option maxRecDepth 4000 in
theorem c_X6_whose_E (ad : Nat → Nat) (Mq : Mem) (x1 : Int32) {a1 : Int} (t1 : x1.toInt = a1) (x2 : Int32) {a2 : Int} (t2 : x2.toInt = a2) (x3 : Int32) {a3 : Int} (t3 : x3.toInt = a3) (Iq0 : Iv TX Mq) (hy : ∀ k : Nat, k < 200 → 0 ≤ (Mq.1 28 k).toInt) : Ctr ad yX6_whose cX6_whose 4 (some .int) 3 [.ref (ad 0), .int x1, .int x2, .int x3] Mq (fun v M' => ∃ (r : Int32) (a : Int), v = some (.int r) ∧ r.toInt = a ∧ (((¬ ((0 ≤ a1 ∧ a1 < (Mq.1 1 12).toInt) ∧ (-1 ≤ a3 ∧ a3 ≤ (Mq.1 23 7).toInt))) ∧ (a = -1)) ∨ (¬ (¬ ((0 ≤ a1 ∧ a1 < (Mq.1 1 12).toInt) ∧ (-1 ≤ a3 ∧ a3 ≤ (Mq.1 23 7).toInt))) ∧ (¬ (0 ≤ a2 ∧ a2 ≤ 999)) ∧ (a = -2)) ∨ (¬ (¬ ((0 ≤ a1 ∧ a1 < (Mq.1 1 12).toInt) ∧ (-1 ≤ a3 ∧ a3 ≤ (Mq.1 23 7).toInt))) ∧ ¬ (¬ (0 ≤ a2 ∧ a2 ≤ 999)) ∧ (a = (mbo (fun v => vil (eW Mq 25) (fun s : Nat => hsX Mq s a1 a2 (upk a3 (Mq.1 23 7).toInt).toNat) ((Mq.1 23 2).toInt).toNat v) 10).2))) ∧ Iv TX M' ∧ Fr W_X6_whose_E Mq M') := by
  refine ctr_of (L := [(0, .ref (ad 0)), (1, .int x1), (2, .int x2), (3, .int x3)]) (by decide) (Nat.le_of_ble_eq_true rfl) rfl ?_
  intro Γ X
  have X : gX Γ cX6_whose RX6 4 (some .int) 3 ad _ := X
  have frq0 : Fr W_X6_whose_E Mq Mq := Fr.rf
  have g1_3 := ig_1_3 Iq0
  have g1_12 := ig_1_12 Iq0
  have g23_2 := ig_23_2 Iq0
  have g23_7 := ig_23_7 Iq0
  have g40_5 := ig_40_5 Iq0
  have g0_7 := ig_0_7 Iq0
  refine g_aload_n X 0 rfl dX6_whose_0 ?_
  refine g_getr X f_X6_10 dX6_whose_1 ?_
  refine g_iload_n X 1 rfl dX6_whose_4 ?_
  refine g_callV X m_X6_96 (c_X5_isLine ad Mq x1 t1) rfl (by decide) (Nat.le_of_ble_eq_true rfl) rfl dX6_whose_5 ?_
  rintro _ _ ⟨rq1, aq2, rfl, tq3, hq4, rfl⟩
  show G Γ Mq 8 [(0, .ref (ad 0)), (1, .int x1), (2, .int x2), (3, .int x3)] [.int rq1]
  refine g_if_eq X tq3 (tgt := 22) dX6_whose_8 (by decide) (fun cq5 => ?_) (fun cq5 => ?_)
  · have pq6 : ¬ (0 ≤ a1 ∧ a1 < ((Mq.1 1 12)).toInt) := by first | omega | (rcases hq4 with ⟨z1, z2⟩ | ⟨z1, z2⟩ <;> first | exact z2 | (exfalso; omega))
    clear hq4 cq5 tq3
    refine g_iconst X (-1) dX6_whose_22 (by decide) ?_
    exact g_iret X dX6_whose_23 ⟨_, _, rfl, (show ((-1) : Int32).toInt = (-1) by decide), (by first | exact Or.inl ⟨by omega, rfl⟩ | exact Or.inr (Or.inl ⟨by omega, by omega, rfl⟩) | exact Or.inr (Or.inr ⟨by omega, by omega, (by rw [hbb, h25, h232]; exact congrArg Prod.snd (mbo_cong (fun v _ => vil_cong (fun s hs => ⟨rfl, by rw [hop s (by omega) a1.toNat (by omega), tn_cast (by omega)]⟩))))⟩)), Iq0, frq0⟩
  · have pq7 : (0 ≤ a1 ∧ a1 < ((Mq.1 1 12)).toInt) := by first | omega | (rcases hq4 with ⟨z1, z2⟩ | ⟨z1, z2⟩ <;> first | exact z2 | (exfalso; omega))
    clear hq4 cq5 tq3
    refine g_aload_n X 0 rfl dX6_whose_11 ?_
    refine g_getr X f_X6_26 dX6_whose_12 ?_
    refine g_iload_n X 3 rfl dX6_whose_15 ?_
    refine g_callV X m_X6_195 (c_X0_isKnown ad Mq x3 t3) rfl (by decide) (Nat.le_of_ble_eq_true rfl) rfl dX6_whose_16 ?_
    rintro _ _ ⟨rq8, aq9, rfl, tq10, hq11, rfl⟩
    show G Γ Mq 19 [(0, .ref (ad 0)), (1, .int x1), (2, .int x2), (3, .int x3)] [.int rq8]
    refine g_if_ne X tq10 (tgt := 24) dX6_whose_19 (by decide) (fun cq12 => ?_) (fun cq12 => ?_)
    · have pq13 : (-1 ≤ a3 ∧ a3 ≤ ((Mq.1 23 7)).toInt) := by first | omega | (rcases hq11 with ⟨z1, z2⟩ | ⟨z1, z2⟩ <;> first | exact z2 | (exfalso; omega))
      clear hq11 cq12 tq10
      refine g_iload_n X 2 rfl dX6_whose_24 ?_
      refine g_callS X m_X6_162 (c_X6_isYear ad Mq x2 t2) rfl (by decide) (Nat.le_of_ble_eq_true rfl) rfl dX6_whose_25 ?_
      rintro _ _ ⟨rq14, aq15, rfl, tq16, hq17, rfl⟩
      show G Γ Mq 28 [(0, .ref (ad 0)), (1, .int x1), (2, .int x2), (3, .int x3)] [.int rq14]
      refine g_if_ne X tq16 (tgt := 34) dX6_whose_28 (by decide) (fun cq18 => ?_) (fun cq18 => ?_)
      · have pq19 : (0 ≤ a2 ∧ a2 ≤ 999) := by first | omega | (rcases hq17 with ⟨z1, z2⟩ | ⟨z1, z2⟩ <;> first | exact z2 | (exfalso; omega))
        clear hq17 cq18 tq16
        refine g_aload_n X 0 rfl dX6_whose_34 ?_
        refine g_getr X f_X6_26 dX6_whose_35 ?_
        refine g_iload_n X 2 rfl dX6_whose_38 ?_
        refine g_iload_n X 3 rfl dX6_whose_39 ?_
        refine g_callV X m_X6_204 (c_X0_openAt_E ad Mq x2 t2 x3 t3 Iq0 (by omega) hy) rfl (by decide) (Nat.le_of_ble_eq_true rfl) rfl dX6_whose_40 ?_
        rintro _ Mq25 ⟨rfl, hq23, hq24, Iq26, frq27⟩
        have frq28 : Fr W_X6_whose_E Mq Mq25 := frq0.trans frq27 rfl
        have trq29 : (Mq25.1 23 2).toInt = (Mq.1 23 2).toInt := congrArg Int32.toInt (frq27.at 23 2 rfl)
        have trq30 : (Mq25.1 23 7).toInt = (Mq.1 23 7).toInt := congrArg Int32.toInt (frq27.at 23 7 rfl)
        have hop := hq24
        have h25 := eW_fr frq27 (c := 25) rfl
        have h232 : (Mq25.1 23 2).toInt = (Mq.1 23 2).toInt := congrArg Int32.toInt (frq27.at 23 2 rfl)
        show G Γ Mq25 43 [(0, .ref (ad 0)), (1, .int x1), (2, .int x2), (3, .int x3)] []
        refine g_aload_n X 0 rfl dX6_whose_43 ?_
        refine g_getr X f_X6_26 dX6_whose_44 ?_
        refine g_iload_n X 1 rfl dX6_whose_47 ?_
        refine g_callV X m_X6_231 (c_X0_villageWithMost_E ad Mq25 x1 t1 Iq26 (by omega)) rfl (by decide) (Nat.le_of_ble_eq_true rfl) rfl dX6_whose_48 ?_
        rintro _ Mq35 ⟨rq31, aq32, rfl, tq33, hq34, Iq36, frq37⟩
        have frq38 : Fr W_X6_whose_E Mq Mq35 := frq28.trans frq37 rfl
        have trq39 : (Mq35.1 23 2).toInt = (Mq25.1 23 2).toInt := congrArg Int32.toInt (frq37.at 23 2 rfl)
        have trq40 : (Mq35.1 23 7).toInt = (Mq25.1 23 7).toInt := congrArg Int32.toInt (frq37.at 23 7 rfl)
        have hbb := hq34
        show G Γ Mq35 51 [(0, .ref (ad 0)), (1, .int x1), (2, .int x2), (3, .int x3)] [.int rq31]
        exact g_iret X dX6_whose_51 ⟨_, _, rfl, tq33, (by first | exact Or.inl ⟨by omega, rfl⟩ | exact Or.inr (Or.inl ⟨by omega, by omega, rfl⟩) | exact Or.inr (Or.inr ⟨by omega, by omega, (by rw [hbb, h25, h232]; exact congrArg Prod.snd (mbo_cong (fun v _ => vil_cong (fun s hs => ⟨rfl, by rw [hop s (by omega) a1.toNat (by omega), tn_cast (by omega)]⟩))))⟩)), Iq36, frq38⟩
      · have pq41 : ¬ (0 ≤ a2 ∧ a2 ≤ 999) := by first | omega | (rcases hq17 with ⟨z1, z2⟩ | ⟨z1, z2⟩ <;> first | exact z2 | (exfalso; omega))
        clear hq17 cq18 tq16
        refine g_bipush X (-2) dX6_whose_31 (by decide) ?_
        exact g_iret X dX6_whose_33 ⟨_, _, rfl, (show ((-2) : Int32).toInt = (-2) by decide), (by first | exact Or.inl ⟨by omega, rfl⟩ | exact Or.inr (Or.inl ⟨by omega, by omega, rfl⟩) | exact Or.inr (Or.inr ⟨by omega, by omega, (by rw [hbb, h25, h232]; exact congrArg Prod.snd (mbo_cong (fun v _ => vil_cong (fun s hs => ⟨rfl, by rw [hop s (by omega) a1.toNat (by omega), tn_cast (by omega)]⟩))))⟩)), Iq0, frq0⟩
    · have pq42 : ¬ (-1 ≤ a3 ∧ a3 ≤ ((Mq.1 23 7)).toInt) := by first | omega | (rcases hq11 with ⟨z1, z2⟩ | ⟨z1, z2⟩ <;> first | exact z2 | (exfalso; omega))
      clear hq11 cq12 tq10
      refine g_iconst X (-1) dX6_whose_22 (by decide) ?_
      exact g_iret X dX6_whose_23 ⟨_, _, rfl, (show ((-1) : Int32).toInt = (-1) by decide), (by first | exact Or.inl ⟨by omega, rfl⟩ | exact Or.inr (Or.inl ⟨by omega, by omega, rfl⟩) | exact Or.inr (Or.inr ⟨by omega, by omega, (by rw [hbb, h25, h232]; exact congrArg Prod.snd (mbo_cong (fun v _ => vil_cong (fun s hs => ⟨rfl, by rw [hop s (by omega) a1.toNat (by omega), tn_cast (by omega)]⟩))))⟩)), Iq0, frq0⟩
set_option maxHeartbeats 4000000 in
set_option maxRecDepth 4000 in
theorem c_X0_stockAround_E (ad : Nat → Nat) (Mq : Mem) (x1 : Int32) {a1 : Int} (t1 : x1.toInt = a1) (Iq0 : Iv TX Mq) (h1 : 0 ≤ a1 ∧ a1 < (Mq.1 23 2).toInt) : Ctr ad yX0_stockAround cX0_stockAround 5 (some .long) 5 [.ref (ad 23), .int x1] Mq (fun v M' => ∃ (r : Int64) (a : Int), v = some (.long r) ∧ r.toInt = a ∧ (∀ l : Nat, l < 64 → b64 r l = nrX Mq a1.toNat l ((Mq.1 23 2).toInt).toNat) ∧ Mq = M') := by
  refine ctr_of (L := [(0, .ref (ad 23)), (1, .int x1)]) (by decide) (Nat.le_of_ble_eq_true rfl) rfl ?_
  intro Γ X
  have X : gX Γ cX0_stockAround RX0 5 (some .long) 5 ad _ := X
  have hE := ig_23_2 Iq0
  refine g_aload_n X 0 rfl dX0_stockAround_0 ?_
  refine g_getr X f_X0_41 dX0_stockAround_1 ?_
  refine g_iload_n X 1 rfl dX0_stockAround_4 ?_
  refine g_lald X la_31 t1 dX0_stockAround_5 (by omega) (x := Mq.2 31 a1.toNat) rfl ?_
  refine g_aload_n X 0 rfl dX0_stockAround_6 ?_
  refine g_iload_n X 1 rfl dX0_stockAround_7 ?_
  refine g_callV X m_X0_78 (c_X0_masterStock_E ad Mq x1 t1 Iq0 (by omega)) rfl (by decide) (Nat.le_of_ble_eq_true rfl) rfl dX0_stockAround_8 ?_
  rintro _ _ ⟨rq1, aq2, rfl, tq3, hq4, rfl⟩
  have hms := hq4
  show G Γ Mq 11 [(0, .ref (ad 23)), (1, .int x1)] [.long rq1, .long (Mq.2 31 a1.toNat)]
  refine g_lor X dX0_stockAround_11 (fun zq5 eq6 => ?_)
  have hq11 := eq6
  refine g_lstore_n X (i := 2) [(2, .long zq5), (0, .ref (ad 23)), (1, .int x1)] dX0_stockAround_12 rfl (by decide) rfl ?_
  refine g_iconst X 0 dX0_stockAround_13 (by decide) ?_
  refine g_istore X [(4, .int 0), (2, .long zq5), (0, .ref (ad 23)), (1, .int x1)] dX0_stockAround_14 (by decide) rfl ?_
  have lp16 : ∀ n : Nat, ∀ (y4_16 : Int32) (b4_16 : Int), y4_16.toInt = b4_16 → ∀ (y2_16 : Int64) (b2_16 : Int), y2_16.toInt = b2_16 → (0 ≤ b4_16 ∧ b4_16 ≤ (Mq.1 23 2).toInt) → (∀ l : Nat, l < 64 → b64 y2_16 l = nrS Mq a1.toNat l ((Mq.1 23 2).toInt).toNat (b4_16).toNat) → ((Mq.1 23 2).toInt - b4_16).toNat < n → G Γ Mq 16 [(4, .int y4_16), (2, .long y2_16), (0, .ref (ad 23)), (1, .int x1)] [] := by
    intro n
    induction n with
    | zero => intro y4_16 b4_16 e4_16 y2_16 b2_16 e2_16 i1 i2 hm; exact absurd hm (Nat.not_lt_zero _)
    | succ n ih16 =>
      intro y4_16 b4_16 e4_16 y2_16 b2_16 e2_16 i1 i2 hm16
      refine g_iload X 0 rfl dX0_stockAround_16 ?_
      refine g_aload_n X 2 rfl dX0_stockAround_18 ?_
      refine g_geti X f_X0_18 dX0_stockAround_19 (x := Mq.1 23 2) rfl ?_
      have bq7 := ig_23_2 Iq0
      refine g_icmp_ge X e4_16 rfl (tgt := 51) dX0_stockAround_22 (by decide) (fun cq8 => ?_) (fun cq8 => ?_)
      · refine g_lload_n X 1 rfl dX0_stockAround_51 ?_
        exact g_lret X dX0_stockAround_52 ⟨_, _, rfl, e2_16, (by have e : b4_16 = (Mq.1 23 2).toInt := (by omega); rw [e] at i2; exact i2), rfl⟩
      · refine g_aload_n X 2 rfl dX0_stockAround_25 ?_
        refine g_iload X 0 rfl dX0_stockAround_26 ?_
        refine g_callV X m_X0_74 (c_X0_masterOf_E ad Mq y4_16 e4_16 Iq0 (by omega)) rfl (by decide) (Nat.le_of_ble_eq_true rfl) rfl dX0_stockAround_28 ?_
        rintro _ _ ⟨rq9, aq10, rfl, tq11, hq12, rfl⟩
        have hmm := hq12.1
        show G Γ Mq 31 [(4, .int y4_16), (2, .long y2_16), (0, .ref (ad 23)), (1, .int x1)] [.int rq9]
        refine g_iload_n X 3 rfl dX0_stockAround_31 ?_
        refine g_icmp_ne X tq11 t1 (tgt := 45) dX0_stockAround_32 (by decide) (fun cq13 => ?_) (fun cq13 => ?_)
        · refine g_iinc X 0 (fun v => [(4, .int v), (2, .long y2_16), (0, .ref (ad 23)), (1, .int x1)]) dX0_stockAround_45 rfl (by decide) (fun _ => rfl) (fun zq14 eq15 => ?_)
          have tq16 : zq14.toInt = b4_16 + 1 := add_nw eq15 e4_16 (show (Int32.ofInt 1).toInt = 1 by decide) (by omega)
          refine g_goto X (tgt := 16) dX0_stockAround_48 (by decide) ?_
          refine g_sub [0, 1, 2, 3] rfl ?_
          exact ih16 zq14 _ tq16 y2_16 _ e2_16 (by omega) (by first | exact nrS_y i2 hq43 (by omega) (by omega) | exact nrS_n i2 (by omega) (by omega)) (by omega)
        · refine g_lload_n X 1 rfl dX0_stockAround_35 ?_
          refine g_aload_n X 2 rfl dX0_stockAround_36 ?_
          refine g_getr X f_X0_41 dX0_stockAround_37 ?_
          refine g_iload X 0 rfl dX0_stockAround_40 ?_
          refine g_lald X la_31 e4_16 dX0_stockAround_42 (by omega) (x := Mq.2 31 b4_16.toNat) rfl ?_
          refine g_lor X dX0_stockAround_43 (fun zq17 eq18 => ?_)
          have hq43 := eq18
          refine g_lstore_n X (i := 2) [(2, .long zq17), (4, .int y4_16), (0, .ref (ad 23)), (1, .int x1)] dX0_stockAround_44 rfl (by decide) rfl ?_
          refine g_iinc X 1 (fun v => [(4, .int v), (2, .long zq17), (0, .ref (ad 23)), (1, .int x1)]) dX0_stockAround_45 rfl (by decide) (fun _ => rfl) (fun zq19 eq20 => ?_)
          have tq21 : zq19.toInt = b4_16 + 1 := add_nw eq20 e4_16 (show (Int32.ofInt 1).toInt = 1 by decide) (by omega)
          refine g_goto X (tgt := 16) dX0_stockAround_48 (by decide) ?_
          refine g_sub [0, 1, 2, 3] rfl ?_
          exact ih16 zq19 _ tq21 zq17 _ rfl (by omega) (by first | exact nrS_y i2 hq43 (by omega) (by omega) | exact nrS_n i2 (by omega) (by omega)) (by omega)
  refine g_sub [0, 1, 2, 3] rfl ?_
  exact lp16 _ 0 _ (show (0 : Int32).toInt = 0 by decide) zq5 _ rfl (by omega) (nrS_0 hq11 rfl hms) (Nat.lt_succ_self _)
abbrev W_X6_forged_E : List (Nat × Nat) := [(30, 99), (31, 99)]
set_option maxHeartbeats 4000000 in
set_option maxRecDepth 4000 in
theorem c_X6_forged_E (ad : Nat → Nat) (Mq : Mem) (x1 : Int32) {a1 : Int} (t1 : x1.toInt = a1) (x2 : Int32) {a2 : Int} (t2 : x2.toInt = a2) (x3 : Int32) {a3 : Int} (t3 : x3.toInt = a3) (Iq0 : Iv TX Mq) (hy : ∀ k : Nat, k < 200 → 0 ≤ (Mq.1 28 k).toInt) (hg : ∀ j : Nat, j < 24 → 0 ≤ (Mq.1 46 j).toInt ∧ (Mq.1 46 j).toInt ≤ 40) : Ctr ad yX6_forged cX6_forged 7 (some .int) 6 [.ref (ad 0), .int x1, .int x2, .int x3] Mq (fun v M' => ∃ (r : Int32) (a : Int), v = some (.int r) ∧ r.toInt = a ∧ (((¬ ((0 ≤ a1 ∧ a1 < (Mq.1 23 2).toInt) ∧ (-1 ≤ a3 ∧ a3 ≤ (Mq.1 23 7).toInt))) ∧ (a = -1)) ∨ (¬ (¬ ((0 ≤ a1 ∧ a1 < (Mq.1 23 2).toInt) ∧ (-1 ≤ a3 ∧ a3 ≤ (Mq.1 23 7).toInt))) ∧ (¬ (0 ≤ a2 ∧ a2 ≤ 999)) ∧ (a = -2)) ∨ (¬ (¬ ((0 ≤ a1 ∧ a1 < (Mq.1 23 2).toInt) ∧ (-1 ≤ a3 ∧ a3 ≤ (Mq.1 23 7).toInt))) ∧ ¬ (¬ (0 ≤ a2 ∧ a2 ≤ 999)) ∧ ((Mq.1 0 7).toInt = 0) ∧ (a = -3)) ∨ (¬ (¬ ((0 ≤ a1 ∧ a1 < (Mq.1 23 2).toInt) ∧ (-1 ≤ a3 ∧ a3 ≤ (Mq.1 23 7).toInt))) ∧ ¬ (¬ (0 ≤ a2 ∧ a2 ≤ 999)) ∧ ¬ ((Mq.1 0 7).toInt = 0) ∧ (fst5 (fun j => (Mq.1 46 j).toInt = 40 ∨ nrH (eW Mq 24) (fun s l => hsX Mq s l a2 (upk a3 (Mq.1 23 7).toInt).toNat) 64 ((Mq.1 23 2).toInt).toNat a1 (Mq.1 46 j).toInt = true) ((Mq.1 0 7).toInt).toNat a))) ∧ Iv TX M' ∧ Fr W_X6_forged_E Mq M') := by
  refine ctr_of (L := [(0, .ref (ad 0)), (1, .int x1), (2, .int x2), (3, .int x3)]) (by decide) (Nat.le_of_ble_eq_true rfl) rfl ?_
  intro Γ X
  have X : gX Γ cX6_forged RX6 7 (some .int) 6 ad _ := X
  have frq0 : Fr W_X6_forged_E Mq Mq := Fr.rf
  have g1_3 := ig_1_3 Iq0
  have g1_12 := ig_1_12 Iq0
  have g23_2 := ig_23_2 Iq0
  have g23_7 := ig_23_7 Iq0
  have g40_5 := ig_40_5 Iq0
  have g0_7 := ig_0_7 Iq0
  refine g_aload_n X 0 rfl dX6_forged_0 ?_
  refine g_getr X f_X6_26 dX6_forged_1 ?_
  refine g_iload_n X 1 rfl dX6_forged_4 ?_
  refine g_callV X m_X6_159 (c_X0_isSinger ad Mq x1 t1) rfl (by decide) (Nat.le_of_ble_eq_true rfl) rfl dX6_forged_5 ?_
  rintro _ _ ⟨rq1, aq2, rfl, tq3, hq4, rfl⟩
  show G Γ Mq 8 [(0, .ref (ad 0)), (1, .int x1), (2, .int x2), (3, .int x3)] [.int rq1]
  refine g_if_eq X tq3 (tgt := 22) dX6_forged_8 (by decide) (fun cq5 => ?_) (fun cq5 => ?_)
  · have pq6 : ¬ (0 ≤ a1 ∧ a1 < ((Mq.1 23 2)).toInt) := by first | omega | (rcases hq4 with ⟨z1, z2⟩ | ⟨z1, z2⟩ <;> first | exact z2 | (exfalso; omega))
    refine g_iconst X (-1) dX6_forged_22 (by decide) ?_
    exact g_iret X dX6_forged_23 ⟨_, _, rfl, (show ((-1) : Int32).toInt = (-1) by decide), (by first | exact Or.inl ⟨by omega, rfl⟩ | exact Or.inr (Or.inl ⟨by omega, by omega, rfl⟩) | exact Or.inr (Or.inr (Or.inl ⟨by omega, by omega, by omega, rfl⟩)) | exact Or.inr (Or.inr (Or.inr ⟨by omega, by omega, by omega, (by refine fst5_iff (ok := fun j => (Mq.1 46 j).toInt = 40 ∨ b64 0 ((Mq.1 46 j).toInt).toNat = true) ?_ (fun j hj => by show (_ ∨ _) ↔ (_ ∨ _); rw [h46 j, hnr _ (by have := hg j (by omega); omega), nrX_open (H := (fun s l => hsX Mq s l a2 (upk a3 (Mq.1 23 7).toInt).toNat)) hop h24 h232 (by omega) (by have := hg j (by omega); omega), tn_cast (hg j (by omega)).1]); first | exact Or.inl ⟨rfl, fun j hj => i2 j (by omega)⟩ | exact Or.inr ⟨i1.1, by omega, (by rintro (z | z); exact absurd z (by assumption); exact bb0 hbb (by assumption) z), fun j hj => i2 j (by omega)⟩)⟩))), Iq0, frq0⟩
  · have pq7 : (0 ≤ a1 ∧ a1 < ((Mq.1 23 2)).toInt) := by first | omega | (rcases hq4 with ⟨z1, z2⟩ | ⟨z1, z2⟩ <;> first | exact z2 | (exfalso; omega))
    refine g_aload_n X 0 rfl dX6_forged_11 ?_
    refine g_getr X f_X6_26 dX6_forged_12 ?_
    refine g_iload_n X 3 rfl dX6_forged_15 ?_
    refine g_callV X m_X6_195 (c_X0_isKnown ad Mq x3 t3) rfl (by decide) (Nat.le_of_ble_eq_true rfl) rfl dX6_forged_16 ?_
    rintro _ _ ⟨rq8, aq9, rfl, tq10, hq11, rfl⟩
    show G Γ Mq 19 [(0, .ref (ad 0)), (1, .int x1), (2, .int x2), (3, .int x3)] [.int rq8]
    refine g_if_ne X tq10 (tgt := 24) dX6_forged_19 (by decide) (fun cq12 => ?_) (fun cq12 => ?_)
    · have pq13 : (-1 ≤ a3 ∧ a3 ≤ ((Mq.1 23 7)).toInt) := by first | omega | (rcases hq11 with ⟨z1, z2⟩ | ⟨z1, z2⟩ <;> first | exact z2 | (exfalso; omega))
      refine g_iload_n X 2 rfl dX6_forged_24 ?_
      refine g_callS X m_X6_162 (c_X6_isYear ad Mq x2 t2) rfl (by decide) (Nat.le_of_ble_eq_true rfl) rfl dX6_forged_25 ?_
      rintro _ _ ⟨rq14, aq15, rfl, tq16, hq17, rfl⟩
      show G Γ Mq 28 [(0, .ref (ad 0)), (1, .int x1), (2, .int x2), (3, .int x3)] [.int rq14]
      refine g_if_ne X tq16 (tgt := 34) dX6_forged_28 (by decide) (fun cq18 => ?_) (fun cq18 => ?_)
      · have pq19 : (0 ≤ a2 ∧ a2 ≤ 999) := by first | omega | (rcases hq17 with ⟨z1, z2⟩ | ⟨z1, z2⟩ <;> first | exact z2 | (exfalso; omega))
        refine g_aload_n X 0 rfl dX6_forged_34 ?_
        refine g_geti X f_X6_57 dX6_forged_35 (x := Mq.1 0 7) rfl ?_
        have bq20 := ig_0_7 Iq0
        refine g_if_ne X rfl (tgt := 44) dX6_forged_38 (by decide) (fun cq21 => ?_) (fun cq21 => ?_)
        · refine g_aload_n X 0 rfl dX6_forged_44 ?_
          refine g_getr X f_X6_26 dX6_forged_45 ?_
          refine g_iload_n X 2 rfl dX6_forged_48 ?_
          refine g_iload_n X 3 rfl dX6_forged_49 ?_
          refine g_callV X m_X6_204 (c_X0_openAt_E ad Mq x2 t2 x3 t3 Iq0 (by omega) hy) rfl (by decide) (Nat.le_of_ble_eq_true rfl) rfl dX6_forged_50 ?_
          rintro _ Mq27 ⟨rfl, hq25, hq26, Iq28, frq29⟩
          have frq30 : Fr W_X6_forged_E Mq Mq27 := frq0.trans frq29 rfl
          have trq31 : (Mq27.1 23 2).toInt = (Mq.1 23 2).toInt := congrArg Int32.toInt (frq29.at 23 2 rfl)
          have trq32 : (Mq27.1 23 7).toInt = (Mq.1 23 7).toInt := congrArg Int32.toInt (frq29.at 23 7 rfl)
          have hop := hq26
          have h24 := eW_fr frq29 (c := 24) rfl
          have h232 : (Mq27.1 23 2).toInt = (Mq.1 23 2).toInt := congrArg Int32.toInt (frq29.at 23 2 rfl)
          have h07 : (Mq27.1 0 7).toInt = (Mq.1 0 7).toInt := congrArg Int32.toInt (frq29.at 0 7 rfl)
          have h46 : ∀ j : Nat, Mq27.1 46 j = Mq.1 46 j := fun j => frq29.at 46 j rfl
          have hgM : ∀ j : Nat, j < 24 → 0 ≤ (Mq27.1 46 j).toInt ∧ (Mq27.1 46 j).toInt ≤ 40 := fun j hj => by rw [h46 j]; exact hg j hj
          show G Γ Mq27 53 [(0, .ref (ad 0)), (1, .int x1), (2, .int x2), (3, .int x3)] []
          refine g_aload_n X 0 rfl dX6_forged_53 ?_
          refine g_getr X f_X6_26 dX6_forged_54 ?_
          refine g_iload_n X 1 rfl dX6_forged_57 ?_
          refine g_callV X m_X6_241 (c_X0_stockAround_E ad Mq27 x1 t1 Iq28 (by omega)) rfl (by decide) (Nat.le_of_ble_eq_true rfl) rfl dX6_forged_58 ?_
          rintro _ _ ⟨rq33, aq34, rfl, tq35, hq36, rfl⟩
          have hnr := hq36
          show G Γ Mq27 61 [(0, .ref (ad 0)), (1, .int x1), (2, .int x2), (3, .int x3)] [.long rq33]
          refine g_lstore X [(4, .long rq33), (0, .ref (ad 0)), (1, .int x1), (2, .int x2), (3, .int x3)] dX6_forged_61 (by decide) rfl ?_
          refine g_iconst X 0 dX6_forged_63 (by decide) ?_
          refine g_istore X [(6, .int 0), (4, .long rq33), (0, .ref (ad 0)), (1, .int x1), (2, .int x2), (3, .int x3)] dX6_forged_64 (by decide) rfl ?_
          have lp66 : ∀ n : Nat, ∀ (y6_66 : Int32) (b6_66 : Int), y6_66.toInt = b6_66 → (0 ≤ b6_66 ∧ b6_66 ≤ (Mq27.1 0 7).toInt) → (∀ j : Nat, (j : Int) < b6_66 → ((Mq27.1 46 j).toInt = 40 ∨ b64 rq33 ((Mq27.1 46 j).toInt).toNat = true)) → ((Mq27.1 0 7).toInt - b6_66).toNat < n → G Γ Mq27 66 [(6, .int y6_66), (4, .long rq33), (0, .ref (ad 0)), (1, .int x1), (2, .int x2), (3, .int x3)] [] := by
            intro n
            induction n with
            | zero => intro y6_66 b6_66 e6_66 i1 i2 hm; exact absurd hm (Nat.not_lt_zero _)
            | succ n ih66 =>
              intro y6_66 b6_66 e6_66 i1 i2 hm66
              have hgj := hgM (b6_66).toNat
              refine g_iload X 0 rfl dX6_forged_66 ?_
              refine g_aload_n X 2 rfl dX6_forged_68 ?_
              refine g_geti X f_X6_57 dX6_forged_69 (x := Mq27.1 0 7) rfl ?_
              have bq37 := ig_0_7 Iq28
              refine g_icmp_ge X e6_66 rfl (tgt := 111) dX6_forged_72 (by decide) (fun cq38 => ?_) (fun cq38 => ?_)
              · refine g_bipush X (-5) dX6_forged_111 (by decide) ?_
                exact g_iret X dX6_forged_113 ⟨_, _, rfl, (show ((-5) : Int32).toInt = (-5) by decide), (by first | exact Or.inl ⟨by omega, rfl⟩ | exact Or.inr (Or.inl ⟨by omega, by omega, rfl⟩) | exact Or.inr (Or.inr (Or.inl ⟨by omega, by omega, by omega, rfl⟩)) | exact Or.inr (Or.inr (Or.inr ⟨by omega, by omega, by omega, (by refine fst5_iff (ok := fun j => (Mq27.1 46 j).toInt = 40 ∨ b64 rq33 ((Mq27.1 46 j).toInt).toNat = true) ?_ (fun j hj => by show (_ ∨ _) ↔ (_ ∨ _); rw [h46 j, hnr _ (by have := hg j (by omega); omega), nrX_open (H := (fun s l => hsX Mq s l a2 (upk a3 (Mq.1 23 7).toInt).toNat)) hop h24 h232 (by omega) (by have := hg j (by omega); omega), tn_cast (hg j (by omega)).1]); first | exact Or.inl ⟨rfl, fun j hj => i2 j (by omega)⟩ | exact Or.inr ⟨i1.1, by omega, (by rintro (z | z); exact absurd z (by assumption); exact bb0 hbb (by assumption) z), fun j hj => i2 j (by omega)⟩)⟩))), Iq28, frq30⟩
              · refine g_aload_n X 2 rfl dX6_forged_75 ?_
                refine g_getr X f_X6_53 dX6_forged_76 ?_
                refine g_iload X 0 rfl dX6_forged_79 ?_
                refine g_iald X la_46 e6_66 dX6_forged_81 (by omega) (x := Mq27.1 46 b6_66.toNat) rfl ?_
                refine g_bipush X 40 dX6_forged_82 (by decide) ?_
                refine g_icmp_eq X rfl (show (40 : Int32).toInt = 40 by decide) (tgt := 105) dX6_forged_84 (by decide) (fun cq39 => ?_) (fun cq39 => ?_)
                · refine g_iinc X 0 (fun v => [(6, .int v), (4, .long rq33), (0, .ref (ad 0)), (1, .int x1), (2, .int x2), (3, .int x3)]) dX6_forged_105 rfl (by decide) (fun _ => rfl) (fun zq40 eq41 => ?_)
                  have tq42 : zq40.toInt = b6_66 + 1 := add_nw eq41 e6_66 (show (Int32.ofInt 1).toInt = 1 by decide) (by omega)
                  refine g_goto X (tgt := 66) dX6_forged_108 (by decide) ?_
                  refine g_sub [0, 1, 2, 3, 4, 5] rfl ?_
                  exact ih66 zq40 _ tq42 (by omega) (ok_s (ok := fun j => (Mq27.1 46 j).toInt = 40 ∨ b64 rq33 ((Mq27.1 46 j).toInt).toNat = true) i2 (by first | exact Or.inl (by assumption) | exact Or.inr (bb1 hbb (by assumption))) i1.1) (by omega)
                · refine g_lload X 1 rfl dX6_forged_87 ?_
                  refine g_aload_n X 2 rfl dX6_forged_89 ?_
                  refine g_getr X f_X6_53 dX6_forged_90 ?_
                  refine g_iload X 0 rfl dX6_forged_93 ?_
                  refine g_iald X la_46 e6_66 dX6_forged_95 (by omega) (x := Mq27.1 46 b6_66.toNat) rfl ?_
                  refine g_callS X m_X6_115 (c_X6_bit_E ad Mq27 rq33 tq35 (Mq27.1 46 b6_66.toNat) rfl (by omega)) rfl (by decide) (Nat.le_of_ble_eq_true rfl) rfl dX6_forged_96 ?_
                  rintro _ _ ⟨rq43, aq44, rfl, tq45, hq46, rfl⟩
                  have hbb := hq46
                  show G Γ Mq27 99 [(6, .int y6_66), (4, .long rq33), (0, .ref (ad 0)), (1, .int x1), (2, .int x2), (3, .int x3)] [.int rq43]
                  refine g_if_ne X tq45 (tgt := 105) dX6_forged_99 (by decide) (fun cq47 => ?_) (fun cq47 => ?_)
                  · have pq48 : (b64 rq33 ((Mq27.1 46 b6_66.toNat).toInt).toNat = true) := by first | omega | (rcases hq46 with ⟨z1, z2⟩ | ⟨z1, z2⟩ <;> first | exact z2 | (exfalso; omega))
                    refine g_iinc X 0 (fun v => [(6, .int v), (4, .long rq33), (0, .ref (ad 0)), (1, .int x1), (2, .int x2), (3, .int x3)]) dX6_forged_105 rfl (by decide) (fun _ => rfl) (fun zq49 eq50 => ?_)
                    have tq51 : zq49.toInt = b6_66 + 1 := add_nw eq50 e6_66 (show (Int32.ofInt 1).toInt = 1 by decide) (by omega)
                    refine g_goto X (tgt := 66) dX6_forged_108 (by decide) ?_
                    refine g_sub [0, 1, 2, 3, 4, 5] rfl ?_
                    exact ih66 zq49 _ tq51 (by omega) (ok_s (ok := fun j => (Mq27.1 46 j).toInt = 40 ∨ b64 rq33 ((Mq27.1 46 j).toInt).toNat = true) i2 (by first | exact Or.inl (by assumption) | exact Or.inr (bb1 hbb (by assumption))) i1.1) (by omega)
                  · have pq52 : ¬ (b64 rq33 ((Mq27.1 46 b6_66.toNat).toInt).toNat = true) := by first | omega | (rcases hq46 with ⟨z1, z2⟩ | ⟨z1, z2⟩ <;> first | exact z2 | (exfalso; omega))
                    refine g_iload X 0 rfl dX6_forged_102 ?_
                    exact g_iret X dX6_forged_104 ⟨_, _, rfl, e6_66, (by first | exact Or.inl ⟨by omega, rfl⟩ | exact Or.inr (Or.inl ⟨by omega, by omega, rfl⟩) | exact Or.inr (Or.inr (Or.inl ⟨by omega, by omega, by omega, rfl⟩)) | exact Or.inr (Or.inr (Or.inr ⟨by omega, by omega, by omega, (by refine fst5_iff (ok := fun j => (Mq27.1 46 j).toInt = 40 ∨ b64 rq33 ((Mq27.1 46 j).toInt).toNat = true) ?_ (fun j hj => by show (_ ∨ _) ↔ (_ ∨ _); rw [h46 j, hnr _ (by have := hg j (by omega); omega), nrX_open (H := (fun s l => hsX Mq s l a2 (upk a3 (Mq.1 23 7).toInt).toNat)) hop h24 h232 (by omega) (by have := hg j (by omega); omega), tn_cast (hg j (by omega)).1]); first | exact Or.inl ⟨rfl, fun j hj => i2 j (by omega)⟩ | exact Or.inr ⟨i1.1, by omega, (by rintro (z | z); exact absurd z (by assumption); exact bb0 hbb (by assumption) z), fun j hj => i2 j (by omega)⟩)⟩))), Iq28, frq30⟩
          refine g_sub [0, 1, 2, 3, 4, 5] rfl ?_
          exact lp66 _ 0 _ (show (0 : Int32).toInt = 0 by decide) (by omega) (fun j hj => absurd hj (by omega)) (Nat.lt_succ_self _)
        · refine g_bipush X (-3) dX6_forged_41 (by decide) ?_
          exact g_iret X dX6_forged_43 ⟨_, _, rfl, (show ((-3) : Int32).toInt = (-3) by decide), (by first | exact Or.inl ⟨by omega, rfl⟩ | exact Or.inr (Or.inl ⟨by omega, by omega, rfl⟩) | exact Or.inr (Or.inr (Or.inl ⟨by omega, by omega, by omega, rfl⟩)) | exact Or.inr (Or.inr (Or.inr ⟨by omega, by omega, by omega, (by refine fst5_iff (ok := fun j => (Mq.1 46 j).toInt = 40 ∨ b64 0 ((Mq.1 46 j).toInt).toNat = true) ?_ (fun j hj => by show (_ ∨ _) ↔ (_ ∨ _); rw [h46 j, hnr _ (by have := hg j (by omega); omega), nrX_open (H := (fun s l => hsX Mq s l a2 (upk a3 (Mq.1 23 7).toInt).toNat)) hop h24 h232 (by omega) (by have := hg j (by omega); omega), tn_cast (hg j (by omega)).1]); first | exact Or.inl ⟨rfl, fun j hj => i2 j (by omega)⟩ | exact Or.inr ⟨i1.1, by omega, (by rintro (z | z); exact absurd z (by assumption); exact bb0 hbb (by assumption) z), fun j hj => i2 j (by omega)⟩)⟩))), Iq0, frq0⟩
      · have pq53 : ¬ (0 ≤ a2 ∧ a2 ≤ 999) := by first | omega | (rcases hq17 with ⟨z1, z2⟩ | ⟨z1, z2⟩ <;> first | exact z2 | (exfalso; omega))
        refine g_bipush X (-2) dX6_forged_31 (by decide) ?_
        exact g_iret X dX6_forged_33 ⟨_, _, rfl, (show ((-2) : Int32).toInt = (-2) by decide), (by first | exact Or.inl ⟨by omega, rfl⟩ | exact Or.inr (Or.inl ⟨by omega, by omega, rfl⟩) | exact Or.inr (Or.inr (Or.inl ⟨by omega, by omega, by omega, rfl⟩)) | exact Or.inr (Or.inr (Or.inr ⟨by omega, by omega, by omega, (by refine fst5_iff (ok := fun j => (Mq.1 46 j).toInt = 40 ∨ b64 0 ((Mq.1 46 j).toInt).toNat = true) ?_ (fun j hj => by show (_ ∨ _) ↔ (_ ∨ _); rw [h46 j, hnr _ (by have := hg j (by omega); omega), nrX_open (H := (fun s l => hsX Mq s l a2 (upk a3 (Mq.1 23 7).toInt).toNat)) hop h24 h232 (by omega) (by have := hg j (by omega); omega), tn_cast (hg j (by omega)).1]); first | exact Or.inl ⟨rfl, fun j hj => i2 j (by omega)⟩ | exact Or.inr ⟨i1.1, by omega, (by rintro (z | z); exact absurd z (by assumption); exact bb0 hbb (by assumption) z), fun j hj => i2 j (by omega)⟩)⟩))), Iq0, frq0⟩
    · have pq54 : ¬ (-1 ≤ a3 ∧ a3 ≤ ((Mq.1 23 7)).toInt) := by first | omega | (rcases hq11 with ⟨z1, z2⟩ | ⟨z1, z2⟩ <;> first | exact z2 | (exfalso; omega))
      refine g_iconst X (-1) dX6_forged_22 (by decide) ?_
      exact g_iret X dX6_forged_23 ⟨_, _, rfl, (show ((-1) : Int32).toInt = (-1) by decide), (by first | exact Or.inl ⟨by omega, rfl⟩ | exact Or.inr (Or.inl ⟨by omega, by omega, rfl⟩) | exact Or.inr (Or.inr (Or.inl ⟨by omega, by omega, by omega, rfl⟩)) | exact Or.inr (Or.inr (Or.inr ⟨by omega, by omega, by omega, (by refine fst5_iff (ok := fun j => (Mq.1 46 j).toInt = 40 ∨ b64 0 ((Mq.1 46 j).toInt).toNat = true) ?_ (fun j hj => by show (_ ∨ _) ↔ (_ ∨ _); rw [h46 j, hnr _ (by have := hg j (by omega); omega), nrX_open (H := (fun s l => hsX Mq s l a2 (upk a3 (Mq.1 23 7).toInt).toNat)) hop h24 h232 (by omega) (by have := hg j (by omega); omega), tn_cast (hg j (by omega)).1]); first | exact Or.inl ⟨rfl, fun j hj => i2 j (by omega)⟩ | exact Or.inr ⟨i1.1, by omega, (by rintro (z | z); exact absurd z (by assumption); exact bb0 hbb (by assumption) z), fun j hj => i2 j (by omega)⟩)⟩))), Iq0, frq0⟩
end
