section
set_option maxHeartbeats 4000000 in
set_option maxRecDepth 4000 in
theorem c_J13_bitCount_95d88_E (ad : Nat → Nat) (Mq : Mem) (x1 : Int64) {a1 : Int} (t1 : x1.toInt = a1) : Ctr ad yJ13_bitCount_95d88 cJ13_bitCount_95d88 2 (some .int) 0 [.long x1] Mq (fun v M' => ∃ (r : Int32) (a : Int), v = some (.int r) ∧ r.toInt = a ∧ (a = (ctb (b64 x1) 64 : Nat)) ∧ Mq = M') := by
  refine ctr_of (L := [(0, .long x1)]) (by decide) (Nat.le_of_ble_eq_true rfl) rfl ?_
  intro Γ X
  have X : gX Γ cJ13_bitCount_95d88 RJ13 2 (some .int) 0 ad _ := X
  refine g_lload_n X 0 rfl dJ13_bitCount_95d88_0 ?_
  refine g_lload_n X 0 rfl dJ13_bitCount_95d88_1 ?_
  refine g_iconst X 1 dJ13_bitCount_95d88_2 (by decide) ?_
  refine g_lushr X dJ13_bitCount_95d88_3 (fun zq1 eq2 => ?_)
  have hq3 := eq2
  refine g_ldc2 X k_J13_314 dJ13_bitCount_95d88_4 ?_
  refine g_land X dJ13_bitCount_95d88_7 (fun zq3 eq4 => ?_)
  have hq7 := eq4
  refine g_lsub X dJ13_bitCount_95d88_8 (fun zq5 eq6 => ?_)
  have hq8 := eq6
  refine g_lstore_n X (i := 0) [(0, .long zq5)] dJ13_bitCount_95d88_9 rfl (by decide) rfl ?_
  refine g_lload_n X 0 rfl dJ13_bitCount_95d88_10 ?_
  refine g_ldc2 X k_J13_316 dJ13_bitCount_95d88_11 ?_
  refine g_land X dJ13_bitCount_95d88_14 (fun zq7 eq8 => ?_)
  have hq14 := eq8
  refine g_lload_n X 0 rfl dJ13_bitCount_95d88_15 ?_
  refine g_iconst X 2 dJ13_bitCount_95d88_16 (by decide) ?_
  refine g_lushr X dJ13_bitCount_95d88_17 (fun zq9 eq10 => ?_)
  have hq17 := eq10
  refine g_ldc2 X k_J13_316 dJ13_bitCount_95d88_18 ?_
  refine g_land X dJ13_bitCount_95d88_21 (fun zq11 eq12 => ?_)
  have hq21 := eq12
  refine g_ladd X dJ13_bitCount_95d88_22 (fun zq13 eq14 => ?_)
  have hq22 := eq14
  refine g_lstore_n X (i := 0) [(0, .long zq13)] dJ13_bitCount_95d88_23 rfl (by decide) rfl ?_
  refine g_lload_n X 0 rfl dJ13_bitCount_95d88_24 ?_
  refine g_lload_n X 0 rfl dJ13_bitCount_95d88_25 ?_
  refine g_iconst X 4 dJ13_bitCount_95d88_26 (by decide) ?_
  refine g_lushr X dJ13_bitCount_95d88_27 (fun zq15 eq16 => ?_)
  have hq27 := eq16
  refine g_ladd X dJ13_bitCount_95d88_28 (fun zq17 eq18 => ?_)
  have hq28 := eq18
  refine g_ldc2 X k_J13_318 dJ13_bitCount_95d88_29 ?_
  refine g_land X dJ13_bitCount_95d88_32 (fun zq19 eq20 => ?_)
  have hq32 := eq20
  refine g_lstore_n X (i := 0) [(0, .long zq19)] dJ13_bitCount_95d88_33 rfl (by decide) rfl ?_
  refine g_lload_n X 0 rfl dJ13_bitCount_95d88_34 ?_
  refine g_lload_n X 0 rfl dJ13_bitCount_95d88_35 ?_
  refine g_bipush X 8 dJ13_bitCount_95d88_36 (by decide) ?_
  refine g_lushr X dJ13_bitCount_95d88_38 (fun zq21 eq22 => ?_)
  have hq38 := eq22
  refine g_ladd X dJ13_bitCount_95d88_39 (fun zq23 eq24 => ?_)
  have hq39 := eq24
  refine g_lstore_n X (i := 0) [(0, .long zq23)] dJ13_bitCount_95d88_40 rfl (by decide) rfl ?_
  refine g_lload_n X 0 rfl dJ13_bitCount_95d88_41 ?_
  refine g_lload_n X 0 rfl dJ13_bitCount_95d88_42 ?_
  refine g_bipush X 16 dJ13_bitCount_95d88_43 (by decide) ?_
  refine g_lushr X dJ13_bitCount_95d88_45 (fun zq25 eq26 => ?_)
  have hq45 := eq26
  refine g_ladd X dJ13_bitCount_95d88_46 (fun zq27 eq28 => ?_)
  have hq46 := eq28
  refine g_lstore_n X (i := 0) [(0, .long zq27)] dJ13_bitCount_95d88_47 rfl (by decide) rfl ?_
  refine g_lload_n X 0 rfl dJ13_bitCount_95d88_48 ?_
  refine g_lload_n X 0 rfl dJ13_bitCount_95d88_49 ?_
  refine g_bipush X 32 dJ13_bitCount_95d88_50 (by decide) ?_
  refine g_lushr X dJ13_bitCount_95d88_52 (fun zq29 eq30 => ?_)
  have hq52 := eq30
  refine g_ladd X dJ13_bitCount_95d88_53 (fun zq31 eq32 => ?_)
  have hq53 := eq32
  refine g_lstore_n X (i := 0) [(0, .long zq31)] dJ13_bitCount_95d88_54 rfl (by decide) rfl ?_
  refine g_lload_n X 0 rfl dJ13_bitCount_95d88_55 ?_
  refine g_l2i X dJ13_bitCount_95d88_56 (fun zq33 eq34 => ?_)
  have hq56 := eq34
  refine g_bipush X 127 dJ13_bitCount_95d88_57 (by decide) ?_
  refine g_iand X dJ13_bitCount_95d88_59 (fun zq35 eq36 => ?_)
  have hq59 := eq36
  exact g_iret X dJ13_bitCount_95d88_60 ⟨_, _, rfl, rfl, (bc_spec hq3 hq7 hq8 hq14 hq17 hq21 hq22 hq27 hq28 hq32 hq38 hq39 hq45 hq46 hq52 hq53 hq56 hq59), rfl⟩
abbrev W_J7_fill_53178_30_E : List (Nat × Nat) := [(30, 99)]
set_option maxHeartbeats 4000000 in
set_option maxRecDepth 4000 in
theorem c_J7_fill_53178_30_E (ad : Nat → Nat) (Mq : Mem) (x2 : Int32) {a2 : Int} (t2 : x2.toInt = a2) (Iq0 : Iv TX Mq) : Ctr ad yJ7_fill_53178 cJ7_fill_53178 4 none 0 [.ref (ad 30), .int x2] Mq (fun v M' => v = none ∧ (True) ∧ (∀ j : Nat, j < 40 → M'.1 30 j = x2) ∧ Iv TX M' ∧ Fr W_J7_fill_53178_30_E Mq M') := by
  refine ctr_of (L := [(0, .ref (ad 30)), (1, .int x2)]) (by decide) (Nat.le_of_ble_eq_true rfl) rfl ?_
  intro Γ X
  have X : gX Γ cJ7_fill_53178 RJ7 4 none 0 ad _ := X
  have frq0 : Fr W_J7_fill_53178_30_E Mq Mq := Fr.rf
  refine g_iconst X 0 dJ7_fill_53178_0 (by decide) ?_
  refine g_istore_n X (i := 2) [(2, .int 0), (0, .ref (ad 30)), (1, .int x2)] dJ7_fill_53178_1 rfl (by decide) rfl ?_
  refine g_aload_n X 1 rfl dJ7_fill_53178_2 ?_
  refine g_alen X la_30 40 (by decide) dJ7_fill_53178_3 ?_
  refine g_istore_n X (i := 3) [(3, .int 40), (2, .int 0), (0, .ref (ad 30)), (1, .int x2)] dJ7_fill_53178_4 rfl (by decide) rfl ?_
  have lp5 : ∀ n : Nat, ∀ (y2_5 : Int32) (b2_5 : Int), y2_5.toInt = b2_5 → ∀ (M_5 : Mem), (0 ≤ b2_5) → (∀ j : Nat, (j : Int) < b2_5 → M_5.1 30 j = x2) → (Iv TX M_5) → (Fr W_J7_fill_53178_30_E Mq M_5) → (40 - b2_5).toNat < n → G Γ M_5 5 [(3, .int 40), (2, .int y2_5), (0, .ref (ad 30)), (1, .int x2)] [] := by
    intro n
    induction n with
    | zero => intro y2_5 b2_5 e2_5 M_5 i1 i2 I_5 fr_5 hm; exact absurd hm (Nat.not_lt_zero _)
    | succ n ih5 =>
      intro y2_5 b2_5 e2_5 M_5 i1 i2 I_5 fr_5 hm5
      refine g_iload_n X 1 rfl dJ7_fill_53178_5 ?_
      refine g_iload_n X 0 rfl dJ7_fill_53178_6 ?_
      refine g_icmp_ge X e2_5 (show (40 : Int32).toInt = 40 by decide) (tgt := 20) dJ7_fill_53178_7 (by decide) (fun cq1 => ?_) (fun cq1 => ?_)
      · exact g_vret X dJ7_fill_53178_20 ⟨rfl, trivial, (fun j hj => i2 j (by omega)), I_5, fr_5⟩
      · refine g_aload_n X 2 rfl dJ7_fill_53178_10 ?_
        refine g_iload_n X 1 rfl dJ7_fill_53178_11 ?_
        refine g_iload_n X 3 rfl dJ7_fill_53178_12 ?_
        refine g_iast X la_30 e2_5 dJ7_fill_53178_13 (by omega) ?_
        have Iq2 : Iv TX (ui M_5 30 b2_5.toNat x2) := I_5.otherA rfl
        have frq3 : Fr W_J7_fill_53178_30_E Mq (ui M_5 30 b2_5.toNat x2) := fr_5.ui rfl
        refine g_iinc X 1 (fun v => [(2, .int v), (3, .int 40), (0, .ref (ad 30)), (1, .int x2)]) dJ7_fill_53178_14 rfl (by decide) (fun _ => rfl) (fun zq4 eq5 => ?_)
        have tq6 : zq4.toInt = b2_5 + 1 := add_nw eq5 e2_5 (show (Int32.ofInt 1).toInt = 1 by decide) (by omega)
        refine g_goto X (tgt := 5) dJ7_fill_53178_17 (by decide) ?_
        refine g_sub [1, 0, 2, 3] rfl ?_
        exact ih5 zq4 _ tq6 (ui M_5 30 b2_5.toNat x2) (by omega) (fill_step i2 i1) Iq2 frq3 (by omega)
  refine g_sub [0, 1, 2, 3] rfl ?_
  exact lp5 _ 0 _ (show (0 : Int32).toInt = 0 by decide) Mq (by omega) (fun j hj => absurd hj (by omega)) Iq0 frq0 (Nat.lt_succ_self _)
abbrev W_J7_fill_53178_32_E : List (Nat × Nat) := [(32, 99)]
set_option maxHeartbeats 4000000 in
set_option maxRecDepth 4000 in
theorem c_J7_fill_53178_32_E (ad : Nat → Nat) (Mq : Mem) (x2 : Int32) {a2 : Int} (t2 : x2.toInt = a2) (Iq0 : Iv TX Mq) : Ctr ad yJ7_fill_53178 cJ7_fill_53178 4 none 0 [.ref (ad 32), .int x2] Mq (fun v M' => v = none ∧ (True) ∧ (∀ j : Nat, j < 10 → M'.1 32 j = x2) ∧ Iv TX M' ∧ Fr W_J7_fill_53178_32_E Mq M') := by
  refine ctr_of (L := [(0, .ref (ad 32)), (1, .int x2)]) (by decide) (Nat.le_of_ble_eq_true rfl) rfl ?_
  intro Γ X
  have X : gX Γ cJ7_fill_53178 RJ7 4 none 0 ad _ := X
  have frq0 : Fr W_J7_fill_53178_32_E Mq Mq := Fr.rf
  refine g_iconst X 0 dJ7_fill_53178_0 (by decide) ?_
  refine g_istore_n X (i := 2) [(2, .int 0), (0, .ref (ad 32)), (1, .int x2)] dJ7_fill_53178_1 rfl (by decide) rfl ?_
  refine g_aload_n X 1 rfl dJ7_fill_53178_2 ?_
  refine g_alen X la_32 10 (by decide) dJ7_fill_53178_3 ?_
  refine g_istore_n X (i := 3) [(3, .int 10), (2, .int 0), (0, .ref (ad 32)), (1, .int x2)] dJ7_fill_53178_4 rfl (by decide) rfl ?_
  have lp5 : ∀ n : Nat, ∀ (y2_5 : Int32) (b2_5 : Int), y2_5.toInt = b2_5 → ∀ (M_5 : Mem), (0 ≤ b2_5) → (∀ j : Nat, (j : Int) < b2_5 → M_5.1 32 j = x2) → (Iv TX M_5) → (Fr W_J7_fill_53178_32_E Mq M_5) → (10 - b2_5).toNat < n → G Γ M_5 5 [(3, .int 10), (2, .int y2_5), (0, .ref (ad 32)), (1, .int x2)] [] := by
    intro n
    induction n with
    | zero => intro y2_5 b2_5 e2_5 M_5 i1 i2 I_5 fr_5 hm; exact absurd hm (Nat.not_lt_zero _)
    | succ n ih5 =>
      intro y2_5 b2_5 e2_5 M_5 i1 i2 I_5 fr_5 hm5
      refine g_iload_n X 1 rfl dJ7_fill_53178_5 ?_
      refine g_iload_n X 0 rfl dJ7_fill_53178_6 ?_
      refine g_icmp_ge X e2_5 (show (10 : Int32).toInt = 10 by decide) (tgt := 20) dJ7_fill_53178_7 (by decide) (fun cq1 => ?_) (fun cq1 => ?_)
      · exact g_vret X dJ7_fill_53178_20 ⟨rfl, trivial, (fun j hj => i2 j (by omega)), I_5, fr_5⟩
      · refine g_aload_n X 2 rfl dJ7_fill_53178_10 ?_
        refine g_iload_n X 1 rfl dJ7_fill_53178_11 ?_
        refine g_iload_n X 3 rfl dJ7_fill_53178_12 ?_
        refine g_iast X la_32 e2_5 dJ7_fill_53178_13 (by omega) ?_
        have Iq2 : Iv TX (ui M_5 32 b2_5.toNat x2) := I_5.otherA rfl
        have frq3 : Fr W_J7_fill_53178_32_E Mq (ui M_5 32 b2_5.toNat x2) := fr_5.ui rfl
        refine g_iinc X 1 (fun v => [(2, .int v), (3, .int 10), (0, .ref (ad 32)), (1, .int x2)]) dJ7_fill_53178_14 rfl (by decide) (fun _ => rfl) (fun zq4 eq5 => ?_)
        have tq6 : zq4.toInt = b2_5 + 1 := add_nw eq5 e2_5 (show (Int32.ofInt 1).toInt = 1 by decide) (by omega)
        refine g_goto X (tgt := 5) dJ7_fill_53178_17 (by decide) ?_
        refine g_sub [1, 0, 2, 3] rfl ?_
        exact ih5 zq4 _ tq6 (ui M_5 32 b2_5.toNat x2) (by omega) (fill_step i2 i1) Iq2 frq3 (by omega)
  refine g_sub [0, 1, 2, 3] rfl ?_
  exact lp5 _ 0 _ (show (0 : Int32).toInt = 0 by decide) Mq (by omega) (fun j hj => absurd hj (by omega)) Iq0 frq0 (Nat.lt_succ_self _)
abbrev W_X0_stockOf_E : List (Nat × Nat) := [(30, 99)]
set_option maxHeartbeats 4000000 in
set_option maxRecDepth 4000 in
theorem c_X0_stockOf_E (ad : Nat → Nat) (Mq : Mem) (x1 : Int32) {a1 : Int} (t1 : x1.toInt = a1) (x2 : Int32) {a2 : Int} (t2 : x2.toInt = a2) (x3 : Int32) {a3 : Int} (t3 : x3.toInt = a3) (Iq0 : Iv TX Mq) (h1 : -1 ≤ a3 ∧ a3 ≤ (Mq.1 23 7).toInt) (hy : ∀ k : Nat, k < 200 → 0 ≤ (Mq.1 28 k).toInt) : Ctr ad yX0_stockOf cX0_stockOf 9 (some .long) 1 [.ref (ad 23), .int x1, .int x2, .int x3] Mq (fun v M' => ∃ (r : Int64) (a : Int), v = some (.long r) ∧ r.toInt = a ∧ (∀ l : Nat, l < 64 → b64 r l = hsX Mq a1 l a2 (upk a3 (Mq.1 23 7).toInt).toNat) ∧ Iv TX M' ∧ Fr W_X0_stockOf_E Mq M') := by
  refine ctr_of (L := [(0, .ref (ad 23)), (1, .int x1), (2, .int x2), (3, .int x3)]) (by decide) (Nat.le_of_ble_eq_true rfl) rfl ?_
  intro Γ X
  have X : gX Γ cX0_stockOf RX0 9 (some .long) 1 ad _ := X
  have frq0 : Fr W_X0_stockOf_E Mq Mq := Fr.rf
  have hE := ig_23_7 Iq0
  refine g_iload_n X 3 rfl dX0_stockOf_0 ?_
  refine g_iconst X (-1) dX0_stockOf_1 (by decide) ?_
  refine g_icmp_ne X t3 (show ((-1) : Int32).toInt = (-1) by decide) (tgt := 12) dX0_stockOf_2 (by decide) (fun cq1 => ?_) (fun cq1 => ?_)
  · refine g_iload_n X 3 rfl dX0_stockOf_12 ?_
    refine g_istore X [(4, .int x3), (0, .ref (ad 23)), (1, .int x1), (2, .int x2), (3, .int x3)] dX0_stockOf_13 (by decide) rfl ?_
    refine g_lconst X 0 dX0_stockOf_15 (by decide) ?_
    refine g_lstore X [(5, .long 0), (4, .int x3), (0, .ref (ad 23)), (1, .int x1), (2, .int x2), (3, .int x3)] dX0_stockOf_16 (by decide) rfl ?_
    refine g_aload_n X 2 rfl dX0_stockOf_18 ?_
    refine g_getr X f_X0_38 dX0_stockOf_19 ?_
    refine g_iconst X (-1) dX0_stockOf_22 (by decide) ?_
    refine g_callS X m_X0_48 (c_J7_fill_53178_30_E ad Mq (-1) (show ((-1) : Int32).toInt = (-1) by decide) Iq0) rfl (by decide) (Nat.le_of_ble_eq_true rfl) rfl dX0_stockOf_23 ?_
    rintro _ Mq7 ⟨rfl, hq5, hq6, Iq8, frq9⟩
    have frq10 : Fr W_X0_stockOf_E Mq Mq7 := frq0.trans frq9 rfl
    have hfill := hq6
    show G Γ Mq7 26 [(5, .long 0), (4, .int x3), (0, .ref (ad 23)), (1, .int x1), (2, .int x2), (3, .int x3)] []
    refine g_iconst X 0 dX0_stockOf_26 (by decide) ?_
    refine g_istore X [(7, .int 0), (5, .long 0), (4, .int x3), (0, .ref (ad 23)), (1, .int x1), (2, .int x2), (3, .int x3)] dX0_stockOf_27 (by decide) rfl ?_
    have lp29 : ∀ n : Nat, ∀ (y7_29 : Int32) (b7_29 : Int), y7_29.toInt = b7_29 → ∀ (y5_29 : Int64) (b5_29 : Int), y5_29.toInt = b5_29 → ∀ (M_29 : Mem), (0 ≤ b7_29 ∧ b7_29 ≤ a3) → (SKq (eW Mq 26) (eW Mq 27) (eW Mq 28) (eW Mq 29) a1 a2 (eW M_29 30) (b64 y5_29) (b7_29).toNat) → (Iv TX M_29) → (Fr W_X0_stockOf_E Mq M_29) → (a3 - b7_29).toNat < n → G Γ M_29 29 [(7, .int y7_29), (5, .long y5_29), (4, .int x3), (0, .ref (ad 23)), (1, .int x1), (2, .int x2), (3, .int x3)] [] := by
      intro n
      induction n with
      | zero => intro y7_29 b7_29 e7_29 y5_29 b5_29 e5_29 M_29 i1 i2 I_29 fr_29 hm; exact absurd hm (Nat.not_lt_zero _)
      | succ n ih29 =>
        intro y7_29 b7_29 e7_29 y5_29 b5_29 e5_29 M_29 i1 i2 I_29 fr_29 hm29
        have q26 : eW Mq 26 (b7_29).toNat = (M_29.1 26 (b7_29).toNat).toInt := (congrArg Int32.toInt (fr_29.at 26 _ rfl)).symm
        have q27 : eW Mq 27 (b7_29).toNat = (M_29.1 27 (b7_29).toNat).toInt := (congrArg Int32.toInt (fr_29.at 27 _ rfl)).symm
        have q28 : eW Mq 28 (b7_29).toNat = (M_29.1 28 (b7_29).toNat).toInt := (congrArg Int32.toInt (fr_29.at 28 _ rfl)).symm
        have q29 : eW Mq 29 (b7_29).toNat = (M_29.1 29 (b7_29).toNat).toInt := (congrArg Int32.toInt (fr_29.at 29 _ rfl)).symm
        have hy0 : b7_29 < 200 → 0 ≤ (M_29.1 28 (b7_29).toNat).toInt := fun z => by rw [← q28]; exact hy _ (by omega)
        have hnl : eW M_29 30 ((M_29.1 27 (b7_29).toNat).toInt).toNat = (M_29.1 30 ((M_29.1 27 (b7_29).toNat).toInt).toNat).toInt := rfl
        refine g_iload X 0 rfl dX0_stockOf_29 ?_
        refine g_iload X 2 rfl dX0_stockOf_31 ?_
        refine g_icmp_ge X e7_29 t3 (tgt := 137) dX0_stockOf_33 (by decide) (fun cq11 => ?_) (fun cq11 => ?_)
        · refine g_lload X 1 rfl dX0_stockOf_137 ?_
          exact g_lret X dX0_stockOf_139 ⟨_, _, rfl, e5_29, (SKq_ret i2 (by first | (rw [upk_n (by omega)]; omega) | (rw [upk_y (by omega)]; omega))), I_29, fr_29⟩
        · refine g_aload_n X 3 rfl dX0_stockOf_36 ?_
          refine g_getr X f_X0_25 dX0_stockOf_37 ?_
          refine g_iload X 0 rfl dX0_stockOf_40 ?_
          refine g_iald X la_27 e7_29 dX0_stockOf_42 (by omega) (x := M_29.1 27 b7_29.toNat) rfl ?_
          have bq12 := ig_27 I_29 b7_29.toNat (by omega)
          refine g_istore X [(8, .int (M_29.1 27 b7_29.toNat)), (7, .int y7_29), (5, .long y5_29), (4, .int x3), (0, .ref (ad 23)), (1, .int x1), (2, .int x2), (3, .int x3)] dX0_stockOf_43 (by decide) rfl ?_
          refine g_aload_n X 4 rfl dX0_stockOf_45 ?_
          refine g_getr X f_X0_22 dX0_stockOf_46 ?_
          refine g_iload X 1 rfl dX0_stockOf_49 ?_
          refine g_iald X la_26 e7_29 dX0_stockOf_51 (by omega) (x := M_29.1 26 b7_29.toNat) rfl ?_
          refine g_iload_n X 5 rfl dX0_stockOf_52 ?_
          refine g_icmp_ne X rfl t1 (tgt := 131) dX0_stockOf_53 (by decide) (fun cq13 => ?_) (fun cq13 => ?_)
          · refine g_iinc X 1 (fun v => [(7, .int v), (8, .int (M_29.1 27 b7_29.toNat)), (5, .long y5_29), (4, .int x3), (0, .ref (ad 23)), (1, .int x1), (2, .int x2), (3, .int x3)]) dX0_stockOf_131 rfl (by decide) (fun _ => rfl) (fun zq14 eq15 => ?_)
            have tq16 : zq14.toInt = b7_29 + 1 := add_nw eq15 e7_29 (show (Int32.ofInt 1).toInt = 1 by decide) (by omega)
            refine g_goto X (tgt := 29) dX0_stockOf_134 (by decide) ?_
            refine g_sub [0, 2, 3, 4, 5, 6, 7] rfl ?_
            exact ih29 zq14 _ tq16 y5_29 _ e5_29 M_29 (by omega) (by first | exact SKq_skip i2 q26 q27 q28 hnl ⟨by omega, by omega, hy0 (by omega)⟩ (by omega) (by omega) | exact SKq_take i2 q26 q27 q28 q29 hnl ⟨by omega, by omega, hy0 (by omega)⟩ ⟨by omega, by omega, by omega⟩ (fun l _ => eW_ui l) hbt (by first | exact Or.inl ⟨rfl, by omega⟩ | exact Or.inr ⟨rfl, by omega⟩) (by omega)) I_29 fr_29 (by omega)
          · refine g_aload_n X 4 rfl dX0_stockOf_56 ?_
            refine g_getr X f_X0_28 dX0_stockOf_57 ?_
            refine g_iload X 1 rfl dX0_stockOf_60 ?_
            refine g_iald X la_28 e7_29 dX0_stockOf_62 (by omega) (x := M_29.1 28 b7_29.toNat) rfl ?_
            refine g_iload_n X 6 rfl dX0_stockOf_63 ?_
            refine g_icmp_gt X rfl t2 (tgt := 131) dX0_stockOf_64 (by decide) (fun cq17 => ?_) (fun cq17 => ?_)
            · refine g_iinc X 1 (fun v => [(7, .int v), (8, .int (M_29.1 27 b7_29.toNat)), (5, .long y5_29), (4, .int x3), (0, .ref (ad 23)), (1, .int x1), (2, .int x2), (3, .int x3)]) dX0_stockOf_131 rfl (by decide) (fun _ => rfl) (fun zq18 eq19 => ?_)
              have tq20 : zq18.toInt = b7_29 + 1 := add_nw eq19 e7_29 (show (Int32.ofInt 1).toInt = 1 by decide) (by omega)
              refine g_goto X (tgt := 29) dX0_stockOf_134 (by decide) ?_
              refine g_sub [0, 2, 3, 4, 5, 6, 7] rfl ?_
              exact ih29 zq18 _ tq20 y5_29 _ e5_29 M_29 (by omega) (by first | exact SKq_skip i2 q26 q27 q28 hnl ⟨by omega, by omega, hy0 (by omega)⟩ (by omega) (by omega) | exact SKq_take i2 q26 q27 q28 q29 hnl ⟨by omega, by omega, hy0 (by omega)⟩ ⟨by omega, by omega, by omega⟩ (fun l _ => eW_ui l) hbt (by first | exact Or.inl ⟨rfl, by omega⟩ | exact Or.inr ⟨rfl, by omega⟩) (by omega)) I_29 fr_29 (by omega)
            · refine g_aload_n X 4 rfl dX0_stockOf_67 ?_
              refine g_getr X f_X0_28 dX0_stockOf_68 ?_
              refine g_iload X 1 rfl dX0_stockOf_71 ?_
              refine g_iald X la_28 e7_29 dX0_stockOf_73 (by omega) (x := M_29.1 28 b7_29.toNat) rfl ?_
              refine g_aload_n X 4 rfl dX0_stockOf_74 ?_
              refine g_getr X f_X0_38 dX0_stockOf_75 ?_
              refine g_iload X 0 rfl dX0_stockOf_78 ?_
              refine g_iald X la_30 rfl dX0_stockOf_80 (by omega) (x := M_29.1 30 (((M_29.1 27 b7_29.toNat).toInt).toNat)) rfl ?_
              refine g_icmp_lt X rfl rfl (tgt := 131) dX0_stockOf_81 (by decide) (fun cq21 => ?_) (fun cq21 => ?_)
              · refine g_iinc X 1 (fun v => [(7, .int v), (8, .int (M_29.1 27 b7_29.toNat)), (5, .long y5_29), (4, .int x3), (0, .ref (ad 23)), (1, .int x1), (2, .int x2), (3, .int x3)]) dX0_stockOf_131 rfl (by decide) (fun _ => rfl) (fun zq22 eq23 => ?_)
                have tq24 : zq22.toInt = b7_29 + 1 := add_nw eq23 e7_29 (show (Int32.ofInt 1).toInt = 1 by decide) (by omega)
                refine g_goto X (tgt := 29) dX0_stockOf_134 (by decide) ?_
                refine g_sub [0, 2, 3, 4, 5, 6, 7] rfl ?_
                exact ih29 zq22 _ tq24 y5_29 _ e5_29 M_29 (by omega) (by first | exact SKq_skip i2 q26 q27 q28 hnl ⟨by omega, by omega, hy0 (by omega)⟩ (by omega) (by omega) | exact SKq_take i2 q26 q27 q28 q29 hnl ⟨by omega, by omega, hy0 (by omega)⟩ ⟨by omega, by omega, by omega⟩ (fun l _ => eW_ui l) hbt (by first | exact Or.inl ⟨rfl, by omega⟩ | exact Or.inr ⟨rfl, by omega⟩) (by omega)) I_29 fr_29 (by omega)
              · refine g_aload_n X 4 rfl dX0_stockOf_84 ?_
                refine g_getr X f_X0_38 dX0_stockOf_85 ?_
                refine g_iload X 0 rfl dX0_stockOf_88 ?_
                refine g_aload_n X 4 rfl dX0_stockOf_90 ?_
                refine g_getr X f_X0_28 dX0_stockOf_91 ?_
                refine g_iload X 1 rfl dX0_stockOf_94 ?_
                refine g_iald X la_28 e7_29 dX0_stockOf_96 (by omega) (x := M_29.1 28 b7_29.toNat) rfl ?_
                refine g_iast X la_30 rfl dX0_stockOf_97 (by omega) ?_
                have Iq25 : Iv TX (ui M_29 30 (((M_29.1 27 b7_29.toNat).toInt).toNat) (M_29.1 28 b7_29.toNat)) := I_29.otherA rfl
                have frq26 : Fr W_X0_stockOf_E Mq (ui M_29 30 (((M_29.1 27 b7_29.toNat).toInt).toNat) (M_29.1 28 b7_29.toNat)) := fr_29.ui rfl
                refine g_aload_n X 4 rfl dX0_stockOf_98 ?_
                refine g_getr X f_X0_31 dX0_stockOf_99 ?_
                refine g_iload X 1 rfl dX0_stockOf_102 ?_
                refine g_zald X la_29 e7_29 dX0_stockOf_104 (by omega) (x := M_29.1 29 b7_29.toNat) rfl ?_
                have bq27 := ig_29 I_29 b7_29.toNat (by omega)
                refine g_if_eq X rfl (tgt := 118) dX0_stockOf_105 (by decide) (fun cq28 => ?_) (fun cq28 => ?_)
                · refine g_lload X 2 rfl dX0_stockOf_118 ?_
                  refine g_lconst X 1 dX0_stockOf_120 (by decide) ?_
                  refine g_iload X 0 rfl dX0_stockOf_121 ?_
                  refine g_lshl X dX0_stockOf_123 (fun zq29 eq30 => ?_)
                  have hsh := eq30
                  refine g_ldc2 X k_X0_54 dX0_stockOf_124 ?_
                  refine g_lxor X dX0_stockOf_127 (fun zq31 eq32 => ?_)
                  have hnx := eq32
                  refine g_land X dX0_stockOf_128 (fun zq33 eq34 => ?_)
                  have hbt := bt_clr rfl (by omega) hsh hnx eq34
                  refine g_lstore X [(5, .long zq33), (8, .int (M_29.1 27 b7_29.toNat)), (7, .int y7_29), (4, .int x3), (0, .ref (ad 23)), (1, .int x1), (2, .int x2), (3, .int x3)] dX0_stockOf_129 (by decide) rfl ?_
                  refine g_iinc X 2 (fun v => [(7, .int v), (5, .long zq33), (8, .int (M_29.1 27 b7_29.toNat)), (4, .int x3), (0, .ref (ad 23)), (1, .int x1), (2, .int x2), (3, .int x3)]) dX0_stockOf_131 rfl (by decide) (fun _ => rfl) (fun zq35 eq36 => ?_)
                  have tq37 : zq35.toInt = b7_29 + 1 := add_nw eq36 e7_29 (show (Int32.ofInt 1).toInt = 1 by decide) (by omega)
                  refine g_goto X (tgt := 29) dX0_stockOf_134 (by decide) ?_
                  refine g_sub [0, 1, 3, 4, 5, 6, 7] rfl ?_
                  exact ih29 zq35 _ tq37 zq33 _ rfl (ui M_29 30 (((M_29.1 27 b7_29.toNat).toInt).toNat) (M_29.1 28 b7_29.toNat)) (by omega) (by first | exact SKq_skip i2 q26 q27 q28 hnl ⟨by omega, by omega, hy0 (by omega)⟩ (by omega) (by omega) | exact SKq_take i2 q26 q27 q28 q29 hnl ⟨by omega, by omega, hy0 (by omega)⟩ ⟨by omega, by omega, by omega⟩ (fun l _ => eW_ui l) hbt (by first | exact Or.inl ⟨rfl, by omega⟩ | exact Or.inr ⟨rfl, by omega⟩) (by omega)) Iq25 frq26 (by omega)
                · refine g_lload X 2 rfl dX0_stockOf_108 ?_
                  refine g_lconst X 1 dX0_stockOf_110 (by decide) ?_
                  refine g_iload X 0 rfl dX0_stockOf_111 ?_
                  refine g_lshl X dX0_stockOf_113 (fun zq38 eq39 => ?_)
                  have hsh := eq39
                  refine g_lor X dX0_stockOf_114 (fun zq40 eq41 => ?_)
                  have hbt := bt_or rfl (by omega) hsh eq41
                  refine g_goto X (tgt := 129) dX0_stockOf_115 (by decide) ?_
                  refine g_lstore X [(5, .long zq40), (8, .int (M_29.1 27 b7_29.toNat)), (7, .int y7_29), (4, .int x3), (0, .ref (ad 23)), (1, .int x1), (2, .int x2), (3, .int x3)] dX0_stockOf_129 (by decide) rfl ?_
                  refine g_iinc X 2 (fun v => [(7, .int v), (5, .long zq40), (8, .int (M_29.1 27 b7_29.toNat)), (4, .int x3), (0, .ref (ad 23)), (1, .int x1), (2, .int x2), (3, .int x3)]) dX0_stockOf_131 rfl (by decide) (fun _ => rfl) (fun zq42 eq43 => ?_)
                  have tq44 : zq42.toInt = b7_29 + 1 := add_nw eq43 e7_29 (show (Int32.ofInt 1).toInt = 1 by decide) (by omega)
                  refine g_goto X (tgt := 29) dX0_stockOf_134 (by decide) ?_
                  refine g_sub [0, 1, 3, 4, 5, 6, 7] rfl ?_
                  exact ih29 zq42 _ tq44 zq40 _ rfl (ui M_29 30 (((M_29.1 27 b7_29.toNat).toInt).toNat) (M_29.1 28 b7_29.toNat)) (by omega) (by first | exact SKq_skip i2 q26 q27 q28 hnl ⟨by omega, by omega, hy0 (by omega)⟩ (by omega) (by omega) | exact SKq_take i2 q26 q27 q28 q29 hnl ⟨by omega, by omega, hy0 (by omega)⟩ ⟨by omega, by omega, by omega⟩ (fun l _ => eW_ui l) hbt (by first | exact Or.inl ⟨rfl, by omega⟩ | exact Or.inr ⟨rfl, by omega⟩) (by omega)) Iq25 frq26 (by omega)
    refine g_sub [0, 1, 2, 3, 4, 5, 6] rfl ?_
    exact lp29 _ 0 _ (show (0 : Int32).toInt = 0 by decide) 0 _ (show (0 : Int64).toInt = 0 by decide) Mq7 (by omega) (SKq_0 (fun l hl => (congrArg Int32.toInt (hfill l hl)).trans (by decide)) b64_0) Iq8 frq10 (Nat.lt_succ_self _)
  · refine g_aload_n X 0 rfl dX0_stockOf_5 ?_
    refine g_geti X f_X0_35 dX0_stockOf_6 (x := Mq.1 23 7) rfl ?_
    have bq45 := ig_23_7 Iq0
    refine g_goto X (tgt := 13) dX0_stockOf_9 (by decide) ?_
    refine g_istore X [(4, .int (Mq.1 23 7)), (0, .ref (ad 23)), (1, .int x1), (2, .int x2), (3, .int x3)] dX0_stockOf_13 (by decide) rfl ?_
    refine g_lconst X 0 dX0_stockOf_15 (by decide) ?_
    refine g_lstore X [(5, .long 0), (4, .int (Mq.1 23 7)), (0, .ref (ad 23)), (1, .int x1), (2, .int x2), (3, .int x3)] dX0_stockOf_16 (by decide) rfl ?_
    refine g_aload_n X 2 rfl dX0_stockOf_18 ?_
    refine g_getr X f_X0_38 dX0_stockOf_19 ?_
    refine g_iconst X (-1) dX0_stockOf_22 (by decide) ?_
    refine g_callS X m_X0_48 (c_J7_fill_53178_30_E ad Mq (-1) (show ((-1) : Int32).toInt = (-1) by decide) Iq0) rfl (by decide) (Nat.le_of_ble_eq_true rfl) rfl dX0_stockOf_23 ?_
    rintro _ Mq51 ⟨rfl, hq49, hq50, Iq52, frq53⟩
    have frq54 : Fr W_X0_stockOf_E Mq Mq51 := frq0.trans frq53 rfl
    have hfill := hq50
    show G Γ Mq51 26 [(5, .long 0), (4, .int (Mq.1 23 7)), (0, .ref (ad 23)), (1, .int x1), (2, .int x2), (3, .int x3)] []
    refine g_iconst X 0 dX0_stockOf_26 (by decide) ?_
    refine g_istore X [(7, .int 0), (5, .long 0), (4, .int (Mq.1 23 7)), (0, .ref (ad 23)), (1, .int x1), (2, .int x2), (3, .int x3)] dX0_stockOf_27 (by decide) rfl ?_
    have lp29 : ∀ n : Nat, ∀ (y7_29 : Int32) (b7_29 : Int), y7_29.toInt = b7_29 → ∀ (y5_29 : Int64) (b5_29 : Int), y5_29.toInt = b5_29 → ∀ (M_29 : Mem), (0 ≤ b7_29 ∧ b7_29 ≤ ((Mq.1 23 7).toInt)) → (SKq (eW Mq 26) (eW Mq 27) (eW Mq 28) (eW Mq 29) a1 a2 (eW M_29 30) (b64 y5_29) (b7_29).toNat) → (Iv TX M_29) → (Fr W_X0_stockOf_E Mq M_29) → (((Mq.1 23 7).toInt) - b7_29).toNat < n → G Γ M_29 29 [(7, .int y7_29), (5, .long y5_29), (4, .int (Mq.1 23 7)), (0, .ref (ad 23)), (1, .int x1), (2, .int x2), (3, .int x3)] [] := by
      intro n
      induction n with
      | zero => intro y7_29 b7_29 e7_29 y5_29 b5_29 e5_29 M_29 i1 i2 I_29 fr_29 hm; exact absurd hm (Nat.not_lt_zero _)
      | succ n ih29 =>
        intro y7_29 b7_29 e7_29 y5_29 b5_29 e5_29 M_29 i1 i2 I_29 fr_29 hm29
        have q26 : eW Mq 26 (b7_29).toNat = (M_29.1 26 (b7_29).toNat).toInt := (congrArg Int32.toInt (fr_29.at 26 _ rfl)).symm
        have q27 : eW Mq 27 (b7_29).toNat = (M_29.1 27 (b7_29).toNat).toInt := (congrArg Int32.toInt (fr_29.at 27 _ rfl)).symm
        have q28 : eW Mq 28 (b7_29).toNat = (M_29.1 28 (b7_29).toNat).toInt := (congrArg Int32.toInt (fr_29.at 28 _ rfl)).symm
        have q29 : eW Mq 29 (b7_29).toNat = (M_29.1 29 (b7_29).toNat).toInt := (congrArg Int32.toInt (fr_29.at 29 _ rfl)).symm
        have hy0 : b7_29 < 200 → 0 ≤ (M_29.1 28 (b7_29).toNat).toInt := fun z => by rw [← q28]; exact hy _ (by omega)
        have hnl : eW M_29 30 ((M_29.1 27 (b7_29).toNat).toInt).toNat = (M_29.1 30 ((M_29.1 27 (b7_29).toNat).toInt).toNat).toInt := rfl
        refine g_iload X 0 rfl dX0_stockOf_29 ?_
        refine g_iload X 2 rfl dX0_stockOf_31 ?_
        refine g_icmp_ge X e7_29 rfl (tgt := 137) dX0_stockOf_33 (by decide) (fun cq55 => ?_) (fun cq55 => ?_)
        · refine g_lload X 1 rfl dX0_stockOf_137 ?_
          exact g_lret X dX0_stockOf_139 ⟨_, _, rfl, e5_29, (SKq_ret i2 (by first | (rw [upk_n (by omega)]; omega) | (rw [upk_y (by omega)]; omega))), I_29, fr_29⟩
        · refine g_aload_n X 3 rfl dX0_stockOf_36 ?_
          refine g_getr X f_X0_25 dX0_stockOf_37 ?_
          refine g_iload X 0 rfl dX0_stockOf_40 ?_
          refine g_iald X la_27 e7_29 dX0_stockOf_42 (by omega) (x := M_29.1 27 b7_29.toNat) rfl ?_
          have bq56 := ig_27 I_29 b7_29.toNat (by omega)
          refine g_istore X [(8, .int (M_29.1 27 b7_29.toNat)), (7, .int y7_29), (5, .long y5_29), (4, .int (Mq.1 23 7)), (0, .ref (ad 23)), (1, .int x1), (2, .int x2), (3, .int x3)] dX0_stockOf_43 (by decide) rfl ?_
          refine g_aload_n X 4 rfl dX0_stockOf_45 ?_
          refine g_getr X f_X0_22 dX0_stockOf_46 ?_
          refine g_iload X 1 rfl dX0_stockOf_49 ?_
          refine g_iald X la_26 e7_29 dX0_stockOf_51 (by omega) (x := M_29.1 26 b7_29.toNat) rfl ?_
          refine g_iload_n X 5 rfl dX0_stockOf_52 ?_
          refine g_icmp_ne X rfl t1 (tgt := 131) dX0_stockOf_53 (by decide) (fun cq57 => ?_) (fun cq57 => ?_)
          · refine g_iinc X 1 (fun v => [(7, .int v), (8, .int (M_29.1 27 b7_29.toNat)), (5, .long y5_29), (4, .int (Mq.1 23 7)), (0, .ref (ad 23)), (1, .int x1), (2, .int x2), (3, .int x3)]) dX0_stockOf_131 rfl (by decide) (fun _ => rfl) (fun zq58 eq59 => ?_)
            have tq60 : zq58.toInt = b7_29 + 1 := add_nw eq59 e7_29 (show (Int32.ofInt 1).toInt = 1 by decide) (by omega)
            refine g_goto X (tgt := 29) dX0_stockOf_134 (by decide) ?_
            refine g_sub [0, 2, 3, 4, 5, 6, 7] rfl ?_
            exact ih29 zq58 _ tq60 y5_29 _ e5_29 M_29 (by omega) (by first | exact SKq_skip i2 q26 q27 q28 hnl ⟨by omega, by omega, hy0 (by omega)⟩ (by omega) (by omega) | exact SKq_take i2 q26 q27 q28 q29 hnl ⟨by omega, by omega, hy0 (by omega)⟩ ⟨by omega, by omega, by omega⟩ (fun l _ => eW_ui l) hbt (by first | exact Or.inl ⟨rfl, by omega⟩ | exact Or.inr ⟨rfl, by omega⟩) (by omega)) I_29 fr_29 (by omega)
          · refine g_aload_n X 4 rfl dX0_stockOf_56 ?_
            refine g_getr X f_X0_28 dX0_stockOf_57 ?_
            refine g_iload X 1 rfl dX0_stockOf_60 ?_
            refine g_iald X la_28 e7_29 dX0_stockOf_62 (by omega) (x := M_29.1 28 b7_29.toNat) rfl ?_
            refine g_iload_n X 6 rfl dX0_stockOf_63 ?_
            refine g_icmp_gt X rfl t2 (tgt := 131) dX0_stockOf_64 (by decide) (fun cq61 => ?_) (fun cq61 => ?_)
            · refine g_iinc X 1 (fun v => [(7, .int v), (8, .int (M_29.1 27 b7_29.toNat)), (5, .long y5_29), (4, .int (Mq.1 23 7)), (0, .ref (ad 23)), (1, .int x1), (2, .int x2), (3, .int x3)]) dX0_stockOf_131 rfl (by decide) (fun _ => rfl) (fun zq62 eq63 => ?_)
              have tq64 : zq62.toInt = b7_29 + 1 := add_nw eq63 e7_29 (show (Int32.ofInt 1).toInt = 1 by decide) (by omega)
              refine g_goto X (tgt := 29) dX0_stockOf_134 (by decide) ?_
              refine g_sub [0, 2, 3, 4, 5, 6, 7] rfl ?_
              exact ih29 zq62 _ tq64 y5_29 _ e5_29 M_29 (by omega) (by first | exact SKq_skip i2 q26 q27 q28 hnl ⟨by omega, by omega, hy0 (by omega)⟩ (by omega) (by omega) | exact SKq_take i2 q26 q27 q28 q29 hnl ⟨by omega, by omega, hy0 (by omega)⟩ ⟨by omega, by omega, by omega⟩ (fun l _ => eW_ui l) hbt (by first | exact Or.inl ⟨rfl, by omega⟩ | exact Or.inr ⟨rfl, by omega⟩) (by omega)) I_29 fr_29 (by omega)
            · refine g_aload_n X 4 rfl dX0_stockOf_67 ?_
              refine g_getr X f_X0_28 dX0_stockOf_68 ?_
              refine g_iload X 1 rfl dX0_stockOf_71 ?_
              refine g_iald X la_28 e7_29 dX0_stockOf_73 (by omega) (x := M_29.1 28 b7_29.toNat) rfl ?_
              refine g_aload_n X 4 rfl dX0_stockOf_74 ?_
              refine g_getr X f_X0_38 dX0_stockOf_75 ?_
              refine g_iload X 0 rfl dX0_stockOf_78 ?_
              refine g_iald X la_30 rfl dX0_stockOf_80 (by omega) (x := M_29.1 30 (((M_29.1 27 b7_29.toNat).toInt).toNat)) rfl ?_
              refine g_icmp_lt X rfl rfl (tgt := 131) dX0_stockOf_81 (by decide) (fun cq65 => ?_) (fun cq65 => ?_)
              · refine g_iinc X 1 (fun v => [(7, .int v), (8, .int (M_29.1 27 b7_29.toNat)), (5, .long y5_29), (4, .int (Mq.1 23 7)), (0, .ref (ad 23)), (1, .int x1), (2, .int x2), (3, .int x3)]) dX0_stockOf_131 rfl (by decide) (fun _ => rfl) (fun zq66 eq67 => ?_)
                have tq68 : zq66.toInt = b7_29 + 1 := add_nw eq67 e7_29 (show (Int32.ofInt 1).toInt = 1 by decide) (by omega)
                refine g_goto X (tgt := 29) dX0_stockOf_134 (by decide) ?_
                refine g_sub [0, 2, 3, 4, 5, 6, 7] rfl ?_
                exact ih29 zq66 _ tq68 y5_29 _ e5_29 M_29 (by omega) (by first | exact SKq_skip i2 q26 q27 q28 hnl ⟨by omega, by omega, hy0 (by omega)⟩ (by omega) (by omega) | exact SKq_take i2 q26 q27 q28 q29 hnl ⟨by omega, by omega, hy0 (by omega)⟩ ⟨by omega, by omega, by omega⟩ (fun l _ => eW_ui l) hbt (by first | exact Or.inl ⟨rfl, by omega⟩ | exact Or.inr ⟨rfl, by omega⟩) (by omega)) I_29 fr_29 (by omega)
              · refine g_aload_n X 4 rfl dX0_stockOf_84 ?_
                refine g_getr X f_X0_38 dX0_stockOf_85 ?_
                refine g_iload X 0 rfl dX0_stockOf_88 ?_
                refine g_aload_n X 4 rfl dX0_stockOf_90 ?_
                refine g_getr X f_X0_28 dX0_stockOf_91 ?_
                refine g_iload X 1 rfl dX0_stockOf_94 ?_
                refine g_iald X la_28 e7_29 dX0_stockOf_96 (by omega) (x := M_29.1 28 b7_29.toNat) rfl ?_
                refine g_iast X la_30 rfl dX0_stockOf_97 (by omega) ?_
                have Iq69 : Iv TX (ui M_29 30 (((M_29.1 27 b7_29.toNat).toInt).toNat) (M_29.1 28 b7_29.toNat)) := I_29.otherA rfl
                have frq70 : Fr W_X0_stockOf_E Mq (ui M_29 30 (((M_29.1 27 b7_29.toNat).toInt).toNat) (M_29.1 28 b7_29.toNat)) := fr_29.ui rfl
                refine g_aload_n X 4 rfl dX0_stockOf_98 ?_
                refine g_getr X f_X0_31 dX0_stockOf_99 ?_
                refine g_iload X 1 rfl dX0_stockOf_102 ?_
                refine g_zald X la_29 e7_29 dX0_stockOf_104 (by omega) (x := M_29.1 29 b7_29.toNat) rfl ?_
                have bq71 := ig_29 I_29 b7_29.toNat (by omega)
                refine g_if_eq X rfl (tgt := 118) dX0_stockOf_105 (by decide) (fun cq72 => ?_) (fun cq72 => ?_)
                · refine g_lload X 2 rfl dX0_stockOf_118 ?_
                  refine g_lconst X 1 dX0_stockOf_120 (by decide) ?_
                  refine g_iload X 0 rfl dX0_stockOf_121 ?_
                  refine g_lshl X dX0_stockOf_123 (fun zq73 eq74 => ?_)
                  have hsh := eq74
                  refine g_ldc2 X k_X0_54 dX0_stockOf_124 ?_
                  refine g_lxor X dX0_stockOf_127 (fun zq75 eq76 => ?_)
                  have hnx := eq76
                  refine g_land X dX0_stockOf_128 (fun zq77 eq78 => ?_)
                  have hbt := bt_clr rfl (by omega) hsh hnx eq78
                  refine g_lstore X [(5, .long zq77), (8, .int (M_29.1 27 b7_29.toNat)), (7, .int y7_29), (4, .int (Mq.1 23 7)), (0, .ref (ad 23)), (1, .int x1), (2, .int x2), (3, .int x3)] dX0_stockOf_129 (by decide) rfl ?_
                  refine g_iinc X 2 (fun v => [(7, .int v), (5, .long zq77), (8, .int (M_29.1 27 b7_29.toNat)), (4, .int (Mq.1 23 7)), (0, .ref (ad 23)), (1, .int x1), (2, .int x2), (3, .int x3)]) dX0_stockOf_131 rfl (by decide) (fun _ => rfl) (fun zq79 eq80 => ?_)
                  have tq81 : zq79.toInt = b7_29 + 1 := add_nw eq80 e7_29 (show (Int32.ofInt 1).toInt = 1 by decide) (by omega)
                  refine g_goto X (tgt := 29) dX0_stockOf_134 (by decide) ?_
                  refine g_sub [0, 1, 3, 4, 5, 6, 7] rfl ?_
                  exact ih29 zq79 _ tq81 zq77 _ rfl (ui M_29 30 (((M_29.1 27 b7_29.toNat).toInt).toNat) (M_29.1 28 b7_29.toNat)) (by omega) (by first | exact SKq_skip i2 q26 q27 q28 hnl ⟨by omega, by omega, hy0 (by omega)⟩ (by omega) (by omega) | exact SKq_take i2 q26 q27 q28 q29 hnl ⟨by omega, by omega, hy0 (by omega)⟩ ⟨by omega, by omega, by omega⟩ (fun l _ => eW_ui l) hbt (by first | exact Or.inl ⟨rfl, by omega⟩ | exact Or.inr ⟨rfl, by omega⟩) (by omega)) Iq69 frq70 (by omega)
                · refine g_lload X 2 rfl dX0_stockOf_108 ?_
                  refine g_lconst X 1 dX0_stockOf_110 (by decide) ?_
                  refine g_iload X 0 rfl dX0_stockOf_111 ?_
                  refine g_lshl X dX0_stockOf_113 (fun zq82 eq83 => ?_)
                  have hsh := eq83
                  refine g_lor X dX0_stockOf_114 (fun zq84 eq85 => ?_)
                  have hbt := bt_or rfl (by omega) hsh eq85
                  refine g_goto X (tgt := 129) dX0_stockOf_115 (by decide) ?_
                  refine g_lstore X [(5, .long zq84), (8, .int (M_29.1 27 b7_29.toNat)), (7, .int y7_29), (4, .int (Mq.1 23 7)), (0, .ref (ad 23)), (1, .int x1), (2, .int x2), (3, .int x3)] dX0_stockOf_129 (by decide) rfl ?_
                  refine g_iinc X 2 (fun v => [(7, .int v), (5, .long zq84), (8, .int (M_29.1 27 b7_29.toNat)), (4, .int (Mq.1 23 7)), (0, .ref (ad 23)), (1, .int x1), (2, .int x2), (3, .int x3)]) dX0_stockOf_131 rfl (by decide) (fun _ => rfl) (fun zq86 eq87 => ?_)
                  have tq88 : zq86.toInt = b7_29 + 1 := add_nw eq87 e7_29 (show (Int32.ofInt 1).toInt = 1 by decide) (by omega)
                  refine g_goto X (tgt := 29) dX0_stockOf_134 (by decide) ?_
                  refine g_sub [0, 1, 3, 4, 5, 6, 7] rfl ?_
                  exact ih29 zq86 _ tq88 zq84 _ rfl (ui M_29 30 (((M_29.1 27 b7_29.toNat).toInt).toNat) (M_29.1 28 b7_29.toNat)) (by omega) (by first | exact SKq_skip i2 q26 q27 q28 hnl ⟨by omega, by omega, hy0 (by omega)⟩ (by omega) (by omega) | exact SKq_take i2 q26 q27 q28 q29 hnl ⟨by omega, by omega, hy0 (by omega)⟩ ⟨by omega, by omega, by omega⟩ (fun l _ => eW_ui l) hbt (by first | exact Or.inl ⟨rfl, by omega⟩ | exact Or.inr ⟨rfl, by omega⟩) (by omega)) Iq69 frq70 (by omega)
    refine g_sub [0, 1, 2, 3, 4, 5, 6] rfl ?_
    exact lp29 _ 0 _ (show (0 : Int32).toInt = 0 by decide) 0 _ (show (0 : Int64).toInt = 0 by decide) Mq51 (by omega) (SKq_0 (fun l hl => (congrArg Int32.toInt (hfill l hl)).trans (by decide)) b64_0) Iq52 frq54 (Nat.lt_succ_self _)
end
section
set_option maxHeartbeats 4000000 in
set_option maxRecDepth 4000 in
theorem c_X7_hasLine_E (ad : Nat → Nat) (Mq : Mem) (x1 : Int32) {a1 : Int} (t1 : x1.toInt = a1) (x2 : Int32) {a2 : Int} (t2 : x2.toInt = a2) (x3 : Int32) {a3 : Int} (t3 : x3.toInt = a3) (x4 : Int32) {a4 : Int} (t4 : x4.toInt = a4) (Iq0 : Iv TM Mq) (h4 : a4 ≤ 200) : Ctr ad yX7_hasLine cX7_hasLine 7 (some .boolean) 0 [.ref (ad 47), .int x1, .int x2, .int x3, .int x4] Mq (fun v M' => ∃ (r : Int32) (a : Int), v = some (.int r) ∧ r.toInt = a ∧ ((a = 1 ∧ (hsM Mq a1 a2 a3 a4.toNat = true)) ∨ (a = 0 ∧ ¬ (hsM Mq a1 a2 a3 a4.toNat = true))) ∧ Mq = M') := by
  refine ctr_of (L := [(0, .ref (ad 47)), (1, .int x1), (2, .int x2), (3, .int x3), (4, .int x4)]) (by decide) (Nat.le_of_ble_eq_true rfl) rfl ?_
  intro Γ X
  have X : gX Γ cX7_hasLine RX7 7 (some .boolean) 0 ad _ := X
  have g11 := ig_47_11 Iq0
  have g12 := ig_47_12 Iq0
  have g14 := ig_47_14 Iq0
  have g32 := ig_47_32 Iq0
  have g43 := ig_47_43 Iq0
  have g44 := ig_47_44 Iq0
  have g52 := ig_47_52 Iq0
  have g53 := ig_47_53 Iq0
  have g59 := ig_47_59 Iq0
  refine g_iconst X (-1) dX7_hasLine_0 (by decide) ?_
  refine g_istore X [(5, .int (-1)), (0, .ref (ad 47)), (1, .int x1), (2, .int x2), (3, .int x3), (4, .int x4)] dX7_hasLine_1 (by decide) rfl ?_
  refine g_iconst X 0 dX7_hasLine_3 (by decide) ?_
  refine g_istore X [(6, .int 0), (5, .int (-1)), (0, .ref (ad 47)), (1, .int x1), (2, .int x2), (3, .int x3), (4, .int x4)] dX7_hasLine_4 (by decide) rfl ?_
  have lp6 : ∀ n : Nat, ∀ (y6_6 : Int32) (b6_6 : Int), y6_6.toInt = b6_6 → ∀ (y5_6 : Int32) (b5_6 : Int), y5_6.toInt = b5_6 → (0 ≤ b6_6) → (b5_6 = bst (eW Mq 81) (eW Mq 82) (eW Mq 83) a1 a2 a3 (b6_6).toNat) → (b6_6 ≤ a4 ∨ b6_6 = 0) → (a4 - b6_6).toNat < n → G Γ Mq 6 [(6, .int y6_6), (5, .int y5_6), (0, .ref (ad 47)), (1, .int x1), (2, .int x2), (3, .int x3), (4, .int x4)] [] := by
    intro n
    induction n with
    | zero => intro y6_6 b6_6 e6_6 y5_6 b5_6 e5_6 i1 i2 i3 hm; exact absurd hm (Nat.not_lt_zero _)
    | succ n ih6 =>
      intro y6_6 b6_6 e6_6 y5_6 b5_6 e5_6 i1 i2 i3 hm6
      have hbr := bst_rng (eW Mq 81) (eW Mq 82) (eW Mq 83) a1 a2 a3 (b6_6).toNat
      have q81 : eW Mq 81 (b6_6).toNat = (Mq.1 81 (b6_6).toNat).toInt := rfl
      have q82 : eW Mq 82 (b6_6).toNat = (Mq.1 82 (b6_6).toNat).toInt := rfl
      have q83 : eW Mq 83 (b6_6).toNat = (Mq.1 83 (b6_6).toNat).toInt := rfl
      have r83 : eW Mq 83 (b5_6).toNat = (Mq.1 83 (b5_6).toNat).toInt := rfl
      have r84 : eW Mq 84 (b5_6).toNat = (Mq.1 84 (b5_6).toNat).toInt := rfl
      refine g_iload X 0 rfl dX7_hasLine_6 ?_
      refine g_iload X 6 rfl dX7_hasLine_8 ?_
      refine g_icmp_ge X e6_6 t4 (tgt := 78) dX7_hasLine_10 (by decide) (fun cq1 => ?_) (fun cq1 => ?_)
      · refine g_iload X 1 rfl dX7_hasLine_78 ?_
        refine g_if_lt X e5_6 (tgt := 97) dX7_hasLine_80 (by decide) (fun cq2 => ?_) (fun cq2 => ?_)
        · refine g_iconst X 0 dX7_hasLine_97 (by decide) ?_
          exact g_zret X (b01 (show (0 : Int32).toInt = 0 by decide) (by omega)) dX7_hasLine_98 ⟨_, _, rfl, (show (0 : Int32).toInt = 0 by decide), (by first | exact Or.inr ⟨rfl, hsl_n i2 (by omega) (by omega)⟩ | exact Or.inl ⟨rfl, hsl_y i2 (by omega) (by omega) (by omega)⟩), rfl⟩
        · refine g_aload_n X 2 rfl dX7_hasLine_83 ?_
          refine g_getr X f_X7_122 dX7_hasLine_84 ?_
          refine g_iload X 1 rfl dX7_hasLine_87 ?_
          refine g_zald X la_84 e5_6 dX7_hasLine_89 (by omega) (x := Mq.1 84 b5_6.toNat) rfl ?_
          have bq3 := ig_84 Iq0 b5_6.toNat (by omega)
          refine g_if_eq X rfl (tgt := 97) dX7_hasLine_90 (by decide) (fun cq4 => ?_) (fun cq4 => ?_)
          · refine g_iconst X 0 dX7_hasLine_97 (by decide) ?_
            exact g_zret X (b01 (show (0 : Int32).toInt = 0 by decide) (by omega)) dX7_hasLine_98 ⟨_, _, rfl, (show (0 : Int32).toInt = 0 by decide), (by first | exact Or.inr ⟨rfl, hsl_n i2 (by omega) (by omega)⟩ | exact Or.inl ⟨rfl, hsl_y i2 (by omega) (by omega) (by omega)⟩), rfl⟩
          · refine g_iconst X 1 dX7_hasLine_93 (by decide) ?_
            refine g_goto X (tgt := 98) dX7_hasLine_94 (by decide) ?_
            exact g_zret X (b01 (show (1 : Int32).toInt = 1 by decide) (by omega)) dX7_hasLine_98 ⟨_, _, rfl, (show (1 : Int32).toInt = 1 by decide), (by first | exact Or.inr ⟨rfl, hsl_n i2 (by omega) (by omega)⟩ | exact Or.inl ⟨rfl, hsl_y i2 (by omega) (by omega) (by omega)⟩), rfl⟩
      · refine g_aload_n X 2 rfl dX7_hasLine_13 ?_
        refine g_getr X f_X7_113 dX7_hasLine_14 ?_
        refine g_iload X 0 rfl dX7_hasLine_17 ?_
        refine g_iald X la_81 e6_6 dX7_hasLine_19 (by omega) (x := Mq.1 81 b6_6.toNat) rfl ?_
        refine g_iload_n X 3 rfl dX7_hasLine_20 ?_
        refine g_icmp_ne X rfl t1 (tgt := 72) dX7_hasLine_21 (by decide) (fun cq5 => ?_) (fun cq5 => ?_)
        · refine g_iinc X 0 (fun v => [(6, .int v), (5, .int y5_6), (0, .ref (ad 47)), (1, .int x1), (2, .int x2), (3, .int x3), (4, .int x4)]) dX7_hasLine_72 rfl (by decide) (fun _ => rfl) (fun zq6 eq7 => ?_)
          have tq8 : zq6.toInt = b6_6 + 1 := add_nw eq7 e6_6 (show (Int32.ofInt 1).toInt = 1 by decide) (by omega)
          refine g_goto X (tgt := 6) dX7_hasLine_75 (by decide) ?_
          refine g_sub [0, 1, 2, 3, 4, 5, 6] rfl ?_
          exact ih6 zq6 _ tq8 y5_6 _ e5_6 (by omega) (by first | exact bst_skip i2 (by omega) (by omega) | exact bst_take i2 (by omega) (by omega) (by omega) (by omega) (by omega) (by omega)) (by omega) (by omega)
        · refine g_aload_n X 2 rfl dX7_hasLine_24 ?_
          refine g_getr X f_X7_116 dX7_hasLine_25 ?_
          refine g_iload X 0 rfl dX7_hasLine_28 ?_
          refine g_iald X la_82 e6_6 dX7_hasLine_30 (by omega) (x := Mq.1 82 b6_6.toNat) rfl ?_
          refine g_iload_n X 4 rfl dX7_hasLine_31 ?_
          refine g_icmp_ne X rfl t2 (tgt := 72) dX7_hasLine_32 (by decide) (fun cq9 => ?_) (fun cq9 => ?_)
          · refine g_iinc X 0 (fun v => [(6, .int v), (5, .int y5_6), (0, .ref (ad 47)), (1, .int x1), (2, .int x2), (3, .int x3), (4, .int x4)]) dX7_hasLine_72 rfl (by decide) (fun _ => rfl) (fun zq10 eq11 => ?_)
            have tq12 : zq10.toInt = b6_6 + 1 := add_nw eq11 e6_6 (show (Int32.ofInt 1).toInt = 1 by decide) (by omega)
            refine g_goto X (tgt := 6) dX7_hasLine_75 (by decide) ?_
            refine g_sub [0, 1, 2, 3, 4, 5, 6] rfl ?_
            exact ih6 zq10 _ tq12 y5_6 _ e5_6 (by omega) (by first | exact bst_skip i2 (by omega) (by omega) | exact bst_take i2 (by omega) (by omega) (by omega) (by omega) (by omega) (by omega)) (by omega) (by omega)
          · refine g_aload_n X 2 rfl dX7_hasLine_35 ?_
            refine g_getr X f_X7_119 dX7_hasLine_36 ?_
            refine g_iload X 0 rfl dX7_hasLine_39 ?_
            refine g_iald X la_83 e6_6 dX7_hasLine_41 (by omega) (x := Mq.1 83 b6_6.toNat) rfl ?_
            refine g_iload_n X 5 rfl dX7_hasLine_42 ?_
            refine g_icmp_gt X rfl t3 (tgt := 72) dX7_hasLine_43 (by decide) (fun cq13 => ?_) (fun cq13 => ?_)
            · refine g_iinc X 0 (fun v => [(6, .int v), (5, .int y5_6), (0, .ref (ad 47)), (1, .int x1), (2, .int x2), (3, .int x3), (4, .int x4)]) dX7_hasLine_72 rfl (by decide) (fun _ => rfl) (fun zq14 eq15 => ?_)
              have tq16 : zq14.toInt = b6_6 + 1 := add_nw eq15 e6_6 (show (Int32.ofInt 1).toInt = 1 by decide) (by omega)
              refine g_goto X (tgt := 6) dX7_hasLine_75 (by decide) ?_
              refine g_sub [0, 1, 2, 3, 4, 5, 6] rfl ?_
              exact ih6 zq14 _ tq16 y5_6 _ e5_6 (by omega) (by first | exact bst_skip i2 (by omega) (by omega) | exact bst_take i2 (by omega) (by omega) (by omega) (by omega) (by omega) (by omega)) (by omega) (by omega)
            · refine g_iload X 1 rfl dX7_hasLine_46 ?_
              refine g_if_lt X e5_6 (tgt := 68) dX7_hasLine_48 (by decide) (fun cq17 => ?_) (fun cq17 => ?_)
              · refine g_iload X 0 rfl dX7_hasLine_68 ?_
                refine g_istore X [(5, .int y6_6), (6, .int y6_6), (0, .ref (ad 47)), (1, .int x1), (2, .int x2), (3, .int x3), (4, .int x4)] dX7_hasLine_70 (by decide) rfl ?_
                refine g_iinc X 1 (fun v => [(6, .int v), (5, .int y6_6), (0, .ref (ad 47)), (1, .int x1), (2, .int x2), (3, .int x3), (4, .int x4)]) dX7_hasLine_72 rfl (by decide) (fun _ => rfl) (fun zq18 eq19 => ?_)
                have tq20 : zq18.toInt = b6_6 + 1 := add_nw eq19 e6_6 (show (Int32.ofInt 1).toInt = 1 by decide) (by omega)
                refine g_goto X (tgt := 6) dX7_hasLine_75 (by decide) ?_
                refine g_sub [0, 1, 2, 3, 4, 5, 6] rfl ?_
                exact ih6 zq18 _ tq20 y6_6 _ e6_6 (by omega) (by first | exact bst_skip i2 (by omega) (by omega) | exact bst_take i2 (by omega) (by omega) (by omega) (by omega) (by omega) (by omega)) (by omega) (by omega)
              · refine g_aload_n X 2 rfl dX7_hasLine_51 ?_
                refine g_getr X f_X7_119 dX7_hasLine_52 ?_
                refine g_iload X 0 rfl dX7_hasLine_55 ?_
                refine g_iald X la_83 e6_6 dX7_hasLine_57 (by omega) (x := Mq.1 83 b6_6.toNat) rfl ?_
                refine g_aload_n X 2 rfl dX7_hasLine_58 ?_
                refine g_getr X f_X7_119 dX7_hasLine_59 ?_
                refine g_iload X 1 rfl dX7_hasLine_62 ?_
                refine g_iald X la_83 e5_6 dX7_hasLine_64 (by omega) (x := Mq.1 83 b5_6.toNat) rfl ?_
                refine g_icmp_lt X rfl rfl (tgt := 72) dX7_hasLine_65 (by decide) (fun cq21 => ?_) (fun cq21 => ?_)
                · refine g_iinc X 0 (fun v => [(6, .int v), (5, .int y5_6), (0, .ref (ad 47)), (1, .int x1), (2, .int x2), (3, .int x3), (4, .int x4)]) dX7_hasLine_72 rfl (by decide) (fun _ => rfl) (fun zq22 eq23 => ?_)
                  have tq24 : zq22.toInt = b6_6 + 1 := add_nw eq23 e6_6 (show (Int32.ofInt 1).toInt = 1 by decide) (by omega)
                  refine g_goto X (tgt := 6) dX7_hasLine_75 (by decide) ?_
                  refine g_sub [0, 1, 2, 3, 4, 5, 6] rfl ?_
                  exact ih6 zq22 _ tq24 y5_6 _ e5_6 (by omega) (by first | exact bst_skip i2 (by omega) (by omega) | exact bst_take i2 (by omega) (by omega) (by omega) (by omega) (by omega) (by omega)) (by omega) (by omega)
                · refine g_iload X 0 rfl dX7_hasLine_68 ?_
                  refine g_istore X [(5, .int y6_6), (6, .int y6_6), (0, .ref (ad 47)), (1, .int x1), (2, .int x2), (3, .int x3), (4, .int x4)] dX7_hasLine_70 (by decide) rfl ?_
                  refine g_iinc X 1 (fun v => [(6, .int v), (5, .int y6_6), (0, .ref (ad 47)), (1, .int x1), (2, .int x2), (3, .int x3), (4, .int x4)]) dX7_hasLine_72 rfl (by decide) (fun _ => rfl) (fun zq25 eq26 => ?_)
                  have tq27 : zq25.toInt = b6_6 + 1 := add_nw eq26 e6_6 (show (Int32.ofInt 1).toInt = 1 by decide) (by omega)
                  refine g_goto X (tgt := 6) dX7_hasLine_75 (by decide) ?_
                  refine g_sub [0, 1, 2, 3, 4, 5, 6] rfl ?_
                  exact ih6 zq25 _ tq27 y6_6 _ e6_6 (by omega) (by first | exact bst_skip i2 (by omega) (by omega) | exact bst_take i2 (by omega) (by omega) (by omega) (by omega) (by omega) (by omega)) (by omega) (by omega)
  refine g_sub [0, 1, 2, 3, 4, 5, 6] rfl ?_
  exact lp6 _ 0 _ (show (0 : Int32).toInt = 0 by decide) (-1) _ (show ((-1) : Int32).toInt = (-1) by decide) (by omega) rfl (by omega) (Nat.lt_succ_self _)
end
