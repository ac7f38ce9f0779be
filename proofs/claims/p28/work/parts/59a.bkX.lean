section
set_option maxHeartbeats 4000000 in
set_option maxRecDepth 4000 in
theorem c_J13_bitCount_95d88_E (ad : Nat → Nat) (Mq : Mem) (x1 : Int64) {a1 : Int} (t1 : x1.toInt = a1) : Ctr ad yJ13_bitCount_95d88 cJ13_bitCount_95d88 2 (some .int) 0 [.long x1] Mq (fun v M' => ∃ (r : Int32) (a : Int), v = some (.int r) ∧ r.toInt = a ∧ (a = (ctb (b64 x1) 64 : Nat)) ∧ Mq = M') := by
  refine ctr_of (L := [(0, .long x1)]) (by decide) (Nat.le_of_ble_eq_true rfl) rfl ?_
  intro Γ X
  have X : gX Γ cJ13_bitCount_95d88 RJ13 2 (some .int) 0 ad _ := X
  refine g_lload_n X 0 rfl dJ13_bitCount_95d88_0 ?_
  refine g_lload_n X 0 rfl dJ13_bitCount_95d88_1 ?_
  refine g_iconst X 1 dJ13_bitCount_95d88_2 (by decide) ?_
  refine g_lushr X dJ13_bitCount_95d88_3 (fun zq1 eq2 => ?_)
  have hq3 := eq2
  refine g_ldc2 X k_J13_314 dJ13_bitCount_95d88_4 ?_
  refine g_land X dJ13_bitCount_95d88_7 (fun zq3 eq4 => ?_)
  have hq7 := eq4
  refine g_lsub X dJ13_bitCount_95d88_8 (fun zq5 eq6 => ?_)
  have hq8 := eq6
  refine g_lstore_n X (i := 0) [(0, .long zq5)] dJ13_bitCount_95d88_9 rfl (by decide) rfl ?_
  refine g_lload_n X 0 rfl dJ13_bitCount_95d88_10 ?_
  refine g_ldc2 X k_J13_316 dJ13_bitCount_95d88_11 ?_
  refine g_land X dJ13_bitCount_95d88_14 (fun zq7 eq8 => ?_)
  have hq14 := eq8
  refine g_lload_n X 0 rfl dJ13_bitCount_95d88_15 ?_
  refine g_iconst X 2 dJ13_bitCount_95d88_16 (by decide) ?_
  refine g_lushr X dJ13_bitCount_95d88_17 (fun zq9 eq10 => ?_)
  have hq17 := eq10
  refine g_ldc2 X k_J13_316 dJ13_bitCount_95d88_18 ?_
  refine g_land X dJ13_bitCount_95d88_21 (fun zq11 eq12 => ?_)
  have hq21 := eq12
  refine g_ladd X dJ13_bitCount_95d88_22 (fun zq13 eq14 => ?_)
  have hq22 := eq14
  refine g_lstore_n X (i := 0) [(0, .long zq13)] dJ13_bitCount_95d88_23 rfl (by decide) rfl ?_
  refine g_lload_n X 0 rfl dJ13_bitCount_95d88_24 ?_
  refine g_lload_n X 0 rfl dJ13_bitCount_95d88_25 ?_
  refine g_iconst X 4 dJ13_bitCount_95d88_26 (by decide) ?_
  refine g_lushr X dJ13_bitCount_95d88_27 (fun zq15 eq16 => ?_)
  have hq27 := eq16
  refine g_ladd X dJ13_bitCount_95d88_28 (fun zq17 eq18 => ?_)
  have hq28 := eq18
  refine g_ldc2 X k_J13_318 dJ13_bitCount_95d88_29 ?_
  refine g_land X dJ13_bitCount_95d88_32 (fun zq19 eq20 => ?_)
  have hq32 := eq20
  refine g_lstore_n X (i := 0) [(0, .long zq19)] dJ13_bitCount_95d88_33 rfl (by decide) rfl ?_
  refine g_lload_n X 0 rfl dJ13_bitCount_95d88_34 ?_
  refine g_lload_n X 0 rfl dJ13_bitCount_95d88_35 ?_
  refine g_bipush X 8 dJ13_bitCount_95d88_36 (by decide) ?_
  refine g_lushr X dJ13_bitCount_95d88_38 (fun zq21 eq22 => ?_)
  have hq38 := eq22
  refine g_ladd X dJ13_bitCount_95d88_39 (fun zq23 eq24 => ?_)
  have hq39 := eq24
  refine g_lstore_n X (i := 0) [(0, .long zq23)] dJ13_bitCount_95d88_40 rfl (by decide) rfl ?_
  refine g_lload_n X 0 rfl dJ13_bitCount_95d88_41 ?_
  refine g_lload_n X 0 rfl dJ13_bitCount_95d88_42 ?_
  refine g_bipush X 16 dJ13_bitCount_95d88_43 (by decide) ?_
  refine g_lushr X dJ13_bitCount_95d88_45 (fun zq25 eq26 => ?_)
  have hq45 := eq26
  refine g_ladd X dJ13_bitCount_95d88_46 (fun zq27 eq28 => ?_)
  have hq46 := eq28
  refine g_lstore_n X (i := 0) [(0, .long zq27)] dJ13_bitCount_95d88_47 rfl (by decide) rfl ?_
  refine g_lload_n X 0 rfl dJ13_bitCount_95d88_48 ?_
  refine g_lload_n X 0 rfl dJ13_bitCount_95d88_49 ?_
  refine g_bipush X 32 dJ13_bitCount_95d88_50 (by decide) ?_
  refine g_lushr X dJ13_bitCount_95d88_52 (fun zq29 eq30 => ?_)
  have hq52 := eq30
  refine g_ladd X dJ13_bitCount_95d88_53 (fun zq31 eq32 => ?_)
  have hq53 := eq32
  refine g_lstore_n X (i := 0) [(0, .long zq31)] dJ13_bitCount_95d88_54 rfl (by decide) rfl ?_
  refine g_lload_n X 0 rfl dJ13_bitCount_95d88_55 ?_
  refine g_l2i X dJ13_bitCount_95d88_56 (fun zq33 eq34 => ?_)
  have hq56 := eq34
  refine g_bipush X 127 dJ13_bitCount_95d88_57 (by decide) ?_
  refine g_iand X dJ13_bitCount_95d88_59 (fun zq35 eq36 => ?_)
  have hq59 := eq36
  exact g_iret X dJ13_bitCount_95d88_60 ⟨_, _, rfl, rfl, (bc_spec hq3 hq7 hq8 hq14 hq17 hq21 hq22 hq27 hq28 hq32 hq38 hq39 hq45 hq46 hq52 hq53 hq56 hq59), rfl⟩
set_option maxHeartbeats 4000000 in
set_option maxRecDepth 4000 in
theorem c_X6_bit_E (ad : Nat → Nat) (Mq : Mem) (x1 : Int64) {a1 : Int} (t1 : x1.toInt = a1) (x2 : Int32) {a2 : Int} (t2 : x2.toInt = a2) (h2 : 0 ≤ a2 ∧ a2 < 64) : Ctr ad yX6_bit cX6_bit 3 (some .int) 0 [.long x1, .int x2] Mq (fun v M' => ∃ (r : Int32) (a : Int), v = some (.int r) ∧ r.toInt = a ∧ ((a = 1 ∧ (b64 x1 a2.toNat = true)) ∨ (a = 0 ∧ ¬ (b64 x1 a2.toNat = true))) ∧ Mq = M') := by
  refine ctr_of (L := [(0, .long x1), (2, .int x2)]) (by decide) (Nat.le_of_ble_eq_true rfl) rfl ?_
  intro Γ X
  have X : gX Γ cX6_bit RX6 3 (some .int) 0 ad _ := X
  refine g_lload_n X 0 rfl dX6_bit_0 ?_
  refine g_iload_n X 1 rfl dX6_bit_1 ?_
  refine g_lushr X dX6_bit_2 (fun zq1 eq2 => ?_)
  have hq1 := eq2
  refine g_lconst X 1 dX6_bit_3 (by decide) ?_
  refine g_land X dX6_bit_4 (fun zq3 eq4 => ?_)
  have hq2 := eq4
  refine g_l2i X dX6_bit_5 (fun zq5 eq6 => ?_)
  have hq3 := eq6
  exact g_iret X dX6_bit_6 ⟨_, _, rfl, rfl, (bit_spec t2 h2 hq1 hq2 hq3), rfl⟩
abbrev W_J7_fill_53178_30_E : List (Nat × Nat) := [(30, 99)]
set_option maxHeartbeats 4000000 in
set_option maxRecDepth 4000 in
theorem c_J7_fill_53178_30_E (ad : Nat → Nat) (Mq : Mem) (x2 : Int32) {a2 : Int} (t2 : x2.toInt = a2) (Iq0 : Iv TX Mq) : Ctr ad yJ7_fill_53178 cJ7_fill_53178 4 none 0 [.ref (ad 30), .int x2] Mq (fun v M' => v = none ∧ (True) ∧ (∀ j : Nat, j < 40 → M'.1 30 j = x2) ∧ Iv TX M' ∧ Fr W_J7_fill_53178_30_E Mq M') := by
  refine ctr_of (L := [(0, .ref (ad 30)), (1, .int x2)]) (by decide) (Nat.le_of_ble_eq_true rfl) rfl ?_
  intro Γ X
  have X : gX Γ cJ7_fill_53178 RJ7 4 none 0 ad _ := X
  have frq0 : Fr W_J7_fill_53178_30_E Mq Mq := Fr.rf
  refine g_iconst X 0 dJ7_fill_53178_0 (by decide) ?_
  refine g_istore_n X (i := 2) [(2, .int 0), (0, .ref (ad 30)), (1, .int x2)] dJ7_fill_53178_1 rfl (by decide) rfl ?_
  refine g_aload_n X 1 rfl dJ7_fill_53178_2 ?_
  refine g_alen X la_30 40 (by decide) dJ7_fill_53178_3 ?_
  refine g_istore_n X (i := 3) [(3, .int 40), (2, .int 0), (0, .ref (ad 30)), (1, .int x2)] dJ7_fill_53178_4 rfl (by decide) rfl ?_
  have lp5 : ∀ n : Nat, ∀ (y2_5 : Int32) (b2_5 : Int), y2_5.toInt = b2_5 → ∀ (M_5 : Mem), (0 ≤ b2_5) → (∀ j : Nat, (j : Int) < b2_5 → M_5.1 30 j = x2) → (Iv TX M_5) → (Fr W_J7_fill_53178_30_E Mq M_5) → (40 - b2_5).toNat < n → G Γ M_5 5 [(3, .int 40), (2, .int y2_5), (0, .ref (ad 30)), (1, .int x2)] [] := by
    intro n
    induction n with
    | zero => intro y2_5 b2_5 e2_5 M_5 i1 i2 I_5 fr_5 hm; exact absurd hm (Nat.not_lt_zero _)
    | succ n ih5 =>
      intro y2_5 b2_5 e2_5 M_5 i1 i2 I_5 fr_5 hm5
      refine g_iload_n X 1 rfl dJ7_fill_53178_5 ?_
      refine g_iload_n X 0 rfl dJ7_fill_53178_6 ?_
      refine g_icmp_ge X e2_5 (show (40 : Int32).toInt = 40 by decide) (tgt := 20) dJ7_fill_53178_7 (by decide) (fun cq1 => ?_) (fun cq1 => ?_)
      · exact g_vret X dJ7_fill_53178_20 ⟨rfl, trivial, (fun j hj => i2 j (by omega)), I_5, fr_5⟩
      · refine g_aload_n X 2 rfl dJ7_fill_53178_10 ?_
        refine g_iload_n X 1 rfl dJ7_fill_53178_11 ?_
        refine g_iload_n X 3 rfl dJ7_fill_53178_12 ?_
        refine g_iast X la_30 e2_5 dJ7_fill_53178_13 (by omega) ?_
        have Iq2 : Iv TX (ui M_5 30 b2_5.toNat x2) := I_5.otherA rfl
        have frq3 : Fr W_J7_fill_53178_30_E Mq (ui M_5 30 b2_5.toNat x2) := fr_5.ui rfl
        refine g_iinc X 1 (fun v => [(2, .int v), (3, .int 40), (0, .ref (ad 30)), (1, .int x2)]) dJ7_fill_53178_14 rfl (by decide) (fun _ => rfl) (fun zq4 eq5 => ?_)
        have tq6 : zq4.toInt = b2_5 + 1 := add_nw eq5 e2_5 (show (Int32.ofInt 1).toInt = 1 by decide) (by omega)
        refine g_goto X (tgt := 5) dJ7_fill_53178_17 (by decide) ?_
        refine g_sub [1, 0, 2, 3] rfl ?_
        exact ih5 zq4 _ tq6 (ui M_5 30 b2_5.toNat x2) (by omega) (fill_step i2 i1) Iq2 frq3 (by omega)
  refine g_sub [0, 1, 2, 3] rfl ?_
  exact lp5 _ 0 _ (show (0 : Int32).toInt = 0 by decide) Mq (by omega) (fun j hj => absurd hj (by omega)) Iq0 frq0 (Nat.lt_succ_self _)
abbrev W_J7_fill_53178_32_E : List (Nat × Nat) := [(32, 99)]
set_option maxHeartbeats 4000000 in
set_option maxRecDepth 4000 in
theorem c_J7_fill_53178_32_E (ad : Nat → Nat) (Mq : Mem) (x2 : Int32) {a2 : Int} (t2 : x2.toInt = a2) (Iq0 : Iv TX Mq) : Ctr ad yJ7_fill_53178 cJ7_fill_53178 4 none 0 [.ref (ad 32), .int x2] Mq (fun v M' => v = none ∧ (True) ∧ (∀ j : Nat, j < 10 → M'.1 32 j = x2) ∧ Iv TX M' ∧ Fr W_J7_fill_53178_32_E Mq M') := by
  refine ctr_of (L := [(0, .ref (ad 32)), (1, .int x2)]) (by decide) (Nat.le_of_ble_eq_true rfl) rfl ?_
  intro Γ X
  have X : gX Γ cJ7_fill_53178 RJ7 4 none 0 ad _ := X
  have frq0 : Fr W_J7_fill_53178_32_E Mq Mq := Fr.rf
  refine g_iconst X 0 dJ7_fill_53178_0 (by decide) ?_
  refine g_istore_n X (i := 2) [(2, .int 0), (0, .ref (ad 32)), (1, .int x2)] dJ7_fill_53178_1 rfl (by decide) rfl ?_
  refine g_aload_n X 1 rfl dJ7_fill_53178_2 ?_
  refine g_alen X la_32 10 (by decide) dJ7_fill_53178_3 ?_
  refine g_istore_n X (i := 3) [(3, .int 10), (2, .int 0), (0, .ref (ad 32)), (1, .int x2)] dJ7_fill_53178_4 rfl (by decide) rfl ?_
  have lp5 : ∀ n : Nat, ∀ (y2_5 : Int32) (b2_5 : Int), y2_5.toInt = b2_5 → ∀ (M_5 : Mem), (0 ≤ b2_5) → (∀ j : Nat, (j : Int) < b2_5 → M_5.1 32 j = x2) → (Iv TX M_5) → (Fr W_J7_fill_53178_32_E Mq M_5) → (10 - b2_5).toNat < n → G Γ M_5 5 [(3, .int 10), (2, .int y2_5), (0, .ref (ad 32)), (1, .int x2)] [] := by
    intro n
    induction n with
    | zero => intro y2_5 b2_5 e2_5 M_5 i1 i2 I_5 fr_5 hm; exact absurd hm (Nat.not_lt_zero _)
    | succ n ih5 =>
      intro y2_5 b2_5 e2_5 M_5 i1 i2 I_5 fr_5 hm5
      refine g_iload_n X 1 rfl dJ7_fill_53178_5 ?_
      refine g_iload_n X 0 rfl dJ7_fill_53178_6 ?_
      refine g_icmp_ge X e2_5 (show (10 : Int32).toInt = 10 by decide) (tgt := 20) dJ7_fill_53178_7 (by decide) (fun cq1 => ?_) (fun cq1 => ?_)
      · exact g_vret X dJ7_fill_53178_20 ⟨rfl, trivial, (fun j hj => i2 j (by omega)), I_5, fr_5⟩
      · refine g_aload_n X 2 rfl dJ7_fill_53178_10 ?_
        refine g_iload_n X 1 rfl dJ7_fill_53178_11 ?_
        refine g_iload_n X 3 rfl dJ7_fill_53178_12 ?_
        refine g_iast X la_32 e2_5 dJ7_fill_53178_13 (by omega) ?_
        have Iq2 : Iv TX (ui M_5 32 b2_5.toNat x2) := I_5.otherA rfl
        have frq3 : Fr W_J7_fill_53178_32_E Mq (ui M_5 32 b2_5.toNat x2) := fr_5.ui rfl
        refine g_iinc X 1 (fun v => [(2, .int v), (3, .int 10), (0, .ref (ad 32)), (1, .int x2)]) dJ7_fill_53178_14 rfl (by decide) (fun _ => rfl) (fun zq4 eq5 => ?_)
        have tq6 : zq4.toInt = b2_5 + 1 := add_nw eq5 e2_5 (show (Int32.ofInt 1).toInt = 1 by decide) (by omega)
        refine g_goto X (tgt := 5) dJ7_fill_53178_17 (by decide) ?_
        refine g_sub [1, 0, 2, 3] rfl ?_
        exact ih5 zq4 _ tq6 (ui M_5 32 b2_5.toNat x2) (by omega) (fill_step i2 i1) Iq2 frq3 (by omega)
  refine g_sub [0, 1, 2, 3] rfl ?_
  exact lp5 _ 0 _ (show (0 : Int32).toInt = 0 by decide) Mq (by omega) (fun j hj => absurd hj (by omega)) Iq0 frq0 (Nat.lt_succ_self _)
abbrev W_X0_stockOf_E : List (Nat × Nat) := [(30, 99)]
set_option maxHeartbeats 4000000 in
set_option maxRecDepth 4000 in
theorem c_X0_stockOf_E (ad : Nat → Nat) (Mq : Mem) (x1 : Int32) {a1 : Int} (t1 : x1.toInt = a1) (x2 : Int32) {a2 : Int} (t2 : x2.toInt = a2) (x3 : Int32) {a3 : Int} (t3 : x3.toInt = a3) (Iq0 : Iv TX Mq) (h1 : -1 ≤ a3 ∧ a3 ≤ (Mq.1 23 7).toInt) (hy : ∀ k : Nat, k < 200 → 0 ≤ (Mq.1 28 k).toInt) : Ctr ad yX0_stockOf cX0_stockOf 9 (some .long) 1 [.ref (ad 23), .int x1, .int x2, .int x3] Mq (fun v M' => ∃ (r : Int64) (a : Int), v = some (.long r) ∧ r.toInt = a ∧ (∀ l : Nat, l < 64 → b64 r l = hsX Mq a1 l a2 (upk a3 (Mq.1 23 7).toInt).toNat) ∧ Iv TX M' ∧ Fr W_X0_stockOf_E Mq M') := by
  refine ctr_of (L := [(0, .ref (ad 23)), (1, .int x1), (2, .int x2), (3, .int x3)]) (by decide) (Nat.le_of_ble_eq_true rfl) rfl ?_
  intro Γ X
  have X : gX Γ cX0_stockOf RX0 9 (some .long) 1 ad _ := X
  have frq0 : Fr W_X0_stockOf_E Mq Mq := Fr.rf
  have hE := ig_23_7 Iq0
  refine g_iload_n X 3 rfl dX0_stockOf_0 ?_
  refine g_iconst X (-1) dX0_stockOf_1 (by decide) ?_
  refine g_icmp_ne X t3 (show ((-1) : Int32).toInt = (-1) by decide) (tgt := 12) dX0_stockOf_2 (by decide) (fun cq1 => ?_) (fun cq1 => ?_)
  · refine g_iload_n X 3 rfl dX0_stockOf_12 ?_
    refine g_istore X [(4, .int x3), (0, .ref (ad 23)), (1, .int x1), (2, .int x2), (3, .int x3)] dX0_stockOf_13 (by decide) rfl ?_
    refine g_lconst X 0 dX0_stockOf_15 (by decide) ?_
    refine g_lstore X [(5, .long 0), (4, .int x3), (0, .ref (ad 23)), (1, .int x1), (2, .int x2), (3, .int x3)] dX0_stockOf_16 (by decide) rfl ?_
    refine g_aload_n X 2 rfl dX0_stockOf_18 ?_
    refine g_getr X f_X0_38 dX0_stockOf_19 ?_
    refine g_iconst X (-1) dX0_stockOf_22 (by decide) ?_
    refine g_callS X m_X0_48 (c_J7_fill_53178_30_E ad Mq (-1) (show ((-1) : Int32).toInt = (-1) by decide) Iq0) rfl (by decide) (Nat.le_of_ble_eq_true rfl) rfl dX0_stockOf_23 ?_
    rintro _ Mq7 ⟨rfl, hq5, hq6, Iq8, frq9⟩
    have frq10 : Fr W_X0_stockOf_E Mq Mq7 := frq0.trans frq9 rfl
    have hfill := hq6
    show G Γ Mq7 26 [(5, .long 0), (4, .int x3), (0, .ref (ad 23)), (1, .int x1), (2, .int x2), (3, .int x3)] []
    refine g_iconst X 0 dX0_stockOf_26 (by decide) ?_
    refine g_istore X [(7, .int 0), (5, .long 0), (4, .int x3), (0, .ref (ad 23)), (1, .int x1), (2, .int x2), (3, .int x3)] dX0_stockOf_27 (by decide) rfl ?_
    have lp29 : ∀ n : Nat, ∀ (y7_29 : Int32) (b7_29 : Int), y7_29.toInt = b7_29 → ∀ (y5_29 : Int64) (b5_29 : Int), y5_29.toInt = b5_29 → ∀ (M_29 : Mem), (0 ≤ b7_29 ∧ b7_29 ≤ a3) → (SKq (eW Mq 26) (eW Mq 27) (eW Mq 28) (eW Mq 29) a1 a2 (eW M_29 30) (b64 y5_29) (b7_29).toNat) → (Iv TX M_29) → (Fr W_X0_stockOf_E Mq M_29) → (a3 - b7_29).toNat < n → G Γ M_29 29 [(7, .int y7_29), (5, .long y5_29), (4, .int x3), (0, .ref (ad 23)), (1, .int x1), (2, .int x2), (3, .int x3)] [] := by
      intro n
      induction n with
      | zero => intro y7_29 b7_29 e7_29 y5_29 b5_29 e5_29 M_29 i1 i2 I_29 fr_29 hm; exact absurd hm (Nat.not_lt_zero _)
      | succ n ih29 =>
        intro y7_29 b7_29 e7_29 y5_29 b5_29 e5_29 M_29 i1 i2 I_29 fr_29 hm29
        have q26 : eW Mq 26 (b7_29).toNat = (M_29.1 26 (b7_29).toNat).toInt := (congrArg Int32.toInt (fr_29.at 26 _ rfl)).symm
        have q27 : eW Mq 27 (b7_29).toNat = (M_29.1 27 (b7_29).toNat).toInt := (congrArg Int32.toInt (fr_29.at 27 _ rfl)).symm
        have q28 : eW Mq 28 (b7_29).toNat = (M_29.1 28 (b7_29).toNat).toInt := (congrArg Int32.toInt (fr_29.at 28 _ rfl)).symm
        have q29 : eW Mq 29 (b7_29).toNat = (M_29.1 29 (b7_29).toNat).toInt := (congrArg Int32.toInt (fr_29.at 29 _ rfl)).symm
        have hy0 : b7_29 < 200 → 0 ≤ (M_29.1 28 (b7_29).toNat).toInt := fun z => by rw [← q28]; exact hy _ (by omega)
        have hnl : eW M_29 30 ((M_29.1 27 (b7_29).toNat).toInt).toNat = (M_29.1 30 ((M_29.1 27 (b7_29).toNat).toInt).toNat).toInt := rfl
        refine g_iload X 0 rfl dX0_stockOf_29 ?_
        refine g_iload X 2 rfl dX0_stockOf_31 ?_
        refine g_icmp_ge X e7_29 t3 (tgt := 137) dX0_stockOf_33 (by decide) (fun cq11 => ?_) (fun cq11 => ?_)
        · refine g_lload X 1 rfl dX0_stockOf_137 ?_
          exact g_lret X dX0_stockOf_139 ⟨_, _, rfl, e5_29, (SKq_ret i2 (by first | (rw [upk_n (by omega)]; omega) | (rw [upk_y (by omega)]; omega))), I_29, fr_29⟩
        · refine g_aload_n X 3 rfl dX0_stockOf_36 ?_
          refine g_getr X f_X0_25 dX0_stockOf_37 ?_
          refine g_iload X 0 rfl dX0_stockOf_40 ?_
          refine g_iald X la_27 e7_29 dX0_stockOf_42 (by omega) (x := M_29.1 27 b7_29.toNat) rfl ?_
          have bq12 := ig_27 I_29 b7_29.toNat (by omega)
          refine g_istore X [(8, .int (M_29.1 27 b7_29.toNat)), (7, .int y7_29), (5, .long y5_29), (4, .int x3), (0, .ref (ad 23)), (1, .int x1), (2, .int x2), (3, .int x3)] dX0_stockOf_43 (by decide) rfl ?_
          refine g_aload_n X 4 rfl dX0_stockOf_45 ?_
          refine g_getr X f_X0_22 dX0_stockOf_46 ?_
          refine g_iload X 1 rfl dX0_stockOf_49 ?_
          refine g_iald X la_26 e7_29 dX0_stockOf_51 (by omega) (x := M_29.1 26 b7_29.toNat) rfl ?_
          refine g_iload_n X 5 rfl dX0_stockOf_52 ?_
          refine g_icmp_ne X rfl t1 (tgt := 131) dX0_stockOf_53 (by decide) (fun cq13 => ?_) (fun cq13 => ?_)
          · refine g_iinc X 1 (fun v => [(7, .int v), (8, .int (M_29.1 27 b7_29.toNat)), (5, .long y5_29), (4, .int x3), (0, .ref (ad 23)), (1, .int x1), (2, .int x2), (3, .int x3)]) dX0_stockOf_131 rfl (by decide) (fun _ => rfl) (fun zq14 eq15 => ?_)
            have tq16 : zq14.toInt = b7_29 + 1 := add_nw eq15 e7_29 (show (Int32.ofInt 1).toInt = 1 by decide) (by omega)
            refine g_goto X (tgt := 29) dX0_stockOf_134 (by decide) ?_
            refine g_sub [0, 2, 3, 4, 5, 6, 7] rfl ?_
            exact ih29 zq14 _ tq16 y5_29 _ e5_29 M_29 (by omega) (by first | exact SKq_skip i2 q26 q27 q28 hnl ⟨by omega, by omega, hy0 (by omega)⟩ (by omega) (by omega) | exact SKq_take i2 q26 q27 q28 q29 hnl ⟨by omega, by omega, hy0 (by omega)⟩ ⟨by omega, by omega, by omega⟩ (fun l _ => eW_ui l) hbt (by first | exact Or.inl ⟨rfl, by omega⟩ | exact Or.inr ⟨rfl, by omega⟩) (by omega)) I_29 fr_29 (by omega)
          · refine g_aload_n X 4 rfl dX0_stockOf_56 ?_
            refine g_getr X f_X0_28 dX0_stockOf_57 ?_
            refine g_iload X 1 rfl dX0_stockOf_60 ?_
            refine g_iald X la_28 e7_29 dX0_stockOf_62 (by omega) (x := M_29.1 28 b7_29.toNat) rfl ?_
            refine g_iload_n X 6 rfl dX0_stockOf_63 ?_
            refine g_icmp_gt X rfl t2 (tgt := 131) dX0_stockOf_64 (by decide) (fun cq17 => ?_) (fun cq17 => ?_)
            · refine g_iinc X 1 (fun v => [(7, .int v), (8, .int (M_29.1 27 b7_29.toNat)), (5, .long y5_29), (4, .int x3), (0, .ref (ad 23)), (1, .int x1), (2, .int x2), (3, .int x3)]) dX0_stockOf_131 rfl (by decide) (fun _ => rfl) (fun zq18 eq19 => ?_)
              have tq20 : zq18.toInt = b7_29 + 1 := add_nw eq19 e7_29 (show (Int32.ofInt 1).toInt = 1 by decide) (by omega)
              refine g_goto X (tgt := 29) dX0_stockOf_134 (by decide) ?_
              refine g_sub [0, 2, 3, 4, 5, 6, 7] rfl ?_
              exact ih29 zq18 _ tq20 y5_29 _ e5_29 M_29 (by omega) (by first | exact SKq_skip i2 q26 q27 q28 hnl ⟨by omega, by omega, hy0 (by omega)⟩ (by omega) (by omega) | exact SKq_take i2 q26 q27 q28 q29 hnl ⟨by omega, by omega, hy0 (by omega)⟩ ⟨by omega, by omega, by omega⟩ (fun l _ => eW_ui l) hbt (by first | exact Or.inl ⟨rfl, by omega⟩ | exact Or.inr ⟨rfl, by omega⟩) (by omega)) I_29 fr_29 (by omega)
            · refine g_aload_n X 4 rfl dX0_stockOf_67 ?_
              refine g_getr X f_X0_28 dX0_stockOf_68 ?_
              refine g_iload X 1 rfl dX0_stockOf_71 ?_
              refine g_iald X la_28 e7_29 dX0_stockOf_73 (by omega) (x := M_29.1 28 b7_29.toNat) rfl ?_
              refine g_aload_n X 4 rfl dX0_stockOf_74 ?_
              refine g_getr X f_X0_38 dX0_stockOf_75 ?_
              refine g_iload X 0 rfl dX0_stockOf_78 ?_
              refine g_iald X la_30 rfl dX0_stockOf_80 (by omega) (x := M_29.1 30 (((M_29.1 27 b7_29.toNat).toInt).toNat)) rfl ?_
              refine g_icmp_lt X rfl rfl (tgt := 131) dX0_stockOf_81 (by decide) (fun cq21 => ?_) (fun cq21 => ?_)
              · refine g_iinc X 1 (fun v => [(7, .int v), (8, .int (M_29.1 27 b7_29.toNat)), (5, .long y5_29), (4, .int x3), (0, .ref (ad 23)), (1, .int x1), (2, .int x2), (3, .int x3)]) dX0_stockOf_131 rfl (by decide) (fun _ => rfl) (fun zq22 eq23 => ?_)
                have tq24 : zq22.toInt = b7_29 + 1 := add_nw eq23 e7_29 (show (Int32.ofInt 1).toInt = 1 by decide) (by omega)
                refine g_goto X (tgt := 29) dX0_stockOf_134 (by decide) ?_
                refine g_sub [0, 2, 3, 4, 5, 6, 7] rfl ?_
                exact ih29 zq22 _ tq24 y5_29 _ e5_29 M_29 (by omega) (by first | exact SKq_skip i2 q26 q27 q28 hnl ⟨by omega, by omega, hy0 (by omega)⟩ (by omega) (by omega) | exact SKq_take i2 q26 q27 q28 q29 hnl ⟨by omega, by omega, hy0 (by omega)⟩ ⟨by omega, by omega, by omega⟩ (fun l _ => eW_ui l) hbt (by first | exact Or.inl ⟨rfl, by omega⟩ | exact Or.inr ⟨rfl, by omega⟩) (by omega)) I_29 fr_29 (by omega)
              · refine g_aload_n X 4 rfl dX0_stockOf_84 ?_
                refine g_getr X f_X0_38 dX0_stockOf_85 ?_
                refine g_iload X 0 rfl dX0_stockOf_88 ?_
                refine g_aload_n X 4 rfl dX0_stockOf_90 ?_
                refine g_getr X f_X0_28 dX0_stockOf_91 ?_
                refine g_iload X 1 rfl dX0_stockOf_94 ?_
                refine g_iald X la_28 e7_29 dX0_stockOf_96 (by omega) (x := M_29.1 28 b7_29.toNat) rfl ?_
                refine g_iast X la_30 rfl dX0_stockOf_97 (by omega) ?_
                have Iq25 : Iv TX (ui M_29 30 (((M_29.1 27 b7_29.toNat).toInt).toNat) (M_29.1 28 b7_29.toNat)) := I_29.otherA rfl
                have frq26 : Fr W_X0_stockOf_E Mq (ui M_29 30 (((M_29.1 27 b7_29.toNat).toInt).toNat) (M_29.1 28 b7_29.toNat)) := fr_29.ui rfl
                refine g_aload_n X 4 rfl dX0_stockOf_98 ?_
                refine g_getr X f_X0_31 dX0_stockOf_99 ?_
                refine g_iload X 1 rfl dX0_stockOf_102 ?_
                refine g_zald X la_29 e7_29 dX0_stockOf_104 (by omega) (x := M_29.1 29 b7_29.toNat) rfl ?_
                have bq27 := ig_29 I_29 b7_29.toNat (by omega)
                refine g_if_eq X rfl (tgt := 118) dX0_stockOf_105 (by decide) (fun cq28 => ?_) (fun cq28 => ?_)
                · refine g_lload X 2 rfl dX0_stockOf_118 ?_
                  refine g_lconst X 1 dX0_stockOf_120 (by decide) ?_
                  refine g_iload X 0 rfl dX0_stockOf_121 ?_
                  refine g_lshl X dX0_stockOf_123 (fun zq29 eq30 => ?_)
                  have hsh := eq30
                  refine g_ldc2 X k_X0_54 dX0_stockOf_124 ?_
                  refine g_lxor X dX0_stockOf_127 (fun zq31 eq32 => ?_)
                  have hnx := eq32
                  refine g_land X dX0_stockOf_128 (fun zq33 eq34 => ?_)
                  have hbt := bt_clr rfl (by omega) hsh hnx eq34
                  refine g_lstore X [(5, .long zq33), (8, .int (M_29.1 27 b7_29.toNat)), (7, .int y7_29), (4, .int x3), (0, .ref (ad 23)), (1, .int x1), (2, .int x2), (3, .int x3)] dX0_stockOf_129 (by decide) rfl ?_
                  refine g_iinc X 2 (fun v => [(7, .int v), (5, .long zq33), (8, .int (M_29.1 27 b7_29.toNat)), (4, .int x3), (0, .ref (ad 23)), (1, .int x1), (2, .int x2), (3, .int x3)]) dX0_stockOf_131 rfl (by decide) (fun _ => rfl) (fun zq35 eq36 => ?_)
                  have tq37 : zq35.toInt = b7_29 + 1 := add_nw eq36 e7_29 (show (Int32.ofInt 1).toInt = 1 by decide) (by omega)
                  refine g_goto X (tgt := 29) dX0_stockOf_134 (by decide) ?_
                  refine g_sub [0, 1, 3, 4, 5, 6, 7] rfl ?_
                  exact ih29 zq35 _ tq37 zq33 _ rfl (ui M_29 30 (((M_29.1 27 b7_29.toNat).toInt).toNat) (M_29.1 28 b7_29.toNat)) (by omega) (by first | exact SKq_skip i2 q26 q27 q28 hnl ⟨by omega, by omega, hy0 (by omega)⟩ (by omega) (by omega) | exact SKq_take i2 q26 q27 q28 q29 hnl ⟨by omega, by omega, hy0 (by omega)⟩ ⟨by omega, by omega, by omega⟩ (fun l _ => eW_ui l) hbt (by first | exact Or.inl ⟨rfl, by omega⟩ | exact Or.inr ⟨rfl, by omega⟩) (by omega)) Iq25 frq26 (by omega)
                · refine g_lload X 2 rfl dX0_stockOf_108 ?_
                  refine g_lconst X 1 dX0_stockOf_110 (by decide) ?_
                  refine g_iload X 0 rfl dX0_stockOf_111 ?_
                  refine g_lshl X dX0_stockOf_113 (fun zq38 eq39 => ?_)
                  have hsh := eq39
                  refine g_lor X dX0_stockOf_114 (fun zq40 eq41 => ?_)
                  have hbt := bt_or rfl (by omega) hsh eq41
                  refine g_goto X (tgt := 129) dX0_stockOf_115 (by decide) ?_
                  refine g_lstore X [(5, .long zq40), (8, .int (M_29.1 27 b7_29.toNat)), (7, .int y7_29), (4, .int x3), (0, .ref (ad 23)), (1, .int x1), (2, .int x2), (3, .int x3)] dX0_stockOf_129 (by decide) rfl ?_
                  refine g_iinc X 2 (fun v => [(7, .int v), (5, .long zq40), (8, .int (M_29.1 27 b7_29.toNat)), (4, .int x3), (0, .ref (ad 23)), (1, .int x1), (2, .int x2), (3, .int x3)]) dX0_stockOf_131 rfl (by decide) (fun _ => rfl) (fun zq42 eq43 => ?_)
                  have tq44 : zq42.toInt = b7_29 + 1 := add_nw eq43 e7_29 (show (Int32.ofInt 1).toInt = 1 by decide) (by omega)
                  refine g_goto X (tgt := 29) dX0_stockOf_134 (by decide) ?_
                  refine g_sub [0, 1, 3, 4, 5, 6, 7] rfl ?_
                  exact ih29 zq42 _ tq44 zq40 _ rfl (ui M_29 30 (((M_29.1 27 b7_29.toNat).toInt).toNat) (M_29.1 28 b7_29.toNat)) (by omega) (by first | exact SKq_skip i2 q26 q27 q28 hnl ⟨by omega, by omega, hy0 (by omega)⟩ (by omega) (by omega) | exact SKq_take i2 q26 q27 q28 q29 hnl ⟨by omega, by omega, hy0 (by omega)⟩ ⟨by omega, by omega, by omega⟩ (fun l _ => eW_ui l) hbt (by first | exact Or.inl ⟨rfl, by omega⟩ | exact Or.inr ⟨rfl, by omega⟩) (by omega)) Iq25 frq26 (by omega)
    refine g_sub [0, 1, 2, 3, 4, 5, 6] rfl ?_
    exact lp29 _ 0 _ (show (0 : Int32).toInt = 0 by decide) 0 _ (show (0 : Int64).toInt = 0 by decide) Mq7 (by omega) (SKq_0 (fun l hl => (congrArg Int32.toInt (hfill l hl)).trans (by decide)) b64_0) Iq8 frq10 (Nat.lt_succ_self _)
  · refine g_aload_n X 0 rfl dX0_stockOf_5 ?_
    refine g_geti X f_X0_35 dX0_stockOf_6 (x := Mq.1 23 7) rfl ?_
    have bq45 := ig_23_7 Iq0
    refine g_goto X (tgt := 13) dX0_stockOf_9 (by decide) ?_
    refine g_istore X [(4, .int (Mq.1 23 7)), (0, .ref (ad 23)), (1, .int x1), (2, .int x2), (3, .int x3)] dX0_stockOf_13 (by decide) rfl ?_
    refine g_lconst X 0 dX0_stockOf_15 (by decide) ?_
    refine g_lstore X [(5, .long 0), (4, .int (Mq.1 23 7)), (0, .ref (ad 23)), (1, .int x1), (2, .int x2), (3, .int x3)] dX0_stockOf_16 (by decide) rfl ?_
    refine g_aload_n X 2 rfl dX0_stockOf_18 ?_
    refine g_getr X f_X0_38 dX0_stockOf_19 ?_
    refine g_iconst X (-1) dX0_stockOf_22 (by decide) ?_
    refine g_callS X m_X0_48 (c_J7_fill_53178_30_E ad Mq (-1) (show ((-1) : Int32).toInt = (-1) by decide) Iq0) rfl (by decide) (Nat.le_of_ble_eq_true rfl) rfl dX0_stockOf_23 ?_
    rintro _ Mq51 ⟨rfl, hq49, hq50, Iq52, frq53⟩
    have frq54 : Fr W_X0_stockOf_E Mq Mq51 := frq0.trans frq53 rfl
    have hfill := hq50
    show G Γ Mq51 26 [(5, .long 0), (4, .int (Mq.1 23 7)), (0, .ref (ad 23)), (1, .int x1), (2, .int x2), (3, .int x3)] []
    refine g_iconst X 0 dX0_stockOf_26 (by decide) ?_
    refine g_istore X [(7, .int 0), (5, .long 0), (4, .int (Mq.1 23 7)), (0, .ref (ad 23)), (1, .int x1), (2, .int x2), (3, .int x3)] dX0_stockOf_27 (by decide) rfl ?_
    have lp29 : ∀ n : Nat, ∀ (y7_29 : Int32) (b7_29 : Int), y7_29.toInt = b7_29 → ∀ (y5_29 : Int64) (b5_29 : Int), y5_29.toInt = b5_29 → ∀ (M_29 : Mem), (0 ≤ b7_29 ∧ b7_29 ≤ ((Mq.1 23 7).toInt)) → (SKq (eW Mq 26) (eW Mq 27) (eW Mq 28) (eW Mq 29) a1 a2 (eW M_29 30) (b64 y5_29) (b7_29).toNat) → (Iv TX M_29) → (Fr W_X0_stockOf_E Mq M_29) → (((Mq.1 23 7).toInt) - b7_29).toNat < n → G Γ M_29 29 [(7, .int y7_29), (5, .long y5_29), (4, .int (Mq.1 23 7)), (0, .ref (ad 23)), (1, .int x1), (2, .int x2), (3, .int x3)] [] := by
      intro n
      induction n with
      | zero => intro y7_29 b7_29 e7_29 y5_29 b5_29 e5_29 M_29 i1 i2 I_29 fr_29 hm; exact absurd hm (Nat.not_lt_zero _)
      | succ n ih29 =>
        intro y7_29 b7_29 e7_29 y5_29 b5_29 e5_29 M_29 i1 i2 I_29 fr_29 hm29
        have q26 : eW Mq 26 (b7_29).toNat = (M_29.1 26 (b7_29).toNat).toInt := (congrArg Int32.toInt (fr_29.at 26 _ rfl)).symm
        have q27 : eW Mq 27 (b7_29).toNat = (M_29.1 27 (b7_29).toNat).toInt := (congrArg Int32.toInt (fr_29.at 27 _ rfl)).symm
        have q28 : eW Mq 28 (b7_29).toNat = (M_29.1 28 (b7_29).toNat).toInt := (congrArg Int32.toInt (fr_29.at 28 _ rfl)).symm
        have q29 : eW Mq 29 (b7_29).toNat = (M_29.1 29 (b7_29).toNat).toInt := (congrArg Int32.toInt (fr_29.at 29 _ rfl)).symm
        have hy0 : b7_29 < 200 → 0 ≤ (M_29.1 28 (b7_29).toNat).toInt := fun z => by rw [← q28]; exact hy _ (by omega)
        have hnl : eW M_29 30 ((M_29.1 27 (b7_29).toNat).toInt).toNat = (M_29.1 30 ((M_29.1 27 (b7_29).toNat).toInt).toNat).toInt := rfl
        refine g_iload X 0 rfl dX0_stockOf_29 ?_
        refine g_iload X 2 rfl dX0_stockOf_31 ?_
        refine g_icmp_ge X e7_29 rfl (tgt := 137) dX0_stockOf_33 (by decide) (fun cq55 => ?_) (fun cq55 => ?_)
        · refine g_lload X 1 rfl dX0_stockOf_137 ?_
          exact g_lret X dX0_stockOf_139 ⟨_, _, rfl, e5_29, (SKq_ret i2 (by first | (rw [upk_n (by omega)]; omega) | (rw [upk_y (by omega)]; omega))), I_29, fr_29⟩
        · refine g_aload_n X 3 rfl dX0_stockOf_36 ?_
          refine g_getr X f_X0_25 dX0_stockOf_37 ?_
          refine g_iload X 0 rfl dX0_stockOf_40 ?_
          refine g_iald X la_27 e7_29 dX0_stockOf_42 (by omega) (x := M_29.1 27 b7_29.toNat) rfl ?_
          have bq56 := ig_27 I_29 b7_29.toNat (by omega)
          refine g_istore X [(8, .int (M_29.1 27 b7_29.toNat)), (7, .int y7_29), (5, .long y5_29), (4, .int (Mq.1 23 7)), (0, .ref (ad 23)), (1, .int x1), (2, .int x2), (3, .int x3)] dX0_stockOf_43 (by decide) rfl ?_
          refine g_aload_n X 4 rfl dX0_stockOf_45 ?_
          refine g_getr X f_X0_22 dX0_stockOf_46 ?_
          refine g_iload X 1 rfl dX0_stockOf_49 ?_
          refine g_iald X la_26 e7_29 dX0_stockOf_51 (by omega) (x := M_29.1 26 b7_29.toNat) rfl ?_
          refine g_iload_n X 5 rfl dX0_stockOf_52 ?_
          refine g_icmp_ne X rfl t1 (tgt := 131) dX0_stockOf_53 (by decide) (fun cq57 => ?_) (fun cq57 => ?_)
          · refine g_iinc X 1 (fun v => [(7, .int v), (8, .int (M_29.1 27 b7_29.toNat)), (5, .long y5_29), (4, .int (Mq.1 23 7)), (0, .ref (ad 23)), (1, .int x1), (2, .int x2), (3, .int x3)]) dX0_stockOf_131 rfl (by decide) (fun _ => rfl) (fun zq58 eq59 => ?_)
            have tq60 : zq58.toInt = b7_29 + 1 := add_nw eq59 e7_29 (show (Int32.ofInt 1).toInt = 1 by decide) (by omega)
            refine g_goto X (tgt := 29) dX0_stockOf_134 (by decide) ?_
            refine g_sub [0, 2, 3, 4, 5, 6, 7] rfl ?_
            exact ih29 zq58 _ tq60 y5_29 _ e5_29 M_29 (by omega) (by first | exact SKq_skip i2 q26 q27 q28 hnl ⟨by omega, by omega, hy0 (by omega)⟩ (by omega) (by omega) | exact SKq_take i2 q26 q27 q28 q29 hnl ⟨by omega, by omega, hy0 (by omega)⟩ ⟨by omega, by omega, by omega⟩ (fun l _ => eW_ui l) hbt (by first | exact Or.inl ⟨rfl, by omega⟩ | exact Or.inr ⟨rfl, by omega⟩) (by omega)) I_29 fr_29 (by omega)
          · refine g_aload_n X 4 rfl dX0_stockOf_56 ?_
            refine g_getr X f_X0_28 dX0_stockOf_57 ?_
            refine g_iload X 1 rfl dX0_stockOf_60 ?_
            refine g_iald X la_28 e7_29 dX0_stockOf_62 (by omega) (x := M_29.1 28 b7_29.toNat) rfl ?_
            refine g_iload_n X 6 rfl dX0_stockOf_63 ?_
            refine g_icmp_gt X rfl t2 (tgt := 131) dX0_stockOf_64 (by decide) (fun cq61 => ?_) (fun cq61 => ?_)
            · refine g_iinc X 1 (fun v => [(7, .int v), (8, .int (M_29.1 27 b7_29.toNat)), (5, .long y5_29), (4, .int (Mq.1 23 7)), (0, .ref (ad 23)), (1, .int x1), (2, .int x2), (3, .int x3)]) dX0_stockOf_131 rfl (by decide) (fun _ => rfl) (fun zq62 eq63 => ?_)
              have tq64 : zq62.toInt = b7_29 + 1 := add_nw eq63 e7_29 (show (Int32.ofInt 1).toInt = 1 by decide) (by omega)
              refine g_goto X (tgt := 29) dX0_stockOf_134 (by decide) ?_
              refine g_sub [0, 2, 3, 4, 5, 6, 7] rfl ?_
              exact ih29 zq62 _ tq64 y5_29 _ e5_29 M_29 (by omega) (by first | exact SKq_skip i2 q26 q27 q28 hnl ⟨by omega, by omega, hy0 (by omega)⟩ (by omega) (by omega) | exact SKq_take i2 q26 q27 q28 q29 hnl ⟨by omega, by omega, hy0 (by omega)⟩ ⟨by omega, by omega, by omega⟩ (fun l _ => eW_ui l) hbt (by first | exact Or.inl ⟨rfl, by omega⟩ | exact Or.inr ⟨rfl, by omega⟩) (by omega)) I_29 fr_29 (by omega)
            · refine g_aload_n X 4 rfl dX0_stockOf_67 ?_
              refine g_getr X f_X0_28 dX0_stockOf_68 ?_
              refine g_iload X 1 rfl dX0_stockOf_71 ?_
              refine g_iald X la_28 e7_29 dX0_stockOf_73 (by omega) (x := M_29.1 28 b7_29.toNat) rfl ?_
              refine g_aload_n X 4 rfl dX0_stockOf_74 ?_
              refine g_getr X f_X0_38 dX0_stockOf_75 ?_
              refine g_iload X 0 rfl dX0_stockOf_78 ?_
              refine g_iald X la_30 rfl dX0_stockOf_80 (by omega) (x := M_29.1 30 (((M_29.1 27 b7_29.toNat).toInt).toNat)) rfl ?_
              refine g_icmp_lt X rfl rfl (tgt := 131) dX0_stockOf_81 (by decide) (fun cq65 => ?_) (fun cq65 => ?_)
              · refine g_iinc X 1 (fun v => [(7, .int v), (8, .int (M_29.1 27 b7_29.toNat)), (5, .long y5_29), (4, .int (Mq.1 23 7)), (0, .ref (ad 23)), (1, .int x1), (2, .int x2), (3, .int x3)]) dX0_stockOf_131 rfl (by decide) (fun _ => rfl) (fun zq66 eq67 => ?_)
                have tq68 : zq66.toInt = b7_29 + 1 := add_nw eq67 e7_29 (show (Int32.ofInt 1).toInt = 1 by decide) (by omega)
                refine g_goto X (tgt := 29) dX0_stockOf_134 (by decide) ?_
                refine g_sub [0, 2, 3, 4, 5, 6, 7] rfl ?_
                exact ih29 zq66 _ tq68 y5_29 _ e5_29 M_29 (by omega) (by first | exact SKq_skip i2 q26 q27 q28 hnl ⟨by omega, by omega, hy0 (by omega)⟩ (by omega) (by omega) | exact SKq_take i2 q26 q27 q28 q29 hnl ⟨by omega, by omega, hy0 (by omega)⟩ ⟨by omega, by omega, by omega⟩ (fun l _ => eW_ui l) hbt (by first | exact Or.inl ⟨rfl, by omega⟩ | exact Or.inr ⟨rfl, by omega⟩) (by omega)) I_29 fr_29 (by omega)
              · refine g_aload_n X 4 rfl dX0_stockOf_84 ?_
                refine g_getr X f_X0_38 dX0_stockOf_85 ?_
                refine g_iload X 0 rfl dX0_stockOf_88 ?_
                refine g_aload_n X 4 rfl dX0_stockOf_90 ?_
                refine g_getr X f_X0_28 dX0_stockOf_91 ?_
                refine g_iload X 1 rfl dX0_stockOf_94 ?_
                refine g_iald X la_28 e7_29 dX0_stockOf_96 (by omega) (x := M_29.1 28 b7_29.toNat) rfl ?_
                refine g_iast X la_30 rfl dX0_stockOf_97 (by omega) ?_
                have Iq69 : Iv TX (ui M_29 30 (((M_29.1 27 b7_29.toNat).toInt).toNat) (M_29.1 28 b7_29.toNat)) := I_29.otherA rfl
                have frq70 : Fr W_X0_stockOf_E Mq (ui M_29 30 (((M_29.1 27 b7_29.toNat).toInt).toNat) (M_29.1 28 b7_29.toNat)) := fr_29.ui rfl
                refine g_aload_n X 4 rfl dX0_stockOf_98 ?_
                refine g_getr X f_X0_31 dX0_stockOf_99 ?_
                refine g_iload X 1 rfl dX0_stockOf_102 ?_
                refine g_zald X la_29 e7_29 dX0_stockOf_104 (by omega) (x := M_29.1 29 b7_29.toNat) rfl ?_
                have bq71 := ig_29 I_29 b7_29.toNat (by omega)
                refine g_if_eq X rfl (tgt := 118) dX0_stockOf_105 (by decide) (fun cq72 => ?_) (fun cq72 => ?_)
                · refine g_lload X 2 rfl dX0_stockOf_118 ?_
                  refine g_lconst X 1 dX0_stockOf_120 (by decide) ?_
                  refine g_iload X 0 rfl dX0_stockOf_121 ?_
                  refine g_lshl X dX0_stockOf_123 (fun zq73 eq74 => ?_)
                  have hsh := eq74
                  refine g_ldc2 X k_X0_54 dX0_stockOf_124 ?_
                  refine g_lxor X dX0_stockOf_127 (fun zq75 eq76 => ?_)
                  have hnx := eq76
                  refine g_land X dX0_stockOf_128 (fun zq77 eq78 => ?_)
                  have hbt := bt_clr rfl (by omega) hsh hnx eq78
                  refine g_lstore X [(5, .long zq77), (8, .int (M_29.1 27 b7_29.toNat)), (7, .int y7_29), (4, .int (Mq.1 23 7)), (0, .ref (ad 23)), (1, .int x1), (2, .int x2), (3, .int x3)] dX0_stockOf_129 (by decide) rfl ?_
                  refine g_iinc X 2 (fun v => [(7, .int v), (5, .long zq77), (8, .int (M_29.1 27 b7_29.toNat)), (4, .int (Mq.1 23 7)), (0, .ref (ad 23)), (1, .int x1), (2, .int x2), (3, .int x3)]) dX0_stockOf_131 rfl (by decide) (fun _ => rfl) (fun zq79 eq80 => ?_)
                  have tq81 : zq79.toInt = b7_29 + 1 := add_nw eq80 e7_29 (show (Int32.ofInt 1).toInt = 1 by decide) (by omega)
                  refine g_goto X (tgt := 29) dX0_stockOf_134 (by decide) ?_
                  refine g_sub [0, 1, 3, 4, 5, 6, 7] rfl ?_
                  exact ih29 zq79 _ tq81 zq77 _ rfl (ui M_29 30 (((M_29.1 27 b7_29.toNat).toInt).toNat) (M_29.1 28 b7_29.toNat)) (by omega) (by first | exact SKq_skip i2 q26 q27 q28 hnl ⟨by omega, by omega, hy0 (by omega)⟩ (by omega) (by omega) | exact SKq_take i2 q26 q27 q28 q29 hnl ⟨by omega, by omega, hy0 (by omega)⟩ ⟨by omega, by omega, by omega⟩ (fun l _ => eW_ui l) hbt (by first | exact Or.inl ⟨rfl, by omega⟩ | exact Or.inr ⟨rfl, by omega⟩) (by omega)) Iq69 frq70 (by omega)
                · refine g_lload X 2 rfl dX0_stockOf_108 ?_
                  refine g_lconst X 1 dX0_stockOf_110 (by decide) ?_
                  refine g_iload X 0 rfl dX0_stockOf_111 ?_
                  refine g_lshl X dX0_stockOf_113 (fun zq82 eq83 => ?_)
                  have hsh := eq83
                  refine g_lor X dX0_stockOf_114 (fun zq84 eq85 => ?_)
                  have hbt := bt_or rfl (by omega) hsh eq85
                  refine g_goto X (tgt := 129) dX0_stockOf_115 (by decide) ?_
                  refine g_lstore X [(5, .long zq84), (8, .int (M_29.1 27 b7_29.toNat)), (7, .int y7_29), (4, .int (Mq.1 23 7)), (0, .ref (ad 23)), (1, .int x1), (2, .int x2), (3, .int x3)] dX0_stockOf_129 (by decide) rfl ?_
                  refine g_iinc X 2 (fun v => [(7, .int v), (5, .long zq84), (8, .int (M_29.1 27 b7_29.toNat)), (4, .int (Mq.1 23 7)), (0, .ref (ad 23)), (1, .int x1), (2, .int x2), (3, .int x3)]) dX0_stockOf_131 rfl (by decide) (fun _ => rfl) (fun zq86 eq87 => ?_)
                  have tq88 : zq86.toInt = b7_29 + 1 := add_nw eq87 e7_29 (show (Int32.ofInt 1).toInt = 1 by decide) (by omega)
                  refine g_goto X (tgt := 29) dX0_stockOf_134 (by decide) ?_
                  refine g_sub [0, 1, 3, 4, 5, 6, 7] rfl ?_
                  exact ih29 zq86 _ tq88 zq84 _ rfl (ui M_29 30 (((M_29.1 27 b7_29.toNat).toInt).toNat) (M_29.1 28 b7_29.toNat)) (by omega) (by first | exact SKq_skip i2 q26 q27 q28 hnl ⟨by omega, by omega, hy0 (by omega)⟩ (by omega) (by omega) | exact SKq_take i2 q26 q27 q28 q29 hnl ⟨by omega, by omega, hy0 (by omega)⟩ ⟨by omega, by omega, by omega⟩ (fun l _ => eW_ui l) hbt (by first | exact Or.inl ⟨rfl, by omega⟩ | exact Or.inr ⟨rfl, by omega⟩) (by omega)) Iq69 frq70 (by omega)
    refine g_sub [0, 1, 2, 3, 4, 5, 6] rfl ?_
    exact lp29 _ 0 _ (show (0 : Int32).toInt = 0 by decide) 0 _ (show (0 : Int64).toInt = 0 by decide) Mq51 (by omega) (SKq_0 (fun l hl => (congrArg Int32.toInt (hfill l hl)).trans (by decide)) b64_0) Iq52 frq54 (Nat.lt_succ_self _)
abbrev W_X0_openAt_E : List (Nat × Nat) := [(30, 99), (31, 99)]
set_option maxHeartbeats 4000000 in
set_option maxRecDepth 4000 in
theorem c_X0_openAt_E (ad : Nat → Nat) (Mq : Mem) (x1 : Int32) {a1 : Int} (t1 : x1.toInt = a1) (x2 : Int32) {a2 : Int} (t2 : x2.toInt = a2) (Iq0 : Iv TX Mq) (h1 : -1 ≤ a2 ∧ a2 ≤ (Mq.1 23 7).toInt) (hy : ∀ k : Nat, k < 200 → 0 ≤ (Mq.1 28 k).toInt) : Ctr ad yX0_openAt cX0_openAt 4 none 2 [.ref (ad 23), .int x1, .int x2] Mq (fun v M' => v = none ∧ (True) ∧ (∀ s : Nat, (s : Int) < (Mq.1 23 2).toInt → ∀ l : Nat, l < 64 → b64 (M'.2 31 s) l = hsX Mq s l a1 (upk a2 (Mq.1 23 7).toInt).toNat) ∧ Iv TX M' ∧ Fr W_X0_openAt_E Mq M') := by
  refine ctr_of (L := [(0, .ref (ad 23)), (1, .int x1), (2, .int x2)]) (by decide) (Nat.le_of_ble_eq_true rfl) rfl ?_
  intro Γ X
  have X : gX Γ cX0_openAt RX0 4 none 2 ad _ := X
  have frq0 : Fr W_X0_openAt_E Mq Mq := Fr.rf
  refine g_iconst X 0 dX0_openAt_0 (by decide) ?_
  refine g_istore_n X (i := 3) [(3, .int 0), (0, .ref (ad 23)), (1, .int x1), (2, .int x2)] dX0_openAt_1 rfl (by decide) rfl ?_
  have lp2 : ∀ n : Nat, ∀ (y3_2 : Int32) (b3_2 : Int), y3_2.toInt = b3_2 → ∀ (M_2 : Mem), (0 ≤ b3_2) → (∀ s : Nat, (s : Int) < b3_2 → ∀ l : Nat, l < 64 → b64 (M_2.2 31 s) l = hsX Mq s l a1 (upk a2 (Mq.1 23 7).toInt).toNat) → (Iv TX M_2) → (Fr W_X0_openAt_E Mq M_2) → ((Mq.1 23 2).toInt - b3_2).toNat < n → G Γ M_2 2 [(3, .int y3_2), (0, .ref (ad 23)), (1, .int x1), (2, .int x2)] [] := by
    intro n
    induction n with
    | zero => intro y3_2 b3_2 e3_2 M_2 i1 i2 I_2 fr_2 hm; exact absurd hm (Nat.not_lt_zero _)
    | succ n ih2 =>
      intro y3_2 b3_2 e3_2 M_2 i1 i2 I_2 fr_2 hm2
      have q1 : (M_2.1 23 7).toInt = (Mq.1 23 7).toInt := congrArg Int32.toInt (fr_2.at 23 7 rfl)
      have q2 : (M_2.1 23 2).toInt = (Mq.1 23 2).toInt := congrArg Int32.toInt (fr_2.at 23 2 rfl)
      have hyM : ∀ k : Nat, k < 200 → 0 ≤ (M_2.1 28 k).toInt := fun k hk => by rw [fr_2.at 28 k rfl]; exact hy k hk
      have hsq := hsX_fr fr_2 rfl
      refine g_iload_n X 0 rfl dX0_openAt_2 ?_
      refine g_aload_n X 1 rfl dX0_openAt_3 ?_
      refine g_geti X f_X0_18 dX0_openAt_4 (x := M_2.1 23 2) rfl ?_
      have bq1 := ig_23_2 I_2
      refine g_icmp_ge X e3_2 rfl (tgt := 29) dX0_openAt_7 (by decide) (fun cq2 => ?_) (fun cq2 => ?_)
      · exact g_vret X dX0_openAt_29 ⟨rfl, trivial, (fun s hs => i2 s (by omega)), I_2, fr_2⟩
      · refine g_aload_n X 1 rfl dX0_openAt_10 ?_
        refine g_getr X f_X0_41 dX0_openAt_11 ?_
        refine g_iload_n X 0 rfl dX0_openAt_14 ?_
        refine g_aload_n X 1 rfl dX0_openAt_15 ?_
        refine g_iload_n X 0 rfl dX0_openAt_16 ?_
        refine g_iload_n X 2 rfl dX0_openAt_17 ?_
        refine g_iload_n X 3 rfl dX0_openAt_18 ?_
        refine g_callV X m_X0_56 (c_X0_stockOf_E ad M_2 y3_2 e3_2 x1 t1 x2 t2 I_2 (by omega) hyM) rfl (by decide) (Nat.le_of_ble_eq_true rfl) rfl dX0_openAt_19 ?_
        rintro _ Mq7 ⟨rq3, aq4, rfl, tq5, hq6, Iq8, frq9⟩
        have frq10 : Fr W_X0_openAt_E Mq Mq7 := fr_2.trans frq9 rfl
        have hst := hq6
        rw [hsq, q1] at hst
        have i2n : ∀ s : Nat, (s : Int) < b3_2 → ∀ l : Nat, l < 64 → b64 (Mq7.2 31 s) l = hsX Mq s l a1 (upk a2 (Mq.1 23 7).toInt).toNat := fun s h l hl => by rw [frq9.atL 31 s rfl]; exact i2 s h l hl
        show G Γ Mq7 22 [(3, .int y3_2), (0, .ref (ad 23)), (1, .int x1), (2, .int x2)] [.long rq3, .int y3_2, .ref (ad 31)]
        refine g_last X la_31 e3_2 dX0_openAt_22 (by omega) ?_
        have Iq11 : Iv TX (ul Mq7 31 b3_2.toNat rq3) := Iq8.long
        have frq12 : Fr W_X0_openAt_E Mq (ul Mq7 31 b3_2.toNat rq3) := frq10.ul rfl
        refine g_iinc X 0 (fun v => [(3, .int v), (0, .ref (ad 23)), (1, .int x1), (2, .int x2)]) dX0_openAt_23 rfl (by decide) (fun _ => rfl) (fun zq13 eq14 => ?_)
        have tq15 : zq13.toInt = b3_2 + 1 := add_nw eq14 e3_2 (show (Int32.ofInt 1).toInt = 1 by decide) (by omega)
        refine g_goto X (tgt := 2) dX0_openAt_26 (by decide) ?_
        refine g_sub [0, 1, 2, 3] rfl ?_
        exact ih2 zq13 _ tq15 (ul Mq7 31 b3_2.toNat rq3) (by omega) (opn_step (Q := fun s l => hsX Mq s l a1 (upk a2 (Mq.1 23 7).toInt).toNat) i2n i1 hst) Iq11 frq12 (by omega)
  refine g_sub [0, 1, 2, 3] rfl ?_
  exact lp2 _ 0 _ (show (0 : Int32).toInt = 0 by decide) Mq (by omega) (fun s hs => absurd hs (by omega)) Iq0 frq0 (Nat.lt_succ_self _)
set_option maxHeartbeats 4000000 in
set_option maxRecDepth 4000 in
theorem c_X0_changes_E (ad : Nat → Nat) (Mq : Mem) (x1 : Int32) {a1 : Int} (t1 : x1.toInt = a1) (x2 : Int32) {a2 : Int} (t2 : x2.toInt = a2) (h1 : 0 ≤ a1 ∧ a1 < 8) (h2 : 0 ≤ a2 ∧ a2 < 8) : Ctr ad yX0_changes cX0_changes 3 (some .int) 1 [.ref (ad 23), .int x1, .int x2] Mq (fun v M' => ∃ (r : Int32) (a : Int), v = some (.int r) ∧ r.toInt = a ∧ (a = cxU Mq a1.toNat a2.toNat) ∧ Mq = M') := by
  refine ctr_of (L := [(0, .ref (ad 23)), (1, .int x1), (2, .int x2)]) (by decide) (Nat.le_of_ble_eq_true rfl) rfl ?_
  intro Γ X
  have X : gX Γ cX0_changes RX0 3 (some .int) 1 ad _ := X
  refine g_aload_n X 0 rfl dX0_changes_0 ?_
  refine g_getr X f_X0_41 dX0_changes_1 ?_
  refine g_iload_n X 1 rfl dX0_changes_4 ?_
  refine g_lald X la_31 t1 dX0_changes_5 (by omega) (x := Mq.2 31 a1.toNat) rfl ?_
  refine g_aload_n X 0 rfl dX0_changes_6 ?_
  refine g_getr X f_X0_41 dX0_changes_7 ?_
  refine g_iload_n X 2 rfl dX0_changes_10 ?_
  refine g_lald X la_31 t2 dX0_changes_11 (by omega) (x := Mq.2 31 a2.toNat) rfl ?_
  refine g_lxor X dX0_changes_12 (fun zq1 eq2 => ?_)
  have hxr := eq2
  refine g_callS X m_X0_60 (c_J13_bitCount_95d88_E ad Mq zq1 rfl) rfl (by decide) (Nat.le_of_ble_eq_true rfl) rfl dX0_changes_13 ?_
  rintro _ _ ⟨rq3, aq4, rfl, tq5, hq6, rfl⟩
  have hbc := hq6
  show G Γ Mq 16 [(0, .ref (ad 23)), (1, .int x1), (2, .int x2)] [.int rq3]
  exact g_iret X dX0_changes_16 ⟨_, _, rfl, tq5, (cxU_of hxr hbc), rfl⟩
set_option maxHeartbeats 4000000 in
set_option maxRecDepth 4000 in
theorem c_X0_isNearer_E (ad : Nat → Nat) (Mq : Mem) (x1 : Int32) {a1 : Int} (t1 : x1.toInt = a1) (x2 : Int32) {a2 : Int} (t2 : x2.toInt = a2) (x3 : Int32) {a3 : Int} (t3 : x3.toInt = a3) (h1 : 0 ≤ a1 ∧ a1 < 8) (h2 : 0 ≤ a2 ∧ a2 < 8) (h3 : 0 ≤ a3 ∧ a3 < 8) : Ctr ad yX0_isNearer cX0_isNearer 5 (some .boolean) 2 [.ref (ad 23), .int x1, .int x2, .int x3] Mq (fun v M' => ∃ (r : Int32) (a : Int), v = some (.int r) ∧ r.toInt = a ∧ ((a = 1 ∧ (cxU Mq a1.toNat a3.toNat < cxU Mq a2.toNat a3.toNat ∨ (cxU Mq a1.toNat a3.toNat = cxU Mq a2.toNat a3.toNat ∧ (Mq.1 24 a2.toNat).toInt < (Mq.1 24 a1.toNat).toInt))) ∨ (a = 0 ∧ ¬ (cxU Mq a1.toNat a3.toNat < cxU Mq a2.toNat a3.toNat ∨ (cxU Mq a1.toNat a3.toNat = cxU Mq a2.toNat a3.toNat ∧ (Mq.1 24 a2.toNat).toInt < (Mq.1 24 a1.toNat).toInt)))) ∧ Mq = M') := by
  refine ctr_of (L := [(0, .ref (ad 23)), (1, .int x1), (2, .int x2), (3, .int x3)]) (by decide) (Nat.le_of_ble_eq_true rfl) rfl ?_
  intro Γ X
  have X : gX Γ cX0_isNearer RX0 5 (some .boolean) 2 ad _ := X
  have hr1 := cxU_rng Mq a1.toNat a3.toNat
  have hr2 := cxU_rng Mq a2.toNat a3.toNat
  refine g_aload_n X 0 rfl dX0_isNearer_0 ?_
  refine g_iload_n X 1 rfl dX0_isNearer_1 ?_
  refine g_iload_n X 3 rfl dX0_isNearer_2 ?_
  refine g_callV X m_X0_70 (c_X0_changes_E ad Mq x1 t1 x3 t3 (by omega) (by omega)) rfl (by decide) (Nat.le_of_ble_eq_true rfl) rfl dX0_isNearer_3 ?_
  rintro _ _ ⟨rq1, aq2, rfl, tq3, hq4, rfl⟩
  show G Γ Mq 6 [(0, .ref (ad 23)), (1, .int x1), (2, .int x2), (3, .int x3)] [.int rq1]
  refine g_aload_n X 0 rfl dX0_isNearer_6 ?_
  refine g_iload_n X 2 rfl dX0_isNearer_7 ?_
  refine g_iload_n X 3 rfl dX0_isNearer_8 ?_
  refine g_callV X m_X0_70 (c_X0_changes_E ad Mq x2 t2 x3 t3 (by omega) (by omega)) rfl (by decide) (Nat.le_of_ble_eq_true rfl) rfl dX0_isNearer_9 ?_
  rintro _ _ ⟨rq5, aq6, rfl, tq7, hq8, rfl⟩
  show G Γ Mq 12 [(0, .ref (ad 23)), (1, .int x1), (2, .int x2), (3, .int x3)] [.int rq5, .int rq1]
  refine g_isub X dX0_isNearer_12 (fun zq9 eq10 => ?_)
  have tq11 : zq9.toInt = aq2 - aq6 := sub_nw eq10 tq3 tq7 (by omega)
  refine g_istore X [(4, .int zq9), (0, .ref (ad 23)), (1, .int x1), (2, .int x2), (3, .int x3)] dX0_isNearer_13 (by decide) rfl ?_
  refine g_iload X 0 rfl dX0_isNearer_15 ?_
  refine g_if_eq X tq11 (tgt := 33) dX0_isNearer_17 (by decide) (fun cq12 => ?_) (fun cq12 => ?_)
  · refine g_aload_n X 1 rfl dX0_isNearer_33 ?_
    refine g_getr X f_X0_9 dX0_isNearer_34 ?_
    refine g_iload_n X 2 rfl dX0_isNearer_37 ?_
    refine g_iald X la_24 t1 dX0_isNearer_38 (by omega) (x := Mq.1 24 a1.toNat) rfl ?_
    refine g_aload_n X 1 rfl dX0_isNearer_39 ?_
    refine g_getr X f_X0_9 dX0_isNearer_40 ?_
    refine g_iload_n X 3 rfl dX0_isNearer_43 ?_
    refine g_iald X la_24 t2 dX0_isNearer_44 (by omega) (x := Mq.1 24 a2.toNat) rfl ?_
    refine g_icmp_le X rfl rfl (tgt := 52) dX0_isNearer_45 (by decide) (fun cq13 => ?_) (fun cq13 => ?_)
    · refine g_iconst X 0 dX0_isNearer_52 (by decide) ?_
      exact g_zret X (b01 (show (0 : Int32).toInt = 0 by decide) (by omega)) dX0_isNearer_53 ⟨_, _, rfl, (show (0 : Int32).toInt = 0 by decide), (by omega), rfl⟩
    · refine g_iconst X 1 dX0_isNearer_48 (by decide) ?_
      refine g_goto X (tgt := 53) dX0_isNearer_49 (by decide) ?_
      exact g_zret X (b01 (show (1 : Int32).toInt = 1 by decide) (by omega)) dX0_isNearer_53 ⟨_, _, rfl, (show (1 : Int32).toInt = 1 by decide), (by omega), rfl⟩
  · refine g_iload X 0 rfl dX0_isNearer_20 ?_
    refine g_if_ge X tq11 (tgt := 29) dX0_isNearer_22 (by decide) (fun cq14 => ?_) (fun cq14 => ?_)
    · refine g_iconst X 0 dX0_isNearer_29 (by decide) ?_
      refine g_goto X (tgt := 53) dX0_isNearer_30 (by decide) ?_
      exact g_zret X (b01 (show (0 : Int32).toInt = 0 by decide) (by omega)) dX0_isNearer_53 ⟨_, _, rfl, (show (0 : Int32).toInt = 0 by decide), (by omega), rfl⟩
    · refine g_iconst X 1 dX0_isNearer_25 (by decide) ?_
      refine g_goto X (tgt := 53) dX0_isNearer_26 (by decide) ?_
      exact g_zret X (b01 (show (1 : Int32).toInt = 1 by decide) (by omega)) dX0_isNearer_53 ⟨_, _, rfl, (show (1 : Int32).toInt = 1 by decide), (by omega), rfl⟩
set_option maxHeartbeats 4000000 in
set_option maxRecDepth 4000 in
theorem c_X0_masterOf_E (ad : Nat → Nat) (Mq : Mem) (x1 : Int32) {a1 : Int} (t1 : x1.toInt = a1) (Iq0 : Iv TX Mq) (h1 : 0 ≤ a1 ∧ a1 < (Mq.1 23 2).toInt) : Ctr ad yX0_masterOf cX0_masterOf 4 (some .int) 3 [.ref (ad 23), .int x1] Mq (fun v M' => ∃ (r : Int32) (a : Int), v = some (.int r) ∧ r.toInt = a ∧ (((a = -5 ∧ mstX Mq a1.toNat ((Mq.1 23 2).toInt).toNat < 0) ∨ (0 ≤ a ∧ a = mstX Mq a1.toNat ((Mq.1 23 2).toInt).toNat)) ∧ (a = -5 ∨ (0 ≤ a ∧ a < (Mq.1 23 2).toInt))) ∧ Mq = M') := by
  refine ctr_of (L := [(0, .ref (ad 23)), (1, .int x1)]) (by decide) (Nat.le_of_ble_eq_true rfl) rfl ?_
  intro Γ X
  have X : gX Γ cX0_masterOf RX0 4 (some .int) 3 ad _ := X
  have hE := ig_23_2 Iq0
  refine g_bipush X (-5) dX0_masterOf_0 (by decide) ?_
  refine g_istore_n X (i := 2) [(2, .int (-5)), (0, .ref (ad 23)), (1, .int x1)] dX0_masterOf_2 rfl (by decide) rfl ?_
  refine g_iconst X 0 dX0_masterOf_3 (by decide) ?_
  refine g_istore_n X (i := 3) [(3, .int 0), (2, .int (-5)), (0, .ref (ad 23)), (1, .int x1)] dX0_masterOf_4 rfl (by decide) rfl ?_
  have lp5 : ∀ n : Nat, ∀ (y3_5 : Int32) (b3_5 : Int), y3_5.toInt = b3_5 → ∀ (y2_5 : Int32) (b2_5 : Int), y2_5.toInt = b2_5 → (0 ≤ b3_5 ∧ b3_5 ≤ (Mq.1 23 2).toInt) → ((b2_5 = -5 ∧ mstX Mq a1.toNat (b3_5).toNat < 0) ∨ (0 ≤ b2_5 ∧ b2_5 = mstX Mq a1.toNat (b3_5).toNat)) → ((Mq.1 23 2).toInt - b3_5).toNat < n → G Γ Mq 5 [(3, .int y3_5), (2, .int y2_5), (0, .ref (ad 23)), (1, .int x1)] [] := by
    intro n
    induction n with
    | zero => intro y3_5 b3_5 e3_5 y2_5 b2_5 e2_5 i1 i2 hm; exact absurd hm (Nat.not_lt_zero _)
    | succ n ih5 =>
      intro y3_5 b3_5 e3_5 y2_5 b2_5 e2_5 i1 i2 hm5
      have hmr := mstX_rng Mq a1.toNat (b3_5).toNat
      refine g_iload_n X 0 rfl dX0_masterOf_5 ?_
      refine g_aload_n X 2 rfl dX0_masterOf_6 ?_
      refine g_geti X f_X0_18 dX0_masterOf_7 (x := Mq.1 23 2) rfl ?_
      have bq1 := ig_23_2 Iq0
      refine g_icmp_ge X e3_5 rfl (tgt := 52) dX0_masterOf_10 (by decide) (fun cq2 => ?_) (fun cq2 => ?_)
      · refine g_iload_n X 1 rfl dX0_masterOf_52 ?_
        exact g_iret X dX0_masterOf_53 ⟨_, _, rfl, e2_5, ⟨(by have e : b3_5 = (Mq.1 23 2).toInt := (by omega); rw [e] at i2; exact i2), (by omega)⟩, rfl⟩
      · refine g_aload_n X 2 rfl dX0_masterOf_13 ?_
        refine g_getr X f_X0_9 dX0_masterOf_14 ?_
        refine g_iload_n X 0 rfl dX0_masterOf_17 ?_
        refine g_iald X la_24 e3_5 dX0_masterOf_18 (by omega) (x := Mq.1 24 b3_5.toNat) rfl ?_
        refine g_aload_n X 2 rfl dX0_masterOf_19 ?_
        refine g_getr X f_X0_9 dX0_masterOf_20 ?_
        refine g_iload_n X 3 rfl dX0_masterOf_23 ?_
        refine g_iald X la_24 t1 dX0_masterOf_24 (by omega) (x := Mq.1 24 a1.toNat) rfl ?_
        refine g_icmp_ge X rfl rfl (tgt := 46) dX0_masterOf_25 (by decide) (fun cq3 => ?_) (fun cq3 => ?_)
        · refine g_iinc X 0 (fun v => [(3, .int v), (2, .int y2_5), (0, .ref (ad 23)), (1, .int x1)]) dX0_masterOf_46 rfl (by decide) (fun _ => rfl) (fun zq4 eq5 => ?_)
          have tq6 : zq4.toInt = b3_5 + 1 := add_nw eq5 e3_5 (show (Int32.ofInt 1).toInt = 1 by decide) (by omega)
          refine g_goto X (tgt := 5) dX0_masterOf_49 (by decide) ?_
          refine g_sub [0, 1, 2, 3] rfl ?_
          exact ih5 zq4 _ tq6 y2_5 _ e2_5 (by omega) (by first | exact mx_skip i2 (by omega) (by omega) | exact mx_take i2 (by omega) (by omega) (by omega) (by omega)) (by omega)
        · refine g_iload_n X 1 rfl dX0_masterOf_28 ?_
          refine g_bipush X (-5) dX0_masterOf_29 (by decide) ?_
          refine g_icmp_eq X e2_5 (show ((-5) : Int32).toInt = (-5) by decide) (tgt := 44) dX0_masterOf_31 (by decide) (fun cq7 => ?_) (fun cq7 => ?_)
          · refine g_iload_n X 0 rfl dX0_masterOf_44 ?_
            refine g_istore_n X (i := 2) [(2, .int y3_5), (3, .int y3_5), (0, .ref (ad 23)), (1, .int x1)] dX0_masterOf_45 rfl (by decide) rfl ?_
            refine g_iinc X 1 (fun v => [(3, .int v), (2, .int y3_5), (0, .ref (ad 23)), (1, .int x1)]) dX0_masterOf_46 rfl (by decide) (fun _ => rfl) (fun zq8 eq9 => ?_)
            have tq10 : zq8.toInt = b3_5 + 1 := add_nw eq9 e3_5 (show (Int32.ofInt 1).toInt = 1 by decide) (by omega)
            refine g_goto X (tgt := 5) dX0_masterOf_49 (by decide) ?_
            refine g_sub [0, 1, 2, 3] rfl ?_
            exact ih5 zq8 _ tq10 y3_5 _ e3_5 (by omega) (by first | exact mx_skip i2 (by omega) (by omega) | exact mx_take i2 (by omega) (by omega) (by omega) (by omega)) (by omega)
          · refine g_aload_n X 2 rfl dX0_masterOf_34 ?_
            refine g_iload_n X 0 rfl dX0_masterOf_35 ?_
            refine g_iload_n X 1 rfl dX0_masterOf_36 ?_
            refine g_iload_n X 3 rfl dX0_masterOf_37 ?_
            refine g_callV X m_X0_66 (c_X0_isNearer_E ad Mq y3_5 e3_5 y2_5 e2_5 x1 t1 (by omega) (by omega) (by omega)) rfl (by decide) (Nat.le_of_ble_eq_true rfl) rfl dX0_masterOf_38 ?_
            rintro _ _ ⟨rq11, aq12, rfl, tq13, hq14, rfl⟩
            show G Γ Mq 41 [(3, .int y3_5), (2, .int y2_5), (0, .ref (ad 23)), (1, .int x1)] [.int rq11]
            refine g_if_eq X tq13 (tgt := 46) dX0_masterOf_41 (by decide) (fun cq15 => ?_) (fun cq15 => ?_)
            · have pq16 : ¬ (cxU Mq b3_5.toNat a1.toNat < cxU Mq b2_5.toNat a1.toNat ∨ (cxU Mq b3_5.toNat a1.toNat = cxU Mq b2_5.toNat a1.toNat ∧ (Mq.1 24 b2_5.toNat).toInt < (Mq.1 24 b3_5.toNat).toInt)) := by first | omega | (rcases hq14 with ⟨z1, z2⟩ | ⟨z1, z2⟩ <;> first | exact z2 | (exfalso; omega))
              clear hq14 cq15 tq13
              refine g_iinc X 0 (fun v => [(3, .int v), (2, .int y2_5), (0, .ref (ad 23)), (1, .int x1)]) dX0_masterOf_46 rfl (by decide) (fun _ => rfl) (fun zq17 eq18 => ?_)
              have tq19 : zq17.toInt = b3_5 + 1 := add_nw eq18 e3_5 (show (Int32.ofInt 1).toInt = 1 by decide) (by omega)
              refine g_goto X (tgt := 5) dX0_masterOf_49 (by decide) ?_
              refine g_sub [0, 1, 2, 3] rfl ?_
              exact ih5 zq17 _ tq19 y2_5 _ e2_5 (by omega) (by first | exact mx_skip i2 (by omega) (by omega) | exact mx_take i2 (by omega) (by omega) (by omega) (by omega)) (by omega)
            · have pq20 : (cxU Mq b3_5.toNat a1.toNat < cxU Mq b2_5.toNat a1.toNat ∨ (cxU Mq b3_5.toNat a1.toNat = cxU Mq b2_5.toNat a1.toNat ∧ (Mq.1 24 b2_5.toNat).toInt < (Mq.1 24 b3_5.toNat).toInt)) := by first | omega | (rcases hq14 with ⟨z1, z2⟩ | ⟨z1, z2⟩ <;> first | exact z2 | (exfalso; omega))
              clear hq14 cq15 tq13
              refine g_iload_n X 0 rfl dX0_masterOf_44 ?_
              refine g_istore_n X (i := 2) [(2, .int y3_5), (3, .int y3_5), (0, .ref (ad 23)), (1, .int x1)] dX0_masterOf_45 rfl (by decide) rfl ?_
              refine g_iinc X 1 (fun v => [(3, .int v), (2, .int y3_5), (0, .ref (ad 23)), (1, .int x1)]) dX0_masterOf_46 rfl (by decide) (fun _ => rfl) (fun zq21 eq22 => ?_)
              have tq23 : zq21.toInt = b3_5 + 1 := add_nw eq22 e3_5 (show (Int32.ofInt 1).toInt = 1 by decide) (by omega)
              refine g_goto X (tgt := 5) dX0_masterOf_49 (by decide) ?_
              refine g_sub [0, 1, 2, 3] rfl ?_
              exact ih5 zq21 _ tq23 y3_5 _ e3_5 (by omega) (by first | exact mx_skip i2 (by omega) (by omega) | exact mx_take i2 (by omega) (by omega) (by omega) (by omega)) (by omega)
  refine g_sub [0, 1, 2, 3] rfl ?_
  exact lp5 _ 0 _ (show (0 : Int32).toInt = 0 by decide) (-5) _ (show ((-5) : Int32).toInt = (-5) by decide) (by omega) mx_0 (Nat.lt_succ_self _)
set_option maxHeartbeats 4000000 in
set_option maxRecDepth 4000 in
theorem c_X0_masterStock_E (ad : Nat → Nat) (Mq : Mem) (x1 : Int32) {a1 : Int} (t1 : x1.toInt = a1) (Iq0 : Iv TX Mq) (h1 : 0 ≤ a1 ∧ a1 < (Mq.1 23 2).toInt) : Ctr ad yX0_masterStock cX0_masterStock 3 (some .long) 4 [.ref (ad 23), .int x1] Mq (fun v M' => ∃ (r : Int64) (a : Int), v = some (.long r) ∧ r.toInt = a ∧ (∀ l : Nat, l < 64 → b64 r l = (decide (0 ≤ mstX Mq a1.toNat ((Mq.1 23 2).toInt).toNat) && b64 (Mq.2 31 (mstX Mq a1.toNat ((Mq.1 23 2).toInt).toNat).toNat) l)) ∧ Mq = M') := by
  refine ctr_of (L := [(0, .ref (ad 23)), (1, .int x1)]) (by decide) (Nat.le_of_ble_eq_true rfl) rfl ?_
  intro Γ X
  have X : gX Γ cX0_masterStock RX0 3 (some .long) 4 ad _ := X
  have hE := ig_23_2 Iq0
  refine g_aload_n X 0 rfl dX0_masterStock_0 ?_
  refine g_iload_n X 1 rfl dX0_masterStock_1 ?_
  refine g_callV X m_X0_74 (c_X0_masterOf_E ad Mq x1 t1 Iq0 (by omega)) rfl (by decide) (Nat.le_of_ble_eq_true rfl) rfl dX0_masterStock_2 ?_
  rintro _ _ ⟨rq1, aq2, rfl, tq3, hq4, rfl⟩
  have hmm := hq4
  show G Γ Mq 5 [(0, .ref (ad 23)), (1, .int x1)] [.int rq1]
  refine g_istore_n X (i := 2) [(2, .int rq1), (0, .ref (ad 23)), (1, .int x1)] dX0_masterStock_5 rfl (by decide) rfl ?_
  refine g_iload_n X 0 rfl dX0_masterStock_6 ?_
  refine g_bipush X (-5) dX0_masterStock_7 (by decide) ?_
  refine g_icmp_ne X tq3 (show ((-5) : Int32).toInt = (-5) by decide) (tgt := 16) dX0_masterStock_9 (by decide) (fun cq5 => ?_) (fun cq5 => ?_)
  · refine g_aload_n X 1 rfl dX0_masterStock_16 ?_
    refine g_getr X f_X0_41 dX0_masterStock_17 ?_
    refine g_iload_n X 0 rfl dX0_masterStock_20 ?_
    refine g_lald X la_31 tq3 dX0_masterStock_21 (by omega) (x := Mq.2 31 aq2.toNat) rfl ?_
    exact g_lret X dX0_masterStock_22 ⟨_, _, rfl, rfl, (by rcases hmm.1 with ⟨q1, q2⟩ | ⟨q1, q2⟩ <;> first | (exfalso; omega) | (intro l _; rw [b64_0, decide_eq_false (by omega)]; rfl) | (intro l _; rw [← q2, decide_eq_true q1]; rfl)), rfl⟩
  · refine g_lconst X 0 dX0_masterStock_12 (by decide) ?_
    refine g_goto X (tgt := 22) dX0_masterStock_13 (by decide) ?_
    exact g_lret X dX0_masterStock_22 ⟨_, _, rfl, (show (0 : Int64).toInt = 0 by decide), (by rcases hmm.1 with ⟨q1, q2⟩ | ⟨q1, q2⟩ <;> first | (exfalso; omega) | (intro l _; rw [b64_0, decide_eq_false (by omega)]; rfl) | (intro l _; rw [← q2, decide_eq_true q1]; rfl)), rfl⟩
abbrev W_X6_has_E : List (Nat × Nat) := [(30, 99)]
set_option maxHeartbeats 4000000 in
set_option maxRecDepth 4000 in
theorem c_X6_has_E (ad : Nat → Nat) (Mq : Mem) (x1 : Int32) {a1 : Int} (t1 : x1.toInt = a1) (x2 : Int32) {a2 : Int} (t2 : x2.toInt = a2) (x3 : Int32) {a3 : Int} (t3 : x3.toInt = a3) (x4 : Int32) {a4 : Int} (t4 : x4.toInt = a4) (Iq0 : Iv TX Mq) (hy : ∀ k : Nat, k < 200 → 0 ≤ (Mq.1 28 k).toInt) : Ctr ad yX6_has cX6_has 5 (some .int) 2 [.ref (ad 0), .int x1, .int x2, .int x3, .int x4] Mq (fun v M' => ∃ (r : Int32) (a : Int), v = some (.int r) ∧ r.toInt = a ∧ (((¬ ((0 ≤ a1 ∧ a1 < (Mq.1 23 2).toInt) ∧ (0 ≤ a2 ∧ a2 < (Mq.1 1 12).toInt) ∧ (-1 ≤ a4 ∧ a4 ≤ (Mq.1 23 7).toInt))) ∧ (a = -1)) ∨ (¬ (¬ ((0 ≤ a1 ∧ a1 < (Mq.1 23 2).toInt) ∧ (0 ≤ a2 ∧ a2 < (Mq.1 1 12).toInt) ∧ (-1 ≤ a4 ∧ a4 ≤ (Mq.1 23 7).toInt))) ∧ (¬ (0 ≤ a3 ∧ a3 ≤ 999)) ∧ (a = -2)) ∨ (¬ (¬ ((0 ≤ a1 ∧ a1 < (Mq.1 23 2).toInt) ∧ (0 ≤ a2 ∧ a2 < (Mq.1 1 12).toInt) ∧ (-1 ≤ a4 ∧ a4 ≤ (Mq.1 23 7).toInt))) ∧ ¬ (¬ (0 ≤ a3 ∧ a3 ≤ 999)) ∧ ((a = 1 ∧ (hsX Mq a1 a2 a3 (upk a4 (Mq.1 23 7).toInt).toNat = true)) ∨ (a = 0 ∧ ¬ (hsX Mq a1 a2 a3 (upk a4 (Mq.1 23 7).toInt).toNat = true))))) ∧ Iv TX M' ∧ Fr W_X6_has_E Mq M') := by
  refine ctr_of (L := [(0, .ref (ad 0)), (1, .int x1), (2, .int x2), (3, .int x3), (4, .int x4)]) (by decide) (Nat.le_of_ble_eq_true rfl) rfl ?_
  intro Γ X
  have X : gX Γ cX6_has RX6 5 (some .int) 2 ad _ := X
  have frq0 : Fr W_X6_has_E Mq Mq := Fr.rf
  have g1_3 := ig_1_3 Iq0
  have g1_12 := ig_1_12 Iq0
  have g23_2 := ig_23_2 Iq0
  have g23_7 := ig_23_7 Iq0
  have g40_5 := ig_40_5 Iq0
  have g0_7 := ig_0_7 Iq0
  refine g_aload_n X 0 rfl dX6_has_0 ?_
  refine g_getr X f_X6_26 dX6_has_1 ?_
  refine g_iload_n X 1 rfl dX6_has_4 ?_
  refine g_callV X m_X6_159 (c_X0_isSinger ad Mq x1 t1) rfl (by decide) (Nat.le_of_ble_eq_true rfl) rfl dX6_has_5 ?_
  rintro _ _ ⟨rq1, aq2, rfl, tq3, hq4, rfl⟩
  show G Γ Mq 8 [(0, .ref (ad 0)), (1, .int x1), (2, .int x2), (3, .int x3), (4, .int x4)] [.int rq1]
  refine g_if_eq X tq3 (tgt := 34) dX6_has_8 (by decide) (fun cq5 => ?_) (fun cq5 => ?_)
  · have pq6 : ¬ (0 ≤ a1 ∧ a1 < ((Mq.1 23 2)).toInt) := by first | omega | (rcases hq4 with ⟨z1, z2⟩ | ⟨z1, z2⟩ <;> first | exact z2 | (exfalso; omega))
    clear hq4 cq5 tq3
    refine g_iconst X (-1) dX6_has_34 (by decide) ?_
    exact g_iret X dX6_has_35 ⟨_, _, rfl, (show ((-1) : Int32).toInt = (-1) by decide), (by first | exact Or.inl ⟨by omega, rfl⟩ | exact Or.inr (Or.inl ⟨by omega, by omega, rfl⟩) | exact Or.inr (Or.inr ⟨by omega, by omega, (by rw [hst a2.toNat (by omega), tn_cast (by omega)] at hbb; exact hbb)⟩)), Iq0, frq0⟩
  · have pq7 : (0 ≤ a1 ∧ a1 < ((Mq.1 23 2)).toInt) := by first | omega | (rcases hq4 with ⟨z1, z2⟩ | ⟨z1, z2⟩ <;> first | exact z2 | (exfalso; omega))
    clear hq4 cq5 tq3
    refine g_aload_n X 0 rfl dX6_has_11 ?_
    refine g_getr X f_X6_10 dX6_has_12 ?_
    refine g_iload_n X 2 rfl dX6_has_15 ?_
    refine g_callV X m_X6_96 (c_X5_isLine ad Mq x2 t2) rfl (by decide) (Nat.le_of_ble_eq_true rfl) rfl dX6_has_16 ?_
    rintro _ _ ⟨rq8, aq9, rfl, tq10, hq11, rfl⟩
    show G Γ Mq 19 [(0, .ref (ad 0)), (1, .int x1), (2, .int x2), (3, .int x3), (4, .int x4)] [.int rq8]
    refine g_if_eq X tq10 (tgt := 34) dX6_has_19 (by decide) (fun cq12 => ?_) (fun cq12 => ?_)
    · have pq13 : ¬ (0 ≤ a2 ∧ a2 < ((Mq.1 1 12)).toInt) := by first | omega | (rcases hq11 with ⟨z1, z2⟩ | ⟨z1, z2⟩ <;> first | exact z2 | (exfalso; omega))
      clear hq11 cq12 tq10
      refine g_iconst X (-1) dX6_has_34 (by decide) ?_
      exact g_iret X dX6_has_35 ⟨_, _, rfl, (show ((-1) : Int32).toInt = (-1) by decide), (by first | exact Or.inl ⟨by omega, rfl⟩ | exact Or.inr (Or.inl ⟨by omega, by omega, rfl⟩) | exact Or.inr (Or.inr ⟨by omega, by omega, (by rw [hst a2.toNat (by omega), tn_cast (by omega)] at hbb; exact hbb)⟩)), Iq0, frq0⟩
    · have pq14 : (0 ≤ a2 ∧ a2 < ((Mq.1 1 12)).toInt) := by first | omega | (rcases hq11 with ⟨z1, z2⟩ | ⟨z1, z2⟩ <;> first | exact z2 | (exfalso; omega))
      clear hq11 cq12 tq10
      refine g_aload_n X 0 rfl dX6_has_22 ?_
      refine g_getr X f_X6_26 dX6_has_23 ?_
      refine g_iload X 4 rfl dX6_has_26 ?_
      refine g_callV X m_X6_195 (c_X0_isKnown ad Mq x4 t4) rfl (by decide) (Nat.le_of_ble_eq_true rfl) rfl dX6_has_28 ?_
      rintro _ _ ⟨rq15, aq16, rfl, tq17, hq18, rfl⟩
      show G Γ Mq 31 [(0, .ref (ad 0)), (1, .int x1), (2, .int x2), (3, .int x3), (4, .int x4)] [.int rq15]
      refine g_if_ne X tq17 (tgt := 36) dX6_has_31 (by decide) (fun cq19 => ?_) (fun cq19 => ?_)
      · have pq20 : (-1 ≤ a4 ∧ a4 ≤ ((Mq.1 23 7)).toInt) := by first | omega | (rcases hq18 with ⟨z1, z2⟩ | ⟨z1, z2⟩ <;> first | exact z2 | (exfalso; omega))
        clear hq18 cq19 tq17
        refine g_iload_n X 3 rfl dX6_has_36 ?_
        refine g_callS X m_X6_162 (c_X6_isYear ad Mq x3 t3) rfl (by decide) (Nat.le_of_ble_eq_true rfl) rfl dX6_has_37 ?_
        rintro _ _ ⟨rq21, aq22, rfl, tq23, hq24, rfl⟩
        show G Γ Mq 40 [(0, .ref (ad 0)), (1, .int x1), (2, .int x2), (3, .int x3), (4, .int x4)] [.int rq21]
        refine g_if_ne X tq23 (tgt := 46) dX6_has_40 (by decide) (fun cq25 => ?_) (fun cq25 => ?_)
        · have pq26 : (0 ≤ a3 ∧ a3 ≤ 999) := by first | omega | (rcases hq24 with ⟨z1, z2⟩ | ⟨z1, z2⟩ <;> first | exact z2 | (exfalso; omega))
          clear hq24 cq25 tq23
          refine g_aload_n X 0 rfl dX6_has_46 ?_
          refine g_getr X f_X6_26 dX6_has_47 ?_
          refine g_iload_n X 1 rfl dX6_has_50 ?_
          refine g_iload_n X 3 rfl dX6_has_51 ?_
          refine g_iload X 4 rfl dX6_has_52 ?_
          refine g_callV X m_X6_165 (c_X0_stockOf_E ad Mq x1 t1 x3 t3 x4 t4 Iq0 (by omega) hy) rfl (by decide) (Nat.le_of_ble_eq_true rfl) rfl dX6_has_54 ?_
          rintro _ Mq31 ⟨rq27, aq28, rfl, tq29, hq30, Iq32, frq33⟩
          have frq34 : Fr W_X6_has_E Mq Mq31 := frq0.trans frq33 rfl
          have trq35 : (Mq31.1 23 2).toInt = (Mq.1 23 2).toInt := congrArg Int32.toInt (frq33.at 23 2 rfl)
          have trq36 : (Mq31.1 23 7).toInt = (Mq.1 23 7).toInt := congrArg Int32.toInt (frq33.at 23 7 rfl)
          have hst := hq30
          show G Γ Mq31 57 [(0, .ref (ad 0)), (1, .int x1), (2, .int x2), (3, .int x3), (4, .int x4)] [.long rq27]
          refine g_iload_n X 2 rfl dX6_has_57 ?_
          refine g_callS X m_X6_115 (c_X6_bit_E ad Mq31 rq27 tq29 x2 t2 (by omega)) rfl (by decide) (Nat.le_of_ble_eq_true rfl) rfl dX6_has_58 ?_
          rintro _ _ ⟨rq37, aq38, rfl, tq39, hq40, rfl⟩
          have hbb := hq40
          show G Γ Mq31 61 [(0, .ref (ad 0)), (1, .int x1), (2, .int x2), (3, .int x3), (4, .int x4)] [.int rq37]
          exact g_iret X dX6_has_61 ⟨_, _, rfl, tq39, (by first | exact Or.inl ⟨by omega, rfl⟩ | exact Or.inr (Or.inl ⟨by omega, by omega, rfl⟩) | exact Or.inr (Or.inr ⟨by omega, by omega, (by rw [hst a2.toNat (by omega), tn_cast (by omega)] at hbb; exact hbb)⟩)), Iq32, frq34⟩
        · have pq41 : ¬ (0 ≤ a3 ∧ a3 ≤ 999) := by first | omega | (rcases hq24 with ⟨z1, z2⟩ | ⟨z1, z2⟩ <;> first | exact z2 | (exfalso; omega))
          clear hq24 cq25 tq23
          refine g_bipush X (-2) dX6_has_43 (by decide) ?_
          exact g_iret X dX6_has_45 ⟨_, _, rfl, (show ((-2) : Int32).toInt = (-2) by decide), (by first | exact Or.inl ⟨by omega, rfl⟩ | exact Or.inr (Or.inl ⟨by omega, by omega, rfl⟩) | exact Or.inr (Or.inr ⟨by omega, by omega, (by rw [hst a2.toNat (by omega), tn_cast (by omega)] at hbb; exact hbb)⟩)), Iq0, frq0⟩
      · have pq42 : ¬ (-1 ≤ a4 ∧ a4 ≤ ((Mq.1 23 7)).toInt) := by first | omega | (rcases hq18 with ⟨z1, z2⟩ | ⟨z1, z2⟩ <;> first | exact z2 | (exfalso; omega))
        clear hq18 cq19 tq17
        refine g_iconst X (-1) dX6_has_34 (by decide) ?_
        exact g_iret X dX6_has_35 ⟨_, _, rfl, (show ((-1) : Int32).toInt = (-1) by decide), (by first | exact Or.inl ⟨by omega, rfl⟩ | exact Or.inr (Or.inl ⟨by omega, by omega, rfl⟩) | exact Or.inr (Or.inr ⟨by omega, by omega, (by rw [hst a2.toNat (by omega), tn_cast (by omega)] at hbb; exact hbb)⟩)), Iq0, frq0⟩
abbrev W_X6_stock_E : List (Nat × Nat) := [(30, 99)]
set_option maxHeartbeats 4000000 in
set_option maxRecDepth 4000 in
theorem c_X6_stock_E (ad : Nat → Nat) (Mq : Mem) (x1 : Int32) {a1 : Int} (t1 : x1.toInt = a1) (x2 : Int32) {a2 : Int} (t2 : x2.toInt = a2) (x3 : Int32) {a3 : Int} (t3 : x3.toInt = a3) (Iq0 : Iv TX Mq) (hy : ∀ k : Nat, k < 200 → 0 ≤ (Mq.1 28 k).toInt) : Ctr ad yX6_stock cX6_stock 4 (some .int) 2 [.ref (ad 0), .int x1, .int x2, .int x3] Mq (fun v M' => ∃ (r : Int32) (a : Int), v = some (.int r) ∧ r.toInt = a ∧ (((¬ ((0 ≤ a1 ∧ a1 < (Mq.1 23 2).toInt) ∧ (-1 ≤ a3 ∧ a3 ≤ (Mq.1 23 7).toInt))) ∧ (a = -1)) ∨ (¬ (¬ ((0 ≤ a1 ∧ a1 < (Mq.1 23 2).toInt) ∧ (-1 ≤ a3 ∧ a3 ≤ (Mq.1 23 7).toInt))) ∧ (¬ (0 ≤ a2 ∧ a2 ≤ 999)) ∧ (a = -2)) ∨ (¬ (¬ ((0 ≤ a1 ∧ a1 < (Mq.1 23 2).toInt) ∧ (-1 ≤ a3 ∧ a3 ≤ (Mq.1 23 7).toInt))) ∧ ¬ (¬ (0 ≤ a2 ∧ a2 ≤ 999)) ∧ (a = (ctb (fun l => hsX Mq a1 l a2 (upk a3 (Mq.1 23 7).toInt).toNat) 64 : Nat)))) ∧ Iv TX M' ∧ Fr W_X6_stock_E Mq M') := by
  refine ctr_of (L := [(0, .ref (ad 0)), (1, .int x1), (2, .int x2), (3, .int x3)]) (by decide) (Nat.le_of_ble_eq_true rfl) rfl ?_
  intro Γ X
  have X : gX Γ cX6_stock RX6 4 (some .int) 2 ad _ := X
  have frq0 : Fr W_X6_stock_E Mq Mq := Fr.rf
  have g1_3 := ig_1_3 Iq0
  have g1_12 := ig_1_12 Iq0
  have g23_2 := ig_23_2 Iq0
  have g23_7 := ig_23_7 Iq0
  have g40_5 := ig_40_5 Iq0
  have g0_7 := ig_0_7 Iq0
  refine g_aload_n X 0 rfl dX6_stock_0 ?_
  refine g_getr X f_X6_26 dX6_stock_1 ?_
  refine g_iload_n X 1 rfl dX6_stock_4 ?_
  refine g_callV X m_X6_159 (c_X0_isSinger ad Mq x1 t1) rfl (by decide) (Nat.le_of_ble_eq_true rfl) rfl dX6_stock_5 ?_
  rintro _ _ ⟨rq1, aq2, rfl, tq3, hq4, rfl⟩
  show G Γ Mq 8 [(0, .ref (ad 0)), (1, .int x1), (2, .int x2), (3, .int x3)] [.int rq1]
  refine g_if_eq X tq3 (tgt := 22) dX6_stock_8 (by decide) (fun cq5 => ?_) (fun cq5 => ?_)
  · have pq6 : ¬ (0 ≤ a1 ∧ a1 < ((Mq.1 23 2)).toInt) := by first | omega | (rcases hq4 with ⟨z1, z2⟩ | ⟨z1, z2⟩ <;> first | exact z2 | (exfalso; omega))
    clear hq4 cq5 tq3
    refine g_iconst X (-1) dX6_stock_22 (by decide) ?_
    exact g_iret X dX6_stock_23 ⟨_, _, rfl, (show ((-1) : Int32).toInt = (-1) by decide), (by first | exact Or.inl ⟨by omega, rfl⟩ | exact Or.inr (Or.inl ⟨by omega, by omega, rfl⟩) | exact Or.inr (Or.inr ⟨by omega, by omega, (by rw [hbb]; exact congrArg (fun n : Nat => (n : Int)) (ctb_cong hst))⟩)), Iq0, frq0⟩
  · have pq7 : (0 ≤ a1 ∧ a1 < ((Mq.1 23 2)).toInt) := by first | omega | (rcases hq4 with ⟨z1, z2⟩ | ⟨z1, z2⟩ <;> first | exact z2 | (exfalso; omega))
    clear hq4 cq5 tq3
    refine g_aload_n X 0 rfl dX6_stock_11 ?_
    refine g_getr X f_X6_26 dX6_stock_12 ?_
    refine g_iload_n X 3 rfl dX6_stock_15 ?_
    refine g_callV X m_X6_195 (c_X0_isKnown ad Mq x3 t3) rfl (by decide) (Nat.le_of_ble_eq_true rfl) rfl dX6_stock_16 ?_
    rintro _ _ ⟨rq8, aq9, rfl, tq10, hq11, rfl⟩
    show G Γ Mq 19 [(0, .ref (ad 0)), (1, .int x1), (2, .int x2), (3, .int x3)] [.int rq8]
    refine g_if_ne X tq10 (tgt := 24) dX6_stock_19 (by decide) (fun cq12 => ?_) (fun cq12 => ?_)
    · have pq13 : (-1 ≤ a3 ∧ a3 ≤ ((Mq.1 23 7)).toInt) := by first | omega | (rcases hq11 with ⟨z1, z2⟩ | ⟨z1, z2⟩ <;> first | exact z2 | (exfalso; omega))
      clear hq11 cq12 tq10
      refine g_iload_n X 2 rfl dX6_stock_24 ?_
      refine g_callS X m_X6_162 (c_X6_isYear ad Mq x2 t2) rfl (by decide) (Nat.le_of_ble_eq_true rfl) rfl dX6_stock_25 ?_
      rintro _ _ ⟨rq14, aq15, rfl, tq16, hq17, rfl⟩
      show G Γ Mq 28 [(0, .ref (ad 0)), (1, .int x1), (2, .int x2), (3, .int x3)] [.int rq14]
      refine g_if_ne X tq16 (tgt := 34) dX6_stock_28 (by decide) (fun cq18 => ?_) (fun cq18 => ?_)
      · have pq19 : (0 ≤ a2 ∧ a2 ≤ 999) := by first | omega | (rcases hq17 with ⟨z1, z2⟩ | ⟨z1, z2⟩ <;> first | exact z2 | (exfalso; omega))
        clear hq17 cq18 tq16
        refine g_aload_n X 0 rfl dX6_stock_34 ?_
        refine g_getr X f_X6_26 dX6_stock_35 ?_
        refine g_iload_n X 1 rfl dX6_stock_38 ?_
        refine g_iload_n X 2 rfl dX6_stock_39 ?_
        refine g_iload_n X 3 rfl dX6_stock_40 ?_
        refine g_callV X m_X6_165 (c_X0_stockOf_E ad Mq x1 t1 x2 t2 x3 t3 Iq0 (by omega) hy) rfl (by decide) (Nat.le_of_ble_eq_true rfl) rfl dX6_stock_41 ?_
        rintro _ Mq24 ⟨rq20, aq21, rfl, tq22, hq23, Iq25, frq26⟩
        have frq27 : Fr W_X6_stock_E Mq Mq24 := frq0.trans frq26 rfl
        have trq28 : (Mq24.1 23 2).toInt = (Mq.1 23 2).toInt := congrArg Int32.toInt (frq26.at 23 2 rfl)
        have trq29 : (Mq24.1 23 7).toInt = (Mq.1 23 7).toInt := congrArg Int32.toInt (frq26.at 23 7 rfl)
        have hst := hq23
        show G Γ Mq24 44 [(0, .ref (ad 0)), (1, .int x1), (2, .int x2), (3, .int x3)] [.long rq20]
        refine g_callS X m_X6_198 (c_J13_bitCount_95d88_E ad Mq24 rq20 tq22) rfl (by decide) (Nat.le_of_ble_eq_true rfl) rfl dX6_stock_44 ?_
        rintro _ _ ⟨rq30, aq31, rfl, tq32, hq33, rfl⟩
        have hbb := hq33
        show G Γ Mq24 47 [(0, .ref (ad 0)), (1, .int x1), (2, .int x2), (3, .int x3)] [.int rq30]
        exact g_iret X dX6_stock_47 ⟨_, _, rfl, tq32, (by first | exact Or.inl ⟨by omega, rfl⟩ | exact Or.inr (Or.inl ⟨by omega, by omega, rfl⟩) | exact Or.inr (Or.inr ⟨by omega, by omega, (by rw [hbb]; exact congrArg (fun n : Nat => (n : Int)) (ctb_cong hst))⟩)), Iq25, frq27⟩
      · have pq34 : ¬ (0 ≤ a2 ∧ a2 ≤ 999) := by first | omega | (rcases hq17 with ⟨z1, z2⟩ | ⟨z1, z2⟩ <;> first | exact z2 | (exfalso; omega))
        clear hq17 cq18 tq16
        refine g_bipush X (-2) dX6_stock_31 (by decide) ?_
        exact g_iret X dX6_stock_33 ⟨_, _, rfl, (show ((-2) : Int32).toInt = (-2) by decide), (by first | exact Or.inl ⟨by omega, rfl⟩ | exact Or.inr (Or.inl ⟨by omega, by omega, rfl⟩) | exact Or.inr (Or.inr ⟨by omega, by omega, (by rw [hbb]; exact congrArg (fun n : Nat => (n : Int)) (ctb_cong hst))⟩)), Iq0, frq0⟩
    · have pq35 : ¬ (-1 ≤ a3 ∧ a3 ≤ ((Mq.1 23 7)).toInt) := by first | omega | (rcases hq11 with ⟨z1, z2⟩ | ⟨z1, z2⟩ <;> first | exact z2 | (exfalso; omega))
      clear hq11 cq12 tq10
      refine g_iconst X (-1) dX6_stock_22 (by decide) ?_
      exact g_iret X dX6_stock_23 ⟨_, _, rfl, (show ((-1) : Int32).toInt = (-1) by decide), (by first | exact Or.inl ⟨by omega, rfl⟩ | exact Or.inr (Or.inl ⟨by omega, by omega, rfl⟩) | exact Or.inr (Or.inr ⟨by omega, by omega, (by rw [hbb]; exact congrArg (fun n : Nat => (n : Int)) (ctb_cong hst))⟩)), Iq0, frq0⟩
abbrev W_X6_unlike_E : List (Nat × Nat) := [(30, 99), (31, 99)]
set_option maxHeartbeats 4000000 in
set_option maxRecDepth 4000 in
theorem c_X6_unlike_E (ad : Nat → Nat) (Mq : Mem) (x1 : Int32) {a1 : Int} (t1 : x1.toInt = a1) (x2 : Int32) {a2 : Int} (t2 : x2.toInt = a2) (x3 : Int32) {a3 : Int} (t3 : x3.toInt = a3) (x4 : Int32) {a4 : Int} (t4 : x4.toInt = a4) (Iq0 : Iv TX Mq) (hy : ∀ k : Nat, k < 200 → 0 ≤ (Mq.1 28 k).toInt) : Ctr ad yX6_unlike cX6_unlike 5 (some .int) 3 [.ref (ad 0), .int x1, .int x2, .int x3, .int x4] Mq (fun v M' => ∃ (r : Int32) (a : Int), v = some (.int r) ∧ r.toInt = a ∧ (((¬ ((0 ≤ a1 ∧ a1 < (Mq.1 23 2).toInt) ∧ (0 ≤ a2 ∧ a2 < (Mq.1 23 2).toInt) ∧ (-1 ≤ a4 ∧ a4 ≤ (Mq.1 23 7).toInt))) ∧ (a = -1)) ∨ (¬ (¬ ((0 ≤ a1 ∧ a1 < (Mq.1 23 2).toInt) ∧ (0 ≤ a2 ∧ a2 < (Mq.1 23 2).toInt) ∧ (-1 ≤ a4 ∧ a4 ≤ (Mq.1 23 7).toInt))) ∧ (¬ (0 ≤ a3 ∧ a3 ≤ 999)) ∧ (a = -2)) ∨ (¬ (¬ ((0 ≤ a1 ∧ a1 < (Mq.1 23 2).toInt) ∧ (0 ≤ a2 ∧ a2 < (Mq.1 23 2).toInt) ∧ (-1 ≤ a4 ∧ a4 ≤ (Mq.1 23 7).toInt))) ∧ ¬ (¬ (0 ≤ a3 ∧ a3 ≤ 999)) ∧ (a = (unl (fun s l => hsX Mq s l a3 (upk a4 (Mq.1 23 7).toInt).toNat) a1 a2 64 : Nat)))) ∧ Iv TX M' ∧ Fr W_X6_unlike_E Mq M') := by
  refine ctr_of (L := [(0, .ref (ad 0)), (1, .int x1), (2, .int x2), (3, .int x3), (4, .int x4)]) (by decide) (Nat.le_of_ble_eq_true rfl) rfl ?_
  intro Γ X
  have X : gX Γ cX6_unlike RX6 5 (some .int) 3 ad _ := X
  have frq0 : Fr W_X6_unlike_E Mq Mq := Fr.rf
  have g1_3 := ig_1_3 Iq0
  have g1_12 := ig_1_12 Iq0
  have g23_2 := ig_23_2 Iq0
  have g23_7 := ig_23_7 Iq0
  have g40_5 := ig_40_5 Iq0
  have g0_7 := ig_0_7 Iq0
  refine g_aload_n X 0 rfl dX6_unlike_0 ?_
  refine g_getr X f_X6_26 dX6_unlike_1 ?_
  refine g_iload_n X 1 rfl dX6_unlike_4 ?_
  refine g_callV X m_X6_159 (c_X0_isSinger ad Mq x1 t1) rfl (by decide) (Nat.le_of_ble_eq_true rfl) rfl dX6_unlike_5 ?_
  rintro _ _ ⟨rq1, aq2, rfl, tq3, hq4, rfl⟩
  show G Γ Mq 8 [(0, .ref (ad 0)), (1, .int x1), (2, .int x2), (3, .int x3), (4, .int x4)] [.int rq1]
  refine g_if_eq X tq3 (tgt := 34) dX6_unlike_8 (by decide) (fun cq5 => ?_) (fun cq5 => ?_)
  · have pq6 : ¬ (0 ≤ a1 ∧ a1 < ((Mq.1 23 2)).toInt) := by first | omega | (rcases hq4 with ⟨z1, z2⟩ | ⟨z1, z2⟩ <;> first | exact z2 | (exfalso; omega))
    clear hq4 cq5 tq3
    refine g_iconst X (-1) dX6_unlike_34 (by decide) ?_
    exact g_iret X dX6_unlike_35 ⟨_, _, rfl, (show ((-1) : Int32).toInt = (-1) by decide), (by first | exact Or.inl ⟨by omega, rfl⟩ | exact Or.inr (Or.inl ⟨by omega, by omega, rfl⟩) | exact Or.inr (Or.inr ⟨by omega, by omega, (by rw [hbb]; exact cxU_unl hop (by omega) (by omega))⟩)), Iq0, frq0⟩
  · have pq7 : (0 ≤ a1 ∧ a1 < ((Mq.1 23 2)).toInt) := by first | omega | (rcases hq4 with ⟨z1, z2⟩ | ⟨z1, z2⟩ <;> first | exact z2 | (exfalso; omega))
    clear hq4 cq5 tq3
    refine g_aload_n X 0 rfl dX6_unlike_11 ?_
    refine g_getr X f_X6_26 dX6_unlike_12 ?_
    refine g_iload_n X 2 rfl dX6_unlike_15 ?_
    refine g_callV X m_X6_159 (c_X0_isSinger ad Mq x2 t2) rfl (by decide) (Nat.le_of_ble_eq_true rfl) rfl dX6_unlike_16 ?_
    rintro _ _ ⟨rq8, aq9, rfl, tq10, hq11, rfl⟩
    show G Γ Mq 19 [(0, .ref (ad 0)), (1, .int x1), (2, .int x2), (3, .int x3), (4, .int x4)] [.int rq8]
    refine g_if_eq X tq10 (tgt := 34) dX6_unlike_19 (by decide) (fun cq12 => ?_) (fun cq12 => ?_)
    · have pq13 : ¬ (0 ≤ a2 ∧ a2 < ((Mq.1 23 2)).toInt) := by first | omega | (rcases hq11 with ⟨z1, z2⟩ | ⟨z1, z2⟩ <;> first | exact z2 | (exfalso; omega))
      clear hq11 cq12 tq10
      refine g_iconst X (-1) dX6_unlike_34 (by decide) ?_
      exact g_iret X dX6_unlike_35 ⟨_, _, rfl, (show ((-1) : Int32).toInt = (-1) by decide), (by first | exact Or.inl ⟨by omega, rfl⟩ | exact Or.inr (Or.inl ⟨by omega, by omega, rfl⟩) | exact Or.inr (Or.inr ⟨by omega, by omega, (by rw [hbb]; exact cxU_unl hop (by omega) (by omega))⟩)), Iq0, frq0⟩
    · have pq14 : (0 ≤ a2 ∧ a2 < ((Mq.1 23 2)).toInt) := by first | omega | (rcases hq11 with ⟨z1, z2⟩ | ⟨z1, z2⟩ <;> first | exact z2 | (exfalso; omega))
      clear hq11 cq12 tq10
      refine g_aload_n X 0 rfl dX6_unlike_22 ?_
      refine g_getr X f_X6_26 dX6_unlike_23 ?_
      refine g_iload X 4 rfl dX6_unlike_26 ?_
      refine g_callV X m_X6_195 (c_X0_isKnown ad Mq x4 t4) rfl (by decide) (Nat.le_of_ble_eq_true rfl) rfl dX6_unlike_28 ?_
      rintro _ _ ⟨rq15, aq16, rfl, tq17, hq18, rfl⟩
      show G Γ Mq 31 [(0, .ref (ad 0)), (1, .int x1), (2, .int x2), (3, .int x3), (4, .int x4)] [.int rq15]
      refine g_if_ne X tq17 (tgt := 36) dX6_unlike_31 (by decide) (fun cq19 => ?_) (fun cq19 => ?_)
      · have pq20 : (-1 ≤ a4 ∧ a4 ≤ ((Mq.1 23 7)).toInt) := by first | omega | (rcases hq18 with ⟨z1, z2⟩ | ⟨z1, z2⟩ <;> first | exact z2 | (exfalso; omega))
        clear hq18 cq19 tq17
        refine g_iload_n X 3 rfl dX6_unlike_36 ?_
        refine g_callS X m_X6_162 (c_X6_isYear ad Mq x3 t3) rfl (by decide) (Nat.le_of_ble_eq_true rfl) rfl dX6_unlike_37 ?_
        rintro _ _ ⟨rq21, aq22, rfl, tq23, hq24, rfl⟩
        show G Γ Mq 40 [(0, .ref (ad 0)), (1, .int x1), (2, .int x2), (3, .int x3), (4, .int x4)] [.int rq21]
        refine g_if_ne X tq23 (tgt := 46) dX6_unlike_40 (by decide) (fun cq25 => ?_) (fun cq25 => ?_)
        · have pq26 : (0 ≤ a3 ∧ a3 ≤ 999) := by first | omega | (rcases hq24 with ⟨z1, z2⟩ | ⟨z1, z2⟩ <;> first | exact z2 | (exfalso; omega))
          clear hq24 cq25 tq23
          refine g_aload_n X 0 rfl dX6_unlike_46 ?_
          refine g_getr X f_X6_26 dX6_unlike_47 ?_
          refine g_iload_n X 3 rfl dX6_unlike_50 ?_
          refine g_iload X 4 rfl dX6_unlike_51 ?_
          refine g_callV X m_X6_204 (c_X0_openAt_E ad Mq x3 t3 x4 t4 Iq0 (by omega) hy) rfl (by decide) (Nat.le_of_ble_eq_true rfl) rfl dX6_unlike_53 ?_
          rintro _ Mq32 ⟨rfl, hq30, hq31, Iq33, frq34⟩
          have frq35 : Fr W_X6_unlike_E Mq Mq32 := frq0.trans frq34 rfl
          have trq36 : (Mq32.1 23 2).toInt = (Mq.1 23 2).toInt := congrArg Int32.toInt (frq34.at 23 2 rfl)
          have trq37 : (Mq32.1 23 7).toInt = (Mq.1 23 7).toInt := congrArg Int32.toInt (frq34.at 23 7 rfl)
          have hop := hq31
          show G Γ Mq32 56 [(0, .ref (ad 0)), (1, .int x1), (2, .int x2), (3, .int x3), (4, .int x4)] []
          refine g_aload_n X 0 rfl dX6_unlike_56 ?_
          refine g_getr X f_X6_26 dX6_unlike_57 ?_
          refine g_iload_n X 1 rfl dX6_unlike_60 ?_
          refine g_iload_n X 2 rfl dX6_unlike_61 ?_
          refine g_callV X m_X6_208 (c_X0_changes_E ad Mq32 x1 t1 x2 t2 (by omega) (by omega)) rfl (by decide) (Nat.le_of_ble_eq_true rfl) rfl dX6_unlike_62 ?_
          rintro _ _ ⟨rq38, aq39, rfl, tq40, hq41, rfl⟩
          have hbb := hq41
          show G Γ Mq32 65 [(0, .ref (ad 0)), (1, .int x1), (2, .int x2), (3, .int x3), (4, .int x4)] [.int rq38]
          exact g_iret X dX6_unlike_65 ⟨_, _, rfl, tq40, (by first | exact Or.inl ⟨by omega, rfl⟩ | exact Or.inr (Or.inl ⟨by omega, by omega, rfl⟩) | exact Or.inr (Or.inr ⟨by omega, by omega, (by rw [hbb]; exact cxU_unl hop (by omega) (by omega))⟩)), Iq33, frq35⟩
        · have pq42 : ¬ (0 ≤ a3 ∧ a3 ≤ 999) := by first | omega | (rcases hq24 with ⟨z1, z2⟩ | ⟨z1, z2⟩ <;> first | exact z2 | (exfalso; omega))
          clear hq24 cq25 tq23
          refine g_bipush X (-2) dX6_unlike_43 (by decide) ?_
          exact g_iret X dX6_unlike_45 ⟨_, _, rfl, (show ((-2) : Int32).toInt = (-2) by decide), (by first | exact Or.inl ⟨by omega, rfl⟩ | exact Or.inr (Or.inl ⟨by omega, by omega, rfl⟩) | exact Or.inr (Or.inr ⟨by omega, by omega, (by rw [hbb]; exact cxU_unl hop (by omega) (by omega))⟩)), Iq0, frq0⟩
      · have pq43 : ¬ (-1 ≤ a4 ∧ a4 ≤ ((Mq.1 23 7)).toInt) := by first | omega | (rcases hq18 with ⟨z1, z2⟩ | ⟨z1, z2⟩ <;> first | exact z2 | (exfalso; omega))
        clear hq18 cq19 tq17
        refine g_iconst X (-1) dX6_unlike_34 (by decide) ?_
        exact g_iret X dX6_unlike_35 ⟨_, _, rfl, (show ((-1) : Int32).toInt = (-1) by decide), (by first | exact Or.inl ⟨by omega, rfl⟩ | exact Or.inr (Or.inl ⟨by omega, by omega, rfl⟩) | exact Or.inr (Or.inr ⟨by omega, by omega, (by rw [hbb]; exact cxU_unl hop (by omega) (by omega))⟩)), Iq0, frq0⟩
abbrev W_X6_master_E : List (Nat × Nat) := [(30, 99), (31, 99)]
set_option maxHeartbeats 4000000 in
set_option maxRecDepth 4000 in
theorem c_X6_master_E (ad : Nat → Nat) (Mq : Mem) (x1 : Int32) {a1 : Int} (t1 : x1.toInt = a1) (x2 : Int32) {a2 : Int} (t2 : x2.toInt = a2) (x3 : Int32) {a3 : Int} (t3 : x3.toInt = a3) (Iq0 : Iv TX Mq) (hy : ∀ k : Nat, k < 200 → 0 ≤ (Mq.1 28 k).toInt) : Ctr ad yX6_master cX6_master 4 (some .int) 4 [.ref (ad 0), .int x1, .int x2, .int x3] Mq (fun v M' => ∃ (r : Int32) (a : Int), v = some (.int r) ∧ r.toInt = a ∧ (((¬ ((0 ≤ a1 ∧ a1 < (Mq.1 23 2).toInt) ∧ (-1 ≤ a3 ∧ a3 ≤ (Mq.1 23 7).toInt))) ∧ (a = -1)) ∨ (¬ (¬ ((0 ≤ a1 ∧ a1 < (Mq.1 23 2).toInt) ∧ (-1 ≤ a3 ∧ a3 ≤ (Mq.1 23 7).toInt))) ∧ (¬ (0 ≤ a2 ∧ a2 ≤ 999)) ∧ (a = -2)) ∨ (¬ (¬ ((0 ≤ a1 ∧ a1 < (Mq.1 23 2).toInt) ∧ (-1 ≤ a3 ∧ a3 ≤ (Mq.1 23 7).toInt))) ∧ ¬ (¬ (0 ≤ a2 ∧ a2 ≤ 999)) ∧ ((a = -5 ∧ mst (eW Mq 24) (fun k => ((unl (fun s l => hsX Mq s l a2 (upk a3 (Mq.1 23 7).toInt).toNat) k a1 64 : Nat) : Int)) (eW Mq 24 a1.toNat) ((Mq.1 23 2).toInt).toNat < 0) ∨ (0 ≤ a ∧ a = mst (eW Mq 24) (fun k => ((unl (fun s l => hsX Mq s l a2 (upk a3 (Mq.1 23 7).toInt).toNat) k a1 64 : Nat) : Int)) (eW Mq 24 a1.toNat) ((Mq.1 23 2).toInt).toNat)))) ∧ Iv TX M' ∧ Fr W_X6_master_E Mq M') := by
  refine ctr_of (L := [(0, .ref (ad 0)), (1, .int x1), (2, .int x2), (3, .int x3)]) (by decide) (Nat.le_of_ble_eq_true rfl) rfl ?_
  intro Γ X
  have X : gX Γ cX6_master RX6 4 (some .int) 4 ad _ := X
  have frq0 : Fr W_X6_master_E Mq Mq := Fr.rf
  have g1_3 := ig_1_3 Iq0
  have g1_12 := ig_1_12 Iq0
  have g23_2 := ig_23_2 Iq0
  have g23_7 := ig_23_7 Iq0
  have g40_5 := ig_40_5 Iq0
  have g0_7 := ig_0_7 Iq0
  refine g_aload_n X 0 rfl dX6_master_0 ?_
  refine g_getr X f_X6_26 dX6_master_1 ?_
  refine g_iload_n X 1 rfl dX6_master_4 ?_
  refine g_callV X m_X6_159 (c_X0_isSinger ad Mq x1 t1) rfl (by decide) (Nat.le_of_ble_eq_true rfl) rfl dX6_master_5 ?_
  rintro _ _ ⟨rq1, aq2, rfl, tq3, hq4, rfl⟩
  show G Γ Mq 8 [(0, .ref (ad 0)), (1, .int x1), (2, .int x2), (3, .int x3)] [.int rq1]
  refine g_if_eq X tq3 (tgt := 22) dX6_master_8 (by decide) (fun cq5 => ?_) (fun cq5 => ?_)
  · have pq6 : ¬ (0 ≤ a1 ∧ a1 < ((Mq.1 23 2)).toInt) := by first | omega | (rcases hq4 with ⟨z1, z2⟩ | ⟨z1, z2⟩ <;> first | exact z2 | (exfalso; omega))
    clear hq4 cq5 tq3
    refine g_iconst X (-1) dX6_master_22 (by decide) ?_
    exact g_iret X dX6_master_23 ⟨_, _, rfl, (show ((-1) : Int32).toInt = (-1) by decide), (by first | exact Or.inl ⟨by omega, rfl⟩ | exact Or.inr (Or.inl ⟨by omega, by omega, rfl⟩) | exact Or.inr (Or.inr ⟨by omega, by omega, (by rw [mstX_open (H := fun s l => hsX Mq s l a2 (upk a3 (Mq.1 23 7).toInt).toNat) hop h24 h232 (by omega)] at hbb; exact hbb)⟩)), Iq0, frq0⟩
  · have pq7 : (0 ≤ a1 ∧ a1 < ((Mq.1 23 2)).toInt) := by first | omega | (rcases hq4 with ⟨z1, z2⟩ | ⟨z1, z2⟩ <;> first | exact z2 | (exfalso; omega))
    clear hq4 cq5 tq3
    refine g_aload_n X 0 rfl dX6_master_11 ?_
    refine g_getr X f_X6_26 dX6_master_12 ?_
    refine g_iload_n X 3 rfl dX6_master_15 ?_
    refine g_callV X m_X6_195 (c_X0_isKnown ad Mq x3 t3) rfl (by decide) (Nat.le_of_ble_eq_true rfl) rfl dX6_master_16 ?_
    rintro _ _ ⟨rq8, aq9, rfl, tq10, hq11, rfl⟩
    show G Γ Mq 19 [(0, .ref (ad 0)), (1, .int x1), (2, .int x2), (3, .int x3)] [.int rq8]
    refine g_if_ne X tq10 (tgt := 24) dX6_master_19 (by decide) (fun cq12 => ?_) (fun cq12 => ?_)
    · have pq13 : (-1 ≤ a3 ∧ a3 ≤ ((Mq.1 23 7)).toInt) := by first | omega | (rcases hq11 with ⟨z1, z2⟩ | ⟨z1, z2⟩ <;> first | exact z2 | (exfalso; omega))
      clear hq11 cq12 tq10
      refine g_iload_n X 2 rfl dX6_master_24 ?_
      refine g_callS X m_X6_162 (c_X6_isYear ad Mq x2 t2) rfl (by decide) (Nat.le_of_ble_eq_true rfl) rfl dX6_master_25 ?_
      rintro _ _ ⟨rq14, aq15, rfl, tq16, hq17, rfl⟩
      show G Γ Mq 28 [(0, .ref (ad 0)), (1, .int x1), (2, .int x2), (3, .int x3)] [.int rq14]
      refine g_if_ne X tq16 (tgt := 34) dX6_master_28 (by decide) (fun cq18 => ?_) (fun cq18 => ?_)
      · have pq19 : (0 ≤ a2 ∧ a2 ≤ 999) := by first | omega | (rcases hq17 with ⟨z1, z2⟩ | ⟨z1, z2⟩ <;> first | exact z2 | (exfalso; omega))
        clear hq17 cq18 tq16
        refine g_aload_n X 0 rfl dX6_master_34 ?_
        refine g_getr X f_X6_26 dX6_master_35 ?_
        refine g_iload_n X 2 rfl dX6_master_38 ?_
        refine g_iload_n X 3 rfl dX6_master_39 ?_
        refine g_callV X m_X6_204 (c_X0_openAt_E ad Mq x2 t2 x3 t3 Iq0 (by omega) hy) rfl (by decide) (Nat.le_of_ble_eq_true rfl) rfl dX6_master_40 ?_
        rintro _ Mq25 ⟨rfl, hq23, hq24, Iq26, frq27⟩
        have frq28 : Fr W_X6_master_E Mq Mq25 := frq0.trans frq27 rfl
        have trq29 : (Mq25.1 23 2).toInt = (Mq.1 23 2).toInt := congrArg Int32.toInt (frq27.at 23 2 rfl)
        have trq30 : (Mq25.1 23 7).toInt = (Mq.1 23 7).toInt := congrArg Int32.toInt (frq27.at 23 7 rfl)
        have hop := hq24
        have h24 := eW_fr frq27 (c := 24) rfl
        have h232 : (Mq25.1 23 2).toInt = (Mq.1 23 2).toInt := congrArg Int32.toInt (frq27.at 23 2 rfl)
        show G Γ Mq25 43 [(0, .ref (ad 0)), (1, .int x1), (2, .int x2), (3, .int x3)] []
        refine g_aload_n X 0 rfl dX6_master_43 ?_
        refine g_getr X f_X6_26 dX6_master_44 ?_
        refine g_iload_n X 1 rfl dX6_master_47 ?_
        refine g_callV X m_X6_211 (c_X0_masterOf_E ad Mq25 x1 t1 Iq26 (by omega)) rfl (by decide) (Nat.le_of_ble_eq_true rfl) rfl dX6_master_48 ?_
        rintro _ _ ⟨rq31, aq32, rfl, tq33, hq34, rfl⟩
        have hbb := hq34.1
        show G Γ Mq25 51 [(0, .ref (ad 0)), (1, .int x1), (2, .int x2), (3, .int x3)] [.int rq31]
        exact g_iret X dX6_master_51 ⟨_, _, rfl, tq33, (by first | exact Or.inl ⟨by omega, rfl⟩ | exact Or.inr (Or.inl ⟨by omega, by omega, rfl⟩) | exact Or.inr (Or.inr ⟨by omega, by omega, (by rw [mstX_open (H := fun s l => hsX Mq s l a2 (upk a3 (Mq.1 23 7).toInt).toNat) hop h24 h232 (by omega)] at hbb; exact hbb)⟩)), Iq26, frq28⟩
      · have pq35 : ¬ (0 ≤ a2 ∧ a2 ≤ 999) := by first | omega | (rcases hq17 with ⟨z1, z2⟩ | ⟨z1, z2⟩ <;> first | exact z2 | (exfalso; omega))
        clear hq17 cq18 tq16
        refine g_bipush X (-2) dX6_master_31 (by decide) ?_
        exact g_iret X dX6_master_33 ⟨_, _, rfl, (show ((-2) : Int32).toInt = (-2) by decide), (by first | exact Or.inl ⟨by omega, rfl⟩ | exact Or.inr (Or.inl ⟨by omega, by omega, rfl⟩) | exact Or.inr (Or.inr ⟨by omega, by omega, (by rw [mstX_open (H := fun s l => hsX Mq s l a2 (upk a3 (Mq.1 23 7).toInt).toNat) hop h24 h232 (by omega)] at hbb; exact hbb)⟩)), Iq0, frq0⟩
    · have pq36 : ¬ (-1 ≤ a3 ∧ a3 ≤ ((Mq.1 23 7)).toInt) := by first | omega | (rcases hq11 with ⟨z1, z2⟩ | ⟨z1, z2⟩ <;> first | exact z2 | (exfalso; omega))
      clear hq11 cq12 tq10
      refine g_iconst X (-1) dX6_master_22 (by decide) ?_
      exact g_iret X dX6_master_23 ⟨_, _, rfl, (show ((-1) : Int32).toInt = (-1) by decide), (by first | exact Or.inl ⟨by omega, rfl⟩ | exact Or.inr (Or.inl ⟨by omega, by omega, rfl⟩) | exact Or.inr (Or.inr ⟨by omega, by omega, (by rw [mstX_open (H := fun s l => hsX Mq s l a2 (upk a3 (Mq.1 23 7).toInt).toNat) hop h24 h232 (by omega)] at hbb; exact hbb)⟩)), Iq0, frq0⟩
abbrev W_X6_lineage_E : List (Nat × Nat) := [(30, 99), (31, 99)]
set_option maxHeartbeats 4000000 in
set_option maxRecDepth 4000 in
theorem c_X6_lineage_E (ad : Nat → Nat) (Mq : Mem) (x1 : Int32) {a1 : Int} (t1 : x1.toInt = a1) (x2 : Int32) {a2 : Int} (t2 : x2.toInt = a2) (Iq0 : Iv TX Mq) (hy : ∀ k : Nat, k < 200 → 0 ≤ (Mq.1 28 k).toInt) : Ctr ad yX6_lineage cX6_lineage 6 (some .int) 4 [.ref (ad 0), .int x1, .int x2] Mq (fun v M' => ∃ (r : Int32) (a : Int), v = some (.int r) ∧ r.toInt = a ∧ (((¬ (-1 ≤ a2 ∧ a2 ≤ (Mq.1 23 7).toInt)) ∧ (a = -1)) ∨ (¬ (¬ (-1 ≤ a2 ∧ a2 ≤ (Mq.1 23 7).toInt)) ∧ (¬ (0 ≤ a1 ∧ a1 ≤ 999)) ∧ (a = -2)) ∨ (¬ (¬ (-1 ≤ a2 ∧ a2 ≤ (Mq.1 23 7).toInt)) ∧ ¬ (¬ (0 ≤ a1 ∧ a1 ≤ 999)) ∧ (a = lng (fun s => lnH (eW Mq 24) (fun s l => hsX Mq s l a1 (upk a2 (Mq.1 23 7).toInt).toNat) 64 ((Mq.1 23 2).toInt).toNat s) ((Mq.1 23 2).toInt).toNat))) ∧ Iv TX M' ∧ Fr W_X6_lineage_E Mq M') := by
  refine ctr_of (L := [(0, .ref (ad 0)), (1, .int x1), (2, .int x2)]) (by decide) (Nat.le_of_ble_eq_true rfl) rfl ?_
  intro Γ X
  have X : gX Γ cX6_lineage RX6 6 (some .int) 4 ad _ := X
  have frq0 : Fr W_X6_lineage_E Mq Mq := Fr.rf
  have g1_3 := ig_1_3 Iq0
  have g1_12 := ig_1_12 Iq0
  have g23_2 := ig_23_2 Iq0
  have g23_7 := ig_23_7 Iq0
  have g40_5 := ig_40_5 Iq0
  have g0_7 := ig_0_7 Iq0
  refine g_aload_n X 0 rfl dX6_lineage_0 ?_
  refine g_getr X f_X6_26 dX6_lineage_1 ?_
  refine g_iload_n X 2 rfl dX6_lineage_4 ?_
  refine g_callV X m_X6_195 (c_X0_isKnown ad Mq x2 t2) rfl (by decide) (Nat.le_of_ble_eq_true rfl) rfl dX6_lineage_5 ?_
  rintro _ _ ⟨rq1, aq2, rfl, tq3, hq4, rfl⟩
  show G Γ Mq 8 [(0, .ref (ad 0)), (1, .int x1), (2, .int x2)] [.int rq1]
  refine g_if_ne X tq3 (tgt := 13) dX6_lineage_8 (by decide) (fun cq5 => ?_) (fun cq5 => ?_)
  · have pq6 : (-1 ≤ a2 ∧ a2 ≤ ((Mq.1 23 7)).toInt) := by first | omega | (rcases hq4 with ⟨z1, z2⟩ | ⟨z1, z2⟩ <;> first | exact z2 | (exfalso; omega))
    clear hq4 cq5 tq3
    refine g_iload_n X 1 rfl dX6_lineage_13 ?_
    refine g_callS X m_X6_162 (c_X6_isYear ad Mq x1 t1) rfl (by decide) (Nat.le_of_ble_eq_true rfl) rfl dX6_lineage_14 ?_
    rintro _ _ ⟨rq7, aq8, rfl, tq9, hq10, rfl⟩
    show G Γ Mq 17 [(0, .ref (ad 0)), (1, .int x1), (2, .int x2)] [.int rq7]
    refine g_if_ne X tq9 (tgt := 23) dX6_lineage_17 (by decide) (fun cq11 => ?_) (fun cq11 => ?_)
    · have pq12 : (0 ≤ a1 ∧ a1 ≤ 999) := by first | omega | (rcases hq10 with ⟨z1, z2⟩ | ⟨z1, z2⟩ <;> first | exact z2 | (exfalso; omega))
      clear hq10 cq11 tq9
      refine g_aload_n X 0 rfl dX6_lineage_23 ?_
      refine g_getr X f_X6_26 dX6_lineage_24 ?_
      refine g_iload_n X 1 rfl dX6_lineage_27 ?_
      refine g_iload_n X 2 rfl dX6_lineage_28 ?_
      refine g_callV X m_X6_204 (c_X0_openAt_E ad Mq x1 t1 x2 t2 Iq0 (by omega) hy) rfl (by decide) (Nat.le_of_ble_eq_true rfl) rfl dX6_lineage_29 ?_
      rintro _ Mq18 ⟨rfl, hq16, hq17, Iq19, frq20⟩
      have frq21 : Fr W_X6_lineage_E Mq Mq18 := frq0.trans frq20 rfl
      have trq22 : (Mq18.1 23 2).toInt = (Mq.1 23 2).toInt := congrArg Int32.toInt (frq20.at 23 2 rfl)
      have trq23 : (Mq18.1 23 7).toInt = (Mq.1 23 7).toInt := congrArg Int32.toInt (frq20.at 23 7 rfl)
      have hop := hq17
      have h24 := eW_fr frq20 (c := 24) rfl
      have h232 : (Mq18.1 23 2).toInt = (Mq.1 23 2).toInt := congrArg Int32.toInt (frq20.at 23 2 rfl)
      show G Γ Mq18 32 [(0, .ref (ad 0)), (1, .int x1), (2, .int x2)] []
      refine g_iconst X 0 dX6_lineage_32 (by decide) ?_
      refine g_istore_n X (i := 3) [(3, .int 0), (0, .ref (ad 0)), (1, .int x1), (2, .int x2)] dX6_lineage_33 rfl (by decide) rfl ?_
      refine g_iconst X 0 dX6_lineage_34 (by decide) ?_
      refine g_istore X [(4, .int 0), (3, .int 0), (0, .ref (ad 0)), (1, .int x1), (2, .int x2)] dX6_lineage_35 (by decide) rfl ?_
      have lp37 : ∀ n : Nat, ∀ (y4_37 : Int32) (b4_37 : Int), y4_37.toInt = b4_37 → ∀ (y3_37 : Int32) (b3_37 : Int), y3_37.toInt = b3_37 → (0 ≤ b4_37 ∧ b4_37 ≤ (Mq18.1 23 2).toInt) → (b3_37 = lng (lnX Mq18) (b4_37).toNat) → ((Mq18.1 23 2).toInt - b4_37).toNat < n → G Γ Mq18 37 [(4, .int y4_37), (3, .int y3_37), (0, .ref (ad 0)), (1, .int x1), (2, .int x2)] [] := by
        intro n
        induction n with
        | zero => intro y4_37 b4_37 e4_37 y3_37 b3_37 e3_37 i1 i2 hm; exact absurd hm (Nat.not_lt_zero _)
        | succ n ih37 =>
          intro y4_37 b4_37 e4_37 y3_37 b3_37 e3_37 i1 i2 hm37
          have hlr := lnX_rng Mq18 (b4_37).toNat
          refine g_iload X 0 rfl dX6_lineage_37 ?_
          refine g_aload_n X 2 rfl dX6_lineage_39 ?_
          refine g_getr X f_X6_26 dX6_lineage_40 ?_
          refine g_geti X f_X6_179 dX6_lineage_43 (x := Mq18.1 23 2) rfl ?_
          have bq24 := ig_23_2 Iq19
          refine g_icmp_ge X e4_37 rfl (tgt := 87) dX6_lineage_46 (by decide) (fun cq25 => ?_) (fun cq25 => ?_)
          · refine g_iload_n X 1 rfl dX6_lineage_87 ?_
            exact g_iret X dX6_lineage_88 ⟨_, _, rfl, e3_37, (by first | exact Or.inl ⟨by omega, rfl⟩ | exact Or.inr (Or.inl ⟨by omega, by omega, rfl⟩) | exact Or.inr (Or.inr ⟨by omega, by omega, (by have e : b4_37 = (Mq.1 23 2).toInt := (by omega); rw [i2, e]; exact lng_cong (fun k hk => lnX_open (H := fun s l => hsX Mq s l a1 (upk a2 (Mq.1 23 7).toInt).toNat) hop h24 h232 (by omega)))⟩)), Iq19, frq21⟩
          · refine g_aload_n X 2 rfl dX6_lineage_49 ?_
            refine g_getr X f_X6_26 dX6_lineage_50 ?_
            refine g_iload X 0 rfl dX6_lineage_53 ?_
            refine g_callV X m_X6_211 (c_X0_masterOf_E ad Mq18 y4_37 e4_37 Iq19 (by omega)) rfl (by decide) (Nat.le_of_ble_eq_true rfl) rfl dX6_lineage_55 ?_
            rintro _ _ ⟨rq26, aq27, rfl, tq28, hq29, rfl⟩
            have hbb := hq29.1
            show G Γ Mq18 58 [(4, .int y4_37), (3, .int y3_37), (0, .ref (ad 0)), (1, .int x1), (2, .int x2)] [.int rq26]
            refine g_istore X [(5, .int rq26), (4, .int y4_37), (3, .int y3_37), (0, .ref (ad 0)), (1, .int x1), (2, .int x2)] dX6_lineage_58 (by decide) rfl ?_
            refine g_iload X 0 rfl dX6_lineage_60 ?_
            refine g_bipush X (-5) dX6_lineage_62 (by decide) ?_
            refine g_icmp_eq X tq28 (show ((-5) : Int32).toInt = (-5) by decide) (tgt := 81) dX6_lineage_64 (by decide) (fun cq30 => ?_) (fun cq30 => ?_)
            · refine g_iinc X 1 (fun v => [(4, .int v), (5, .int rq26), (3, .int y3_37), (0, .ref (ad 0)), (1, .int x1), (2, .int x2)]) dX6_lineage_81 rfl (by decide) (fun _ => rfl) (fun zq31 eq32 => ?_)
              have tq33 : zq31.toInt = b4_37 + 1 := add_nw eq32 e4_37 (show (Int32.ofInt 1).toInt = 1 by decide) (by omega)
              refine g_goto X (tgt := 37) dX6_lineage_84 (by decide) ?_
              refine g_sub [0, 2, 3, 4, 5] rfl ?_
              exact ih37 zq31 _ tq33 y3_37 _ e3_37 (by omega) (by first | exact lng_skip i2 (lnX_n (by omega)) (by omega) | exact lng_next i2 (lnX_y (by omega) (by omega) hcc) (by omega)) (by omega)
            · refine g_iload_n X 2 rfl dX6_lineage_67 ?_
              refine g_aload_n X 3 rfl dX6_lineage_68 ?_
              refine g_getr X f_X6_26 dX6_lineage_69 ?_
              refine g_iload X 1 rfl dX6_lineage_72 ?_
              refine g_iload X 0 rfl dX6_lineage_74 ?_
              refine g_callV X m_X6_208 (c_X0_changes_E ad Mq18 y4_37 e4_37 rq26 tq28 (by omega) (by omega)) rfl (by decide) (Nat.le_of_ble_eq_true rfl) rfl dX6_lineage_76 ?_
              rintro _ _ ⟨rq34, aq35, rfl, tq36, hq37, rfl⟩
              have hcc := hq37
              have hcr := cxU_rng Mq18 (b4_37).toNat (aq27).toNat
              show G Γ Mq18 79 [(5, .int rq26), (4, .int y4_37), (3, .int y3_37), (0, .ref (ad 0)), (1, .int x1), (2, .int x2)] [.int rq34, .int y3_37]
              refine g_iadd X dX6_lineage_79 (fun zq38 eq39 => ?_)
              have tq40 : zq38.toInt = b3_37 + aq35 := add_nw eq39 e3_37 tq36 (by omega)
              refine g_istore_n X (i := 3) [(3, .int zq38), (5, .int rq26), (4, .int y4_37), (0, .ref (ad 0)), (1, .int x1), (2, .int x2)] dX6_lineage_80 rfl (by decide) rfl ?_
              refine g_iinc X 2 (fun v => [(4, .int v), (3, .int zq38), (5, .int rq26), (0, .ref (ad 0)), (1, .int x1), (2, .int x2)]) dX6_lineage_81 rfl (by decide) (fun _ => rfl) (fun zq41 eq42 => ?_)
              have tq43 : zq41.toInt = b4_37 + 1 := add_nw eq42 e4_37 (show (Int32.ofInt 1).toInt = 1 by decide) (by omega)
              refine g_goto X (tgt := 37) dX6_lineage_84 (by decide) ?_
              refine g_sub [0, 1, 3, 4, 5] rfl ?_
              exact ih37 zq41 _ tq43 zq38 _ tq40 (by omega) (by first | exact lng_skip i2 (lnX_n (by omega)) (by omega) | exact lng_next i2 (lnX_y (by omega) (by omega) hcc) (by omega)) (by omega)
      refine g_sub [0, 1, 2, 3, 4] rfl ?_
      exact lp37 _ 0 _ (show (0 : Int32).toInt = 0 by decide) 0 _ (show (0 : Int32).toInt = 0 by decide) (by omega) rfl (Nat.lt_succ_self _)
    · have pq44 : ¬ (0 ≤ a1 ∧ a1 ≤ 999) := by first | omega | (rcases hq10 with ⟨z1, z2⟩ | ⟨z1, z2⟩ <;> first | exact z2 | (exfalso; omega))
      clear hq10 cq11 tq9
      refine g_bipush X (-2) dX6_lineage_20 (by decide) ?_
      exact g_iret X dX6_lineage_22 ⟨_, _, rfl, (show ((-2) : Int32).toInt = (-2) by decide), (by first | exact Or.inl ⟨by omega, rfl⟩ | exact Or.inr (Or.inl ⟨by omega, by omega, rfl⟩) | exact Or.inr (Or.inr ⟨by omega, by omega, (by have e : b4_37 = (Mq.1 23 2).toInt := (by omega); rw [i2, e]; exact lng_cong (fun k hk => lnX_open (H := fun s l => hsX Mq s l a1 (upk a2 (Mq.1 23 7).toInt).toNat) hop h24 h232 (by omega)))⟩)), Iq0, frq0⟩
  · have pq45 : ¬ (-1 ≤ a2 ∧ a2 ≤ ((Mq.1 23 7)).toInt) := by first | omega | (rcases hq4 with ⟨z1, z2⟩ | ⟨z1, z2⟩ <;> first | exact z2 | (exfalso; omega))
    clear hq4 cq5 tq3
    refine g_iconst X (-1) dX6_lineage_11 (by decide) ?_
    exact g_iret X dX6_lineage_12 ⟨_, _, rfl, (show ((-1) : Int32).toInt = (-1) by decide), (by first | exact Or.inl ⟨by omega, rfl⟩ | exact Or.inr (Or.inl ⟨by omega, by omega, rfl⟩) | exact Or.inr (Or.inr ⟨by omega, by omega, (by have e : b4_37 = (Mq.1 23 2).toInt := (by omega); rw [i2, e]; exact lng_cong (fun k hk => lnX_open (H := fun s l => hsX Mq s l a1 (upk a2 (Mq.1 23 7).toInt).toNat) hop h24 h232 (by omega)))⟩)), Iq0, frq0⟩
end
