section
theorem cellN : ∀ n, n < 25 → ∀ i, i < 25 → i ≤ n → i * (2 * n + 3 - i) ≤ 1000 ∧ i * (2 * n + 3 - i) / 2 + n ≤ 324 + i := by decide +kernel
theorem cellL {i n : Int} (h : 0 ≤ i ∧ i ≤ n ∧ n ≤ 24) : 0 ≤ i * (2 * n + 3 - i) ∧ i * (2 * n + 3 - i) ≤ 1000 ∧ i * (2 * n + 3 - i) / 2 + n - i ≤ 324 := by
  obtain ⟨a, rfl⟩ := Int.eq_ofNat_of_zero_le h.1
  obtain ⟨b, rfl⟩ := Int.eq_ofNat_of_zero_le (show 0 ≤ n by omega)
  have h1 := cellN b (by omega) a (by omega) (by omega)
  have e : (a : Int) * (2 * (b : Int) + 3 - (a : Int)) = ((a * (2 * b + 3 - a) : Nat) : Int) := by
    rw [Int.natCast_mul, Int.natCast_sub (by omega)]
    simp
  rw [e]
  generalize a * (2 * b + 3 - a) = q at h1 ⊢
  omega
theorem useN : ∀ n, n < 25 → (n + 1) * (n + 2) ≤ 1000 ∧ (n + 1) * (n + 2) / 2 ≤ 325 := by decide +kernel
theorem useL {n : Int} (h : 0 ≤ n ∧ n ≤ 24) : 0 ≤ (n + 1) * (n + 2) ∧ (n + 1) * (n + 2) ≤ 1000 ∧ (n + 1) * (n + 2) / 2 ≤ 325 := by
  obtain ⟨a, rfl⟩ := Int.eq_ofNat_of_zero_le h.1
  have h1 := useN a (by omega)
  have e : ((a : Int) + 1) * ((a : Int) + 2) = (((a + 1) * (a + 2) : Nat) : Int) := by
    rw [Int.natCast_mul]; simp
  rw [e]
  generalize (a + 1) * (a + 2) = q at h1 ⊢
  omega
abbrev W_X1_take_46 : List (Nat × Nat) := [(37, 4), (37, 5), (39, 99)]
set_option maxHeartbeats 4000000 in
set_option maxRecDepth 4000 in
theorem c_X1_take_46 (ad : Nat → Nat) (Mq : Mem) (x2 : Int32) {a2 : Int} (t2 : x2.toInt = a2) (x3 : Int32) {a3 : Int} (t3 : x3.toInt = a3) (x4 : Int64) {a4 : Int} (t4 : x4.toInt = a4) (Iq0 : Iv TX Mq) (h1 : 0 ≤ a2 ∧ a2 + a3 ≤ 24) (h2 : 0 ≤ a3 ∧ a3 ≤ 24) : Ctr ad yX1_take cX1_take 11 none 1 [.ref (ad 37), .ref (ad 46), .int x2, .int x3, .long x4] Mq (fun v M' => v = none ∧ (True) ∧ Iv TX M' ∧ Fr W_X1_take_46 Mq M') := by
  refine ctr_of (L := [(0, .ref (ad 37)), (1, .ref (ad 46)), (2, .int x2), (3, .int x3), (4, .long x4)]) (by decide) (Nat.le_of_ble_eq_true rfl) rfl ?_
  intro Γ X
  have X : gX Γ cX1_take RX1 11 none 1 ad _ := X
  have frq0 : Fr W_X1_take_46 Mq Mq := Fr.rf
  refine g_aload_n X 0 rfl dX1_take_0 ?_
  refine g_lload X 4 rfl dX1_take_1 ?_
  refine g_putl X p_X1_18 dX1_take_3 ?_
  have Iq1 : Iv TX (ul Mq 37 4 x4) := Iq0.long
  have frq2 : Fr W_X1_take_46 Mq (ul Mq 37 4 x4) := frq0.ul rfl
  refine g_aload_n X 0 rfl dX1_take_6 ?_
  refine g_iload_n X 3 rfl dX1_take_7 ?_
  refine g_puti X p_X1_22 dX1_take_8 ?_
  have Iq3 : Iv TX (ui (ul Mq 37 4 x4) 37 5 x3) := Iq1.put 0 24 t3 (by omega) rfl
  have frq4 : Fr W_X1_take_46 Mq (ui (ul Mq 37 4 x4) 37 5 x3) := frq2.ui rfl
  refine g_iconst X 0 dX1_take_11 (by decide) ?_
  refine g_istore X [(6, .int 0), (0, .ref (ad 37)), (1, .ref (ad 46)), (2, .int x2), (3, .int x3), (4, .long x4)] dX1_take_12 (by decide) rfl ?_
  have lp14 : ∀ n : Nat, ∀ (y6_14 : Int32) (b6_14 : Int), y6_14.toInt = b6_14 → ∀ (M_14 : Mem), (0 ≤ b6_14) → (Iv TX M_14) → (Fr W_X1_take_46 Mq M_14) → (a3 - b6_14).toNat < n → G Γ M_14 14 [(6, .int y6_14), (0, .ref (ad 37)), (1, .ref (ad 46)), (2, .int x2), (3, .int x3), (4, .long x4)] [] := by
    intro n
    induction n with
    | zero => intro y6_14 b6_14 e6_14 M_14 i1 I_14 fr_14 hm; exact absurd hm (Nat.not_lt_zero _)
    | succ n ih14 =>
      intro y6_14 b6_14 e6_14 M_14 i1 I_14 fr_14 hm14
      refine g_iload X 0 rfl dX1_take_14 ?_
      refine g_iload_n X 4 rfl dX1_take_16 ?_
      refine g_icmp_ge X e6_14 t3 (tgt := 102) dX1_take_17 (by decide) (fun cq5 => ?_) (fun cq5 => ?_)
      · exact g_vret X dX1_take_102 ⟨rfl, trivial, I_14, fr_14⟩
      · refine g_aload_n X 2 rfl dX1_take_20 ?_
        refine g_iload_n X 3 rfl dX1_take_21 ?_
        refine g_iload X 0 rfl dX1_take_22 ?_
        refine g_iadd X dX1_take_24 (fun zq6 eq7 => ?_)
        have tq8 : zq6.toInt = a2 + b6_14 := add_nw eq7 t2 e6_14 (by omega)
        refine g_iald X la_46 tq8 dX1_take_25 (by omega) (x := M_14.1 46 ((a2 + b6_14).toNat)) rfl ?_
        refine g_istore X [(7, .int (M_14.1 46 ((a2 + b6_14).toNat))), (6, .int y6_14), (0, .ref (ad 37)), (1, .ref (ad 46)), (2, .int x2), (3, .int x3), (4, .long x4)] dX1_take_26 (by decide) rfl ?_
        refine g_iconst X 0 dX1_take_28 (by decide) ?_
        refine g_istore X [(8, .int 0), (7, .int (M_14.1 46 ((a2 + b6_14).toNat))), (6, .int y6_14), (0, .ref (ad 37)), (1, .ref (ad 46)), (2, .int x2), (3, .int x3), (4, .long x4)] dX1_take_29 (by decide) rfl ?_
        have lp31 : ∀ n : Nat, ∀ (y8_31 : Int32) (b8_31 : Int), y8_31.toInt = b8_31 → ∀ (M_31 : Mem), (0 ≤ b8_31 ∧ b8_31 ≤ 8) → (Iv TX M_31) → (Fr W_X1_take_46 Mq M_31) → (8 - b8_31).toNat < n → G Γ M_31 31 [(8, .int y8_31), (7, .int (M_14.1 46 ((a2 + b6_14).toNat))), (6, .int y6_14), (0, .ref (ad 37)), (1, .ref (ad 46)), (2, .int x2), (3, .int x3), (4, .long x4)] [] := by
          intro n
          induction n with
          | zero => intro y8_31 b8_31 e8_31 M_31 i2 I_31 fr_31 hm; exact absurd hm (Nat.not_lt_zero _)
          | succ n ih31 =>
            intro y8_31 b8_31 e8_31 M_31 i2 I_31 fr_31 hm31
            refine g_iload X 0 rfl dX1_take_31 ?_
            refine g_bipush X 8 dX1_take_33 (by decide) ?_
            refine g_icmp_ge X e8_31 (show (8 : Int32).toInt = 8 by decide) (tgt := 96) dX1_take_35 (by decide) (fun cq9 => ?_) (fun cq9 => ?_)
            · refine g_iinc X 2 (fun v => [(6, .int v), (8, .int y8_31), (7, .int (M_14.1 46 ((a2 + b6_14).toNat))), (0, .ref (ad 37)), (1, .ref (ad 46)), (2, .int x2), (3, .int x3), (4, .long x4)]) dX1_take_96 rfl (by decide) (fun _ => rfl) (fun zq10 eq11 => ?_)
              have tq12 : zq10.toInt = b6_14 + 1 := add_nw eq11 e6_14 (show (Int32.ofInt 1).toInt = 1 by decide) (by omega)
              refine g_goto X (tgt := 14) dX1_take_99 (by decide) ?_
              refine g_sub [0, 3, 4, 5, 6, 7] rfl ?_
              exact ih14 zq10 _ tq12 M_31 (by omega) I_31 fr_31 (by omega)
            · refine g_aload_n X 3 rfl dX1_take_38 ?_
              refine g_getl X f_X1_18 dX1_take_39 (x := M_31.2 37 4) rfl ?_
              refine g_aload_n X 3 rfl dX1_take_42 ?_
              refine g_getr X f_X1_29 dX1_take_43 ?_
              refine g_getr X f_X1_37 dX1_take_46 ?_
              refine g_iload X 0 rfl dX1_take_49 ?_
              refine g_lald X la_11 e8_31 dX1_take_51 (by omega) (x := M_31.2 11 b8_31.toNat) rfl ?_
              refine g_land X dX1_take_52 (fun zq13 eq14 => ?_)
              refine g_lstore X [(9, .long zq13), (8, .int y8_31), (7, .int (M_14.1 46 ((a2 + b6_14).toNat))), (6, .int y6_14), (0, .ref (ad 37)), (1, .ref (ad 46)), (2, .int x2), (3, .int x3), (4, .long x4)] dX1_take_53 (by decide) rfl ?_
              refine g_aload_n X 4 rfl dX1_take_55 ?_
              refine g_getr X f_X1_15 dX1_take_56 ?_
              refine g_iload X 3 rfl dX1_take_59 ?_
              refine g_bipush X 8 dX1_take_61 (by decide) ?_
              refine g_imul X dX1_take_63 (fun zq15 eq16 => ?_)
              have tq17 : zq15.toInt = b6_14 * 8 := mul_nw eq16 e6_14 (show (8 : Int32).toInt = 8 by decide) (by omega)
              refine g_iload X 1 rfl dX1_take_64 ?_
              refine g_iadd X dX1_take_66 (fun zq18 eq19 => ?_)
              have tq20 : zq18.toInt = (b6_14 * 8) + b8_31 := add_nw eq19 tq17 e8_31 (by omega)
              refine g_iload X 2 rfl dX1_take_67 ?_
              refine g_bipush X 40 dX1_take_69 (by decide) ?_
              refine g_icmp_ne X rfl (show (40 : Int32).toInt = 40 by decide) (tgt := 82) dX1_take_71 (by decide) (fun cq21 => ?_) (fun cq21 => ?_)
              · refine g_lload X 0 rfl dX1_take_82 ?_
                refine g_iload X 2 rfl dX1_take_84 ?_
                refine g_callS X m_X1_49 (c_X6_bit ad M_31 zq13 rfl (M_14.1 46 ((a2 + b6_14).toNat)) rfl) rfl (by decide) (Nat.le_of_ble_eq_true rfl) rfl dX1_take_86 ?_
                rintro _ _ ⟨rq22, aq23, rfl, tq24, hq25, rfl⟩
                show G Γ M_31 89 [(9, .long zq13), (8, .int y8_31), (7, .int (M_14.1 46 ((a2 + b6_14).toNat))), (6, .int y6_14), (0, .ref (ad 37)), (1, .ref (ad 46)), (2, .int x2), (3, .int x3), (4, .long x4)] [.int rq22, .int zq18, .ref (ad 39)]
                refine g_iast X la_39 tq20 dX1_take_89 (by omega) ?_
                have Iq26 : Iv TX (ui M_31 39 (((b6_14 * 8) + b8_31).toNat) rq22) := I_31.otherA rfl
                have frq27 : Fr W_X1_take_46 Mq (ui M_31 39 (((b6_14 * 8) + b8_31).toNat) rq22) := fr_31.ui rfl
                refine g_iinc X 1 (fun v => [(8, .int v), (9, .long zq13), (7, .int (M_14.1 46 ((a2 + b6_14).toNat))), (6, .int y6_14), (0, .ref (ad 37)), (1, .ref (ad 46)), (2, .int x2), (3, .int x3), (4, .long x4)]) dX1_take_90 rfl (by decide) (fun _ => rfl) (fun zq28 eq29 => ?_)
                have tq30 : zq28.toInt = b8_31 + 1 := add_nw eq29 e8_31 (show (Int32.ofInt 1).toInt = 1 by decide) (by omega)
                refine g_goto X (tgt := 31) dX1_take_93 (by decide) ?_
                refine g_sub [0, 2, 3, 4, 5, 6, 7, 8] rfl ?_
                exact ih31 zq28 _ tq30 (ui M_31 39 (((b6_14 * 8) + b8_31).toNat) rq22) (by omega) Iq26 frq27 (by omega)
              · refine g_lload X 0 rfl dX1_take_74 ?_
                refine g_callS X m_X1_43 (c_J13_bitCount_95d88 ad M_31 zq13 rfl) rfl (by decide) (Nat.le_of_ble_eq_true rfl) rfl dX1_take_76 ?_
                rintro _ _ ⟨rq31, aq32, rfl, tq33, hq34, rfl⟩
                show G Γ M_31 79 [(9, .long zq13), (8, .int y8_31), (7, .int (M_14.1 46 ((a2 + b6_14).toNat))), (6, .int y6_14), (0, .ref (ad 37)), (1, .ref (ad 46)), (2, .int x2), (3, .int x3), (4, .long x4)] [.int rq31, .int zq18, .ref (ad 39)]
                refine g_goto X (tgt := 89) dX1_take_79 (by decide) ?_
                refine g_iast X la_39 tq20 dX1_take_89 (by omega) ?_
                have Iq35 : Iv TX (ui M_31 39 (((b6_14 * 8) + b8_31).toNat) rq31) := I_31.otherA rfl
                have frq36 : Fr W_X1_take_46 Mq (ui M_31 39 (((b6_14 * 8) + b8_31).toNat) rq31) := fr_31.ui rfl
                refine g_iinc X 1 (fun v => [(8, .int v), (9, .long zq13), (7, .int (M_14.1 46 ((a2 + b6_14).toNat))), (6, .int y6_14), (0, .ref (ad 37)), (1, .ref (ad 46)), (2, .int x2), (3, .int x3), (4, .long x4)]) dX1_take_90 rfl (by decide) (fun _ => rfl) (fun zq37 eq38 => ?_)
                have tq39 : zq37.toInt = b8_31 + 1 := add_nw eq38 e8_31 (show (Int32.ofInt 1).toInt = 1 by decide) (by omega)
                refine g_goto X (tgt := 31) dX1_take_93 (by decide) ?_
                refine g_sub [0, 2, 3, 4, 5, 6, 7, 8] rfl ?_
                exact ih31 zq37 _ tq39 (ui M_31 39 (((b6_14 * 8) + b8_31).toNat) rq31) (by omega) Iq35 frq36 (by omega)
        refine g_sub [0, 1, 2, 3, 4, 5, 6, 7] rfl ?_
        exact lp31 _ 0 _ (show (0 : Int32).toInt = 0 by decide) M_14 (by omega) I_14 fr_14 (Nat.lt_succ_self _)
  refine g_sub [0, 1, 2, 3, 4, 5] rfl ?_
  exact lp14 _ 0 _ (show (0 : Int32).toInt = 0 by decide) (ui (ul Mq 37 4 x4) 37 5 x3) (by omega) Iq3 frq4 (Nat.lt_succ_self _)
abbrev W_X1_take_45 : List (Nat × Nat) := [(37, 4), (37, 5), (39, 99)]
set_option maxHeartbeats 4000000 in
set_option maxRecDepth 4000 in
theorem c_X1_take_45 (ad : Nat → Nat) (Mq : Mem) (x2 : Int32) {a2 : Int} (t2 : x2.toInt = a2) (x3 : Int32) {a3 : Int} (t3 : x3.toInt = a3) (x4 : Int64) {a4 : Int} (t4 : x4.toInt = a4) (Iq0 : Iv TX Mq) (h1 : 0 ≤ a2 ∧ a2 + a3 ≤ 288) (h2 : 0 ≤ a3 ∧ a3 ≤ 24) : Ctr ad yX1_take cX1_take 11 none 1 [.ref (ad 37), .ref (ad 45), .int x2, .int x3, .long x4] Mq (fun v M' => v = none ∧ (True) ∧ Iv TX M' ∧ Fr W_X1_take_45 Mq M') := by
  refine ctr_of (L := [(0, .ref (ad 37)), (1, .ref (ad 45)), (2, .int x2), (3, .int x3), (4, .long x4)]) (by decide) (Nat.le_of_ble_eq_true rfl) rfl ?_
  intro Γ X
  have X : gX Γ cX1_take RX1 11 none 1 ad _ := X
  have frq0 : Fr W_X1_take_45 Mq Mq := Fr.rf
  refine g_aload_n X 0 rfl dX1_take_0 ?_
  refine g_lload X 4 rfl dX1_take_1 ?_
  refine g_putl X p_X1_18 dX1_take_3 ?_
  have Iq1 : Iv TX (ul Mq 37 4 x4) := Iq0.long
  have frq2 : Fr W_X1_take_45 Mq (ul Mq 37 4 x4) := frq0.ul rfl
  refine g_aload_n X 0 rfl dX1_take_6 ?_
  refine g_iload_n X 3 rfl dX1_take_7 ?_
  refine g_puti X p_X1_22 dX1_take_8 ?_
  have Iq3 : Iv TX (ui (ul Mq 37 4 x4) 37 5 x3) := Iq1.put 0 24 t3 (by omega) rfl
  have frq4 : Fr W_X1_take_45 Mq (ui (ul Mq 37 4 x4) 37 5 x3) := frq2.ui rfl
  refine g_iconst X 0 dX1_take_11 (by decide) ?_
  refine g_istore X [(6, .int 0), (0, .ref (ad 37)), (1, .ref (ad 45)), (2, .int x2), (3, .int x3), (4, .long x4)] dX1_take_12 (by decide) rfl ?_
  have lp14 : ∀ n : Nat, ∀ (y6_14 : Int32) (b6_14 : Int), y6_14.toInt = b6_14 → ∀ (M_14 : Mem), (0 ≤ b6_14) → (Iv TX M_14) → (Fr W_X1_take_45 Mq M_14) → (a3 - b6_14).toNat < n → G Γ M_14 14 [(6, .int y6_14), (0, .ref (ad 37)), (1, .ref (ad 45)), (2, .int x2), (3, .int x3), (4, .long x4)] [] := by
    intro n
    induction n with
    | zero => intro y6_14 b6_14 e6_14 M_14 i1 I_14 fr_14 hm; exact absurd hm (Nat.not_lt_zero _)
    | succ n ih14 =>
      intro y6_14 b6_14 e6_14 M_14 i1 I_14 fr_14 hm14
      refine g_iload X 0 rfl dX1_take_14 ?_
      refine g_iload_n X 4 rfl dX1_take_16 ?_
      refine g_icmp_ge X e6_14 t3 (tgt := 102) dX1_take_17 (by decide) (fun cq5 => ?_) (fun cq5 => ?_)
      · exact g_vret X dX1_take_102 ⟨rfl, trivial, I_14, fr_14⟩
      · refine g_aload_n X 2 rfl dX1_take_20 ?_
        refine g_iload_n X 3 rfl dX1_take_21 ?_
        refine g_iload X 0 rfl dX1_take_22 ?_
        refine g_iadd X dX1_take_24 (fun zq6 eq7 => ?_)
        have tq8 : zq6.toInt = a2 + b6_14 := add_nw eq7 t2 e6_14 (by omega)
        refine g_iald X la_45 tq8 dX1_take_25 (by omega) (x := M_14.1 45 ((a2 + b6_14).toNat)) rfl ?_
        refine g_istore X [(7, .int (M_14.1 45 ((a2 + b6_14).toNat))), (6, .int y6_14), (0, .ref (ad 37)), (1, .ref (ad 45)), (2, .int x2), (3, .int x3), (4, .long x4)] dX1_take_26 (by decide) rfl ?_
        refine g_iconst X 0 dX1_take_28 (by decide) ?_
        refine g_istore X [(8, .int 0), (7, .int (M_14.1 45 ((a2 + b6_14).toNat))), (6, .int y6_14), (0, .ref (ad 37)), (1, .ref (ad 45)), (2, .int x2), (3, .int x3), (4, .long x4)] dX1_take_29 (by decide) rfl ?_
        have lp31 : ∀ n : Nat, ∀ (y8_31 : Int32) (b8_31 : Int), y8_31.toInt = b8_31 → ∀ (M_31 : Mem), (0 ≤ b8_31 ∧ b8_31 ≤ 8) → (Iv TX M_31) → (Fr W_X1_take_45 Mq M_31) → (8 - b8_31).toNat < n → G Γ M_31 31 [(8, .int y8_31), (7, .int (M_14.1 45 ((a2 + b6_14).toNat))), (6, .int y6_14), (0, .ref (ad 37)), (1, .ref (ad 45)), (2, .int x2), (3, .int x3), (4, .long x4)] [] := by
          intro n
          induction n with
          | zero => intro y8_31 b8_31 e8_31 M_31 i2 I_31 fr_31 hm; exact absurd hm (Nat.not_lt_zero _)
          | succ n ih31 =>
            intro y8_31 b8_31 e8_31 M_31 i2 I_31 fr_31 hm31
            refine g_iload X 0 rfl dX1_take_31 ?_
            refine g_bipush X 8 dX1_take_33 (by decide) ?_
            refine g_icmp_ge X e8_31 (show (8 : Int32).toInt = 8 by decide) (tgt := 96) dX1_take_35 (by decide) (fun cq9 => ?_) (fun cq9 => ?_)
            · refine g_iinc X 2 (fun v => [(6, .int v), (8, .int y8_31), (7, .int (M_14.1 45 ((a2 + b6_14).toNat))), (0, .ref (ad 37)), (1, .ref (ad 45)), (2, .int x2), (3, .int x3), (4, .long x4)]) dX1_take_96 rfl (by decide) (fun _ => rfl) (fun zq10 eq11 => ?_)
              have tq12 : zq10.toInt = b6_14 + 1 := add_nw eq11 e6_14 (show (Int32.ofInt 1).toInt = 1 by decide) (by omega)
              refine g_goto X (tgt := 14) dX1_take_99 (by decide) ?_
              refine g_sub [0, 3, 4, 5, 6, 7] rfl ?_
              exact ih14 zq10 _ tq12 M_31 (by omega) I_31 fr_31 (by omega)
            · refine g_aload_n X 3 rfl dX1_take_38 ?_
              refine g_getl X f_X1_18 dX1_take_39 (x := M_31.2 37 4) rfl ?_
              refine g_aload_n X 3 rfl dX1_take_42 ?_
              refine g_getr X f_X1_29 dX1_take_43 ?_
              refine g_getr X f_X1_37 dX1_take_46 ?_
              refine g_iload X 0 rfl dX1_take_49 ?_
              refine g_lald X la_11 e8_31 dX1_take_51 (by omega) (x := M_31.2 11 b8_31.toNat) rfl ?_
              refine g_land X dX1_take_52 (fun zq13 eq14 => ?_)
              refine g_lstore X [(9, .long zq13), (8, .int y8_31), (7, .int (M_14.1 45 ((a2 + b6_14).toNat))), (6, .int y6_14), (0, .ref (ad 37)), (1, .ref (ad 45)), (2, .int x2), (3, .int x3), (4, .long x4)] dX1_take_53 (by decide) rfl ?_
              refine g_aload_n X 4 rfl dX1_take_55 ?_
              refine g_getr X f_X1_15 dX1_take_56 ?_
              refine g_iload X 3 rfl dX1_take_59 ?_
              refine g_bipush X 8 dX1_take_61 (by decide) ?_
              refine g_imul X dX1_take_63 (fun zq15 eq16 => ?_)
              have tq17 : zq15.toInt = b6_14 * 8 := mul_nw eq16 e6_14 (show (8 : Int32).toInt = 8 by decide) (by omega)
              refine g_iload X 1 rfl dX1_take_64 ?_
              refine g_iadd X dX1_take_66 (fun zq18 eq19 => ?_)
              have tq20 : zq18.toInt = (b6_14 * 8) + b8_31 := add_nw eq19 tq17 e8_31 (by omega)
              refine g_iload X 2 rfl dX1_take_67 ?_
              refine g_bipush X 40 dX1_take_69 (by decide) ?_
              refine g_icmp_ne X rfl (show (40 : Int32).toInt = 40 by decide) (tgt := 82) dX1_take_71 (by decide) (fun cq21 => ?_) (fun cq21 => ?_)
              · refine g_lload X 0 rfl dX1_take_82 ?_
                refine g_iload X 2 rfl dX1_take_84 ?_
                refine g_callS X m_X1_49 (c_X6_bit ad M_31 zq13 rfl (M_14.1 45 ((a2 + b6_14).toNat)) rfl) rfl (by decide) (Nat.le_of_ble_eq_true rfl) rfl dX1_take_86 ?_
                rintro _ _ ⟨rq22, aq23, rfl, tq24, hq25, rfl⟩
                show G Γ M_31 89 [(9, .long zq13), (8, .int y8_31), (7, .int (M_14.1 45 ((a2 + b6_14).toNat))), (6, .int y6_14), (0, .ref (ad 37)), (1, .ref (ad 45)), (2, .int x2), (3, .int x3), (4, .long x4)] [.int rq22, .int zq18, .ref (ad 39)]
                refine g_iast X la_39 tq20 dX1_take_89 (by omega) ?_
                have Iq26 : Iv TX (ui M_31 39 (((b6_14 * 8) + b8_31).toNat) rq22) := I_31.otherA rfl
                have frq27 : Fr W_X1_take_45 Mq (ui M_31 39 (((b6_14 * 8) + b8_31).toNat) rq22) := fr_31.ui rfl
                refine g_iinc X 1 (fun v => [(8, .int v), (9, .long zq13), (7, .int (M_14.1 45 ((a2 + b6_14).toNat))), (6, .int y6_14), (0, .ref (ad 37)), (1, .ref (ad 45)), (2, .int x2), (3, .int x3), (4, .long x4)]) dX1_take_90 rfl (by decide) (fun _ => rfl) (fun zq28 eq29 => ?_)
                have tq30 : zq28.toInt = b8_31 + 1 := add_nw eq29 e8_31 (show (Int32.ofInt 1).toInt = 1 by decide) (by omega)
                refine g_goto X (tgt := 31) dX1_take_93 (by decide) ?_
                refine g_sub [0, 2, 3, 4, 5, 6, 7, 8] rfl ?_
                exact ih31 zq28 _ tq30 (ui M_31 39 (((b6_14 * 8) + b8_31).toNat) rq22) (by omega) Iq26 frq27 (by omega)
              · refine g_lload X 0 rfl dX1_take_74 ?_
                refine g_callS X m_X1_43 (c_J13_bitCount_95d88 ad M_31 zq13 rfl) rfl (by decide) (Nat.le_of_ble_eq_true rfl) rfl dX1_take_76 ?_
                rintro _ _ ⟨rq31, aq32, rfl, tq33, hq34, rfl⟩
                show G Γ M_31 79 [(9, .long zq13), (8, .int y8_31), (7, .int (M_14.1 45 ((a2 + b6_14).toNat))), (6, .int y6_14), (0, .ref (ad 37)), (1, .ref (ad 45)), (2, .int x2), (3, .int x3), (4, .long x4)] [.int rq31, .int zq18, .ref (ad 39)]
                refine g_goto X (tgt := 89) dX1_take_79 (by decide) ?_
                refine g_iast X la_39 tq20 dX1_take_89 (by omega) ?_
                have Iq35 : Iv TX (ui M_31 39 (((b6_14 * 8) + b8_31).toNat) rq31) := I_31.otherA rfl
                have frq36 : Fr W_X1_take_45 Mq (ui M_31 39 (((b6_14 * 8) + b8_31).toNat) rq31) := fr_31.ui rfl
                refine g_iinc X 1 (fun v => [(8, .int v), (9, .long zq13), (7, .int (M_14.1 45 ((a2 + b6_14).toNat))), (6, .int y6_14), (0, .ref (ad 37)), (1, .ref (ad 45)), (2, .int x2), (3, .int x3), (4, .long x4)]) dX1_take_90 rfl (by decide) (fun _ => rfl) (fun zq37 eq38 => ?_)
                have tq39 : zq37.toInt = b8_31 + 1 := add_nw eq38 e8_31 (show (Int32.ofInt 1).toInt = 1 by decide) (by omega)
                refine g_goto X (tgt := 31) dX1_take_93 (by decide) ?_
                refine g_sub [0, 2, 3, 4, 5, 6, 7, 8] rfl ?_
                exact ih31 zq37 _ tq39 (ui M_31 39 (((b6_14 * 8) + b8_31).toNat) rq31) (by omega) Iq35 frq36 (by omega)
        refine g_sub [0, 1, 2, 3, 4, 5, 6, 7] rfl ?_
        exact lp31 _ 0 _ (show (0 : Int32).toInt = 0 by decide) M_14 (by omega) I_14 fr_14 (Nat.lt_succ_self _)
  refine g_sub [0, 1, 2, 3, 4, 5] rfl ?_
  exact lp14 _ 0 _ (show (0 : Int32).toInt = 0 by decide) (ui (ul Mq 37 4 x4) 37 5 x3) (by omega) Iq3 frq4 (Nat.lt_succ_self _)
abbrev W_X1_allowOnly : List (Nat × Nat) := [(39, 99)]
set_option maxHeartbeats 4000000 in
set_option maxRecDepth 4000 in
theorem c_X1_allowOnly (ad : Nat → Nat) (Mq : Mem) (x1 : Int32) {a1 : Int} (t1 : x1.toInt = a1) (x2 : Int32) {a2 : Int} (t2 : x2.toInt = a2) (Iq0 : Iv TX Mq) (h1 : 0 ≤ a1 ∧ a1 < 24) : Ctr ad yX1_allowOnly cX1_allowOnly 4 none 0 [.ref (ad 37), .int x1, .int x2] Mq (fun v M' => v = none ∧ (True) ∧ Iv TX M' ∧ Fr W_X1_allowOnly Mq M') := by
  refine ctr_of (L := [(0, .ref (ad 37)), (1, .int x1), (2, .int x2)]) (by decide) (Nat.le_of_ble_eq_true rfl) rfl ?_
  intro Γ X
  have X : gX Γ cX1_allowOnly RX1 4 none 0 ad _ := X
  have frq0 : Fr W_X1_allowOnly Mq Mq := Fr.rf
  refine g_iconst X 0 dX1_allowOnly_0 (by decide) ?_
  refine g_istore_n X (i := 3) [(3, .int 0), (0, .ref (ad 37)), (1, .int x1), (2, .int x2)] dX1_allowOnly_1 rfl (by decide) rfl ?_
  have lp2 : ∀ n : Nat, ∀ (y3_2 : Int32) (b3_2 : Int), y3_2.toInt = b3_2 → ∀ (M_2 : Mem), (0 ≤ b3_2 ∧ b3_2 ≤ 8) → (Iv TX M_2) → (Fr W_X1_allowOnly Mq M_2) → (8 - b3_2).toNat < n → G Γ M_2 2 [(3, .int y3_2), (0, .ref (ad 37)), (1, .int x1), (2, .int x2)] [] := by
    intro n
    induction n with
    | zero => intro y3_2 b3_2 e3_2 M_2 i1 I_2 fr_2 hm; exact absurd hm (Nat.not_lt_zero _)
    | succ n ih2 =>
      intro y3_2 b3_2 e3_2 M_2 i1 I_2 fr_2 hm2
      refine g_iload_n X 0 rfl dX1_allowOnly_2 ?_
      refine g_bipush X 8 dX1_allowOnly_3 (by decide) ?_
      refine g_icmp_ge X e3_2 (show (8 : Int32).toInt = 8 by decide) (tgt := 35) dX1_allowOnly_5 (by decide) (fun cq1 => ?_) (fun cq1 => ?_)
      · exact g_vret X dX1_allowOnly_35 ⟨rfl, trivial, I_2, fr_2⟩
      · refine g_aload_n X 1 rfl dX1_allowOnly_8 ?_
        refine g_getr X f_X1_15 dX1_allowOnly_9 ?_
        refine g_iload_n X 2 rfl dX1_allowOnly_12 ?_
        refine g_bipush X 8 dX1_allowOnly_13 (by decide) ?_
        refine g_imul X dX1_allowOnly_15 (fun zq2 eq3 => ?_)
        have tq4 : zq2.toInt = a1 * 8 := mul_nw eq3 t1 (show (8 : Int32).toInt = 8 by decide) (by omega)
        refine g_iload_n X 0 rfl dX1_allowOnly_16 ?_
        refine g_iadd X dX1_allowOnly_17 (fun zq5 eq6 => ?_)
        have tq7 : zq5.toInt = (a1 * 8) + b3_2 := add_nw eq6 tq4 e3_2 (by omega)
        refine g_iload_n X 0 rfl dX1_allowOnly_18 ?_
        refine g_iload_n X 3 rfl dX1_allowOnly_19 ?_
        refine g_icmp_ne X e3_2 t2 (tgt := 27) dX1_allowOnly_20 (by decide) (fun cq8 => ?_) (fun cq8 => ?_)
        · refine g_iconst X 0 dX1_allowOnly_27 (by decide) ?_
          refine g_iast X la_39 tq7 dX1_allowOnly_28 (by omega) ?_
          have Iq9 : Iv TX (ui M_2 39 (((a1 * 8) + b3_2).toNat) 0) := I_2.otherA rfl
          have frq10 : Fr W_X1_allowOnly Mq (ui M_2 39 (((a1 * 8) + b3_2).toNat) 0) := fr_2.ui rfl
          refine g_iinc X 0 (fun v => [(3, .int v), (0, .ref (ad 37)), (1, .int x1), (2, .int x2)]) dX1_allowOnly_29 rfl (by decide) (fun _ => rfl) (fun zq11 eq12 => ?_)
          have tq13 : zq11.toInt = b3_2 + 1 := add_nw eq12 e3_2 (show (Int32.ofInt 1).toInt = 1 by decide) (by omega)
          refine g_goto X (tgt := 2) dX1_allowOnly_32 (by decide) ?_
          refine g_sub [0, 1, 2, 3] rfl ?_
          exact ih2 zq11 _ tq13 (ui M_2 39 (((a1 * 8) + b3_2).toNat) 0) (by omega) Iq9 frq10 (by omega)
        · refine g_iconst X 1 dX1_allowOnly_23 (by decide) ?_
          refine g_goto X (tgt := 28) dX1_allowOnly_24 (by decide) ?_
          refine g_iast X la_39 tq7 dX1_allowOnly_28 (by omega) ?_
          have Iq14 : Iv TX (ui M_2 39 (((a1 * 8) + b3_2).toNat) 1) := I_2.otherA rfl
          have frq15 : Fr W_X1_allowOnly Mq (ui M_2 39 (((a1 * 8) + b3_2).toNat) 1) := fr_2.ui rfl
          refine g_iinc X 0 (fun v => [(3, .int v), (0, .ref (ad 37)), (1, .int x1), (2, .int x2)]) dX1_allowOnly_29 rfl (by decide) (fun _ => rfl) (fun zq16 eq17 => ?_)
          have tq18 : zq16.toInt = b3_2 + 1 := add_nw eq17 e3_2 (show (Int32.ofInt 1).toInt = 1 by decide) (by omega)
          refine g_goto X (tgt := 2) dX1_allowOnly_32 (by decide) ?_
          refine g_sub [0, 1, 2, 3] rfl ?_
          exact ih2 zq16 _ tq18 (ui M_2 39 (((a1 * 8) + b3_2).toNat) 1) (by omega) Iq14 frq15 (by omega)
  refine g_sub [0, 1, 2, 3] rfl ?_
  exact lp2 _ 0 _ (show (0 : Int32).toInt = 0 by decide) Mq (by omega) Iq0 frq0 (Nat.lt_succ_self _)
set_option maxHeartbeats 4000000 in
set_option maxRecDepth 4000 in
theorem c_X1_cell (ad : Nat → Nat) (Mq : Mem) (x1 : Int32) {a1 : Int} (t1 : x1.toInt = a1) (x2 : Int32) {a2 : Int} (t2 : x2.toInt = a2) (x3 : Int32) {a3 : Int} (t3 : x3.toInt = a3) (Iq0 : Iv TX Mq) (h1 : 0 ≤ a1 ∧ a1 ≤ 37) (h2 : 0 ≤ a2 ∧ a2 ≤ a3) (h3 : a3 ≤ (Mq.1 37 5).toInt) : Ctr ad yX1_cell cX1_cell 4 (some .int) 0 [.ref (ad 37), .int x1, .int x2, .int x3] Mq (fun v M' => ∃ (r : Int32) (a : Int), v = some (.int r) ∧ r.toInt = a ∧ (325 * a1 ≤ a ∧ a + (Mq.1 37 5).toInt - a3 ≤ 325 * a1 + 324) ∧ Mq = M') := by
  refine ctr_of (L := [(0, .ref (ad 37)), (1, .int x1), (2, .int x2), (3, .int x3)]) (by decide) (Nat.le_of_ble_eq_true rfl) rfl ?_
  intro Γ X
  have X : gX Γ cX1_cell RX1 4 (some .int) 0 ad _ := X
  have hL := ig_37_5 Iq0
  refine g_iload_n X 1 rfl dX1_cell_0 ?_
  refine g_sipush X 325 dX1_cell_1 (by decide) ?_
  refine g_imul X dX1_cell_4 (fun zq1 eq2 => ?_)
  have tq3 : zq1.toInt = a1 * 325 := mul_nw eq2 t1 (show (325 : Int32).toInt = 325 by decide) (by omega)
  refine g_iload_n X 2 rfl dX1_cell_5 ?_
  refine g_iconst X 2 dX1_cell_6 (by decide) ?_
  refine g_aload_n X 0 rfl dX1_cell_7 ?_
  refine g_geti X f_X1_22 dX1_cell_8 (x := Mq.1 37 5) rfl ?_
  have bq4 := ig_37_5 Iq0
  refine g_imul X dX1_cell_11 (fun zq5 eq6 => ?_)
  have tq7 : zq5.toInt = 2 * ((Mq.1 37 5).toInt) := mul_nw eq6 (show (2 : Int32).toInt = 2 by decide) rfl (by omega)
  refine g_iconst X 3 dX1_cell_12 (by decide) ?_
  refine g_iadd X dX1_cell_13 (fun zq8 eq9 => ?_)
  have tq10 : zq8.toInt = (2 * ((Mq.1 37 5).toInt)) + 3 := add_nw eq9 tq7 (show (3 : Int32).toInt = 3 by decide) (by omega)
  refine g_iload_n X 2 rfl dX1_cell_14 ?_
  refine g_isub X dX1_cell_15 (fun zq11 eq12 => ?_)
  have tq13 : zq11.toInt = ((2 * ((Mq.1 37 5).toInt)) + 3) - a2 := sub_nw eq12 tq10 t2 (by omega)
  refine g_imul X dX1_cell_16 (fun zq14 eq15 => ?_)
  have hc := cellL (i := a2) (n := (Mq.1 37 5).toInt) (by omega)
  have hm : zq14.toInt = a2 * (2 * (Mq.1 37 5).toInt + 3 - a2) := mul_nw eq15 t2 tq13 (by omega)
  refine g_iconst X 2 dX1_cell_17 (by decide) ?_
  refine g_idiv X dX1_cell_18 (ne0 (show (2 : Int32).toInt = 2 by decide) (by omega)) (fun zq17 eq18 => ?_)
  have tq19 : zq17.toInt = (a2 * (2 * (Mq.1 37 5).toInt + 3 - a2)) / 2 := div_nw eq18 hm (show (2 : Int32).toInt = 2 by decide) (by omega)
  refine g_iadd X dX1_cell_19 (fun zq20 eq21 => ?_)
  have tq22 : zq20.toInt = (a1 * 325) + ((a2 * (2 * (Mq.1 37 5).toInt + 3 - a2)) / 2) := add_nw eq21 tq3 tq19 (by omega)
  refine g_iload_n X 3 rfl dX1_cell_20 ?_
  refine g_iadd X dX1_cell_21 (fun zq23 eq24 => ?_)
  have tq25 : zq23.toInt = ((a1 * 325) + ((a2 * (2 * (Mq.1 37 5).toInt + 3 - a2)) / 2)) + a3 := add_nw eq24 tq22 t3 (by omega)
  refine g_iload_n X 2 rfl dX1_cell_22 ?_
  refine g_isub X dX1_cell_23 (fun zq26 eq27 => ?_)
  have tq28 : zq26.toInt = (((a1 * 325) + ((a2 * (2 * (Mq.1 37 5).toInt + 3 - a2)) / 2)) + a3) - a2 := sub_nw eq27 tq25 t2 (by omega)
  exact g_iret X dX1_cell_24 ⟨_, _, rfl, tq28, (by omega), rfl⟩
set_option maxHeartbeats 4000000 in
set_option maxRecDepth 4000 in
theorem c_X1_cellsInUse (ad : Nat → Nat) (Mq : Mem) (Iq0 : Iv TX Mq) : Ctr ad yX1_cellsInUse cX1_cellsInUse 1 (some .int) 0 [.ref (ad 37)] Mq (fun v M' => ∃ (r : Int32) (a : Int), v = some (.int r) ∧ r.toInt = a ∧ (0 ≤ a ∧ a ≤ 325) ∧ Mq = M') := by
  refine ctr_of (L := [(0, .ref (ad 37))]) (by decide) (Nat.le_of_ble_eq_true rfl) rfl ?_
  intro Γ X
  have X : gX Γ cX1_cellsInUse RX1 1 (some .int) 0 ad _ := X
  refine g_aload_n X 0 rfl dX1_cellsInUse_0 ?_
  refine g_geti X f_X1_22 dX1_cellsInUse_1 (x := Mq.1 37 5) rfl ?_
  have bq1 := ig_37_5 Iq0
  refine g_iconst X 1 dX1_cellsInUse_4 (by decide) ?_
  refine g_iadd X dX1_cellsInUse_5 (fun zq2 eq3 => ?_)
  have tq4 : zq2.toInt = ((Mq.1 37 5).toInt) + 1 := add_nw eq3 rfl (show (1 : Int32).toInt = 1 by decide) (by omega)
  refine g_aload_n X 0 rfl dX1_cellsInUse_6 ?_
  refine g_geti X f_X1_22 dX1_cellsInUse_7 (x := Mq.1 37 5) rfl ?_
  have bq5 := ig_37_5 Iq0
  refine g_iconst X 2 dX1_cellsInUse_10 (by decide) ?_
  refine g_iadd X dX1_cellsInUse_11 (fun zq6 eq7 => ?_)
  have tq8 : zq6.toInt = ((Mq.1 37 5).toInt) + 2 := add_nw eq7 rfl (show (2 : Int32).toInt = 2 by decide) (by omega)
  refine g_imul X dX1_cellsInUse_12 (fun zq9 eq10 => ?_)
  have hc := useL (n := (Mq.1 37 5).toInt) (by omega)
  have hm : zq9.toInt = ((Mq.1 37 5).toInt + 1) * ((Mq.1 37 5).toInt + 2) := mul_nw eq10 tq4 tq8 (by omega)
  refine g_iconst X 2 dX1_cellsInUse_13 (by decide) ?_
  refine g_idiv X dX1_cellsInUse_14 (ne0 (show (2 : Int32).toInt = 2 by decide) (by omega)) (fun zq12 eq13 => ?_)
  have tq14 : zq12.toInt = (((Mq.1 37 5).toInt + 1) * ((Mq.1 37 5).toInt + 2)) / 2 := div_nw eq13 hm (show (2 : Int32).toInt = 2 by decide) (by omega)
  exact g_iret X dX1_cellsInUse_15 ⟨_, _, rfl, tq14, (by omega), rfl⟩
abbrev W_X1_clear : List (Nat × Nat) := [(38, 99)]
set_option maxHeartbeats 4000000 in
set_option maxRecDepth 4000 in
theorem c_X1_clear (ad : Nat → Nat) (Mq : Mem) (x1 : Int32) {a1 : Int} (t1 : x1.toInt = a1) (Iq0 : Iv TX Mq) (h1 : 0 ≤ a1 ∧ a1 ≤ 37) : Ctr ad yX1_clear cX1_clear 4 none 1 [.ref (ad 37), .int x1] Mq (fun v M' => v = none ∧ (True) ∧ Iv TX M' ∧ Fr W_X1_clear Mq M') := by
  refine ctr_of (L := [(0, .ref (ad 37)), (1, .int x1)]) (by decide) (Nat.le_of_ble_eq_true rfl) rfl ?_
  intro Γ X
  have X : gX Γ cX1_clear RX1 4 none 1 ad _ := X
  have frq0 : Fr W_X1_clear Mq Mq := Fr.rf
  refine g_aload_n X 0 rfl dX1_clear_0 ?_
  refine g_callV X m_X1_130 (c_X1_cellsInUse ad Mq Iq0) rfl (by decide) (Nat.le_of_ble_eq_true rfl) rfl dX1_clear_1 ?_
  rintro _ _ ⟨rq1, aq2, rfl, tq3, hq4, rfl⟩
  show G Γ Mq 4 [(0, .ref (ad 37)), (1, .int x1)] [.int rq1]
  refine g_istore_n X (i := 2) [(2, .int rq1), (0, .ref (ad 37)), (1, .int x1)] dX1_clear_4 rfl (by decide) rfl ?_
  refine g_iconst X 0 dX1_clear_5 (by decide) ?_
  refine g_istore_n X (i := 3) [(3, .int 0), (2, .int rq1), (0, .ref (ad 37)), (1, .int x1)] dX1_clear_6 rfl (by decide) rfl ?_
  have lp7 : ∀ n : Nat, ∀ (y3_7 : Int32) (b3_7 : Int), y3_7.toInt = b3_7 → ∀ (M_7 : Mem), (0 ≤ b3_7) → (Iv TX M_7) → (Fr W_X1_clear Mq M_7) → (aq2 - b3_7).toNat < n → G Γ M_7 7 [(3, .int y3_7), (2, .int rq1), (0, .ref (ad 37)), (1, .int x1)] [] := by
    intro n
    induction n with
    | zero => intro y3_7 b3_7 e3_7 M_7 i1 I_7 fr_7 hm; exact absurd hm (Nat.not_lt_zero _)
    | succ n ih7 =>
      intro y3_7 b3_7 e3_7 M_7 i1 I_7 fr_7 hm7
      refine g_iload_n X 0 rfl dX1_clear_7 ?_
      refine g_iload_n X 1 rfl dX1_clear_8 ?_
      refine g_icmp_ge X e3_7 tq3 (tgt := 31) dX1_clear_9 (by decide) (fun cq5 => ?_) (fun cq5 => ?_)
      · exact g_vret X dX1_clear_31 ⟨rfl, trivial, I_7, fr_7⟩
      · refine g_aload_n X 2 rfl dX1_clear_12 ?_
        refine g_getr X f_X1_11 dX1_clear_13 ?_
        refine g_iload_n X 3 rfl dX1_clear_16 ?_
        refine g_sipush X 325 dX1_clear_17 (by decide) ?_
        refine g_imul X dX1_clear_20 (fun zq6 eq7 => ?_)
        have tq8 : zq6.toInt = a1 * 325 := mul_nw eq7 t1 (show (325 : Int32).toInt = 325 by decide) (by omega)
        refine g_iload_n X 0 rfl dX1_clear_21 ?_
        refine g_iadd X dX1_clear_22 (fun zq9 eq10 => ?_)
        have tq11 : zq9.toInt = (a1 * 325) + b3_7 := add_nw eq10 tq8 e3_7 (by omega)
        refine g_iconst X 0 dX1_clear_23 (by decide) ?_
        refine g_iast X la_38 tq11 dX1_clear_24 (by omega) ?_
        have Iq12 : Iv TX (ui M_7 38 (((a1 * 325) + b3_7).toNat) 0) := I_7.otherA rfl
        have frq13 : Fr W_X1_clear Mq (ui M_7 38 (((a1 * 325) + b3_7).toNat) 0) := fr_7.ui rfl
        refine g_iinc X 0 (fun v => [(3, .int v), (2, .int rq1), (0, .ref (ad 37)), (1, .int x1)]) dX1_clear_25 rfl (by decide) (fun _ => rfl) (fun zq14 eq15 => ?_)
        have tq16 : zq14.toInt = b3_7 + 1 := add_nw eq15 e3_7 (show (Int32.ofInt 1).toInt = 1 by decide) (by omega)
        refine g_goto X (tgt := 7) dX1_clear_28 (by decide) ?_
        refine g_sub [0, 1, 2, 3] rfl ?_
        exact ih7 zq14 _ tq16 (ui M_7 38 (((a1 * 325) + b3_7).toNat) 0) (by omega) Iq12 frq13 (by omega)
  refine g_sub [0, 1, 2, 3] rfl ?_
  exact lp7 _ 0 _ (show (0 : Int32).toInt = 0 by decide) Mq (by omega) Iq0 frq0 (Nat.lt_succ_self _)
abbrev W_X1_addOne : List (Nat × Nat) := [(38, 99)]
set_option maxHeartbeats 4000000 in
set_option maxRecDepth 4000 in
theorem c_X1_addOne (ad : Nat → Nat) (Mq : Mem) (x1 : Int32) {a1 : Int} (t1 : x1.toInt = a1) (Iq0 : Iv TX Mq) (h1 : 0 ≤ a1 ∧ a1 ≤ 37) : Ctr ad yX1_addOne cX1_addOne 4 none 1 [.ref (ad 37), .int x1] Mq (fun v M' => v = none ∧ (True) ∧ Iv TX M' ∧ Fr W_X1_addOne Mq M') := by
  refine ctr_of (L := [(0, .ref (ad 37)), (1, .int x1)]) (by decide) (Nat.le_of_ble_eq_true rfl) rfl ?_
  intro Γ X
  have X : gX Γ cX1_addOne RX1 4 none 1 ad _ := X
  have frq0 : Fr W_X1_addOne Mq Mq := Fr.rf
  refine g_iconst X 0 dX1_addOne_0 (by decide) ?_
  refine g_istore_n X (i := 2) [(2, .int 0), (0, .ref (ad 37)), (1, .int x1)] dX1_addOne_1 rfl (by decide) rfl ?_
  have lp2 : ∀ n : Nat, ∀ (y2_2 : Int32) (b2_2 : Int), y2_2.toInt = b2_2 → ∀ (M_2 : Mem), (0 ≤ b2_2) → (Iv TX M_2) → (Fr W_X1_addOne Mq M_2) → ((Mq.1 37 5).toInt + 1 - b2_2).toNat < n → G Γ M_2 2 [(2, .int y2_2), (0, .ref (ad 37)), (1, .int x1)] [] := by
    intro n
    induction n with
    | zero => intro y2_2 b2_2 e2_2 M_2 i1 I_2 fr_2 hm; exact absurd hm (Nat.not_lt_zero _)
    | succ n ih2 =>
      intro y2_2 b2_2 e2_2 M_2 i1 I_2 fr_2 hm2
      have q37_5 : (M_2.1 37 5).toInt = (Mq.1 37 5).toInt := congrArg Int32.toInt (fr_2.at 37 5 rfl)
      have hL2 := ig_37_5 Iq0
      refine g_iload_n X 0 rfl dX1_addOne_2 ?_
      refine g_aload_n X 1 rfl dX1_addOne_3 ?_
      refine g_geti X f_X1_22 dX1_addOne_4 (x := M_2.1 37 5) rfl ?_
      have bq1 := ig_37_5 I_2
      refine g_icmp_gt X e2_2 rfl (tgt := 43) dX1_addOne_7 (by decide) (fun cq2 => ?_) (fun cq2 => ?_)
      · exact g_vret X dX1_addOne_43 ⟨rfl, trivial, I_2, fr_2⟩
      · refine g_aload_n X 1 rfl dX1_addOne_10 ?_
        refine g_iload_n X 2 rfl dX1_addOne_11 ?_
        refine g_iload_n X 0 rfl dX1_addOne_12 ?_
        refine g_iload_n X 0 rfl dX1_addOne_13 ?_
        refine g_callV X m_X1_69 (c_X1_cell ad M_2 x1 t1 y2_2 e2_2 y2_2 e2_2 I_2 (by omega) (by omega) (by omega)) rfl (by decide) (Nat.le_of_ble_eq_true rfl) rfl dX1_addOne_14 ?_
        rintro _ _ ⟨rq3, aq4, rfl, tq5, hq6, rfl⟩
        show G Γ M_2 17 [(2, .int y2_2), (0, .ref (ad 37)), (1, .int x1)] [.int rq3]
        refine g_istore_n X (i := 3) [(3, .int rq3), (2, .int y2_2), (0, .ref (ad 37)), (1, .int x1)] dX1_addOne_17 rfl (by decide) rfl ?_
        refine g_aload_n X 2 rfl dX1_addOne_18 ?_
        refine g_getr X f_X1_11 dX1_addOne_19 ?_
        refine g_iload_n X 0 rfl dX1_addOne_22 ?_
        refine g_aload_n X 2 rfl dX1_addOne_23 ?_
        refine g_getr X f_X1_11 dX1_addOne_24 ?_
        refine g_iload_n X 0 rfl dX1_addOne_27 ?_
        refine g_iald X la_38 tq5 dX1_addOne_28 (by omega) (x := M_2.1 38 aq4.toNat) rfl ?_
        refine g_iconst X 1 dX1_addOne_29 (by decide) ?_
        refine g_iadd X dX1_addOne_30 (fun zq7 eq8 => ?_)
        refine g_ldc X k_X1_134 dX1_addOne_31 ?_
        refine g_min X ml_X1_135 (by decide) (Nat.le_of_ble_eq_true rfl) rfl (show (1000000 : Int32).toInt = 1000000 by decide) dX1_addOne_33 (fun zq10 hq11 => ?_)
        refine g_iast X la_38 tq5 dX1_addOne_36 (by omega) ?_
        have Iq12 : Iv TX (ui M_2 38 aq4.toNat zq10) := I_2.otherA rfl
        have frq13 : Fr W_X1_addOne Mq (ui M_2 38 aq4.toNat zq10) := fr_2.ui rfl
        refine g_iinc X 1 (fun v => [(2, .int v), (3, .int rq3), (0, .ref (ad 37)), (1, .int x1)]) dX1_addOne_37 rfl (by decide) (fun _ => rfl) (fun zq14 eq15 => ?_)
        have tq16 : zq14.toInt = b2_2 + 1 := add_nw eq15 e2_2 (show (Int32.ofInt 1).toInt = 1 by decide) (by omega)
        refine g_goto X (tgt := 2) dX1_addOne_40 (by decide) ?_
        refine g_sub [0, 2, 3] rfl ?_
        exact ih2 zq14 _ tq16 (ui M_2 38 aq4.toNat zq10) (by omega) Iq12 frq13 (by omega)
  refine g_sub [0, 1, 2] rfl ?_
  exact lp2 _ 0 _ (show (0 : Int32).toInt = 0 by decide) Mq (by omega) Iq0 frq0 (Nat.lt_succ_self _)
abbrev W_X1_addTable : List (Nat × Nat) := [(38, 99)]
set_option maxHeartbeats 4000000 in
set_option maxRecDepth 4000 in
theorem c_X1_addTable (ad : Nat → Nat) (Mq : Mem) (x1 : Int32) {a1 : Int} (t1 : x1.toInt = a1) (x2 : Int32) {a2 : Int} (t2 : x2.toInt = a2) (Iq0 : Iv TX Mq) (h1 : 0 ≤ a1 ∧ a1 ≤ 37) (h2 : 0 ≤ a2 ∧ a2 ≤ 37) : Ctr ad yX1_addTable cX1_addTable 6 none 1 [.ref (ad 37), .int x1, .int x2] Mq (fun v M' => v = none ∧ (True) ∧ Iv TX M' ∧ Fr W_X1_addTable Mq M') := by
  refine ctr_of (L := [(0, .ref (ad 37)), (1, .int x1), (2, .int x2)]) (by decide) (Nat.le_of_ble_eq_true rfl) rfl ?_
  intro Γ X
  have X : gX Γ cX1_addTable RX1 6 none 1 ad _ := X
  have frq0 : Fr W_X1_addTable Mq Mq := Fr.rf
  refine g_aload_n X 0 rfl dX1_addTable_0 ?_
  refine g_callV X m_X1_130 (c_X1_cellsInUse ad Mq Iq0) rfl (by decide) (Nat.le_of_ble_eq_true rfl) rfl dX1_addTable_1 ?_
  rintro _ _ ⟨rq1, aq2, rfl, tq3, hq4, rfl⟩
  show G Γ Mq 4 [(0, .ref (ad 37)), (1, .int x1), (2, .int x2)] [.int rq1]
  refine g_istore_n X (i := 3) [(3, .int rq1), (0, .ref (ad 37)), (1, .int x1), (2, .int x2)] dX1_addTable_4 rfl (by decide) rfl ?_
  refine g_iconst X 0 dX1_addTable_5 (by decide) ?_
  refine g_istore X [(4, .int 0), (3, .int rq1), (0, .ref (ad 37)), (1, .int x1), (2, .int x2)] dX1_addTable_6 (by decide) rfl ?_
  have lp8 : ∀ n : Nat, ∀ (y4_8 : Int32) (b4_8 : Int), y4_8.toInt = b4_8 → ∀ (M_8 : Mem), (0 ≤ b4_8) → (Iv TX M_8) → (Fr W_X1_addTable Mq M_8) → (aq2 - b4_8).toNat < n → G Γ M_8 8 [(4, .int y4_8), (3, .int rq1), (0, .ref (ad 37)), (1, .int x1), (2, .int x2)] [] := by
    intro n
    induction n with
    | zero => intro y4_8 b4_8 e4_8 M_8 i1 I_8 fr_8 hm; exact absurd hm (Nat.not_lt_zero _)
    | succ n ih8 =>
      intro y4_8 b4_8 e4_8 M_8 i1 I_8 fr_8 hm8
      refine g_iload X 0 rfl dX1_addTable_8 ?_
      refine g_iload_n X 1 rfl dX1_addTable_10 ?_
      refine g_icmp_ge X e4_8 tq3 (tgt := 69) dX1_addTable_11 (by decide) (fun cq5 => ?_) (fun cq5 => ?_)
      · exact g_vret X dX1_addTable_69 ⟨rfl, trivial, I_8, fr_8⟩
      · refine g_aload_n X 2 rfl dX1_addTable_14 ?_
        refine g_getr X f_X1_11 dX1_addTable_15 ?_
        refine g_iload_n X 3 rfl dX1_addTable_18 ?_
        refine g_sipush X 325 dX1_addTable_19 (by decide) ?_
        refine g_imul X dX1_addTable_22 (fun zq6 eq7 => ?_)
        have tq8 : zq6.toInt = a1 * 325 := mul_nw eq7 t1 (show (325 : Int32).toInt = 325 by decide) (by omega)
        refine g_iload X 0 rfl dX1_addTable_23 ?_
        refine g_iadd X dX1_addTable_25 (fun zq9 eq10 => ?_)
        have tq11 : zq9.toInt = (a1 * 325) + b4_8 := add_nw eq10 tq8 e4_8 (by omega)
        refine g_iald X la_38 tq11 dX1_addTable_26 (by omega) (x := M_8.1 38 (((a1 * 325) + b4_8).toNat)) rfl ?_
        refine g_aload_n X 2 rfl dX1_addTable_27 ?_
        refine g_getr X f_X1_11 dX1_addTable_28 ?_
        refine g_iload_n X 4 rfl dX1_addTable_31 ?_
        refine g_sipush X 325 dX1_addTable_32 (by decide) ?_
        refine g_imul X dX1_addTable_35 (fun zq12 eq13 => ?_)
        have tq14 : zq12.toInt = a2 * 325 := mul_nw eq13 t2 (show (325 : Int32).toInt = 325 by decide) (by omega)
        refine g_iload X 0 rfl dX1_addTable_36 ?_
        refine g_iadd X dX1_addTable_38 (fun zq15 eq16 => ?_)
        have tq17 : zq15.toInt = (a2 * 325) + b4_8 := add_nw eq16 tq14 e4_8 (by omega)
        refine g_iald X la_38 tq17 dX1_addTable_39 (by omega) (x := M_8.1 38 (((a2 * 325) + b4_8).toNat)) rfl ?_
        refine g_iadd X dX1_addTable_40 (fun zq18 eq19 => ?_)
        refine g_istore X [(5, .int zq18), (4, .int y4_8), (3, .int rq1), (0, .ref (ad 37)), (1, .int x1), (2, .int x2)] dX1_addTable_41 (by decide) rfl ?_
        refine g_aload_n X 3 rfl dX1_addTable_43 ?_
        refine g_getr X f_X1_11 dX1_addTable_44 ?_
        refine g_iload_n X 4 rfl dX1_addTable_47 ?_
        refine g_sipush X 325 dX1_addTable_48 (by decide) ?_
        refine g_imul X dX1_addTable_51 (fun zq21 eq22 => ?_)
        have tq23 : zq21.toInt = a1 * 325 := mul_nw eq22 t1 (show (325 : Int32).toInt = 325 by decide) (by omega)
        refine g_iload X 1 rfl dX1_addTable_52 ?_
        refine g_iadd X dX1_addTable_54 (fun zq24 eq25 => ?_)
        have tq26 : zq24.toInt = (a1 * 325) + b4_8 := add_nw eq25 tq23 e4_8 (by omega)
        refine g_iload X 0 rfl dX1_addTable_55 ?_
        refine g_ldc X k_X1_134 dX1_addTable_57 ?_
        refine g_min X ml_X1_135 (by decide) (Nat.le_of_ble_eq_true rfl) rfl (show (1000000 : Int32).toInt = 1000000 by decide) dX1_addTable_59 (fun zq27 hq28 => ?_)
        refine g_iast X la_38 tq26 dX1_addTable_62 (by omega) ?_
        have Iq29 : Iv TX (ui M_8 38 (((a1 * 325) + b4_8).toNat) zq27) := I_8.otherA rfl
        have frq30 : Fr W_X1_addTable Mq (ui M_8 38 (((a1 * 325) + b4_8).toNat) zq27) := fr_8.ui rfl
        refine g_iinc X 1 (fun v => [(4, .int v), (5, .int zq18), (3, .int rq1), (0, .ref (ad 37)), (1, .int x1), (2, .int x2)]) dX1_addTable_63 rfl (by decide) (fun _ => rfl) (fun zq31 eq32 => ?_)
        have tq33 : zq31.toInt = b4_8 + 1 := add_nw eq32 e4_8 (show (Int32.ofInt 1).toInt = 1 by decide) (by omega)
        refine g_goto X (tgt := 8) dX1_addTable_66 (by decide) ?_
        refine g_sub [0, 2, 3, 4, 5] rfl ?_
        exact ih8 zq31 _ tq33 (ui M_8 38 (((a1 * 325) + b4_8).toNat) zq27) (by omega) Iq29 frq30 (by omega)
  refine g_sub [0, 1, 2, 3, 4] rfl ?_
  exact lp8 _ 0 _ (show (0 : Int32).toInt = 0 by decide) Mq (by omega) Iq0 frq0 (Nat.lt_succ_self _)
abbrev W_X1_followBySlot : List (Nat × Nat) := [(38, 99)]
set_option maxHeartbeats 4000000 in
set_option maxRecDepth 4000 in
theorem c_X1_followBySlot (ad : Nat → Nat) (Mq : Mem) (x1 : Int32) {a1 : Int} (t1 : x1.toInt = a1) (Iq0 : Iv TX Mq) (h1 : 0 ≤ a1 ∧ a1 ≤ 7) : Ctr ad yX1_followBySlot cX1_followBySlot 6 none 1 [.ref (ad 37), .int x1] Mq (fun v M' => v = none ∧ (True) ∧ Iv TX M' ∧ Fr W_X1_followBySlot Mq M') := by
  refine ctr_of (L := [(0, .ref (ad 37)), (1, .int x1)]) (by decide) (Nat.le_of_ble_eq_true rfl) rfl ?_
  intro Γ X
  have X : gX Γ cX1_followBySlot RX1 6 none 1 ad _ := X
  have frq0 : Fr W_X1_followBySlot Mq Mq := Fr.rf
  refine g_iconst X 0 dX1_followBySlot_0 (by decide) ?_
  refine g_istore_n X (i := 2) [(2, .int 0), (0, .ref (ad 37)), (1, .int x1)] dX1_followBySlot_1 rfl (by decide) rfl ?_
  have lp2 : ∀ n : Nat, ∀ (y2_2 : Int32) (b2_2 : Int), y2_2.toInt = b2_2 → ∀ (M_2 : Mem), (0 ≤ b2_2) → (Iv TX M_2) → (Fr W_X1_followBySlot Mq M_2) → ((Mq.1 37 5).toInt + 1 - b2_2).toNat < n → G Γ M_2 2 [(2, .int y2_2), (0, .ref (ad 37)), (1, .int x1)] [] := by
    intro n
    induction n with
    | zero => intro y2_2 b2_2 e2_2 M_2 i1 I_2 fr_2 hm; exact absurd hm (Nat.not_lt_zero _)
    | succ n ih2 =>
      intro y2_2 b2_2 e2_2 M_2 i1 I_2 fr_2 hm2
      have q37_5 : (M_2.1 37 5).toInt = (Mq.1 37 5).toInt := congrArg Int32.toInt (fr_2.at 37 5 rfl)
      have hL2 := ig_37_5 Iq0
      have q37_6 : (M_2.1 37 6).toInt = (Mq.1 37 6).toInt := congrArg Int32.toInt (fr_2.at 37 6 rfl)
      have hT2 := ig_37_6 Iq0
      refine g_iload_n X 0 rfl dX1_followBySlot_2 ?_
      refine g_aload_n X 1 rfl dX1_followBySlot_3 ?_
      refine g_geti X f_X1_22 dX1_followBySlot_4 (x := M_2.1 37 5) rfl ?_
      have bq1 := ig_37_5 I_2
      refine g_icmp_gt X e2_2 rfl (tgt := 107) dX1_followBySlot_7 (by decide) (fun cq2 => ?_) (fun cq2 => ?_)
      · exact g_vret X dX1_followBySlot_107 ⟨rfl, trivial, I_2, fr_2⟩
      · refine g_aload_n X 1 rfl dX1_followBySlot_10 ?_
        refine g_geti X f_X1_22 dX1_followBySlot_11 (x := M_2.1 37 5) rfl ?_
        have bq3 := ig_37_5 I_2
        refine g_istore_n X (i := 3) [(3, .int (M_2.1 37 5)), (2, .int y2_2), (0, .ref (ad 37)), (1, .int x1)] dX1_followBySlot_14 rfl (by decide) rfl ?_
        have lp15 : ∀ n : Nat, ∀ (y3_15 : Int32) (b3_15 : Int), y3_15.toInt = b3_15 → ∀ (M_15 : Mem), (b2_2 ≤ b3_15 ∧ b3_15 ≤ (Mq.1 37 5).toInt) → (Iv TX M_15) → (Fr W_X1_followBySlot Mq M_15) → (b3_15 - b2_2).toNat < n → G Γ M_15 15 [(3, .int y3_15), (2, .int y2_2), (0, .ref (ad 37)), (1, .int x1)] [] := by
          intro n
          induction n with
          | zero => intro y3_15 b3_15 e3_15 M_15 i2 I_15 fr_15 hm; exact absurd hm (Nat.not_lt_zero _)
          | succ n ih15 =>
            intro y3_15 b3_15 e3_15 M_15 i2 I_15 fr_15 hm15
            have q37_5 : (M_15.1 37 5).toInt = (Mq.1 37 5).toInt := congrArg Int32.toInt (fr_15.at 37 5 rfl)
            have hL15 := ig_37_5 Iq0
            have q37_6 : (M_15.1 37 6).toInt = (Mq.1 37 6).toInt := congrArg Int32.toInt (fr_15.at 37 6 rfl)
            have hT15 := ig_37_6 Iq0
            refine g_iload_n X 0 rfl dX1_followBySlot_15 ?_
            refine g_iload_n X 1 rfl dX1_followBySlot_16 ?_
            refine g_icmp_le X e3_15 e2_2 (tgt := 85) dX1_followBySlot_17 (by decide) (fun cq4 => ?_) (fun cq4 => ?_)
            · refine g_aload_n X 2 rfl dX1_followBySlot_85 ?_
              refine g_getr X f_X1_11 dX1_followBySlot_86 ?_
              refine g_aload_n X 2 rfl dX1_followBySlot_89 ?_
              refine g_aload_n X 2 rfl dX1_followBySlot_90 ?_
              refine g_geti X f_X1_26 dX1_followBySlot_91 (x := M_15.1 37 6) rfl ?_
              have bq5 := ig_37_6 I_15
              refine g_iload_n X 1 rfl dX1_followBySlot_94 ?_
              refine g_iload_n X 1 rfl dX1_followBySlot_95 ?_
              refine g_callV X m_X1_69 (c_X1_cell ad M_15 (M_15.1 37 6) rfl y2_2 e2_2 y2_2 e2_2 I_15 (by omega) (by omega) (by omega)) rfl (by decide) (Nat.le_of_ble_eq_true rfl) rfl dX1_followBySlot_96 ?_
              rintro _ _ ⟨rq6, aq7, rfl, tq8, hq9, rfl⟩
              show G Γ M_15 99 [(3, .int y3_15), (2, .int y2_2), (0, .ref (ad 37)), (1, .int x1)] [.int rq6, .ref (ad 38)]
              refine g_iconst X 0 dX1_followBySlot_99 (by decide) ?_
              refine g_iast X la_38 tq8 dX1_followBySlot_100 (by omega) ?_
              have Iq10 : Iv TX (ui M_15 38 aq7.toNat 0) := I_15.otherA rfl
              have frq11 : Fr W_X1_followBySlot Mq (ui M_15 38 aq7.toNat 0) := fr_15.ui rfl
              refine g_iinc X 1 (fun v => [(2, .int v), (3, .int y3_15), (0, .ref (ad 37)), (1, .int x1)]) dX1_followBySlot_101 rfl (by decide) (fun _ => rfl) (fun zq12 eq13 => ?_)
              have tq14 : zq12.toInt = b2_2 + 1 := add_nw eq13 e2_2 (show (Int32.ofInt 1).toInt = 1 by decide) (by omega)
              refine g_goto X (tgt := 2) dX1_followBySlot_104 (by decide) ?_
              refine g_sub [0, 2, 3] rfl ?_
              exact ih2 zq12 _ tq14 (ui M_15 38 aq7.toNat 0) (by omega) Iq10 frq11 (by omega)
            · refine g_aload_n X 2 rfl dX1_followBySlot_20 ?_
              refine g_getr X f_X1_11 dX1_followBySlot_21 ?_
              refine g_aload_n X 2 rfl dX1_followBySlot_24 ?_
              refine g_aload_n X 2 rfl dX1_followBySlot_25 ?_
              refine g_geti X f_X1_26 dX1_followBySlot_26 (x := M_15.1 37 6) rfl ?_
              have bq15 := ig_37_6 I_15
              refine g_iload_n X 1 rfl dX1_followBySlot_29 ?_
              refine g_iload_n X 0 rfl dX1_followBySlot_30 ?_
              refine g_iconst X 1 dX1_followBySlot_31 (by decide) ?_
              refine g_isub X dX1_followBySlot_32 (fun zq16 eq17 => ?_)
              have tq18 : zq16.toInt = b3_15 - 1 := sub_nw eq17 e3_15 (show (1 : Int32).toInt = 1 by decide) (by omega)
              refine g_callV X m_X1_69 (c_X1_cell ad M_15 (M_15.1 37 6) rfl y2_2 e2_2 zq16 tq18 I_15 (by omega) (by omega) (by omega)) rfl (by decide) (Nat.le_of_ble_eq_true rfl) rfl dX1_followBySlot_33 ?_
              rintro _ _ ⟨rq19, aq20, rfl, tq21, hq22, rfl⟩
              show G Γ M_15 36 [(3, .int y3_15), (2, .int y2_2), (0, .ref (ad 37)), (1, .int x1)] [.int rq19, .ref (ad 38)]
              refine g_iald X la_38 tq21 dX1_followBySlot_36 (by omega) (x := M_15.1 38 aq20.toNat) rfl ?_
              refine g_i2l X dX1_followBySlot_37 (fun zq23 eq24 => ?_)
              have tq25 : zq23.toInt = (M_15.1 38 aq20.toNat).toInt := i2l_nw eq24 rfl
              refine g_aload_n X 2 rfl dX1_followBySlot_38 ?_
              refine g_getr X f_X1_15 dX1_followBySlot_39 ?_
              refine g_iload_n X 0 rfl dX1_followBySlot_42 ?_
              refine g_iconst X 1 dX1_followBySlot_43 (by decide) ?_
              refine g_isub X dX1_followBySlot_44 (fun zq26 eq27 => ?_)
              have tq28 : zq26.toInt = b3_15 - 1 := sub_nw eq27 e3_15 (show (1 : Int32).toInt = 1 by decide) (by omega)
              refine g_bipush X 8 dX1_followBySlot_45 (by decide) ?_
              refine g_imul X dX1_followBySlot_47 (fun zq29 eq30 => ?_)
              have tq31 : zq29.toInt = (b3_15 - 1) * 8 := mul_nw eq30 tq28 (show (8 : Int32).toInt = 8 by decide) (by omega)
              refine g_iload_n X 3 rfl dX1_followBySlot_48 ?_
              refine g_iadd X dX1_followBySlot_49 (fun zq32 eq33 => ?_)
              have tq34 : zq32.toInt = ((b3_15 - 1) * 8) + a1 := add_nw eq33 tq31 t1 (by omega)
              refine g_iald X la_39 tq34 dX1_followBySlot_50 (by omega) (x := M_15.1 39 ((((b3_15 - 1) * 8) + a1).toNat)) rfl ?_
              refine g_i2l X dX1_followBySlot_51 (fun zq35 eq36 => ?_)
              have tq37 : zq35.toInt = (M_15.1 39 ((((b3_15 - 1) * 8) + a1).toNat)).toInt := i2l_nw eq36 rfl
              refine g_lmul X dX1_followBySlot_52 (fun zq38 eq39 => ?_)
              refine g_lstore X [(4, .long zq38), (3, .int y3_15), (2, .int y2_2), (0, .ref (ad 37)), (1, .int x1)] dX1_followBySlot_53 (by decide) rfl ?_
              refine g_aload_n X 3 rfl dX1_followBySlot_55 ?_
              refine g_getr X f_X1_11 dX1_followBySlot_56 ?_
              refine g_aload_n X 3 rfl dX1_followBySlot_59 ?_
              refine g_aload_n X 3 rfl dX1_followBySlot_60 ?_
              refine g_geti X f_X1_26 dX1_followBySlot_61 (x := M_15.1 37 6) rfl ?_
              have bq40 := ig_37_6 I_15
              refine g_iload_n X 2 rfl dX1_followBySlot_64 ?_
              refine g_iload_n X 1 rfl dX1_followBySlot_65 ?_
              refine g_callV X m_X1_69 (c_X1_cell ad M_15 (M_15.1 37 6) rfl y2_2 e2_2 y3_15 e3_15 I_15 (by omega) (by omega) (by omega)) rfl (by decide) (Nat.le_of_ble_eq_true rfl) rfl dX1_followBySlot_66 ?_
              rintro _ _ ⟨rq41, aq42, rfl, tq43, hq44, rfl⟩
              show G Γ M_15 69 [(4, .long zq38), (3, .int y3_15), (2, .int y2_2), (0, .ref (ad 37)), (1, .int x1)] [.int rq41, .ref (ad 38)]
              refine g_lload X 0 rfl dX1_followBySlot_69 ?_
              refine g_ldc2 X k_X1_140 dX1_followBySlot_71 ?_
              refine g_minl X ml_X1_142 (by decide) (Nat.le_of_ble_eq_true rfl) rfl (show (1000000 : Int64).toInt = 1000000 by decide) dX1_followBySlot_74 (fun zq45 hq46 => ?_)
              refine g_l2i X dX1_followBySlot_77 (fun zq47 eq48 => ?_)
              refine g_iast X la_38 tq43 dX1_followBySlot_78 (by omega) ?_
              have Iq49 : Iv TX (ui M_15 38 aq42.toNat zq47) := I_15.otherA rfl
              have frq50 : Fr W_X1_followBySlot Mq (ui M_15 38 aq42.toNat zq47) := fr_15.ui rfl
              refine g_iinc X 1 (fun v => [(3, .int v), (4, .long zq38), (2, .int y2_2), (0, .ref (ad 37)), (1, .int x1)]) dX1_followBySlot_79 rfl (by decide) (fun _ => rfl) (fun zq51 eq52 => ?_)
              have tq53 : zq51.toInt = b3_15 + (-1) := add_nw eq52 e3_15 (show (Int32.ofInt (-1)).toInt = (-1) by decide) (by omega)
              refine g_goto X (tgt := 15) dX1_followBySlot_82 (by decide) ?_
              refine g_sub [0, 2, 3, 4] rfl ?_
              exact ih15 zq51 _ tq53 (ui M_15 38 aq42.toNat zq47) (by omega) Iq49 frq50 (by omega)
        refine g_sub [0, 1, 2, 3] rfl ?_
        exact lp15 _ (M_2.1 37 5) _ rfl M_2 (by omega) I_2 fr_2 (Nat.lt_succ_self _)
  refine g_sub [0, 1, 2] rfl ?_
  exact lp2 _ 0 _ (show (0 : Int32).toInt = 0 by decide) Mq (by omega) Iq0 frq0 (Nat.lt_succ_self _)
abbrev W_X1_multiply : List (Nat × Nat) := [(38, 99)]
set_option maxHeartbeats 4000000 in
set_option maxRecDepth 4000 in
theorem c_X1_multiply (ad : Nat → Nat) (Mq : Mem) (x1 : Int32) {a1 : Int} (t1 : x1.toInt = a1) (x2 : Int32) {a2 : Int} (t2 : x2.toInt = a2) (Iq0 : Iv TX Mq) (h1 : 0 ≤ a1 ∧ a1 ≤ 37) (h2 : 0 ≤ a2 ∧ a2 ≤ 37) : Ctr ad yX1_multiply cX1_multiply 12 none 1 [.ref (ad 37), .int x1, .int x2] Mq (fun v M' => v = none ∧ (True) ∧ Iv TX M' ∧ Fr W_X1_multiply Mq M') := by
  refine ctr_of (L := [(0, .ref (ad 37)), (1, .int x1), (2, .int x2)]) (by decide) (Nat.le_of_ble_eq_true rfl) rfl ?_
  intro Γ X
  have X : gX Γ cX1_multiply RX1 12 none 1 ad _ := X
  have frq0 : Fr W_X1_multiply Mq Mq := Fr.rf
  refine g_iconst X 0 dX1_multiply_0 (by decide) ?_
  refine g_istore_n X (i := 3) [(3, .int 0), (0, .ref (ad 37)), (1, .int x1), (2, .int x2)] dX1_multiply_1 rfl (by decide) rfl ?_
  have lp2 : ∀ n : Nat, ∀ (y3_2 : Int32) (b3_2 : Int), y3_2.toInt = b3_2 → ∀ (M_2 : Mem), (0 ≤ b3_2) → (Iv TX M_2) → (Fr W_X1_multiply Mq M_2) → ((Mq.1 37 5).toInt + 1 - b3_2).toNat < n → G Γ M_2 2 [(3, .int y3_2), (0, .ref (ad 37)), (1, .int x1), (2, .int x2)] [] := by
    intro n
    induction n with
    | zero => intro y3_2 b3_2 e3_2 M_2 i1 I_2 fr_2 hm; exact absurd hm (Nat.not_lt_zero _)
    | succ n ih2 =>
      intro y3_2 b3_2 e3_2 M_2 i1 I_2 fr_2 hm2
      have q37_5 : (M_2.1 37 5).toInt = (Mq.1 37 5).toInt := congrArg Int32.toInt (fr_2.at 37 5 rfl)
      have hL2 := ig_37_5 Iq0
      refine g_iload_n X 0 rfl dX1_multiply_2 ?_
      refine g_aload_n X 1 rfl dX1_multiply_3 ?_
      refine g_geti X f_X1_22 dX1_multiply_4 (x := M_2.1 37 5) rfl ?_
      have bq1 := ig_37_5 I_2
      refine g_icmp_gt X e3_2 rfl (tgt := 156) dX1_multiply_7 (by decide) (fun cq2 => ?_) (fun cq2 => ?_)
      · exact g_vret X dX1_multiply_156 ⟨rfl, trivial, I_2, fr_2⟩
      · refine g_aload_n X 1 rfl dX1_multiply_10 ?_
        refine g_geti X f_X1_22 dX1_multiply_11 (x := M_2.1 37 5) rfl ?_
        have bq3 := ig_37_5 I_2
        refine g_istore X [(4, .int (M_2.1 37 5)), (3, .int y3_2), (0, .ref (ad 37)), (1, .int x1), (2, .int x2)] dX1_multiply_14 (by decide) rfl ?_
        have lp16 : ∀ n : Nat, ∀ (y4_16 : Int32) (b4_16 : Int), y4_16.toInt = b4_16 → ∀ (M_16 : Mem), (b3_2 - 1 ≤ b4_16 ∧ b4_16 ≤ (Mq.1 37 5).toInt) → (Iv TX M_16) → (Fr W_X1_multiply Mq M_16) → (b4_16 - b3_2 + 1).toNat < n → G Γ M_16 16 [(4, .int y4_16), (3, .int y3_2), (0, .ref (ad 37)), (1, .int x1), (2, .int x2)] [] := by
          intro n
          induction n with
          | zero => intro y4_16 b4_16 e4_16 M_16 i2 I_16 fr_16 hm; exact absurd hm (Nat.not_lt_zero _)
          | succ n ih16 =>
            intro y4_16 b4_16 e4_16 M_16 i2 I_16 fr_16 hm16
            have r37_5 : (M_16.1 37 5).toInt = (Mq.1 37 5).toInt := congrArg Int32.toInt (fr_16.at 37 5 rfl)
            have hL16 := ig_37_5 Iq0
            refine g_iload X 0 rfl dX1_multiply_16 ?_
            refine g_iload_n X 1 rfl dX1_multiply_18 ?_
            refine g_icmp_lt X e4_16 e3_2 (tgt := 150) dX1_multiply_19 (by decide) (fun cq4 => ?_) (fun cq4 => ?_)
            · refine g_iinc X 1 (fun v => [(3, .int v), (4, .int y4_16), (0, .ref (ad 37)), (1, .int x1), (2, .int x2)]) dX1_multiply_150 rfl (by decide) (fun _ => rfl) (fun zq5 eq6 => ?_)
              have tq7 : zq5.toInt = b3_2 + 1 := add_nw eq6 e3_2 (show (Int32.ofInt 1).toInt = 1 by decide) (by omega)
              refine g_goto X (tgt := 2) dX1_multiply_153 (by decide) ?_
              refine g_sub [0, 2, 3, 4] rfl ?_
              exact ih2 zq5 _ tq7 M_16 (by omega) I_16 fr_16 (by omega)
            · refine g_aload_n X 2 rfl dX1_multiply_22 ?_
              refine g_iload_n X 3 rfl dX1_multiply_23 ?_
              refine g_iload_n X 1 rfl dX1_multiply_24 ?_
              refine g_iload X 0 rfl dX1_multiply_25 ?_
              refine g_callV X m_X1_69 (c_X1_cell ad M_16 x1 t1 y3_2 e3_2 y4_16 e4_16 I_16 (by omega) (by omega) (by omega)) rfl (by decide) (Nat.le_of_ble_eq_true rfl) rfl dX1_multiply_27 ?_
              rintro _ _ ⟨rq8, aq9, rfl, tq10, hq11, rfl⟩
              show G Γ M_16 30 [(4, .int y4_16), (3, .int y3_2), (0, .ref (ad 37)), (1, .int x1), (2, .int x2)] [.int rq8]
              refine g_istore X [(5, .int rq8), (4, .int y4_16), (3, .int y3_2), (0, .ref (ad 37)), (1, .int x1), (2, .int x2)] dX1_multiply_30 (by decide) rfl ?_
              refine g_aload_n X 3 rfl dX1_multiply_32 ?_
              refine g_iload_n X 5 rfl dX1_multiply_33 ?_
              refine g_iload X 1 rfl dX1_multiply_34 ?_
              refine g_iload X 1 rfl dX1_multiply_36 ?_
              refine g_callV X m_X1_69 (c_X1_cell ad M_16 x2 t2 y4_16 e4_16 y4_16 e4_16 I_16 (by omega) (by omega) (by omega)) rfl (by decide) (Nat.le_of_ble_eq_true rfl) rfl dX1_multiply_38 ?_
              rintro _ _ ⟨rq12, aq13, rfl, tq14, hq15, rfl⟩
              show G Γ M_16 41 [(5, .int rq8), (4, .int y4_16), (3, .int y3_2), (0, .ref (ad 37)), (1, .int x1), (2, .int x2)] [.int rq12]
              refine g_istore X [(6, .int rq12), (5, .int rq8), (4, .int y4_16), (3, .int y3_2), (0, .ref (ad 37)), (1, .int x1), (2, .int x2)] dX1_multiply_41 (by decide) rfl ?_
              refine g_aload_n X 4 rfl dX1_multiply_43 ?_
              refine g_getr X f_X1_11 dX1_multiply_44 ?_
              refine g_iload X 1 rfl dX1_multiply_47 ?_
              refine g_iald X la_38 tq10 dX1_multiply_49 (by omega) (x := M_16.1 38 aq9.toNat) rfl ?_
              refine g_istore X [(7, .int (M_16.1 38 aq9.toNat)), (6, .int rq12), (5, .int rq8), (4, .int y4_16), (3, .int y3_2), (0, .ref (ad 37)), (1, .int x1), (2, .int x2)] dX1_multiply_50 (by decide) rfl ?_
              refine g_aload_n X 5 rfl dX1_multiply_52 ?_
              refine g_getr X f_X1_11 dX1_multiply_53 ?_
              refine g_iload X 2 rfl dX1_multiply_56 ?_
              refine g_iconst X 0 dX1_multiply_58 (by decide) ?_
              refine g_iast X la_38 tq10 dX1_multiply_59 (by omega) ?_
              have Iq16 : Iv TX (ui M_16 38 aq9.toNat 0) := I_16.otherA rfl
              have frq17 : Fr W_X1_multiply Mq (ui M_16 38 aq9.toNat 0) := fr_16.ui rfl
              refine g_iload X 0 rfl dX1_multiply_60 ?_
              refine g_if_ne X rfl (tgt := 69) dX1_multiply_62 (by decide) (fun cq18 => ?_) (fun cq18 => ?_)
              · refine g_aload_n X 5 rfl dX1_multiply_69 ?_
                refine g_geti X f_X1_22 dX1_multiply_70 (x := M_16.1 37 5) rfl ?_
                have bq19 := ig_37_5 I_16
                refine g_iload X 3 rfl dX1_multiply_73 ?_
                refine g_isub X dX1_multiply_75 (fun zq20 eq21 => ?_)
                have tq22 : zq20.toInt = ((M_16.1 37 5).toInt) - b4_16 := sub_nw eq21 rfl e4_16 (by omega)
                refine g_iconst X 1 dX1_multiply_76 (by decide) ?_
                refine g_iadd X dX1_multiply_77 (fun zq23 eq24 => ?_)
                have tq25 : zq23.toInt = (((M_16.1 37 5).toInt) - b4_16) + 1 := add_nw eq24 tq22 (show (1 : Int32).toInt = 1 by decide) (by omega)
                refine g_istore X [(8, .int zq23), (7, .int (M_16.1 38 aq9.toNat)), (6, .int rq12), (5, .int rq8), (4, .int y4_16), (3, .int y3_2), (0, .ref (ad 37)), (1, .int x1), (2, .int x2)] dX1_multiply_78 (by decide) rfl ?_
                refine g_iconst X 0 dX1_multiply_80 (by decide) ?_
                refine g_istore X [(9, .int 0), (8, .int zq23), (7, .int (M_16.1 38 aq9.toNat)), (6, .int rq12), (5, .int rq8), (4, .int y4_16), (3, .int y3_2), (0, .ref (ad 37)), (1, .int x1), (2, .int x2)] dX1_multiply_81 (by decide) rfl ?_
                have lp83 : ∀ n : Nat, ∀ (y9_83 : Int32) (b9_83 : Int), y9_83.toInt = b9_83 → ∀ (M_83 : Mem), (0 ≤ b9_83) → (Iv TX M_83) → (Fr W_X1_multiply Mq M_83) → (((((M_16.1 37 5).toInt) - b4_16) + 1) - b9_83).toNat < n → G Γ M_83 83 [(9, .int y9_83), (8, .int zq23), (7, .int (M_16.1 38 aq9.toNat)), (6, .int rq12), (5, .int rq8), (4, .int y4_16), (3, .int y3_2), (0, .ref (ad 37)), (1, .int x1), (2, .int x2)] [] := by
                  intro n
                  induction n with
                  | zero => intro y9_83 b9_83 e9_83 M_83 i3 I_83 fr_83 hm; exact absurd hm (Nat.not_lt_zero _)
                  | succ n ih83 =>
                    intro y9_83 b9_83 e9_83 M_83 i3 I_83 fr_83 hm83
                    refine g_iload X 0 rfl dX1_multiply_83 ?_
                    refine g_iload X 1 rfl dX1_multiply_85 ?_
                    refine g_icmp_ge X e9_83 tq25 (tgt := 144) dX1_multiply_87 (by decide) (fun cq26 => ?_) (fun cq26 => ?_)
                    · refine g_iinc X 5 (fun v => [(4, .int v), (9, .int y9_83), (8, .int zq23), (7, .int (M_16.1 38 aq9.toNat)), (6, .int rq12), (5, .int rq8), (3, .int y3_2), (0, .ref (ad 37)), (1, .int x1), (2, .int x2)]) dX1_multiply_144 rfl (by decide) (fun _ => rfl) (fun zq27 eq28 => ?_)
                      have tq29 : zq27.toInt = b4_16 + (-1) := add_nw eq28 e4_16 (show (Int32.ofInt (-1)).toInt = (-1) by decide) (by omega)
                      refine g_goto X (tgt := 16) dX1_multiply_147 (by decide) ?_
                      refine g_sub [0, 6, 7, 8, 9] rfl ?_
                      exact ih16 zq27 _ tq29 M_83 (by omega) I_83 fr_83 (by omega)
                    · refine g_aload_n X 7 rfl dX1_multiply_90 ?_
                      refine g_getr X f_X1_11 dX1_multiply_91 ?_
                      refine g_iload X 4 rfl dX1_multiply_94 ?_
                      refine g_iload X 0 rfl dX1_multiply_96 ?_
                      refine g_iadd X dX1_multiply_98 (fun zq30 eq31 => ?_)
                      have tq32 : zq30.toInt = aq9 + b9_83 := add_nw eq31 tq10 e9_83 (by omega)
                      refine g_iald X la_38 tq32 dX1_multiply_99 (by omega) (x := M_83.1 38 ((aq9 + b9_83).toNat)) rfl ?_
                      refine g_i2l X dX1_multiply_100 (fun zq33 eq34 => ?_)
                      have tq35 : zq33.toInt = (M_83.1 38 ((aq9 + b9_83).toNat)).toInt := i2l_nw eq34 rfl
                      refine g_iload X 2 rfl dX1_multiply_101 ?_
                      refine g_i2l X dX1_multiply_103 (fun zq36 eq37 => ?_)
                      have tq38 : zq36.toInt = (M_16.1 38 aq9.toNat).toInt := i2l_nw eq37 rfl
                      refine g_aload_n X 7 rfl dX1_multiply_104 ?_
                      refine g_getr X f_X1_11 dX1_multiply_105 ?_
                      refine g_iload X 3 rfl dX1_multiply_108 ?_
                      refine g_iload X 0 rfl dX1_multiply_110 ?_
                      refine g_iadd X dX1_multiply_112 (fun zq39 eq40 => ?_)
                      have tq41 : zq39.toInt = aq13 + b9_83 := add_nw eq40 tq14 e9_83 (by omega)
                      refine g_iald X la_38 tq41 dX1_multiply_113 (by omega) (x := M_83.1 38 ((aq13 + b9_83).toNat)) rfl ?_
                      refine g_i2l X dX1_multiply_114 (fun zq42 eq43 => ?_)
                      have tq44 : zq42.toInt = (M_83.1 38 ((aq13 + b9_83).toNat)).toInt := i2l_nw eq43 rfl
                      refine g_lmul X dX1_multiply_115 (fun zq45 eq46 => ?_)
                      refine g_ladd X dX1_multiply_116 (fun zq47 eq48 => ?_)
                      refine g_lstore X [(10, .long zq47), (9, .int y9_83), (8, .int zq23), (7, .int (M_16.1 38 aq9.toNat)), (6, .int rq12), (5, .int rq8), (4, .int y4_16), (3, .int y3_2), (0, .ref (ad 37)), (1, .int x1), (2, .int x2)] dX1_multiply_117 (by decide) rfl ?_
                      refine g_aload_n X 8 rfl dX1_multiply_119 ?_
                      refine g_getr X f_X1_11 dX1_multiply_120 ?_
                      refine g_iload X 5 rfl dX1_multiply_123 ?_
                      refine g_iload X 1 rfl dX1_multiply_125 ?_
                      refine g_iadd X dX1_multiply_127 (fun zq49 eq50 => ?_)
                      have tq51 : zq49.toInt = aq9 + b9_83 := add_nw eq50 tq10 e9_83 (by omega)
                      refine g_lload X 0 rfl dX1_multiply_128 ?_
                      refine g_ldc2 X k_X1_140 dX1_multiply_130 ?_
                      refine g_minl X ml_X1_142 (by decide) (Nat.le_of_ble_eq_true rfl) rfl (show (1000000 : Int64).toInt = 1000000 by decide) dX1_multiply_133 (fun zq52 hq53 => ?_)
                      refine g_l2i X dX1_multiply_136 (fun zq54 eq55 => ?_)
                      refine g_iast X la_38 tq51 dX1_multiply_137 (by omega) ?_
                      have Iq56 : Iv TX (ui M_83 38 ((aq9 + b9_83).toNat) zq54) := I_83.otherA rfl
                      have frq57 : Fr W_X1_multiply Mq (ui M_83 38 ((aq9 + b9_83).toNat) zq54) := fr_83.ui rfl
                      refine g_iinc X 1 (fun v => [(9, .int v), (10, .long zq47), (8, .int zq23), (7, .int (M_16.1 38 aq9.toNat)), (6, .int rq12), (5, .int rq8), (4, .int y4_16), (3, .int y3_2), (0, .ref (ad 37)), (1, .int x1), (2, .int x2)]) dX1_multiply_138 rfl (by decide) (fun _ => rfl) (fun zq58 eq59 => ?_)
                      have tq60 : zq58.toInt = b9_83 + 1 := add_nw eq59 e9_83 (show (Int32.ofInt 1).toInt = 1 by decide) (by omega)
                      refine g_goto X (tgt := 83) dX1_multiply_141 (by decide) ?_
                      refine g_sub [0, 2, 3, 4, 5, 6, 7, 8, 9, 10] rfl ?_
                      exact ih83 zq58 _ tq60 (ui M_83 38 ((aq9 + b9_83).toNat) zq54) (by omega) Iq56 frq57 (by omega)
                refine g_sub [0, 1, 2, 3, 4, 5, 6, 7, 8, 9] rfl ?_
                exact lp83 _ 0 _ (show (0 : Int32).toInt = 0 by decide) (ui M_16 38 aq9.toNat 0) (by omega) Iq16 frq17 (Nat.lt_succ_self _)
              · refine g_iconst X 0 dX1_multiply_65 (by decide) ?_
                refine g_goto X (tgt := 78) dX1_multiply_66 (by decide) ?_
                refine g_istore X [(8, .int 0), (7, .int (M_16.1 38 aq9.toNat)), (6, .int rq12), (5, .int rq8), (4, .int y4_16), (3, .int y3_2), (0, .ref (ad 37)), (1, .int x1), (2, .int x2)] dX1_multiply_78 (by decide) rfl ?_
                refine g_iconst X 0 dX1_multiply_80 (by decide) ?_
                refine g_istore X [(9, .int 0), (8, .int 0), (7, .int (M_16.1 38 aq9.toNat)), (6, .int rq12), (5, .int rq8), (4, .int y4_16), (3, .int y3_2), (0, .ref (ad 37)), (1, .int x1), (2, .int x2)] dX1_multiply_81 (by decide) rfl ?_
                have lp83 : ∀ n : Nat, ∀ (y9_83 : Int32) (b9_83 : Int), y9_83.toInt = b9_83 → ∀ (M_83 : Mem), (0 ≤ b9_83) → (Iv TX M_83) → (Fr W_X1_multiply Mq M_83) → (0 - b9_83).toNat < n → G Γ M_83 83 [(9, .int y9_83), (8, .int 0), (7, .int (M_16.1 38 aq9.toNat)), (6, .int rq12), (5, .int rq8), (4, .int y4_16), (3, .int y3_2), (0, .ref (ad 37)), (1, .int x1), (2, .int x2)] [] := by
                  intro n
                  induction n with
                  | zero => intro y9_83 b9_83 e9_83 M_83 i3 I_83 fr_83 hm; exact absurd hm (Nat.not_lt_zero _)
                  | succ n ih83 =>
                    intro y9_83 b9_83 e9_83 M_83 i3 I_83 fr_83 hm83
                    refine g_iload X 0 rfl dX1_multiply_83 ?_
                    refine g_iload X 1 rfl dX1_multiply_85 ?_
                    refine g_icmp_ge X e9_83 (show (0 : Int32).toInt = 0 by decide) (tgt := 144) dX1_multiply_87 (by decide) (fun cq61 => ?_) (fun cq61 => ?_)
                    · refine g_iinc X 5 (fun v => [(4, .int v), (9, .int y9_83), (8, .int 0), (7, .int (M_16.1 38 aq9.toNat)), (6, .int rq12), (5, .int rq8), (3, .int y3_2), (0, .ref (ad 37)), (1, .int x1), (2, .int x2)]) dX1_multiply_144 rfl (by decide) (fun _ => rfl) (fun zq62 eq63 => ?_)
                      have tq64 : zq62.toInt = b4_16 + (-1) := add_nw eq63 e4_16 (show (Int32.ofInt (-1)).toInt = (-1) by decide) (by omega)
                      refine g_goto X (tgt := 16) dX1_multiply_147 (by decide) ?_
                      refine g_sub [0, 6, 7, 8, 9] rfl ?_
                      exact ih16 zq62 _ tq64 M_83 (by omega) I_83 fr_83 (by omega)
                    · refine g_aload_n X 7 rfl dX1_multiply_90 ?_
                      refine g_getr X f_X1_11 dX1_multiply_91 ?_
                      refine g_iload X 4 rfl dX1_multiply_94 ?_
                      refine g_iload X 0 rfl dX1_multiply_96 ?_
                      refine g_iadd X dX1_multiply_98 (fun zq65 eq66 => ?_)
                      have tq67 : zq65.toInt = aq9 + b9_83 := add_nw eq66 tq10 e9_83 (by omega)
                      refine g_iald X la_38 tq67 dX1_multiply_99 (by omega) (x := M_83.1 38 ((aq9 + b9_83).toNat)) rfl ?_
                      refine g_i2l X dX1_multiply_100 (fun zq68 eq69 => ?_)
                      have tq70 : zq68.toInt = (M_83.1 38 ((aq9 + b9_83).toNat)).toInt := i2l_nw eq69 rfl
                      refine g_iload X 2 rfl dX1_multiply_101 ?_
                      refine g_i2l X dX1_multiply_103 (fun zq71 eq72 => ?_)
                      have tq73 : zq71.toInt = (M_16.1 38 aq9.toNat).toInt := i2l_nw eq72 rfl
                      refine g_aload_n X 7 rfl dX1_multiply_104 ?_
                      refine g_getr X f_X1_11 dX1_multiply_105 ?_
                      refine g_iload X 3 rfl dX1_multiply_108 ?_
                      refine g_iload X 0 rfl dX1_multiply_110 ?_
                      refine g_iadd X dX1_multiply_112 (fun zq74 eq75 => ?_)
                      have tq76 : zq74.toInt = aq13 + b9_83 := add_nw eq75 tq14 e9_83 (by omega)
                      refine g_iald X la_38 tq76 dX1_multiply_113 (by omega) (x := M_83.1 38 ((aq13 + b9_83).toNat)) rfl ?_
                      refine g_i2l X dX1_multiply_114 (fun zq77 eq78 => ?_)
                      have tq79 : zq77.toInt = (M_83.1 38 ((aq13 + b9_83).toNat)).toInt := i2l_nw eq78 rfl
                      refine g_lmul X dX1_multiply_115 (fun zq80 eq81 => ?_)
                      refine g_ladd X dX1_multiply_116 (fun zq82 eq83 => ?_)
                      refine g_lstore X [(10, .long zq82), (9, .int y9_83), (8, .int 0), (7, .int (M_16.1 38 aq9.toNat)), (6, .int rq12), (5, .int rq8), (4, .int y4_16), (3, .int y3_2), (0, .ref (ad 37)), (1, .int x1), (2, .int x2)] dX1_multiply_117 (by decide) rfl ?_
                      refine g_aload_n X 8 rfl dX1_multiply_119 ?_
                      refine g_getr X f_X1_11 dX1_multiply_120 ?_
                      refine g_iload X 5 rfl dX1_multiply_123 ?_
                      refine g_iload X 1 rfl dX1_multiply_125 ?_
                      refine g_iadd X dX1_multiply_127 (fun zq84 eq85 => ?_)
                      have tq86 : zq84.toInt = aq9 + b9_83 := add_nw eq85 tq10 e9_83 (by omega)
                      refine g_lload X 0 rfl dX1_multiply_128 ?_
                      refine g_ldc2 X k_X1_140 dX1_multiply_130 ?_
                      refine g_minl X ml_X1_142 (by decide) (Nat.le_of_ble_eq_true rfl) rfl (show (1000000 : Int64).toInt = 1000000 by decide) dX1_multiply_133 (fun zq87 hq88 => ?_)
                      refine g_l2i X dX1_multiply_136 (fun zq89 eq90 => ?_)
                      refine g_iast X la_38 tq86 dX1_multiply_137 (by omega) ?_
                      have Iq91 : Iv TX (ui M_83 38 ((aq9 + b9_83).toNat) zq89) := I_83.otherA rfl
                      have frq92 : Fr W_X1_multiply Mq (ui M_83 38 ((aq9 + b9_83).toNat) zq89) := fr_83.ui rfl
                      refine g_iinc X 1 (fun v => [(9, .int v), (10, .long zq82), (8, .int 0), (7, .int (M_16.1 38 aq9.toNat)), (6, .int rq12), (5, .int rq8), (4, .int y4_16), (3, .int y3_2), (0, .ref (ad 37)), (1, .int x1), (2, .int x2)]) dX1_multiply_138 rfl (by decide) (fun _ => rfl) (fun zq93 eq94 => ?_)
                      have tq95 : zq93.toInt = b9_83 + 1 := add_nw eq94 e9_83 (show (Int32.ofInt 1).toInt = 1 by decide) (by omega)
                      refine g_goto X (tgt := 83) dX1_multiply_141 (by decide) ?_
                      refine g_sub [0, 2, 3, 4, 5, 6, 7, 8, 9, 10] rfl ?_
                      exact ih83 zq93 _ tq95 (ui M_83 38 ((aq9 + b9_83).toNat) zq89) (by omega) Iq91 frq92 (by omega)
                refine g_sub [0, 1, 2, 3, 4, 5, 6, 7, 8, 9] rfl ?_
                exact lp83 _ 0 _ (show (0 : Int32).toInt = 0 by decide) (ui M_16 38 aq9.toNat 0) (by omega) Iq16 frq17 (Nat.lt_succ_self _)
        refine g_sub [0, 1, 2, 3, 4] rfl ?_
        exact lp16 _ (M_2.1 37 5) _ rfl M_2 (by omega) I_2 fr_2 (Nat.lt_succ_self _)
  refine g_sub [0, 1, 2, 3] rfl ?_
  exact lp2 _ 0 _ (show (0 : Int32).toInt = 0 by decide) Mq (by omega) Iq0 frq0 (Nat.lt_succ_self _)
abbrev W_X1_lower : List (Nat × Nat) := [(37, 6)]
set_option maxHeartbeats 4000000 in
set_option maxRecDepth 4000 in
theorem c_X1_lower (ad : Nat → Nat) (Mq : Mem) (Iq0 : Iv TX Mq) : Ctr ad yX1_lower cX1_lower 1 none 0 [.ref (ad 37)] Mq (fun v M' => v = none ∧ (True) ∧ Iv TX M' ∧ Fr W_X1_lower Mq M') := by
  refine ctr_of (L := [(0, .ref (ad 37))]) (by decide) (Nat.le_of_ble_eq_true rfl) rfl ?_
  intro Γ X
  have X : gX Γ cX1_lower RX1 1 none 0 ad _ := X
  have frq0 : Fr W_X1_lower Mq Mq := Fr.rf
  refine g_aload_n X 0 rfl dX1_lower_0 ?_
  refine g_geti X f_X1_26 dX1_lower_1 (x := Mq.1 37 6) rfl ?_
  have bq1 := ig_37_6 Iq0
  refine g_bipush X 8 dX1_lower_4 (by decide) ?_
  refine g_icmp_le X rfl (show (8 : Int32).toInt = 8 by decide) (tgt := 19) dX1_lower_6 (by decide) (fun cq2 => ?_) (fun cq2 => ?_)
  · exact g_vret X dX1_lower_19 ⟨rfl, trivial, Iq0, frq0⟩
  · refine g_aload_n X 0 rfl dX1_lower_9 ?_
    refine g_dup X dX1_lower_10 rfl ?_
    refine g_geti X f_X1_26 dX1_lower_11 (x := Mq.1 37 6) rfl ?_
    have bq3 := ig_37_6 Iq0
    refine g_iconst X 1 dX1_lower_14 (by decide) ?_
    refine g_isub X dX1_lower_15 (fun zq4 eq5 => ?_)
    have tq6 : zq4.toInt = ((Mq.1 37 6).toInt) - 1 := sub_nw eq5 rfl (show (1 : Int32).toInt = 1 by decide) (by omega)
    refine g_puti X p_X1_26 dX1_lower_16 ?_
    have Iq7 : Iv TX (ui Mq 37 6 zq4) := Iq0.put 8 36 tq6 (by omega) rfl
    have frq8 : Fr W_X1_lower Mq (ui Mq 37 6 zq4) := frq0.ui rfl
    exact g_vret X dX1_lower_19 ⟨rfl, trivial, Iq7, frq8⟩
abbrev W_X1_raise : List (Nat × Nat) := [(37, 6), (38, 99)]
set_option maxHeartbeats 4000000 in
set_option maxRecDepth 4000 in
theorem c_X1_raise (ad : Nat → Nat) (Mq : Mem) (Iq0 : Iv TX Mq) : Ctr ad yX1_raise cX1_raise 1 none 2 [.ref (ad 37)] Mq (fun v M' => v = none ∧ (True) ∧ Iv TX M' ∧ Fr W_X1_raise Mq M') := by
  refine ctr_of (L := [(0, .ref (ad 37))]) (by decide) (Nat.le_of_ble_eq_true rfl) rfl ?_
  intro Γ X
  have X : gX Γ cX1_raise RX1 1 none 2 ad _ := X
  have frq0 : Fr W_X1_raise Mq Mq := Fr.rf
  refine g_aload_n X 0 rfl dX1_raise_0 ?_
  refine g_geti X f_X1_26 dX1_raise_1 (x := Mq.1 37 6) rfl ?_
  have bq1 := ig_37_6 Iq0
  refine g_bipush X 36 dX1_raise_4 (by decide) ?_
  refine g_icmp_ge X rfl (show (36 : Int32).toInt = 36 by decide) (tgt := 19) dX1_raise_6 (by decide) (fun cq2 => ?_) (fun cq2 => ?_)
  · refine g_aload_n X 0 rfl dX1_raise_19 ?_
    refine g_aload_n X 0 rfl dX1_raise_20 ?_
    refine g_geti X f_X1_26 dX1_raise_21 (x := Mq.1 37 6) rfl ?_
    have bq3 := ig_37_6 Iq0
    refine g_callV X m_X1_83 (c_X1_clear ad Mq (Mq.1 37 6) rfl Iq0 (by omega)) rfl (by decide) (Nat.le_of_ble_eq_true rfl) rfl dX1_raise_24 ?_
    rintro _ Mq8 ⟨rfl, hq7, Iq9, frq10⟩
    have frq11 : Fr W_X1_raise Mq Mq8 := frq0.trans frq10 rfl
    show G Γ Mq8 27 [(0, .ref (ad 37))] []
    refine g_aload_n X 0 rfl dX1_raise_27 ?_
    refine g_aload_n X 0 rfl dX1_raise_28 ?_
    refine g_geti X f_X1_26 dX1_raise_29 (x := Mq8.1 37 6) rfl ?_
    have bq12 := ig_37_6 Iq9
    refine g_callV X m_X1_86 (c_X1_addOne ad Mq8 (Mq8.1 37 6) rfl Iq9 (by omega)) rfl (by decide) (Nat.le_of_ble_eq_true rfl) rfl dX1_raise_32 ?_
    rintro _ Mq17 ⟨rfl, hq16, Iq18, frq19⟩
    have frq20 : Fr W_X1_raise Mq Mq17 := frq11.trans frq19 rfl
    show G Γ Mq17 35 [(0, .ref (ad 37))] []
    exact g_vret X dX1_raise_35 ⟨rfl, trivial, Iq18, frq20⟩
  · refine g_aload_n X 0 rfl dX1_raise_9 ?_
    refine g_dup X dX1_raise_10 rfl ?_
    refine g_geti X f_X1_26 dX1_raise_11 (x := Mq.1 37 6) rfl ?_
    have bq21 := ig_37_6 Iq0
    refine g_iconst X 1 dX1_raise_14 (by decide) ?_
    refine g_iadd X dX1_raise_15 (fun zq22 eq23 => ?_)
    have tq24 : zq22.toInt = ((Mq.1 37 6).toInt) + 1 := add_nw eq23 rfl (show (1 : Int32).toInt = 1 by decide) (by omega)
    refine g_puti X p_X1_26 dX1_raise_16 ?_
    have Iq25 : Iv TX (ui Mq 37 6 zq22) := Iq0.put 8 36 tq24 (by omega) rfl
    have frq26 : Fr W_X1_raise Mq (ui Mq 37 6 zq22) := frq0.ui rfl
    refine g_aload_n X 0 rfl dX1_raise_19 ?_
    refine g_aload_n X 0 rfl dX1_raise_20 ?_
    refine g_geti X f_X1_26 dX1_raise_21 (x := zq22) rfl ?_
    refine g_callV X m_X1_83 (c_X1_clear ad (ui Mq 37 6 zq22) zq22 tq24 Iq25 (by omega)) rfl (by decide) (Nat.le_of_ble_eq_true rfl) rfl dX1_raise_24 ?_
    rintro _ Mq31 ⟨rfl, hq30, Iq32, frq33⟩
    have frq34 : Fr W_X1_raise Mq Mq31 := frq26.trans frq33 rfl
    show G Γ Mq31 27 [(0, .ref (ad 37))] []
    refine g_aload_n X 0 rfl dX1_raise_27 ?_
    refine g_aload_n X 0 rfl dX1_raise_28 ?_
    refine g_geti X f_X1_26 dX1_raise_29 (x := Mq31.1 37 6) rfl ?_
    have bq35 := ig_37_6 Iq32
    refine g_callV X m_X1_86 (c_X1_addOne ad Mq31 (Mq31.1 37 6) rfl Iq32 (by omega)) rfl (by decide) (Nat.le_of_ble_eq_true rfl) rfl dX1_raise_32 ?_
    rintro _ Mq40 ⟨rfl, hq39, Iq41, frq42⟩
    have frq43 : Fr W_X1_raise Mq Mq40 := frq34.trans frq42 rfl
    show G Γ Mq40 35 [(0, .ref (ad 37))] []
    exact g_vret X dX1_raise_35 ⟨rfl, trivial, Iq41, frq43⟩
abbrev W_X1_close : List (Nat × Nat) := [(37, 6), (38, 99)]
set_option maxHeartbeats 4000000 in
set_option maxRecDepth 4000 in
theorem c_X1_close (ad : Nat → Nat) (Mq : Mem) (Iq0 : Iv TX Mq) : Ctr ad yX1_close cX1_close 2 none 2 [.ref (ad 37)] Mq (fun v M' => v = none ∧ (True) ∧ Iv TX M' ∧ Fr W_X1_close Mq M') := by
  refine ctr_of (L := [(0, .ref (ad 37))]) (by decide) (Nat.le_of_ble_eq_true rfl) rfl ?_
  intro Γ X
  have X : gX Γ cX1_close RX1 2 none 2 ad _ := X
  have frq0 : Fr W_X1_close Mq Mq := Fr.rf
  refine g_aload_n X 0 rfl dX1_close_0 ?_
  refine g_geti X f_X1_26 dX1_close_1 (x := Mq.1 37 6) rfl ?_
  have bq1 := ig_37_6 Iq0
  refine g_istore_n X (i := 1) [(1, .int (Mq.1 37 6)), (0, .ref (ad 37))] dX1_close_4 rfl (by decide) rfl ?_
  refine g_aload_n X 1 rfl dX1_close_5 ?_
  refine g_callV X m_X1_121 (c_X1_lower ad Mq Iq0) rfl (by decide) (Nat.le_of_ble_eq_true rfl) rfl dX1_close_6 ?_
  rintro _ Mq6 ⟨rfl, hq5, Iq7, frq8⟩
  have frq9 : Fr W_X1_close Mq Mq6 := frq0.trans frq8 rfl
  show G Γ Mq6 9 [(1, .int (Mq.1 37 6)), (0, .ref (ad 37))] []
  refine g_aload_n X 1 rfl dX1_close_9 ?_
  refine g_aload_n X 1 rfl dX1_close_10 ?_
  refine g_geti X f_X1_26 dX1_close_11 (x := Mq6.1 37 6) rfl ?_
  have bq10 := ig_37_6 Iq7
  refine g_iload_n X 0 rfl dX1_close_14 ?_
  refine g_callV X m_X1_112 (c_X1_multiply ad Mq6 (Mq6.1 37 6) rfl (Mq.1 37 6) rfl Iq7 (by omega) (by omega)) rfl (by decide) (Nat.le_of_ble_eq_true rfl) rfl dX1_close_15 ?_
  rintro _ Mq15 ⟨rfl, hq14, Iq16, frq17⟩
  have frq18 : Fr W_X1_close Mq Mq15 := frq9.trans frq17 rfl
  show G Γ Mq15 18 [(1, .int (Mq.1 37 6)), (0, .ref (ad 37))] []
  exact g_vret X dX1_close_18 ⟨rfl, trivial, Iq16, frq18⟩
abbrev W_X1_repeat : List (Nat × Nat) := [(38, 99)]
set_option maxHeartbeats 4000000 in
set_option maxRecDepth 4000 in
theorem c_X1_repeat (ad : Nat → Nat) (Mq : Mem) (Iq0 : Iv TX Mq) : Ctr ad yX1_repeat cX1_repeat 3 none 2 [.ref (ad 37)] Mq (fun v M' => v = none ∧ (True) ∧ Iv TX M' ∧ Fr W_X1_repeat Mq M') := by
  refine ctr_of (L := [(0, .ref (ad 37))]) (by decide) (Nat.le_of_ble_eq_true rfl) rfl ?_
  intro Γ X
  have X : gX Γ cX1_repeat RX1 3 none 2 ad _ := X
  have frq0 : Fr W_X1_repeat Mq Mq := Fr.rf
  refine g_aload_n X 0 rfl dX1_repeat_0 ?_
  refine g_geti X f_X1_26 dX1_repeat_1 (x := Mq.1 37 6) rfl ?_
  have bq1 := ig_37_6 Iq0
  refine g_iconst X 1 dX1_repeat_4 (by decide) ?_
  refine g_iadd X dX1_repeat_5 (fun zq2 eq3 => ?_)
  have tq4 : zq2.toInt = ((Mq.1 37 6).toInt) + 1 := add_nw eq3 rfl (show (1 : Int32).toInt = 1 by decide) (by omega)
  refine g_istore_n X (i := 1) [(1, .int zq2), (0, .ref (ad 37))] dX1_repeat_6 rfl (by decide) rfl ?_
  refine g_aload_n X 1 rfl dX1_repeat_7 ?_
  refine g_iload_n X 0 rfl dX1_repeat_8 ?_
  refine g_callV X m_X1_83 (c_X1_clear ad Mq zq2 tq4 Iq0 (by omega)) rfl (by decide) (Nat.le_of_ble_eq_true rfl) rfl dX1_repeat_9 ?_
  rintro _ Mq9 ⟨rfl, hq8, Iq10, frq11⟩
  have frq12 : Fr W_X1_repeat Mq Mq9 := frq0.trans frq11 rfl
  show G Γ Mq9 12 [(1, .int zq2), (0, .ref (ad 37))] []
  refine g_aload_n X 1 rfl dX1_repeat_12 ?_
  refine g_iload_n X 0 rfl dX1_repeat_13 ?_
  refine g_callV X m_X1_86 (c_X1_addOne ad Mq9 zq2 tq4 Iq10 (by omega)) rfl (by decide) (Nat.le_of_ble_eq_true rfl) rfl dX1_repeat_14 ?_
  rintro _ Mq17 ⟨rfl, hq16, Iq18, frq19⟩
  have frq20 : Fr W_X1_repeat Mq Mq17 := frq12.trans frq19 rfl
  show G Γ Mq17 17 [(1, .int zq2), (0, .ref (ad 37))] []
  refine g_iconst X 0 dX1_repeat_17 (by decide) ?_
  refine g_istore_n X (i := 2) [(2, .int 0), (1, .int zq2), (0, .ref (ad 37))] dX1_repeat_18 rfl (by decide) rfl ?_
  have lp19 : ∀ n : Nat, ∀ (y2_19 : Int32) (b2_19 : Int), y2_19.toInt = b2_19 → ∀ (M_19 : Mem), (0 ≤ b2_19) → (Iv TX M_19) → (Fr W_X1_repeat Mq M_19) → ((Mq.1 14 12).toInt - b2_19).toNat < n → G Γ M_19 19 [(2, .int y2_19), (1, .int zq2), (0, .ref (ad 37))] [] := by
    intro n
    induction n with
    | zero => intro y2_19 b2_19 e2_19 M_19 i1 I_19 fr_19 hm; exact absurd hm (Nat.not_lt_zero _)
    | succ n ih19 =>
      intro y2_19 b2_19 e2_19 M_19 i1 I_19 fr_19 hm19
      have q14_12 : (M_19.1 14 12).toInt = (Mq.1 14 12).toInt := congrArg Int32.toInt (fr_19.at 14 12 rfl)
      have q37_6 : (M_19.1 37 6).toInt = (Mq.1 37 6).toInt := congrArg Int32.toInt (fr_19.at 37 6 rfl)
      have hT := ig_37_6 Iq0
      refine g_iload_n X 0 rfl dX1_repeat_19 ?_
      refine g_aload_n X 2 rfl dX1_repeat_20 ?_
      refine g_getr X f_X1_33 dX1_repeat_21 ?_
      refine g_geti X f_X1_127 dX1_repeat_24 (x := M_19.1 14 12) rfl ?_
      have bq21 := ig_14_12 I_19
      refine g_icmp_ge X e2_19 rfl (tgt := 50) dX1_repeat_27 (by decide) (fun cq22 => ?_) (fun cq22 => ?_)
      · refine g_aload_n X 2 rfl dX1_repeat_50 ?_
        refine g_aload_n X 2 rfl dX1_repeat_51 ?_
        refine g_geti X f_X1_26 dX1_repeat_52 (x := M_19.1 37 6) rfl ?_
        have bq23 := ig_37_6 I_19
        refine g_callV X m_X1_83 (c_X1_clear ad M_19 (M_19.1 37 6) rfl I_19 (by omega)) rfl (by decide) (Nat.le_of_ble_eq_true rfl) rfl dX1_repeat_55 ?_
        rintro _ Mq28 ⟨rfl, hq27, Iq29, frq30⟩
        have frq31 : Fr W_X1_repeat Mq Mq28 := fr_19.trans frq30 rfl
        show G Γ Mq28 58 [(2, .int y2_19), (1, .int zq2), (0, .ref (ad 37))] []
        refine g_aload_n X 2 rfl dX1_repeat_58 ?_
        refine g_aload_n X 2 rfl dX1_repeat_59 ?_
        refine g_geti X f_X1_26 dX1_repeat_60 (x := Mq28.1 37 6) rfl ?_
        have bq32 := ig_37_6 Iq29
        refine g_iload_n X 1 rfl dX1_repeat_63 ?_
        refine g_callV X m_X1_99 (c_X1_addTable ad Mq28 (Mq28.1 37 6) rfl zq2 tq4 Iq29 (by omega) (by omega)) rfl (by decide) (Nat.le_of_ble_eq_true rfl) rfl dX1_repeat_64 ?_
        rintro _ Mq37 ⟨rfl, hq36, Iq38, frq39⟩
        have frq40 : Fr W_X1_repeat Mq Mq37 := frq31.trans frq39 rfl
        show G Γ Mq37 67 [(2, .int y2_19), (1, .int zq2), (0, .ref (ad 37))] []
        exact g_vret X dX1_repeat_67 ⟨rfl, trivial, Iq38, frq40⟩
      · refine g_aload_n X 2 rfl dX1_repeat_30 ?_
        refine g_iload_n X 1 rfl dX1_repeat_31 ?_
        refine g_aload_n X 2 rfl dX1_repeat_32 ?_
        refine g_geti X f_X1_26 dX1_repeat_33 (x := M_19.1 37 6) rfl ?_
        have bq41 := ig_37_6 I_19
        refine g_callV X m_X1_112 (c_X1_multiply ad M_19 zq2 tq4 (M_19.1 37 6) rfl I_19 (by omega) (by omega)) rfl (by decide) (Nat.le_of_ble_eq_true rfl) rfl dX1_repeat_36 ?_
        rintro _ Mq46 ⟨rfl, hq45, Iq47, frq48⟩
        have frq49 : Fr W_X1_repeat Mq Mq46 := fr_19.trans frq48 rfl
        show G Γ Mq46 39 [(2, .int y2_19), (1, .int zq2), (0, .ref (ad 37))] []
        refine g_aload_n X 2 rfl dX1_repeat_39 ?_
        refine g_iload_n X 1 rfl dX1_repeat_40 ?_
        refine g_callV X m_X1_86 (c_X1_addOne ad Mq46 zq2 tq4 Iq47 (by omega)) rfl (by decide) (Nat.le_of_ble_eq_true rfl) rfl dX1_repeat_41 ?_
        rintro _ Mq54 ⟨rfl, hq53, Iq55, frq56⟩
        have frq57 : Fr W_X1_repeat Mq Mq54 := frq49.trans frq56 rfl
        show G Γ Mq54 44 [(2, .int y2_19), (1, .int zq2), (0, .ref (ad 37))] []
        refine g_iinc X 0 (fun v => [(2, .int v), (1, .int zq2), (0, .ref (ad 37))]) dX1_repeat_44 rfl (by decide) (fun _ => rfl) (fun zq58 eq59 => ?_)
        have tq60 : zq58.toInt = b2_19 + 1 := add_nw eq59 e2_19 (show (Int32.ofInt 1).toInt = 1 by decide) (by omega)
        refine g_goto X (tgt := 19) dX1_repeat_47 (by decide) ?_
        refine g_sub [0, 1, 2] rfl ?_
        exact ih19 zq58 _ tq60 Mq54 (by omega) Iq55 frq57 (by omega)
  refine g_sub [0, 1, 2] rfl ?_
  exact lp19 _ 0 _ (show (0 : Int32).toInt = 0 by decide) Mq17 (by omega) Iq18 frq20 (Nat.lt_succ_self _)
abbrev W_X1_readSign : List (Nat × Nat) := [(37, 6), (38, 99)]
set_option maxHeartbeats 4000000 in
set_option maxRecDepth 4000 in
theorem c_X1_readSign (ad : Nat → Nat) (Mq : Mem) (x1 : Int32) {a1 : Int} (t1 : x1.toInt = a1) (Iq0 : Iv TX Mq) : Ctr ad yX1_readSign cX1_readSign 2 none 3 [.ref (ad 37), .int x1] Mq (fun v M' => v = none ∧ (True) ∧ Iv TX M' ∧ Fr W_X1_readSign Mq M') := by
  refine ctr_of (L := [(0, .ref (ad 37)), (1, .int x1)]) (by decide) (Nat.le_of_ble_eq_true rfl) rfl ?_
  intro Γ X
  have X : gX Γ cX1_readSign RX1 2 none 3 ad _ := X
  have frq0 : Fr W_X1_readSign Mq Mq := Fr.rf
  refine g_iload_n X 1 rfl dX1_readSign_0 ?_
  refine g_callS X m_X1_102 (c_X6_isSlot ad Mq x1 t1) rfl (by decide) (Nat.le_of_ble_eq_true rfl) rfl dX1_readSign_1 ?_
  rintro _ _ ⟨rq1, aq2, rfl, tq3, hq4, rfl⟩
  show G Γ Mq 4 [(0, .ref (ad 37)), (1, .int x1)] [.int rq1]
  refine g_if_eq X tq3 (tgt := 18) dX1_readSign_4 (by decide) (fun cq5 => ?_) (fun cq5 => ?_)
  · have pq6 : ¬ (97 ≤ a1 ∧ a1 ≤ 104) := by omega
    clear hq4 cq5 tq3
    refine g_iload_n X 1 rfl dX1_readSign_18 ?_
    refine g_callS X m_X1_109 (c_X6_isScene ad Mq x1 t1) rfl (by decide) (Nat.le_of_ble_eq_true rfl) rfl dX1_readSign_19 ?_
    rintro _ _ ⟨rq7, aq8, rfl, tq9, hq10, rfl⟩
    show G Γ Mq 22 [(0, .ref (ad 37)), (1, .int x1)] [.int rq7]
    refine g_if_eq X tq9 (tgt := 40) dX1_readSign_22 (by decide) (fun cq11 => ?_) (fun cq11 => ?_)
    · have pq12 : ¬ (65 ≤ a1 ∧ a1 ≤ 72) := by omega
      clear hq10 cq11 tq9
      refine g_iload_n X 1 rfl dX1_readSign_40 ?_
      refine g_bipush X 93 dX1_readSign_41 (by decide) ?_
      refine g_icmp_ne X t1 (show (93 : Int32).toInt = 93 by decide) (tgt := 61) dX1_readSign_43 (by decide) (fun cq13 => ?_) (fun cq13 => ?_)
      · refine g_iload_n X 1 rfl dX1_readSign_61 ?_
        refine g_bipush X 125 dX1_readSign_62 (by decide) ?_
        refine g_icmp_ne X t1 (show (125 : Int32).toInt = 125 by decide) (tgt := 78) dX1_readSign_64 (by decide) (fun cq14 => ?_) (fun cq14 => ?_)
        · refine g_iload_n X 1 rfl dX1_readSign_78 ?_
          refine g_bipush X 41 dX1_readSign_79 (by decide) ?_
          refine g_icmp_ne X t1 (show (41 : Int32).toInt = 41 by decide) (tgt := 109) dX1_readSign_81 (by decide) (fun cq15 => ?_) (fun cq15 => ?_)
          · refine g_aload_n X 0 rfl dX1_readSign_109 ?_
            refine g_callV X m_X1_124 (c_X1_raise ad Mq Iq0) rfl (by decide) (Nat.le_of_ble_eq_true rfl) rfl dX1_readSign_110 ?_
            rintro _ Mq20 ⟨rfl, hq19, Iq21, frq22⟩
            have frq23 : Fr W_X1_readSign Mq Mq20 := frq0.trans frq22 rfl
            show G Γ Mq20 113 [(0, .ref (ad 37)), (1, .int x1)] []
            exact g_vret X dX1_readSign_113 ⟨rfl, trivial, Iq21, frq23⟩
          · refine g_aload_n X 0 rfl dX1_readSign_84 ?_
            refine g_aload_n X 0 rfl dX1_readSign_85 ?_
            refine g_geti X f_X1_26 dX1_readSign_86 (x := Mq.1 37 6) rfl ?_
            have bq24 := ig_37_6 Iq0
            refine g_iconst X 1 dX1_readSign_89 (by decide) ?_
            refine g_isub X dX1_readSign_90 (fun zq25 eq26 => ?_)
            have tq27 : zq25.toInt = ((Mq.1 37 6).toInt) - 1 := sub_nw eq26 rfl (show (1 : Int32).toInt = 1 by decide) (by omega)
            refine g_aload_n X 0 rfl dX1_readSign_91 ?_
            refine g_geti X f_X1_26 dX1_readSign_92 (x := Mq.1 37 6) rfl ?_
            have bq28 := ig_37_6 Iq0
            refine g_callV X m_X1_99 (c_X1_addTable ad Mq zq25 tq27 (Mq.1 37 6) rfl Iq0 (by omega) (by omega)) rfl (by decide) (Nat.le_of_ble_eq_true rfl) rfl dX1_readSign_95 ?_
            rintro _ Mq33 ⟨rfl, hq32, Iq34, frq35⟩
            have frq36 : Fr W_X1_readSign Mq Mq33 := frq0.trans frq35 rfl
            show G Γ Mq33 98 [(0, .ref (ad 37)), (1, .int x1)] []
            refine g_aload_n X 0 rfl dX1_readSign_98 ?_
            refine g_callV X m_X1_121 (c_X1_lower ad Mq33 Iq34) rfl (by decide) (Nat.le_of_ble_eq_true rfl) rfl dX1_readSign_99 ?_
            rintro _ Mq41 ⟨rfl, hq40, Iq42, frq43⟩
            have frq44 : Fr W_X1_readSign Mq Mq41 := frq36.trans frq43 rfl
            show G Γ Mq41 102 [(0, .ref (ad 37)), (1, .int x1)] []
            refine g_aload_n X 0 rfl dX1_readSign_102 ?_
            refine g_callV X m_X1_115 (c_X1_close ad Mq41 Iq42) rfl (by decide) (Nat.le_of_ble_eq_true rfl) rfl dX1_readSign_103 ?_
            rintro _ Mq49 ⟨rfl, hq48, Iq50, frq51⟩
            have frq52 : Fr W_X1_readSign Mq Mq49 := frq44.trans frq51 rfl
            show G Γ Mq49 106 [(0, .ref (ad 37)), (1, .int x1)] []
            refine g_goto X (tgt := 113) dX1_readSign_106 (by decide) ?_
            exact g_vret X dX1_readSign_113 ⟨rfl, trivial, Iq50, frq52⟩
        · refine g_aload_n X 0 rfl dX1_readSign_67 ?_
          refine g_callV X m_X1_118 (c_X1_repeat ad Mq Iq0) rfl (by decide) (Nat.le_of_ble_eq_true rfl) rfl dX1_readSign_68 ?_
          rintro _ Mq57 ⟨rfl, hq56, Iq58, frq59⟩
          have frq60 : Fr W_X1_readSign Mq Mq57 := frq0.trans frq59 rfl
          show G Γ Mq57 71 [(0, .ref (ad 37)), (1, .int x1)] []
          refine g_aload_n X 0 rfl dX1_readSign_71 ?_
          refine g_callV X m_X1_115 (c_X1_close ad Mq57 Iq58) rfl (by decide) (Nat.le_of_ble_eq_true rfl) rfl dX1_readSign_72 ?_
          rintro _ Mq65 ⟨rfl, hq64, Iq66, frq67⟩
          have frq68 : Fr W_X1_readSign Mq Mq65 := frq60.trans frq67 rfl
          show G Γ Mq65 75 [(0, .ref (ad 37)), (1, .int x1)] []
          refine g_goto X (tgt := 113) dX1_readSign_75 (by decide) ?_
          exact g_vret X dX1_readSign_113 ⟨rfl, trivial, Iq66, frq68⟩
      · refine g_aload_n X 0 rfl dX1_readSign_46 ?_
        refine g_aload_n X 0 rfl dX1_readSign_47 ?_
        refine g_geti X f_X1_26 dX1_readSign_48 (x := Mq.1 37 6) rfl ?_
        have bq69 := ig_37_6 Iq0
        refine g_callV X m_X1_86 (c_X1_addOne ad Mq (Mq.1 37 6) rfl Iq0 (by omega)) rfl (by decide) (Nat.le_of_ble_eq_true rfl) rfl dX1_readSign_51 ?_
        rintro _ Mq74 ⟨rfl, hq73, Iq75, frq76⟩
        have frq77 : Fr W_X1_readSign Mq Mq74 := frq0.trans frq76 rfl
        show G Γ Mq74 54 [(0, .ref (ad 37)), (1, .int x1)] []
        refine g_aload_n X 0 rfl dX1_readSign_54 ?_
        refine g_callV X m_X1_115 (c_X1_close ad Mq74 Iq75) rfl (by decide) (Nat.le_of_ble_eq_true rfl) rfl dX1_readSign_55 ?_
        rintro _ Mq82 ⟨rfl, hq81, Iq83, frq84⟩
        have frq85 : Fr W_X1_readSign Mq Mq82 := frq77.trans frq84 rfl
        show G Γ Mq82 58 [(0, .ref (ad 37)), (1, .int x1)] []
        refine g_goto X (tgt := 113) dX1_readSign_58 (by decide) ?_
        exact g_vret X dX1_readSign_113 ⟨rfl, trivial, Iq83, frq85⟩
    · have pq86 : (65 ≤ a1 ∧ a1 ≤ 72) := by omega
      clear hq10 cq11 tq9
      refine g_aload_n X 0 rfl dX1_readSign_25 ?_
      refine g_aload_n X 0 rfl dX1_readSign_26 ?_
      refine g_geti X f_X1_26 dX1_readSign_27 (x := Mq.1 37 6) rfl ?_
      have bq87 := ig_37_6 Iq0
      refine g_iload_n X 1 rfl dX1_readSign_30 ?_
      refine g_bipush X 65 dX1_readSign_31 (by decide) ?_
      refine g_isub X dX1_readSign_33 (fun zq88 eq89 => ?_)
      have tq90 : zq88.toInt = a1 - 65 := sub_nw eq89 t1 (show (65 : Int32).toInt = 65 by decide) (by omega)
      refine g_callV X m_X1_112 (c_X1_multiply ad Mq (Mq.1 37 6) rfl zq88 tq90 Iq0 (by omega) (by omega)) rfl (by decide) (Nat.le_of_ble_eq_true rfl) rfl dX1_readSign_34 ?_
      rintro _ Mq95 ⟨rfl, hq94, Iq96, frq97⟩
      have frq98 : Fr W_X1_readSign Mq Mq95 := frq0.trans frq97 rfl
      show G Γ Mq95 37 [(0, .ref (ad 37)), (1, .int x1)] []
      refine g_goto X (tgt := 113) dX1_readSign_37 (by decide) ?_
      exact g_vret X dX1_readSign_113 ⟨rfl, trivial, Iq96, frq98⟩
  · have pq99 : (97 ≤ a1 ∧ a1 ≤ 104) := by omega
    clear hq4 cq5 tq3
    refine g_aload_n X 0 rfl dX1_readSign_7 ?_
    refine g_iload_n X 1 rfl dX1_readSign_8 ?_
    refine g_bipush X 97 dX1_readSign_9 (by decide) ?_
    refine g_isub X dX1_readSign_11 (fun zq100 eq101 => ?_)
    have tq102 : zq100.toInt = a1 - 97 := sub_nw eq101 t1 (show (97 : Int32).toInt = 97 by decide) (by omega)
    refine g_callV X m_X1_106 (c_X1_followBySlot ad Mq zq100 tq102 Iq0 (by omega)) rfl (by decide) (Nat.le_of_ble_eq_true rfl) rfl dX1_readSign_12 ?_
    rintro _ Mq107 ⟨rfl, hq106, Iq108, frq109⟩
    have frq110 : Fr W_X1_readSign Mq Mq107 := frq0.trans frq109 rfl
    show G Γ Mq107 15 [(0, .ref (ad 37)), (1, .int x1)] []
    refine g_goto X (tgt := 113) dX1_readSign_15 (by decide) ?_
    exact g_vret X dX1_readSign_113 ⟨rfl, trivial, Iq108, frq110⟩
abbrev W_X1_fillTable : List (Nat × Nat) := [(37, 6), (38, 99)]
set_option maxHeartbeats 4000000 in
set_option maxRecDepth 4000 in
theorem c_X1_fillTable (ad : Nat → Nat) (Mq : Mem) (x1 : Int32) {a1 : Int} (t1 : x1.toInt = a1) (Iq0 : Iv TX Mq) (h1 : 0 ≤ a1 ∧ a1 ≤ 7) : Ctr ad yX1_fillTable cX1_fillTable 3 none 4 [.ref (ad 37), .int x1] Mq (fun v M' => v = none ∧ (True) ∧ Iv TX M' ∧ Fr W_X1_fillTable Mq M') := by
  refine ctr_of (L := [(0, .ref (ad 37)), (1, .int x1)]) (by decide) (Nat.le_of_ble_eq_true rfl) rfl ?_
  intro Γ X
  have X : gX Γ cX1_fillTable RX1 3 none 4 ad _ := X
  have frq0 : Fr W_X1_fillTable Mq Mq := Fr.rf
  refine g_aload_n X 0 rfl dX1_fillTable_0 ?_
  refine g_bipush X 8 dX1_fillTable_1 (by decide) ?_
  refine g_puti X p_X1_26 dX1_fillTable_3 ?_
  have Iq1 : Iv TX (ui Mq 37 6 8) := Iq0.put 8 36 (show (8 : Int32).toInt = 8 by decide) (by omega) rfl
  have frq2 : Fr W_X1_fillTable Mq (ui Mq 37 6 8) := frq0.ui rfl
  refine g_aload_n X 0 rfl dX1_fillTable_6 ?_
  refine g_aload_n X 0 rfl dX1_fillTable_7 ?_
  refine g_geti X f_X1_26 dX1_fillTable_8 (x := 8) rfl ?_
  refine g_callV X m_X1_83 (c_X1_clear ad (ui Mq 37 6 8) 8 (show (8 : Int32).toInt = 8 by decide) Iq1 (by omega)) rfl (by decide) (Nat.le_of_ble_eq_true rfl) rfl dX1_fillTable_11 ?_
  rintro _ Mq7 ⟨rfl, hq6, Iq8, frq9⟩
  have frq10 : Fr W_X1_fillTable Mq Mq7 := frq2.trans frq9 rfl
  show G Γ Mq7 14 [(0, .ref (ad 37)), (1, .int x1)] []
  refine g_aload_n X 0 rfl dX1_fillTable_14 ?_
  refine g_aload_n X 0 rfl dX1_fillTable_15 ?_
  refine g_geti X f_X1_26 dX1_fillTable_16 (x := Mq7.1 37 6) rfl ?_
  have bq11 := ig_37_6 Iq8
  refine g_callV X m_X1_86 (c_X1_addOne ad Mq7 (Mq7.1 37 6) rfl Iq8 (by omega)) rfl (by decide) (Nat.le_of_ble_eq_true rfl) rfl dX1_fillTable_19 ?_
  rintro _ Mq16 ⟨rfl, hq15, Iq17, frq18⟩
  have frq19 : Fr W_X1_fillTable Mq Mq16 := frq10.trans frq18 rfl
  show G Γ Mq16 22 [(0, .ref (ad 37)), (1, .int x1)] []
  refine g_iconst X 2 dX1_fillTable_22 (by decide) ?_
  refine g_istore_n X (i := 2) [(2, .int 2), (0, .ref (ad 37)), (1, .int x1)] dX1_fillTable_23 rfl (by decide) rfl ?_
  have lp24 : ∀ n : Nat, ∀ (y2_24 : Int32) (b2_24 : Int), y2_24.toInt = b2_24 → ∀ (M_24 : Mem), (2 ≤ b2_24) → (Iv TX M_24) → (Fr W_X1_fillTable Mq M_24) → ((Mq.1 20 a1.toNat).toInt - b2_24).toNat < n → G Γ M_24 24 [(2, .int y2_24), (0, .ref (ad 37)), (1, .int x1)] [] := by
    intro n
    induction n with
    | zero => intro y2_24 b2_24 e2_24 M_24 i1 I_24 fr_24 hm; exact absurd hm (Nat.not_lt_zero _)
    | succ n ih24 =>
      intro y2_24 b2_24 e2_24 M_24 i1 I_24 fr_24 hm24
      have q20 : (M_24.1 20 a1.toNat).toInt = (Mq.1 20 a1.toNat).toInt := congrArg Int32.toInt (fr_24.at 20 a1.toNat rfl)
      refine g_iload_n X 0 rfl dX1_fillTable_24 ?_
      refine g_aload_n X 1 rfl dX1_fillTable_25 ?_
      refine g_getr X f_X1_33 dX1_fillTable_26 ?_
      refine g_getr X f_X1_89 dX1_fillTable_29 ?_
      refine g_iload_n X 2 rfl dX1_fillTable_32 ?_
      refine g_iald X la_20 t1 dX1_fillTable_33 (by omega) (x := M_24.1 20 a1.toNat) rfl ?_
      have bq20 := ig_20 I_24 a1.toNat (by omega)
      refine g_icmp_ge X e2_24 rfl (tgt := 56) dX1_fillTable_34 (by decide) (fun cq21 => ?_) (fun cq21 => ?_)
      · refine g_aload_n X 1 rfl dX1_fillTable_56 ?_
        refine g_iload_n X 2 rfl dX1_fillTable_57 ?_
        refine g_callV X m_X1_83 (c_X1_clear ad M_24 x1 t1 I_24 (by omega)) rfl (by decide) (Nat.le_of_ble_eq_true rfl) rfl dX1_fillTable_58 ?_
        rintro _ Mq26 ⟨rfl, hq25, Iq27, frq28⟩
        have frq29 : Fr W_X1_fillTable Mq Mq26 := fr_24.trans frq28 rfl
        show G Γ Mq26 61 [(2, .int y2_24), (0, .ref (ad 37)), (1, .int x1)] []
        refine g_aload_n X 1 rfl dX1_fillTable_61 ?_
        refine g_iload_n X 2 rfl dX1_fillTable_62 ?_
        refine g_bipush X 8 dX1_fillTable_63 (by decide) ?_
        refine g_callV X m_X1_99 (c_X1_addTable ad Mq26 x1 t1 8 (show (8 : Int32).toInt = 8 by decide) Iq27 (by omega) (by omega)) rfl (by decide) (Nat.le_of_ble_eq_true rfl) rfl dX1_fillTable_65 ?_
        rintro _ Mq34 ⟨rfl, hq33, Iq35, frq36⟩
        have frq37 : Fr W_X1_fillTable Mq Mq34 := frq29.trans frq36 rfl
        show G Γ Mq34 68 [(2, .int y2_24), (0, .ref (ad 37)), (1, .int x1)] []
        exact g_vret X dX1_fillTable_68 ⟨rfl, trivial, Iq35, frq37⟩
      · refine g_aload_n X 1 rfl dX1_fillTable_37 ?_
        refine g_aload_n X 1 rfl dX1_fillTable_38 ?_
        refine g_getr X f_X1_33 dX1_fillTable_39 ?_
        refine g_iload_n X 2 rfl dX1_fillTable_42 ?_
        refine g_iload_n X 0 rfl dX1_fillTable_43 ?_
        refine g_callV X m_X1_92 (c_X2_sign ad M_24 x1 t1 y2_24 e2_24 (by omega) (by omega)) rfl (by decide) (Nat.le_of_ble_eq_true rfl) rfl dX1_fillTable_44 ?_
        rintro _ _ ⟨rq38, aq39, rfl, tq40, hq41, rfl⟩
        show G Γ M_24 47 [(2, .int y2_24), (0, .ref (ad 37)), (1, .int x1)] [.int rq38, .ref (ad 37)]
        refine g_callV X m_X1_96 (c_X1_readSign ad M_24 rq38 tq40 I_24) rfl (by decide) (Nat.le_of_ble_eq_true rfl) rfl dX1_fillTable_47 ?_
        rintro _ Mq46 ⟨rfl, hq45, Iq47, frq48⟩
        have frq49 : Fr W_X1_fillTable Mq Mq46 := fr_24.trans frq48 rfl
        show G Γ Mq46 50 [(2, .int y2_24), (0, .ref (ad 37)), (1, .int x1)] []
        refine g_iinc X 0 (fun v => [(2, .int v), (0, .ref (ad 37)), (1, .int x1)]) dX1_fillTable_50 rfl (by decide) (fun _ => rfl) (fun zq50 eq51 => ?_)
        have tq52 : zq50.toInt = b2_24 + 1 := add_nw eq51 e2_24 (show (Int32.ofInt 1).toInt = 1 by decide) (by omega)
        refine g_goto X (tgt := 24) dX1_fillTable_53 (by decide) ?_
        refine g_sub [0, 1, 2] rfl ?_
        exact ih24 zq50 _ tq52 Mq46 (by omega) Iq47 frq49 (by omega)
  refine g_sub [0, 1, 2] rfl ?_
  exact lp24 _ 2 _ (show (2 : Int32).toInt = 2 by decide) Mq16 (by omega) Iq17 frq19 (Nat.lt_succ_self _)
abbrev W_X1_ways : List (Nat × Nat) := [(37, 6), (38, 99)]
set_option maxHeartbeats 4000000 in
set_option maxRecDepth 4000 in
theorem c_X1_ways (ad : Nat → Nat) (Mq : Mem) (x1 : Int32) {a1 : Int} (t1 : x1.toInt = a1) (Iq0 : Iv TX Mq) (h1 : 0 ≤ a1 ∧ a1 ≤ 7) : Ctr ad yX1_ways cX1_ways 4 (some .int) 5 [.ref (ad 37), .int x1] Mq (fun v M' => ∃ (r : Int32) (a : Int), v = some (.int r) ∧ r.toInt = a ∧ (True) ∧ Iv TX M' ∧ Fr W_X1_ways Mq M') := by
  refine ctr_of (L := [(0, .ref (ad 37)), (1, .int x1)]) (by decide) (Nat.le_of_ble_eq_true rfl) rfl ?_
  intro Γ X
  have X : gX Γ cX1_ways RX1 4 (some .int) 5 ad _ := X
  have frq0 : Fr W_X1_ways Mq Mq := Fr.rf
  refine g_aload_n X 0 rfl dX1_ways_0 ?_
  refine g_getr X f_X1_33 dX1_ways_1 ?_
  refine g_iload_n X 1 rfl dX1_ways_4 ?_
  refine g_callV X m_X1_53 (c_X2_within ad Mq x1 t1 Iq0) rfl (by decide) (Nat.le_of_ble_eq_true rfl) rfl dX1_ways_5 ?_
  rintro _ _ ⟨rq1, aq2, rfl, tq3, hq4, rfl⟩
  show G Γ Mq 8 [(0, .ref (ad 37)), (1, .int x1)] [.int rq1]
  refine g_istore_n X (i := 2) [(2, .int rq1), (0, .ref (ad 37)), (1, .int x1)] dX1_ways_8 rfl (by decide) rfl ?_
  refine g_iconst X 0 dX1_ways_9 (by decide) ?_
  refine g_istore_n X (i := 3) [(3, .int 0), (2, .int rq1), (0, .ref (ad 37)), (1, .int x1)] dX1_ways_10 rfl (by decide) rfl ?_
  have lp11 : ∀ n : Nat, ∀ (y3_11 : Int32) (b3_11 : Int), y3_11.toInt = b3_11 → ∀ (M_11 : Mem), (0 ≤ b3_11) → (Iv TX M_11) → (Fr W_X1_ways Mq M_11) → ((Mq.1 14 11).toInt - b3_11).toNat < n → G Γ M_11 11 [(3, .int y3_11), (2, .int rq1), (0, .ref (ad 37)), (1, .int x1)] [] := by
    intro n
    induction n with
    | zero => intro y3_11 b3_11 e3_11 M_11 i1 I_11 fr_11 hm; exact absurd hm (Nat.not_lt_zero _)
    | succ n ih11 =>
      intro y3_11 b3_11 e3_11 M_11 i1 I_11 fr_11 hm11
      have q14_11 : (M_11.1 14 11).toInt = (Mq.1 14 11).toInt := congrArg Int32.toInt (fr_11.at 14 11 rfl)
      refine g_iload_n X 0 rfl dX1_ways_11 ?_
      refine g_aload_n X 2 rfl dX1_ways_12 ?_
      refine g_getr X f_X1_33 dX1_ways_13 ?_
      refine g_geti X f_X1_59 dX1_ways_16 (x := M_11.1 14 11) rfl ?_
      have bq5 := ig_14_11 I_11
      refine g_icmp_ge X e3_11 rfl (tgt := 58) dX1_ways_19 (by decide) (fun cq6 => ?_) (fun cq6 => ?_)
      · refine g_aload_n X 2 rfl dX1_ways_58 ?_
        refine g_getr X f_X1_11 dX1_ways_59 ?_
        refine g_aload_n X 2 rfl dX1_ways_62 ?_
        refine g_iload_n X 3 rfl dX1_ways_63 ?_
        refine g_iconst X 0 dX1_ways_64 (by decide) ?_
        refine g_aload_n X 2 rfl dX1_ways_65 ?_
        refine g_geti X f_X1_22 dX1_ways_66 (x := M_11.1 37 5) rfl ?_
        have bq7 := ig_37_5 I_11
        refine g_callV X m_X1_69 (c_X1_cell ad M_11 x1 t1 0 (show (0 : Int32).toInt = 0 by decide) (M_11.1 37 5) rfl I_11 (by omega) (by omega) (by omega)) rfl (by decide) (Nat.le_of_ble_eq_true rfl) rfl dX1_ways_69 ?_
        rintro _ _ ⟨rq8, aq9, rfl, tq10, hq11, rfl⟩
        show G Γ M_11 72 [(3, .int y3_11), (2, .int rq1), (0, .ref (ad 37)), (1, .int x1)] [.int rq8, .ref (ad 38)]
        refine g_iald X la_38 tq10 dX1_ways_72 (by omega) (x := M_11.1 38 aq9.toNat) rfl ?_
        exact g_iret X dX1_ways_73 ⟨_, _, rfl, rfl, trivial, I_11, fr_11⟩
      · refine g_iload_n X 1 rfl dX1_ways_22 ?_
        refine g_aload_n X 2 rfl dX1_ways_23 ?_
        refine g_getr X f_X1_33 dX1_ways_24 ?_
        refine g_getr X f_X1_62 dX1_ways_27 ?_
        refine g_iload_n X 0 rfl dX1_ways_30 ?_
        refine g_iald X la_22 e3_11 dX1_ways_31 (by omega) (x := M_11.1 22 b3_11.toNat) rfl ?_
        have bq12 := ig_22 I_11 b3_11.toNat (by omega)
        refine g_ishr X dX1_ways_32 (fun zq13 eq14 => ?_)
        refine g_iconst X 1 dX1_ways_33 (by decide) ?_
        refine g_iand X dX1_ways_34 (fun zq16 eq17 => ?_)
        refine g_iconst X 1 dX1_ways_35 (by decide) ?_
        refine g_icmp_ne X rfl (show (1 : Int32).toInt = 1 by decide) (tgt := 52) dX1_ways_36 (by decide) (fun cq19 => ?_) (fun cq19 => ?_)
        · refine g_iinc X 0 (fun v => [(3, .int v), (2, .int rq1), (0, .ref (ad 37)), (1, .int x1)]) dX1_ways_52 rfl (by decide) (fun _ => rfl) (fun zq20 eq21 => ?_)
          have tq22 : zq20.toInt = b3_11 + 1 := add_nw eq21 e3_11 (show (Int32.ofInt 1).toInt = 1 by decide) (by omega)
          refine g_goto X (tgt := 11) dX1_ways_55 (by decide) ?_
          refine g_sub [0, 1, 2, 3] rfl ?_
          exact ih11 zq20 _ tq22 M_11 (by omega) I_11 fr_11 (by omega)
        · refine g_aload_n X 2 rfl dX1_ways_39 ?_
          refine g_aload_n X 2 rfl dX1_ways_40 ?_
          refine g_getr X f_X1_33 dX1_ways_41 ?_
          refine g_getr X f_X1_62 dX1_ways_44 ?_
          refine g_iload_n X 0 rfl dX1_ways_47 ?_
          refine g_iald X la_22 e3_11 dX1_ways_48 (by omega) (x := M_11.1 22 b3_11.toNat) rfl ?_
          have bq23 := ig_22 I_11 b3_11.toNat (by omega)
          refine g_callV X m_X1_65 (c_X1_fillTable ad M_11 (M_11.1 22 b3_11.toNat) rfl I_11 (by omega)) rfl (by decide) (Nat.le_of_ble_eq_true rfl) rfl dX1_ways_49 ?_
          rintro _ Mq28 ⟨rfl, hq27, Iq29, frq30⟩
          have frq31 : Fr W_X1_ways Mq Mq28 := fr_11.trans frq30 rfl
          show G Γ Mq28 52 [(3, .int y3_11), (2, .int rq1), (0, .ref (ad 37)), (1, .int x1)] []
          refine g_iinc X 0 (fun v => [(3, .int v), (2, .int rq1), (0, .ref (ad 37)), (1, .int x1)]) dX1_ways_52 rfl (by decide) (fun _ => rfl) (fun zq32 eq33 => ?_)
          have tq34 : zq32.toInt = b3_11 + 1 := add_nw eq33 e3_11 (show (Int32.ofInt 1).toInt = 1 by decide) (by omega)
          refine g_goto X (tgt := 11) dX1_ways_55 (by decide) ?_
          refine g_sub [0, 1, 2, 3] rfl ?_
          exact ih11 zq32 _ tq34 Mq28 (by omega) Iq29 frq31 (by omega)
  refine g_sub [0, 1, 2, 3] rfl ?_
  exact lp11 _ 0 _ (show (0 : Int32).toInt = 0 by decide) Mq (by omega) Iq0 frq0 (Nat.lt_succ_self _)
abbrev W_X1_onlyLine : List (Nat × Nat) := [(37, 6), (38, 99), (39, 99)]
set_option maxHeartbeats 4000000 in
set_option maxRecDepth 4000 in
theorem c_X1_onlyLine (ad : Nat → Nat) (Mq : Mem) (x1 : Int32) {a1 : Int} (t1 : x1.toInt = a1) (x2 : Int32) {a2 : Int} (t2 : x2.toInt = a2) (Iq0 : Iv TX Mq) (h1 : 0 ≤ a1 ∧ a1 ≤ 7) (h2 : 0 ≤ a2 ∧ a2 < 24) : Ctr ad yX1_onlyLine cX1_onlyLine 7 (some .int) 6 [.ref (ad 37), .int x1, .int x2] Mq (fun v M' => ∃ (r : Int32) (a : Int), v = some (.int r) ∧ r.toInt = a ∧ (True) ∧ Iv TX M' ∧ Fr W_X1_onlyLine Mq M') := by
  refine ctr_of (L := [(0, .ref (ad 37)), (1, .int x1), (2, .int x2)]) (by decide) (Nat.le_of_ble_eq_true rfl) rfl ?_
  intro Γ X
  have X : gX Γ cX1_onlyLine RX1 7 (some .int) 6 ad _ := X
  have frq0 : Fr W_X1_onlyLine Mq Mq := Fr.rf
  refine g_iconst X (-1) dX1_onlyLine_0 (by decide) ?_
  refine g_istore_n X (i := 3) [(3, .int (-1)), (0, .ref (ad 37)), (1, .int x1), (2, .int x2)] dX1_onlyLine_1 rfl (by decide) rfl ?_
  refine g_iconst X 0 dX1_onlyLine_2 (by decide) ?_
  refine g_istore X [(4, .int 0), (3, .int (-1)), (0, .ref (ad 37)), (1, .int x1), (2, .int x2)] dX1_onlyLine_3 (by decide) rfl ?_
  have lp5 : ∀ n : Nat, ∀ (y4_5 : Int32) (b4_5 : Int), y4_5.toInt = b4_5 → ∀ (y3_5 : Int32) (b3_5 : Int), y3_5.toInt = b3_5 → ∀ (M_5 : Mem), (0 ≤ b4_5 ∧ b4_5 ≤ 8) → (Iv TX M_5) → (Fr W_X1_onlyLine Mq M_5) → (8 - b4_5).toNat < n → G Γ M_5 5 [(4, .int y4_5), (3, .int y3_5), (0, .ref (ad 37)), (1, .int x1), (2, .int x2)] [] := by
    intro n
    induction n with
    | zero => intro y4_5 b4_5 e4_5 y3_5 b3_5 e3_5 M_5 i1 I_5 fr_5 hm; exact absurd hm (Nat.not_lt_zero _)
    | succ n ih5 =>
      intro y4_5 b4_5 e4_5 y3_5 b3_5 e3_5 M_5 i1 I_5 fr_5 hm5
      refine g_iload X 0 rfl dX1_onlyLine_5 ?_
      refine g_bipush X 8 dX1_onlyLine_7 (by decide) ?_
      refine g_icmp_ge X e4_5 (show (8 : Int32).toInt = 8 by decide) (tgt := 80) dX1_onlyLine_9 (by decide) (fun cq1 => ?_) (fun cq1 => ?_)
      · refine g_iload_n X 1 rfl dX1_onlyLine_80 ?_
        exact g_iret X dX1_onlyLine_81 ⟨_, _, rfl, e3_5, trivial, I_5, fr_5⟩
      · refine g_aload_n X 2 rfl dX1_onlyLine_12 ?_
        refine g_getl X f_X1_18 dX1_onlyLine_13 (x := M_5.2 37 4) rfl ?_
        refine g_aload_n X 2 rfl dX1_onlyLine_16 ?_
        refine g_getr X f_X1_29 dX1_onlyLine_17 ?_
        refine g_getr X f_X1_37 dX1_onlyLine_20 ?_
        refine g_iload X 0 rfl dX1_onlyLine_23 ?_
        refine g_lald X la_11 e4_5 dX1_onlyLine_25 (by omega) (x := M_5.2 11 b4_5.toNat) rfl ?_
        refine g_land X dX1_onlyLine_26 (fun zq2 eq3 => ?_)
        refine g_lstore X [(5, .long zq2), (4, .int y4_5), (3, .int y3_5), (0, .ref (ad 37)), (1, .int x1), (2, .int x2)] dX1_onlyLine_27 (by decide) rfl ?_
        refine g_lload X 0 rfl dX1_onlyLine_29 ?_
        refine g_lconst X 0 dX1_onlyLine_31 (by decide) ?_
        refine g_lcmp X rfl (show (0 : Int64).toInt = 0 by decide) dX1_onlyLine_32 (fun zq4 eq5 => ?_)
        refine g_if_eq X rfl (tgt := 74) dX1_onlyLine_33 (by decide) (fun cq6 => ?_) (fun cq6 => ?_)
        · refine g_iinc X 1 (fun v => [(4, .int v), (5, .long zq2), (3, .int y3_5), (0, .ref (ad 37)), (1, .int x1), (2, .int x2)]) dX1_onlyLine_74 rfl (by decide) (fun _ => rfl) (fun zq7 eq8 => ?_)
          have tq9 : zq7.toInt = b4_5 + 1 := add_nw eq8 e4_5 (show (Int32.ofInt 1).toInt = 1 by decide) (by omega)
          refine g_goto X (tgt := 5) dX1_onlyLine_77 (by decide) ?_
          refine g_sub [0, 2, 3, 4, 5] rfl ?_
          exact ih5 zq7 _ tq9 y3_5 _ e3_5 M_5 (by omega) I_5 fr_5 (by omega)
        · refine g_aload_n X 3 rfl dX1_onlyLine_36 ?_
          refine g_iload_n X 5 rfl dX1_onlyLine_37 ?_
          refine g_iload X 1 rfl dX1_onlyLine_38 ?_
          refine g_callV X m_X1_73 (c_X1_allowOnly ad M_5 x2 t2 y4_5 e4_5 I_5 (by omega)) rfl (by decide) (Nat.le_of_ble_eq_true rfl) rfl dX1_onlyLine_40 ?_
          rintro _ Mq14 ⟨rfl, hq13, Iq15, frq16⟩
          have frq17 : Fr W_X1_onlyLine Mq Mq14 := fr_5.trans frq16 rfl
          show G Γ Mq14 43 [(5, .long zq2), (4, .int y4_5), (3, .int y3_5), (0, .ref (ad 37)), (1, .int x1), (2, .int x2)] []
          refine g_aload_n X 3 rfl dX1_onlyLine_43 ?_
          refine g_iload_n X 4 rfl dX1_onlyLine_44 ?_
          refine g_callV X m_X1_77 (c_X1_ways ad Mq14 x1 t1 Iq15 (by omega)) rfl (by decide) (Nat.le_of_ble_eq_true rfl) rfl dX1_onlyLine_45 ?_
          rintro _ Mq22 ⟨rq18, aq19, rfl, tq20, hq21, Iq23, frq24⟩
          have frq25 : Fr W_X1_onlyLine Mq Mq22 := frq17.trans frq24 rfl
          show G Γ Mq22 48 [(5, .long zq2), (4, .int y4_5), (3, .int y3_5), (0, .ref (ad 37)), (1, .int x1), (2, .int x2)] [.int rq18]
          refine g_if_le X tq20 (tgt := 74) dX1_onlyLine_48 (by decide) (fun cq26 => ?_) (fun cq26 => ?_)
          · refine g_iinc X 1 (fun v => [(4, .int v), (5, .long zq2), (3, .int y3_5), (0, .ref (ad 37)), (1, .int x1), (2, .int x2)]) dX1_onlyLine_74 rfl (by decide) (fun _ => rfl) (fun zq27 eq28 => ?_)
            have tq29 : zq27.toInt = b4_5 + 1 := add_nw eq28 e4_5 (show (Int32.ofInt 1).toInt = 1 by decide) (by omega)
            refine g_goto X (tgt := 5) dX1_onlyLine_77 (by decide) ?_
            refine g_sub [0, 2, 3, 4, 5] rfl ?_
            exact ih5 zq27 _ tq29 y3_5 _ e3_5 Mq22 (by omega) Iq23 frq25 (by omega)
          · refine g_iload_n X 2 rfl dX1_onlyLine_51 ?_
            refine g_iconst X (-1) dX1_onlyLine_52 (by decide) ?_
            refine g_icmp_ne X e3_5 (show ((-1) : Int32).toInt = (-1) by decide) (tgt := 65) dX1_onlyLine_53 (by decide) (fun cq30 => ?_) (fun cq30 => ?_)
            · refine g_iconst X (-1) dX1_onlyLine_65 (by decide) ?_
              exact g_iret X dX1_onlyLine_66 ⟨_, _, rfl, (show ((-1) : Int32).toInt = (-1) by decide), trivial, Iq23, frq25⟩
            · refine g_lload X 0 rfl dX1_onlyLine_56 ?_
              refine g_callS X m_X1_43 (c_J13_bitCount_95d88 ad Mq22 zq2 rfl) rfl (by decide) (Nat.le_of_ble_eq_true rfl) rfl dX1_onlyLine_58 ?_
              rintro _ _ ⟨rq31, aq32, rfl, tq33, hq34, rfl⟩
              show G Γ Mq22 61 [(5, .long zq2), (4, .int y4_5), (3, .int y3_5), (0, .ref (ad 37)), (1, .int x1), (2, .int x2)] [.int rq31]
              refine g_iconst X 1 dX1_onlyLine_61 (by decide) ?_
              refine g_icmp_le X tq33 (show (1 : Int32).toInt = 1 by decide) (tgt := 67) dX1_onlyLine_62 (by decide) (fun cq35 => ?_) (fun cq35 => ?_)
              · refine g_lload X 0 rfl dX1_onlyLine_67 ?_
                refine g_iconst X 0 dX1_onlyLine_69 (by decide) ?_
                refine g_callS X m_X1_80 (c_X6_pick ad Mq22 zq2 rfl 0 (show (0 : Int32).toInt = 0 by decide)) rfl (by decide) (Nat.le_of_ble_eq_true rfl) rfl dX1_onlyLine_70 ?_
                rintro _ _ ⟨rq36, aq37, rfl, tq38, hq39, rfl⟩
                show G Γ Mq22 73 [(5, .long zq2), (4, .int y4_5), (3, .int y3_5), (0, .ref (ad 37)), (1, .int x1), (2, .int x2)] [.int rq36]
                refine g_istore_n X (i := 3) [(3, .int rq36), (5, .long zq2), (4, .int y4_5), (0, .ref (ad 37)), (1, .int x1), (2, .int x2)] dX1_onlyLine_73 rfl (by decide) rfl ?_
                refine g_iinc X 2 (fun v => [(4, .int v), (3, .int rq36), (5, .long zq2), (0, .ref (ad 37)), (1, .int x1), (2, .int x2)]) dX1_onlyLine_74 rfl (by decide) (fun _ => rfl) (fun zq40 eq41 => ?_)
                have tq42 : zq40.toInt = b4_5 + 1 := add_nw eq41 e4_5 (show (Int32.ofInt 1).toInt = 1 by decide) (by omega)
                refine g_goto X (tgt := 5) dX1_onlyLine_77 (by decide) ?_
                refine g_sub [0, 1, 3, 4, 5] rfl ?_
                exact ih5 zq40 _ tq42 rq36 _ tq38 Mq22 (by omega) Iq23 frq25 (by omega)
              · refine g_iconst X (-1) dX1_onlyLine_65 (by decide) ?_
                exact g_iret X dX1_onlyLine_66 ⟨_, _, rfl, (show ((-1) : Int32).toInt = (-1) by decide), trivial, Iq23, frq25⟩
  refine g_sub [0, 1, 2, 3, 4] rfl ?_
  exact lp5 _ 0 _ (show (0 : Int32).toInt = 0 by decide) (-1) _ (show ((-1) : Int32).toInt = (-1) by decide) Mq (by omega) Iq0 frq0 (Nat.lt_succ_self _)
end
