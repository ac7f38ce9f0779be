section
abbrev W_X1_take_46_R : List (Nat × Nat) := [(37, 4), (37, 5), (39, 99)]
set_option maxHeartbeats 4000000 in
set_option maxRecDepth 4000 in
theorem c_X1_take_46_R (ad : Nat → Nat) (Mq : Mem) (x2 : Int32) {a2 : Int} (t2 : x2.toInt = a2) (x3 : Int32) {a3 : Int} (t3 : x3.toInt = a3) (x4 : Int64) {a4 : Int} (t4 : x4.toInt = a4) (Iq0 : Iv TX Mq) (h1 : 0 ≤ a2 ∧ a2 + a3 ≤ 24) (h2 : 0 ≤ a3 ∧ a3 ≤ 24) (hr : ∀ j : Nat, (j : Int) < a3 → 0 ≤ (Mq.1 46 (a2.toNat + j)).toInt ∧ (Mq.1 46 (a2.toNat + j)).toInt ≤ 40) : Ctr ad yX1_take cX1_take 11 none 1 [.ref (ad 37), .ref (ad 46), .int x2, .int x3, .long x4] Mq (fun v M' => v = none ∧ (True) ∧ ((M'.1 37 5).toInt = a3 ∧ M'.2 37 4 = x4 ∧ WTI (M'.1 39) (fun s j => wtB (b64 (x4 &&& Mq.2 11 s)) (Mq.1 46 (a2.toNat + j)).toInt) a3 0) ∧ Iv TX M' ∧ Fr W_X1_take_46_R Mq M') := by
  refine ctr_of (L := [(0, .ref (ad 37)), (1, .ref (ad 46)), (2, .int x2), (3, .int x3), (4, .long x4)]) (by decide) (Nat.le_of_ble_eq_true rfl) rfl ?_
  intro Γ X
  have X : gX Γ cX1_take RX1 11 none 1 ad _ := X
  have frq0 : Fr W_X1_take_46_R Mq Mq := Fr.rf
  refine g_aload_n X 0 rfl dX1_take_0 ?_
  refine g_lload X 4 rfl dX1_take_1 ?_
  refine g_putl X p_X1_18 dX1_take_3 ?_
  have Iq1 : Iv TX (ul Mq 37 4 x4) := Iq0.long
  have frq2 : Fr W_X1_take_46_R Mq (ul Mq 37 4 x4) := frq0.ul rfl
  refine g_aload_n X 0 rfl dX1_take_6 ?_
  refine g_iload_n X 3 rfl dX1_take_7 ?_
  refine g_puti X p_X1_22 dX1_take_8 ?_
  have Iq3 : Iv TX (ui (ul Mq 37 4 x4) 37 5 x3) := Iq1.put 0 24 t3 (by omega) rfl
  have frq4 : Fr W_X1_take_46_R Mq (ui (ul Mq 37 4 x4) 37 5 x3) := frq2.ui rfl
  refine g_iconst X 0 dX1_take_11 (by decide) ?_
  refine g_istore X [(6, .int 0), (0, .ref (ad 37)), (1, .ref (ad 46)), (2, .int x2), (3, .int x3), (4, .long x4)] dX1_take_12 (by decide) rfl ?_
  have lp14 : ∀ n : Nat, ∀ (y6_14 : Int32) (b6_14 : Int), y6_14.toInt = b6_14 → ∀ (M_14 : Mem), (0 ≤ b6_14 ∧ b6_14 ≤ a3) → (WTI (M_14.1 39) (fun s j => wtB (b64 (x4 &&& Mq.2 11 s)) (Mq.1 46 (a2.toNat + j)).toInt) b6_14 0) → ((M_14.1 37 5).toInt = a3) → (M_14.2 37 4 = x4) → (Iv TX M_14) → (Fr W_X1_take_46_R Mq M_14) → (a3 - b6_14).toNat < n → G Γ M_14 14 [(6, .int y6_14), (0, .ref (ad 37)), (1, .ref (ad 46)), (2, .int x2), (3, .int x3), (4, .long x4)] [] := by
    intro n
    induction n with
    | zero => intro y6_14 b6_14 e6_14 M_14 i1 i2 i3 i4 I_14 fr_14 hm; exact absurd hm (Nat.not_lt_zero _)
    | succ n ih14 =>
      intro y6_14 b6_14 e6_14 M_14 i1 i2 i3 i4 I_14 fr_14 hm14
      refine g_iload X 0 rfl dX1_take_14 ?_
      refine g_iload_n X 4 rfl dX1_take_16 ?_
      refine g_icmp_ge X e6_14 t3 (tgt := 102) dX1_take_17 (by decide) (fun cq5 => ?_) (fun cq5 => ?_)
      · exact g_vret X dX1_take_102 ⟨rfl, trivial, (⟨i3, i4, by rw [show b6_14 = a3 by omega] at i2; exact i2⟩), I_14, fr_14⟩
      · refine g_aload_n X 2 rfl dX1_take_20 ?_
        refine g_iload_n X 3 rfl dX1_take_21 ?_
        refine g_iload X 0 rfl dX1_take_22 ?_
        refine g_iadd X dX1_take_24 (fun zq6 eq7 => ?_)
        have tq8 : zq6.toInt = a2 + b6_14 := add_nw eq7 t2 e6_14 (by omega)
        refine g_iald X la_46 tq8 dX1_take_25 (by omega) (x := M_14.1 46 ((a2 + b6_14).toNat)) rfl ?_
        refine g_istore X [(7, .int (M_14.1 46 ((a2 + b6_14).toNat))), (6, .int y6_14), (0, .ref (ad 37)), (1, .ref (ad 46)), (2, .int x2), (3, .int x3), (4, .long x4)] dX1_take_26 (by decide) rfl ?_
        have e7 : (M_14.1 46 (a2 + b6_14).toNat).toInt = (Mq.1 46 (a2.toNat + (b6_14).toNat)).toInt := by rw [fr_14.at 46 _ rfl, show (a2 + b6_14).toNat = a2.toNat + (b6_14).toNat by omega]
        have hrj := hr (b6_14).toNat (by omega)
        refine g_iconst X 0 dX1_take_28 (by decide) ?_
        refine g_istore X [(8, .int 0), (7, .int (M_14.1 46 ((a2 + b6_14).toNat))), (6, .int y6_14), (0, .ref (ad 37)), (1, .ref (ad 46)), (2, .int x2), (3, .int x3), (4, .long x4)] dX1_take_29 (by decide) rfl ?_
        have lp31 : ∀ n : Nat, ∀ (y8_31 : Int32) (b8_31 : Int), y8_31.toInt = b8_31 → ∀ (M_31 : Mem), (0 ≤ b8_31 ∧ b8_31 ≤ 8) → (WTI (M_31.1 39) (fun s j => wtB (b64 (x4 &&& Mq.2 11 s)) (Mq.1 46 (a2.toNat + j)).toInt) b6_14 b8_31) → ((M_31.1 37 5).toInt = a3) → (M_31.2 37 4 = x4) → (Iv TX M_31) → (Fr W_X1_take_46_R Mq M_31) → (8 - b8_31).toNat < n → G Γ M_31 31 [(8, .int y8_31), (7, .int (M_14.1 46 ((a2 + b6_14).toNat))), (6, .int y6_14), (0, .ref (ad 37)), (1, .ref (ad 46)), (2, .int x2), (3, .int x3), (4, .long x4)] [] := by
          intro n
          induction n with
          | zero => intro y8_31 b8_31 e8_31 M_31 i5 i6 i7 i8 I_31 fr_31 hm; exact absurd hm (Nat.not_lt_zero _)
          | succ n ih31 =>
            intro y8_31 b8_31 e8_31 M_31 i5 i6 i7 i8 I_31 fr_31 hm31
            refine g_iload X 0 rfl dX1_take_31 ?_
            refine g_bipush X 8 dX1_take_33 (by decide) ?_
            refine g_icmp_ge X e8_31 (show (8 : Int32).toInt = 8 by decide) (tgt := 96) dX1_take_35 (by decide) (fun cq9 => ?_) (fun cq9 => ?_)
            · refine g_iinc X 2 (fun v => [(6, .int v), (8, .int y8_31), (7, .int (M_14.1 46 ((a2 + b6_14).toNat))), (0, .ref (ad 37)), (1, .ref (ad 46)), (2, .int x2), (3, .int x3), (4, .long x4)]) dX1_take_96 rfl (by decide) (fun _ => rfl) (fun zq10 eq11 => ?_)
              have tq12 : zq10.toInt = b6_14 + 1 := add_nw eq11 e6_14 (show (Int32.ofInt 1).toInt = 1 by decide) (by omega)
              refine g_goto X (tgt := 14) dX1_take_99 (by decide) ?_
              refine g_sub [0, 3, 4, 5, 6, 7] rfl ?_
              exact ih14 zq10 _ tq12 M_31 (by omega) (WTI_row i6 (by omega)) i7 i8 I_31 fr_31 (by omega)
            · refine g_aload_n X 3 rfl dX1_take_38 ?_
              refine g_getl X f_X1_18 dX1_take_39 (x := M_31.2 37 4) rfl ?_
              refine g_aload_n X 3 rfl dX1_take_42 ?_
              refine g_getr X f_X1_29 dX1_take_43 ?_
              refine g_getr X f_X1_37 dX1_take_46 ?_
              refine g_iload X 0 rfl dX1_take_49 ?_
              refine g_lald X la_11 e8_31 dX1_take_51 (by omega) (x := M_31.2 11 b8_31.toNat) rfl ?_
              refine g_land X dX1_take_52 (fun zq13 eq14 => ?_)
              have kx52 : zq13 = x4 &&& Mq.2 11 (b8_31).toNat := by rw [eq14, i8, fr_31.atL 11 _ rfl]
              refine g_lstore X [(9, .long zq13), (8, .int y8_31), (7, .int (M_14.1 46 ((a2 + b6_14).toNat))), (6, .int y6_14), (0, .ref (ad 37)), (1, .ref (ad 46)), (2, .int x2), (3, .int x3), (4, .long x4)] dX1_take_53 (by decide) rfl ?_
              refine g_aload_n X 4 rfl dX1_take_55 ?_
              refine g_getr X f_X1_15 dX1_take_56 ?_
              refine g_iload X 3 rfl dX1_take_59 ?_
              refine g_bipush X 8 dX1_take_61 (by decide) ?_
              refine g_imul X dX1_take_63 (fun zq15 eq16 => ?_)
              have tq17 : zq15.toInt = b6_14 * 8 := mul_nw eq16 e6_14 (show (8 : Int32).toInt = 8 by decide) (by omega)
              refine g_iload X 1 rfl dX1_take_64 ?_
              refine g_iadd X dX1_take_66 (fun zq18 eq19 => ?_)
              have tq20 : zq18.toInt = (b6_14 * 8) + b8_31 := add_nw eq19 tq17 e8_31 (by omega)
              refine g_iload X 2 rfl dX1_take_67 ?_
              refine g_bipush X 40 dX1_take_69 (by decide) ?_
              refine g_icmp_ne X rfl (show (40 : Int32).toInt = 40 by decide) (tgt := 82) dX1_take_71 (by decide) (fun cq21 => ?_) (fun cq21 => ?_)
              · refine g_lload X 0 rfl dX1_take_82 ?_
                refine g_iload X 2 rfl dX1_take_84 ?_
                refine g_callS X m_X1_49 (c_X6_bit_E ad M_31 zq13 rfl (M_14.1 46 ((a2 + b6_14).toNat)) rfl (by omega)) rfl (by decide) (Nat.le_of_ble_eq_true rfl) rfl dX1_take_86 ?_
                rintro _ _ ⟨rq22, aq23, rfl, tq24, hq25, rfl⟩
                have hb := hq25
                rw [kx52, e7] at hb
                show G Γ M_31 89 [(9, .long zq13), (8, .int y8_31), (7, .int (M_14.1 46 ((a2 + b6_14).toNat))), (6, .int y6_14), (0, .ref (ad 37)), (1, .ref (ad 46)), (2, .int x2), (3, .int x3), (4, .long x4)] [.int rq22, .int zq18, .ref (ad 39)]
                refine g_iast X la_39 tq20 dX1_take_89 (by omega) ?_
                have Iq26 : Iv TX (ui M_31 39 (((b6_14 * 8) + b8_31).toNat) rq22) := I_31.otherA rfl
                have frq27 : Fr W_X1_take_46_R Mq (ui M_31 39 (((b6_14 * 8) + b8_31).toNat) rq22) := fr_31.ui rfl
                refine g_iinc X 1 (fun v => [(8, .int v), (9, .long zq13), (7, .int (M_14.1 46 ((a2 + b6_14).toNat))), (6, .int y6_14), (0, .ref (ad 37)), (1, .ref (ad 46)), (2, .int x2), (3, .int x3), (4, .long x4)]) dX1_take_90 rfl (by decide) (fun _ => rfl) (fun zq28 eq29 => ?_)
                have tq30 : zq28.toInt = b8_31 + 1 := add_nw eq29 e8_31 (show (Int32.ofInt 1).toInt = 1 by decide) (by omega)
                refine g_goto X (tgt := 31) dX1_take_93 (by decide) ?_
                refine g_sub [0, 2, 3, 4, 5, 6, 7, 8] rfl ?_
                exact ih31 zq28 _ tq30 (ui M_31 39 (((b6_14 * 8) + b8_31).toNat) rq22) (by omega) (by first | exact WTI_put i6 ⟨i5.1, by omega⟩ i1.1 (by omega) (by show _ = ((wtB _ _ : Nat) : Int); rw [← e7, wtB_40 (by omega)]; omega) | exact WTI_put i6 ⟨i5.1, by omega⟩ i1.1 (by omega) (by show _ = ((wtB _ _ : Nat) : Int); rw [← wtB_b (by omega) hb]; omega)) (by rw [ui_cell (k := 39) (a := 37) (by decide)]; exact i7) i8 Iq26 frq27 (by omega)
              · refine g_lload X 0 rfl dX1_take_74 ?_
                refine g_callS X m_X1_43 (c_J13_bitCount_95d88_E ad M_31 zq13 rfl) rfl (by decide) (Nat.le_of_ble_eq_true rfl) rfl dX1_take_76 ?_
                rintro _ _ ⟨rq31, aq32, rfl, tq33, hq34, rfl⟩
                have hv := hq34
                rw [kx52] at hv
                show G Γ M_31 79 [(9, .long zq13), (8, .int y8_31), (7, .int (M_14.1 46 ((a2 + b6_14).toNat))), (6, .int y6_14), (0, .ref (ad 37)), (1, .ref (ad 46)), (2, .int x2), (3, .int x3), (4, .long x4)] [.int rq31, .int zq18, .ref (ad 39)]
                refine g_goto X (tgt := 89) dX1_take_79 (by decide) ?_
                refine g_iast X la_39 tq20 dX1_take_89 (by omega) ?_
                have Iq35 : Iv TX (ui M_31 39 (((b6_14 * 8) + b8_31).toNat) rq31) := I_31.otherA rfl
                have frq36 : Fr W_X1_take_46_R Mq (ui M_31 39 (((b6_14 * 8) + b8_31).toNat) rq31) := fr_31.ui rfl
                refine g_iinc X 1 (fun v => [(8, .int v), (9, .long zq13), (7, .int (M_14.1 46 ((a2 + b6_14).toNat))), (6, .int y6_14), (0, .ref (ad 37)), (1, .ref (ad 46)), (2, .int x2), (3, .int x3), (4, .long x4)]) dX1_take_90 rfl (by decide) (fun _ => rfl) (fun zq37 eq38 => ?_)
                have tq39 : zq37.toInt = b8_31 + 1 := add_nw eq38 e8_31 (show (Int32.ofInt 1).toInt = 1 by decide) (by omega)
                refine g_goto X (tgt := 31) dX1_take_93 (by decide) ?_
                refine g_sub [0, 2, 3, 4, 5, 6, 7, 8] rfl ?_
                exact ih31 zq37 _ tq39 (ui M_31 39 (((b6_14 * 8) + b8_31).toNat) rq31) (by omega) (by first | exact WTI_put i6 ⟨i5.1, by omega⟩ i1.1 (by omega) (by show _ = ((wtB _ _ : Nat) : Int); rw [← e7, wtB_40 (by omega)]; omega) | exact WTI_put i6 ⟨i5.1, by omega⟩ i1.1 (by omega) (by show _ = ((wtB _ _ : Nat) : Int); rw [← wtB_b (by omega) hb]; omega)) (by rw [ui_cell (k := 39) (a := 37) (by decide)]; exact i7) i8 Iq35 frq36 (by omega)
        refine g_sub [0, 1, 2, 3, 4, 5, 6, 7] rfl ?_
        exact lp31 _ 0 _ (show (0 : Int32).toInt = 0 by decide) M_14 (by omega) i2 i3 i4 I_14 fr_14 (Nat.lt_succ_self _)
  refine g_sub [0, 1, 2, 3, 4, 5] rfl ?_
  exact lp14 _ 0 _ (show (0 : Int32).toInt = 0 by decide) (ui (ul Mq 37 4 x4) 37 5 x3) (by omega) WTI_0 (by rw [ui_eq]; exact t3) (by show (ul Mq 37 4 x4).2 37 4 = x4; rw [ul_eq]) Iq3 frq4 (Nat.lt_succ_self _)
abbrev W_X1_take_45_R : List (Nat × Nat) := [(37, 4), (37, 5), (39, 99)]
set_option maxHeartbeats 4000000 in
set_option maxRecDepth 4000 in
theorem c_X1_take_45_R (ad : Nat → Nat) (Mq : Mem) (x2 : Int32) {a2 : Int} (t2 : x2.toInt = a2) (x3 : Int32) {a3 : Int} (t3 : x3.toInt = a3) (x4 : Int64) {a4 : Int} (t4 : x4.toInt = a4) (Iq0 : Iv TX Mq) (h1 : 0 ≤ a2 ∧ a2 + a3 ≤ 288) (h2 : 0 ≤ a3 ∧ a3 ≤ 24) (hr : ∀ j : Nat, (j : Int) < a3 → 0 ≤ (Mq.1 45 (a2.toNat + j)).toInt ∧ (Mq.1 45 (a2.toNat + j)).toInt ≤ 40) : Ctr ad yX1_take cX1_take 11 none 1 [.ref (ad 37), .ref (ad 45), .int x2, .int x3, .long x4] Mq (fun v M' => v = none ∧ (True) ∧ ((M'.1 37 5).toInt = a3 ∧ M'.2 37 4 = x4 ∧ WTI (M'.1 39) (fun s j => wtB (b64 (x4 &&& Mq.2 11 s)) (Mq.1 45 (a2.toNat + j)).toInt) a3 0) ∧ Iv TX M' ∧ Fr W_X1_take_45_R Mq M') := by
  refine ctr_of (L := [(0, .ref (ad 37)), (1, .ref (ad 45)), (2, .int x2), (3, .int x3), (4, .long x4)]) (by decide) (Nat.le_of_ble_eq_true rfl) rfl ?_
  intro Γ X
  have X : gX Γ cX1_take RX1 11 none 1 ad _ := X
  have frq0 : Fr W_X1_take_45_R Mq Mq := Fr.rf
  refine g_aload_n X 0 rfl dX1_take_0 ?_
  refine g_lload X 4 rfl dX1_take_1 ?_
  refine g_putl X p_X1_18 dX1_take_3 ?_
  have Iq1 : Iv TX (ul Mq 37 4 x4) := Iq0.long
  have frq2 : Fr W_X1_take_45_R Mq (ul Mq 37 4 x4) := frq0.ul rfl
  refine g_aload_n X 0 rfl dX1_take_6 ?_
  refine g_iload_n X 3 rfl dX1_take_7 ?_
  refine g_puti X p_X1_22 dX1_take_8 ?_
  have Iq3 : Iv TX (ui (ul Mq 37 4 x4) 37 5 x3) := Iq1.put 0 24 t3 (by omega) rfl
  have frq4 : Fr W_X1_take_45_R Mq (ui (ul Mq 37 4 x4) 37 5 x3) := frq2.ui rfl
  refine g_iconst X 0 dX1_take_11 (by decide) ?_
  refine g_istore X [(6, .int 0), (0, .ref (ad 37)), (1, .ref (ad 45)), (2, .int x2), (3, .int x3), (4, .long x4)] dX1_take_12 (by decide) rfl ?_
  have lp14 : ∀ n : Nat, ∀ (y6_14 : Int32) (b6_14 : Int), y6_14.toInt = b6_14 → ∀ (M_14 : Mem), (0 ≤ b6_14 ∧ b6_14 ≤ a3) → (WTI (M_14.1 39) (fun s j => wtB (b64 (x4 &&& Mq.2 11 s)) (Mq.1 45 (a2.toNat + j)).toInt) b6_14 0) → ((M_14.1 37 5).toInt = a3) → (M_14.2 37 4 = x4) → (Iv TX M_14) → (Fr W_X1_take_45_R Mq M_14) → (a3 - b6_14).toNat < n → G Γ M_14 14 [(6, .int y6_14), (0, .ref (ad 37)), (1, .ref (ad 45)), (2, .int x2), (3, .int x3), (4, .long x4)] [] := by
    intro n
    induction n with
    | zero => intro y6_14 b6_14 e6_14 M_14 i1 i2 i3 i4 I_14 fr_14 hm; exact absurd hm (Nat.not_lt_zero _)
    | succ n ih14 =>
      intro y6_14 b6_14 e6_14 M_14 i1 i2 i3 i4 I_14 fr_14 hm14
      refine g_iload X 0 rfl dX1_take_14 ?_
      refine g_iload_n X 4 rfl dX1_take_16 ?_
      refine g_icmp_ge X e6_14 t3 (tgt := 102) dX1_take_17 (by decide) (fun cq5 => ?_) (fun cq5 => ?_)
      · exact g_vret X dX1_take_102 ⟨rfl, trivial, (⟨i3, i4, by rw [show b6_14 = a3 by omega] at i2; exact i2⟩), I_14, fr_14⟩
      · refine g_aload_n X 2 rfl dX1_take_20 ?_
        refine g_iload_n X 3 rfl dX1_take_21 ?_
        refine g_iload X 0 rfl dX1_take_22 ?_
        refine g_iadd X dX1_take_24 (fun zq6 eq7 => ?_)
        have tq8 : zq6.toInt = a2 + b6_14 := add_nw eq7 t2 e6_14 (by omega)
        refine g_iald X la_45 tq8 dX1_take_25 (by omega) (x := M_14.1 45 ((a2 + b6_14).toNat)) rfl ?_
        refine g_istore X [(7, .int (M_14.1 45 ((a2 + b6_14).toNat))), (6, .int y6_14), (0, .ref (ad 37)), (1, .ref (ad 45)), (2, .int x2), (3, .int x3), (4, .long x4)] dX1_take_26 (by decide) rfl ?_
        have e7 : (M_14.1 45 (a2 + b6_14).toNat).toInt = (Mq.1 45 (a2.toNat + (b6_14).toNat)).toInt := by rw [fr_14.at 45 _ rfl, show (a2 + b6_14).toNat = a2.toNat + (b6_14).toNat by omega]
        have hrj := hr (b6_14).toNat (by omega)
        refine g_iconst X 0 dX1_take_28 (by decide) ?_
        refine g_istore X [(8, .int 0), (7, .int (M_14.1 45 ((a2 + b6_14).toNat))), (6, .int y6_14), (0, .ref (ad 37)), (1, .ref (ad 45)), (2, .int x2), (3, .int x3), (4, .long x4)] dX1_take_29 (by decide) rfl ?_
        have lp31 : ∀ n : Nat, ∀ (y8_31 : Int32) (b8_31 : Int), y8_31.toInt = b8_31 → ∀ (M_31 : Mem), (0 ≤ b8_31 ∧ b8_31 ≤ 8) → (WTI (M_31.1 39) (fun s j => wtB (b64 (x4 &&& Mq.2 11 s)) (Mq.1 45 (a2.toNat + j)).toInt) b6_14 b8_31) → ((M_31.1 37 5).toInt = a3) → (M_31.2 37 4 = x4) → (Iv TX M_31) → (Fr W_X1_take_45_R Mq M_31) → (8 - b8_31).toNat < n → G Γ M_31 31 [(8, .int y8_31), (7, .int (M_14.1 45 ((a2 + b6_14).toNat))), (6, .int y6_14), (0, .ref (ad 37)), (1, .ref (ad 45)), (2, .int x2), (3, .int x3), (4, .long x4)] [] := by
          intro n
          induction n with
          | zero => intro y8_31 b8_31 e8_31 M_31 i5 i6 i7 i8 I_31 fr_31 hm; exact absurd hm (Nat.not_lt_zero _)
          | succ n ih31 =>
            intro y8_31 b8_31 e8_31 M_31 i5 i6 i7 i8 I_31 fr_31 hm31
            refine g_iload X 0 rfl dX1_take_31 ?_
            refine g_bipush X 8 dX1_take_33 (by decide) ?_
            refine g_icmp_ge X e8_31 (show (8 : Int32).toInt = 8 by decide) (tgt := 96) dX1_take_35 (by decide) (fun cq9 => ?_) (fun cq9 => ?_)
            · refine g_iinc X 2 (fun v => [(6, .int v), (8, .int y8_31), (7, .int (M_14.1 45 ((a2 + b6_14).toNat))), (0, .ref (ad 37)), (1, .ref (ad 45)), (2, .int x2), (3, .int x3), (4, .long x4)]) dX1_take_96 rfl (by decide) (fun _ => rfl) (fun zq10 eq11 => ?_)
              have tq12 : zq10.toInt = b6_14 + 1 := add_nw eq11 e6_14 (show (Int32.ofInt 1).toInt = 1 by decide) (by omega)
              refine g_goto X (tgt := 14) dX1_take_99 (by decide) ?_
              refine g_sub [0, 3, 4, 5, 6, 7] rfl ?_
              exact ih14 zq10 _ tq12 M_31 (by omega) (WTI_row i6 (by omega)) i7 i8 I_31 fr_31 (by omega)
            · refine g_aload_n X 3 rfl dX1_take_38 ?_
              refine g_getl X f_X1_18 dX1_take_39 (x := M_31.2 37 4) rfl ?_
              refine g_aload_n X 3 rfl dX1_take_42 ?_
              refine g_getr X f_X1_29 dX1_take_43 ?_
              refine g_getr X f_X1_37 dX1_take_46 ?_
              refine g_iload X 0 rfl dX1_take_49 ?_
              refine g_lald X la_11 e8_31 dX1_take_51 (by omega) (x := M_31.2 11 b8_31.toNat) rfl ?_
              refine g_land X dX1_take_52 (fun zq13 eq14 => ?_)
              have kx52 : zq13 = x4 &&& Mq.2 11 (b8_31).toNat := by rw [eq14, i8, fr_31.atL 11 _ rfl]
              refine g_lstore X [(9, .long zq13), (8, .int y8_31), (7, .int (M_14.1 45 ((a2 + b6_14).toNat))), (6, .int y6_14), (0, .ref (ad 37)), (1, .ref (ad 45)), (2, .int x2), (3, .int x3), (4, .long x4)] dX1_take_53 (by decide) rfl ?_
              refine g_aload_n X 4 rfl dX1_take_55 ?_
              refine g_getr X f_X1_15 dX1_take_56 ?_
              refine g_iload X 3 rfl dX1_take_59 ?_
              refine g_bipush X 8 dX1_take_61 (by decide) ?_
              refine g_imul X dX1_take_63 (fun zq15 eq16 => ?_)
              have tq17 : zq15.toInt = b6_14 * 8 := mul_nw eq16 e6_14 (show (8 : Int32).toInt = 8 by decide) (by omega)
              refine g_iload X 1 rfl dX1_take_64 ?_
              refine g_iadd X dX1_take_66 (fun zq18 eq19 => ?_)
              have tq20 : zq18.toInt = (b6_14 * 8) + b8_31 := add_nw eq19 tq17 e8_31 (by omega)
              refine g_iload X 2 rfl dX1_take_67 ?_
              refine g_bipush X 40 dX1_take_69 (by decide) ?_
              refine g_icmp_ne X rfl (show (40 : Int32).toInt = 40 by decide) (tgt := 82) dX1_take_71 (by decide) (fun cq21 => ?_) (fun cq21 => ?_)
              · refine g_lload X 0 rfl dX1_take_82 ?_
                refine g_iload X 2 rfl dX1_take_84 ?_
                refine g_callS X m_X1_49 (c_X6_bit_E ad M_31 zq13 rfl (M_14.1 45 ((a2 + b6_14).toNat)) rfl (by omega)) rfl (by decide) (Nat.le_of_ble_eq_true rfl) rfl dX1_take_86 ?_
                rintro _ _ ⟨rq22, aq23, rfl, tq24, hq25, rfl⟩
                have hb := hq25
                rw [kx52, e7] at hb
                show G Γ M_31 89 [(9, .long zq13), (8, .int y8_31), (7, .int (M_14.1 45 ((a2 + b6_14).toNat))), (6, .int y6_14), (0, .ref (ad 37)), (1, .ref (ad 45)), (2, .int x2), (3, .int x3), (4, .long x4)] [.int rq22, .int zq18, .ref (ad 39)]
                refine g_iast X la_39 tq20 dX1_take_89 (by omega) ?_
                have Iq26 : Iv TX (ui M_31 39 (((b6_14 * 8) + b8_31).toNat) rq22) := I_31.otherA rfl
                have frq27 : Fr W_X1_take_45_R Mq (ui M_31 39 (((b6_14 * 8) + b8_31).toNat) rq22) := fr_31.ui rfl
                refine g_iinc X 1 (fun v => [(8, .int v), (9, .long zq13), (7, .int (M_14.1 45 ((a2 + b6_14).toNat))), (6, .int y6_14), (0, .ref (ad 37)), (1, .ref (ad 45)), (2, .int x2), (3, .int x3), (4, .long x4)]) dX1_take_90 rfl (by decide) (fun _ => rfl) (fun zq28 eq29 => ?_)
                have tq30 : zq28.toInt = b8_31 + 1 := add_nw eq29 e8_31 (show (Int32.ofInt 1).toInt = 1 by decide) (by omega)
                refine g_goto X (tgt := 31) dX1_take_93 (by decide) ?_
                refine g_sub [0, 2, 3, 4, 5, 6, 7, 8] rfl ?_
                exact ih31 zq28 _ tq30 (ui M_31 39 (((b6_14 * 8) + b8_31).toNat) rq22) (by omega) (by first | exact WTI_put i6 ⟨i5.1, by omega⟩ i1.1 (by omega) (by show _ = ((wtB _ _ : Nat) : Int); rw [← e7, wtB_40 (by omega)]; omega) | exact WTI_put i6 ⟨i5.1, by omega⟩ i1.1 (by omega) (by show _ = ((wtB _ _ : Nat) : Int); rw [← wtB_b (by omega) hb]; omega)) (by rw [ui_cell (k := 39) (a := 37) (by decide)]; exact i7) i8 Iq26 frq27 (by omega)
              · refine g_lload X 0 rfl dX1_take_74 ?_
                refine g_callS X m_X1_43 (c_J13_bitCount_95d88_E ad M_31 zq13 rfl) rfl (by decide) (Nat.le_of_ble_eq_true rfl) rfl dX1_take_76 ?_
                rintro _ _ ⟨rq31, aq32, rfl, tq33, hq34, rfl⟩
                have hv := hq34
                rw [kx52] at hv
                show G Γ M_31 79 [(9, .long zq13), (8, .int y8_31), (7, .int (M_14.1 45 ((a2 + b6_14).toNat))), (6, .int y6_14), (0, .ref (ad 37)), (1, .ref (ad 45)), (2, .int x2), (3, .int x3), (4, .long x4)] [.int rq31, .int zq18, .ref (ad 39)]
                refine g_goto X (tgt := 89) dX1_take_79 (by decide) ?_
                refine g_iast X la_39 tq20 dX1_take_89 (by omega) ?_
                have Iq35 : Iv TX (ui M_31 39 (((b6_14 * 8) + b8_31).toNat) rq31) := I_31.otherA rfl
                have frq36 : Fr W_X1_take_45_R Mq (ui M_31 39 (((b6_14 * 8) + b8_31).toNat) rq31) := fr_31.ui rfl
                refine g_iinc X 1 (fun v => [(8, .int v), (9, .long zq13), (7, .int (M_14.1 45 ((a2 + b6_14).toNat))), (6, .int y6_14), (0, .ref (ad 37)), (1, .ref (ad 45)), (2, .int x2), (3, .int x3), (4, .long x4)]) dX1_take_90 rfl (by decide) (fun _ => rfl) (fun zq37 eq38 => ?_)
                have tq39 : zq37.toInt = b8_31 + 1 := add_nw eq38 e8_31 (show (Int32.ofInt 1).toInt = 1 by decide) (by omega)
                refine g_goto X (tgt := 31) dX1_take_93 (by decide) ?_
                refine g_sub [0, 2, 3, 4, 5, 6, 7, 8] rfl ?_
                exact ih31 zq37 _ tq39 (ui M_31 39 (((b6_14 * 8) + b8_31).toNat) rq31) (by omega) (by first | exact WTI_put i6 ⟨i5.1, by omega⟩ i1.1 (by omega) (by show _ = ((wtB _ _ : Nat) : Int); rw [← e7, wtB_40 (by omega)]; omega) | exact WTI_put i6 ⟨i5.1, by omega⟩ i1.1 (by omega) (by show _ = ((wtB _ _ : Nat) : Int); rw [← wtB_b (by omega) hb]; omega)) (by rw [ui_cell (k := 39) (a := 37) (by decide)]; exact i7) i8 Iq35 frq36 (by omega)
        refine g_sub [0, 1, 2, 3, 4, 5, 6, 7] rfl ?_
        exact lp31 _ 0 _ (show (0 : Int32).toInt = 0 by decide) M_14 (by omega) i2 i3 i4 I_14 fr_14 (Nat.lt_succ_self _)
  refine g_sub [0, 1, 2, 3, 4, 5] rfl ?_
  exact lp14 _ 0 _ (show (0 : Int32).toInt = 0 by decide) (ui (ul Mq 37 4 x4) 37 5 x3) (by omega) WTI_0 (by rw [ui_eq]; exact t3) (by show (ul Mq 37 4 x4).2 37 4 = x4; rw [ul_eq]) Iq3 frq4 (Nat.lt_succ_self _)
abbrev W_X1_allowOnly_R : List (Nat × Nat) := [(39, 99)]
set_option maxHeartbeats 4000000 in
set_option maxRecDepth 4000 in
theorem c_X1_allowOnly_R (ad : Nat → Nat) (Mq : Mem) (x1 : Int32) {a1 : Int} (t1 : x1.toInt = a1) (x2 : Int32) {a2 : Int} (t2 : x2.toInt = a2) (Iq0 : Iv TX Mq) (h1 : 0 ≤ a1 ∧ a1 < 24) : Ctr ad yX1_allowOnly cX1_allowOnly 4 none 0 [.ref (ad 37), .int x1, .int x2] Mq (fun v M' => v = none ∧ (True) ∧ ((∀ s : Nat, (s : Int) < 8 → (M'.1 39 (8 * a1.toNat + s)).toInt = if (s : Int) = a2 then 1 else 0) ∧ OU8 (Mq.1 39) (M'.1 39) a1.toNat) ∧ Iv TX M' ∧ Fr W_X1_allowOnly_R Mq M') := by
  refine ctr_of (L := [(0, .ref (ad 37)), (1, .int x1), (2, .int x2)]) (by decide) (Nat.le_of_ble_eq_true rfl) rfl ?_
  intro Γ X
  have X : gX Γ cX1_allowOnly RX1 4 none 0 ad _ := X
  have frq0 : Fr W_X1_allowOnly_R Mq Mq := Fr.rf
  refine g_iconst X 0 dX1_allowOnly_0 (by decide) ?_
  refine g_istore_n X (i := 3) [(3, .int 0), (0, .ref (ad 37)), (1, .int x1), (2, .int x2)] dX1_allowOnly_1 rfl (by decide) rfl ?_
  have lp2 : ∀ n : Nat, ∀ (y3_2 : Int32) (b3_2 : Int), y3_2.toInt = b3_2 → ∀ (M_2 : Mem), (0 ≤ b3_2 ∧ b3_2 ≤ 8) → (∀ s : Nat, (s : Int) < b3_2 → (M_2.1 39 (8 * a1.toNat + s)).toInt = if (s : Int) = a2 then 1 else 0) → (OU8 (Mq.1 39) (M_2.1 39) a1.toNat) → (Iv TX M_2) → (Fr W_X1_allowOnly_R Mq M_2) → (8 - b3_2).toNat < n → G Γ M_2 2 [(3, .int y3_2), (0, .ref (ad 37)), (1, .int x1), (2, .int x2)] [] := by
    intro n
    induction n with
    | zero => intro y3_2 b3_2 e3_2 M_2 i1 i2 i3 I_2 fr_2 hm; exact absurd hm (Nat.not_lt_zero _)
    | succ n ih2 =>
      intro y3_2 b3_2 e3_2 M_2 i1 i2 i3 I_2 fr_2 hm2
      refine g_iload_n X 0 rfl dX1_allowOnly_2 ?_
      refine g_bipush X 8 dX1_allowOnly_3 (by decide) ?_
      refine g_icmp_ge X e3_2 (show (8 : Int32).toInt = 8 by decide) (tgt := 35) dX1_allowOnly_5 (by decide) (fun cq1 => ?_) (fun cq1 => ?_)
      · exact g_vret X dX1_allowOnly_35 ⟨rfl, trivial, (⟨fun s hs => i2 s (by omega), i3⟩), I_2, fr_2⟩
      · refine g_aload_n X 1 rfl dX1_allowOnly_8 ?_
        refine g_getr X f_X1_15 dX1_allowOnly_9 ?_
        refine g_iload_n X 2 rfl dX1_allowOnly_12 ?_
        refine g_bipush X 8 dX1_allowOnly_13 (by decide) ?_
        refine g_imul X dX1_allowOnly_15 (fun zq2 eq3 => ?_)
        have tq4 : zq2.toInt = a1 * 8 := mul_nw eq3 t1 (show (8 : Int32).toInt = 8 by decide) (by omega)
        refine g_iload_n X 0 rfl dX1_allowOnly_16 ?_
        refine g_iadd X dX1_allowOnly_17 (fun zq5 eq6 => ?_)
        have tq7 : zq5.toInt = (a1 * 8) + b3_2 := add_nw eq6 tq4 e3_2 (by omega)
        refine g_iload_n X 0 rfl dX1_allowOnly_18 ?_
        refine g_iload_n X 3 rfl dX1_allowOnly_19 ?_
        refine g_icmp_ne X e3_2 t2 (tgt := 27) dX1_allowOnly_20 (by decide) (fun cq8 => ?_) (fun cq8 => ?_)
        · refine g_iconst X 0 dX1_allowOnly_27 (by decide) ?_
          refine g_iast X la_39 tq7 dX1_allowOnly_28 (by omega) ?_
          have ltq9 : (0 : Int32).toInt = 0 := by decide
          have Iq10 : Iv TX (ui M_2 39 (((a1 * 8) + b3_2).toNat) 0) := I_2.otherA rfl
          have frq11 : Fr W_X1_allowOnly_R Mq (ui M_2 39 (((a1 * 8) + b3_2).toNat) 0) := fr_2.ui rfl
          refine g_iinc X 0 (fun v => [(3, .int v), (0, .ref (ad 37)), (1, .int x1), (2, .int x2)]) dX1_allowOnly_29 rfl (by decide) (fun _ => rfl) (fun zq12 eq13 => ?_)
          have tq14 : zq12.toInt = b3_2 + 1 := add_nw eq13 e3_2 (show (Int32.ofInt 1).toInt = 1 by decide) (by omega)
          refine g_goto X (tgt := 2) dX1_allowOnly_32 (by decide) ?_
          refine g_sub [0, 1, 2, 3] rfl ?_
          exact ih2 zq12 _ tq14 (ui M_2 39 (((a1 * 8) + b3_2).toNat) 0) (by omega) (AO_put i2 i1.1 (by omega) (by first | (rw [if_pos (by omega)]; decide) | (rw [if_neg (by omega)]; decide))) (OU8_ui i3 (by omega)) Iq10 frq11 (by omega)
        · refine g_iconst X 1 dX1_allowOnly_23 (by decide) ?_
          refine g_goto X (tgt := 28) dX1_allowOnly_24 (by decide) ?_
          refine g_iast X la_39 tq7 dX1_allowOnly_28 (by omega) ?_
          have ltq15 : (1 : Int32).toInt = 1 := by decide
          have Iq16 : Iv TX (ui M_2 39 (((a1 * 8) + b3_2).toNat) 1) := I_2.otherA rfl
          have frq17 : Fr W_X1_allowOnly_R Mq (ui M_2 39 (((a1 * 8) + b3_2).toNat) 1) := fr_2.ui rfl
          refine g_iinc X 0 (fun v => [(3, .int v), (0, .ref (ad 37)), (1, .int x1), (2, .int x2)]) dX1_allowOnly_29 rfl (by decide) (fun _ => rfl) (fun zq18 eq19 => ?_)
          have tq20 : zq18.toInt = b3_2 + 1 := add_nw eq19 e3_2 (show (Int32.ofInt 1).toInt = 1 by decide) (by omega)
          refine g_goto X (tgt := 2) dX1_allowOnly_32 (by decide) ?_
          refine g_sub [0, 1, 2, 3] rfl ?_
          exact ih2 zq18 _ tq20 (ui M_2 39 (((a1 * 8) + b3_2).toNat) 1) (by omega) (AO_put i2 i1.1 (by omega) (by first | (rw [if_pos (by omega)]; decide) | (rw [if_neg (by omega)]; decide))) (OU8_ui i3 (by omega)) Iq16 frq17 (by omega)
  refine g_sub [0, 1, 2, 3] rfl ?_
  exact lp2 _ 0 _ (show (0 : Int32).toInt = 0 by decide) Mq (by omega) (fun s hs => absurd hs (by omega)) (fun _ _ => rfl) Iq0 frq0 (Nat.lt_succ_self _)
abbrev W_X1_onlyLine_R : List (Nat × Nat) := [(37, 6), (38, 99), (39, 99)]
set_option maxHeartbeats 4000000 in
set_option maxRecDepth 4000 in
theorem c_X1_onlyLine_R (ad : Nat → Nat) (Mq : Mem) (x1 : Int32) {a1 : Int} (t1 : x1.toInt = a1) (x2 : Int32) {a2 : Int} (t2 : x2.toInt = a2) (Iq0 : Iv TX Mq) {pf : Nat → RpT} {f : Nat → Nat → Int} {N : Nat → Nat} (h1 : 0 ≤ a1 ∧ a1 ≤ 7) (h2 : 0 ≤ a2 ∧ a2 < 24) (hX : RTX Mq f N) (hO : ROR Mq f N) (hw : ∀ k t j : Nat, k < 8 → t < 8 → (j : Int) < (Mq.1 37 5).toInt → (if (j : Int) = a2 then (if (t : Int) = (k : Int) then 1 else 0) else (Mq.1 39 (8 * j + t)).toInt) = (((pf k).1 t j : Nat) : Int) ∧ (pf k).1 t j ≤ 64) (hh : ∀ k : Nat, k < 8 → (Mq.1 14 12).toInt = (((pf k).2.2 : Nat) : Int)) (hfix : ∀ k x : Nat, k < 8 → x < 8 → 0 < (Mq.1 20 x).toInt → (pf k).2.1 x = mcT (pf k) (f x) (N x)) (hk : ∃ k : Nat, (k : Int) < (Mq.1 14 11).toInt ∧ orX Mq k = a1.toNat) (hd : ∀ s t l : Nat, s < 8 → t < 8 → l < 64 → b64 (Mq.2 37 4 &&& Mq.2 11 s) l = true → b64 (Mq.2 37 4 &&& Mq.2 11 t) l = true → s = t) (hz : ∀ s l : Nat, s < 8 → 40 ≤ l → l < 64 → b64 (Mq.2 37 4 &&& Mq.2 11 s) l = false) : Ctr ad yX1_onlyLine cX1_onlyLine 7 (some .int) 6 [.ref (ad 37), .int x1, .int x2] Mq (fun v M' => ∃ (r : Int32) (a : Int), v = some (.int r) ∧ r.toInt = a ∧ (OLR (GLb (fun s => Mq.2 37 4 &&& Mq.2 11 s) (fun s => 0 < (pf s).2.1 a1.toNat 0 ((Mq.1 37 5).toInt).toNat) 8) a) ∧ Iv TX M' ∧ Fr W_X1_onlyLine_R Mq M') := by
  refine ctr_of (L := [(0, .ref (ad 37)), (1, .int x1), (2, .int x2)]) (by decide) (Nat.le_of_ble_eq_true rfl) rfl ?_
  intro Γ X
  have X : gX Γ cX1_onlyLine RX1 7 (some .int) 6 ad _ := X
  have frq0 : Fr W_X1_onlyLine_R Mq Mq := Fr.rf
  have hL := ig_37_5 Iq0
  have hn : ((Mq.1 37 5).toInt).toNat < 25 := by omega
  refine g_iconst X (-1) dX1_onlyLine_0 (by decide) ?_
  refine g_istore_n X (i := 3) [(3, .int (-1)), (0, .ref (ad 37)), (1, .int x1), (2, .int x2)] dX1_onlyLine_1 rfl (by decide) rfl ?_
  refine g_iconst X 0 dX1_onlyLine_2 (by decide) ?_
  refine g_istore X [(4, .int 0), (3, .int (-1)), (0, .ref (ad 37)), (1, .int x1), (2, .int x2)] dX1_onlyLine_3 (by decide) rfl ?_
  have lp5 : ∀ n : Nat, ∀ (y4_5 : Int32) (b4_5 : Int), y4_5.toInt = b4_5 → ∀ (y3_5 : Int32) (b3_5 : Int), y3_5.toInt = b3_5 → ∀ (M_5 : Mem), (0 ≤ b4_5 ∧ b4_5 ≤ 8) → (OLJ (GLb (fun s => Mq.2 37 4 &&& Mq.2 11 s) (fun s => 0 < (pf s).2.1 a1.toNat 0 ((Mq.1 37 5).toInt).toNat) (b4_5).toNat) b3_5) → (OU8 (Mq.1 39) (M_5.1 39) a2.toNat) → (Iv TX M_5) → (Fr W_X1_onlyLine_R Mq M_5) → (8 - b4_5).toNat < n → G Γ M_5 5 [(4, .int y4_5), (3, .int y3_5), (0, .ref (ad 37)), (1, .int x1), (2, .int x2)] [] := by
    intro n
    induction n with
    | zero => intro y4_5 b4_5 e4_5 y3_5 b3_5 e3_5 M_5 i1 i2 i3 I_5 fr_5 hm; exact absurd hm (Nat.not_lt_zero _)
    | succ n ih5 =>
      intro y4_5 b4_5 e4_5 y3_5 b3_5 e3_5 M_5 i1 i2 i3 I_5 fr_5 hm5
      refine g_iload X 0 rfl dX1_onlyLine_5 ?_
      refine g_bipush X 8 dX1_onlyLine_7 (by decide) ?_
      refine g_icmp_ge X e4_5 (show (8 : Int32).toInt = 8 by decide) (tgt := 80) dX1_onlyLine_9 (by decide) (fun cq1 => ?_) (fun cq1 => ?_)
      · refine g_iload_n X 1 rfl dX1_onlyLine_80 ?_
        exact g_iret X dX1_onlyLine_81 ⟨_, _, rfl, e3_5, (by rw [show b4_5.toNat = 8 by omega] at i2; exact OL_end i2), I_5, fr_5⟩
      · refine g_aload_n X 2 rfl dX1_onlyLine_12 ?_
        refine g_getl X f_X1_18 dX1_onlyLine_13 (x := M_5.2 37 4) rfl ?_
        refine g_aload_n X 2 rfl dX1_onlyLine_16 ?_
        refine g_getr X f_X1_29 dX1_onlyLine_17 ?_
        refine g_getr X f_X1_37 dX1_onlyLine_20 ?_
        refine g_iload X 0 rfl dX1_onlyLine_23 ?_
        refine g_lald X la_11 e4_5 dX1_onlyLine_25 (by omega) (x := M_5.2 11 b4_5.toNat) rfl ?_
        refine g_land X dX1_onlyLine_26 (fun zq2 eq3 => ?_)
        have kx26 : zq2 = Mq.2 37 4 &&& Mq.2 11 (b4_5).toNat := by rw [eq3, fr_5.atL 37 4 rfl, fr_5.atL 11 _ rfl]
        have kz : zq2.toInt = 0 ↔ ctb (b64 (Mq.2 37 4 &&& Mq.2 11 (b4_5).toNat)) 64 = 0 := by rw [kx26, ctb_64]
        refine g_lstore X [(5, .long zq2), (4, .int y4_5), (3, .int y3_5), (0, .ref (ad 37)), (1, .int x1), (2, .int x2)] dX1_onlyLine_27 (by decide) rfl ?_
        refine g_lload X 0 rfl dX1_onlyLine_29 ?_
        refine g_lconst X 0 dX1_onlyLine_31 (by decide) ?_
        refine g_lcmp X rfl (show (0 : Int64).toInt = 0 by decide) dX1_onlyLine_32 (fun zq4 eq5 => ?_)
        refine g_if_eq X rfl (tgt := 74) dX1_onlyLine_33 (by decide) (fun cq6 => ?_) (fun cq6 => ?_)
        · refine g_iinc X 1 (fun v => [(4, .int v), (5, .long zq2), (3, .int y3_5), (0, .ref (ad 37)), (1, .int x1), (2, .int x2)]) dX1_onlyLine_74 rfl (by decide) (fun _ => rfl) (fun zq7 eq8 => ?_)
          have tq9 : zq7.toInt = b4_5 + 1 := add_nw eq8 e4_5 (show (Int32.ofInt 1).toInt = 1 by decide) (by omega)
          refine g_goto X (tgt := 5) dX1_onlyLine_77 (by decide) ?_
          refine g_sub [0, 2, 3, 4, 5] rfl ?_
          exact ih5 zq7 _ tq9 y3_5 _ e3_5 M_5 (by omega) (by rw [show (b4_5 + 1).toNat = b4_5.toNat + 1 by omega]; first | exact OL_skip i2 (ctb_none (kz.mp (by omega))) | exact OL_skip i2 (fun l hl z => by have y := hgd.mpr z.2; omega) | exact OL_take i2 (by omega) (hgd.mp (by omega)) (hz _ · (by omega)) (by omega) (by omega) hpk) (by first | exact i3 | exact hou) I_5 fr_5 (by omega)
        · refine g_aload_n X 3 rfl dX1_onlyLine_36 ?_
          refine g_iload_n X 5 rfl dX1_onlyLine_37 ?_
          refine g_iload X 1 rfl dX1_onlyLine_38 ?_
          refine g_callV X m_X1_73 (c_X1_allowOnly_R ad M_5 x2 t2 y4_5 e4_5 I_5 (by omega)) rfl (by decide) (Nat.le_of_ble_eq_true rfl) rfl dX1_onlyLine_40 ?_
          rintro _ Mq15 ⟨rfl, hq13, hq14, Iq16, frq17⟩
          have frq18 : Fr W_X1_onlyLine_R Mq Mq15 := fr_5.trans frq17 rfl
          have hal := (hq14).1
          have hau := OU8_tr i3 (hq14).2
          have fa := frq17
          show G Γ Mq15 43 [(5, .long zq2), (4, .int y4_5), (3, .int y3_5), (0, .ref (ad 37)), (1, .int x1), (2, .int x2)] []
          have frc := frq18
          have fr_5x : (Mq15.1 37 5).toInt = (Mq.1 37 5).toInt := by rw [frc.at 37 5 rfl]
          refine g_aload_n X 3 rfl dX1_onlyLine_43 ?_
          refine g_iload_n X 4 rfl dX1_onlyLine_44 ?_
          refine g_callV X m_X1_77 (c_X1_ways_R (p := pf b4_5.toNat) (f := f) (N := N) ad Mq15 x1 t1 Iq16 (by omega) (RTX_fr hX frq18 (by decide)) (ROR_fr hO frq18 (by decide)) (by rw [fr_5x]; exact AO_w (k := b4_5) h2.1 (by omega) hal hau (fun t j ht hj => by have z := hw b4_5.toNat t j (by omega) ht hj; rw [show ((b4_5.toNat : Nat) : Int) = b4_5 by omega] at z; exact z)) (by rw [frc.at 14 12 rfl]; exact hh _ (by omega)) (fun x hx h => hfix _ x (by omega) hx (by rw [← frc.at 20 x rfl]; exact h)) (by rw [frc.at 14 11 rfl, orX_fr frc (by decide)]; exact hk)) rfl (by decide) (Nat.le_of_ble_eq_true rfl) rfl dX1_onlyLine_45 ?_
          rintro _ Mq23 ⟨rq19, aq20, rfl, tq21, hq22, Iq24, frq25⟩
          have frq26 : Fr W_X1_onlyLine_R Mq Mq23 := frq18.trans frq25 rfl
          have hwy := hq22
          rw [fr_5x] at hwy
          have hgd : 0 < aq20 ↔ 0 < (pf b4_5.toNat).2.1 a1.toNat 0 ((Mq.1 37 5).toInt).toNat := by rw [hwy, ← cap_pos]; omega
          have hou : OU8 (Mq.1 39) (Mq23.1 39) a2.toNat := by rw [row_fr frq25 (by decide)]; exact hau
          show G Γ Mq23 48 [(5, .long zq2), (4, .int y4_5), (3, .int y3_5), (0, .ref (ad 37)), (1, .int x1), (2, .int x2)] [.int rq19]
          refine g_if_le X tq21 (tgt := 74) dX1_onlyLine_48 (by decide) (fun cq27 => ?_) (fun cq27 => ?_)
          · refine g_iinc X 1 (fun v => [(4, .int v), (5, .long zq2), (3, .int y3_5), (0, .ref (ad 37)), (1, .int x1), (2, .int x2)]) dX1_onlyLine_74 rfl (by decide) (fun _ => rfl) (fun zq28 eq29 => ?_)
            have tq30 : zq28.toInt = b4_5 + 1 := add_nw eq29 e4_5 (show (Int32.ofInt 1).toInt = 1 by decide) (by omega)
            refine g_goto X (tgt := 5) dX1_onlyLine_77 (by decide) ?_
            refine g_sub [0, 2, 3, 4, 5] rfl ?_
            exact ih5 zq28 _ tq30 y3_5 _ e3_5 Mq23 (by omega) (by rw [show (b4_5 + 1).toNat = b4_5.toNat + 1 by omega]; first | exact OL_skip i2 (ctb_none (kz.mp (by omega))) | exact OL_skip i2 (fun l hl z => by have y := hgd.mpr z.2; omega) | exact OL_take i2 (by omega) (hgd.mp (by omega)) (hz _ · (by omega)) (by omega) (by omega) hpk) (by first | exact i3 | exact hou) Iq24 frq26 (by omega)
          · refine g_iload_n X 2 rfl dX1_onlyLine_51 ?_
            refine g_iconst X (-1) dX1_onlyLine_52 (by decide) ?_
            refine g_icmp_ne X e3_5 (show ((-1) : Int32).toInt = (-1) by decide) (tgt := 65) dX1_onlyLine_53 (by decide) (fun cq31 => ?_) (fun cq31 => ?_)
            · refine g_iconst X (-1) dX1_onlyLine_65 (by decide) ?_
              exact g_iret X dX1_onlyLine_66 ⟨_, _, rfl, (show ((-1) : Int32).toInt = (-1) by decide), (by first | exact OL_two (k := b4_5.toNat) (by omega) i2 (by omega) (hgd.mp (by omega)) (fun s l hs hl u1 u2 => by have z := hd s b4_5.toNat l (by omega) (by omega) hl u1 u2; omega) (by omega) | exact OL_many (k := b4_5.toNat) (by omega) (hgd.mp (by omega)) (by omega)), Iq24, frq26⟩
            · refine g_lload X 0 rfl dX1_onlyLine_56 ?_
              refine g_callS X m_X1_43 (c_J13_bitCount_95d88_E ad Mq23 zq2 rfl) rfl (by decide) (Nat.le_of_ble_eq_true rfl) rfl dX1_onlyLine_58 ?_
              rintro _ _ ⟨rq32, aq33, rfl, tq34, hq35, rfl⟩
              have hbc := hq35
              rw [kx26] at hbc
              show G Γ Mq23 61 [(5, .long zq2), (4, .int y4_5), (3, .int y3_5), (0, .ref (ad 37)), (1, .int x1), (2, .int x2)] [.int rq32]
              refine g_iconst X 1 dX1_onlyLine_61 (by decide) ?_
              refine g_icmp_le X tq34 (show (1 : Int32).toInt = 1 by decide) (tgt := 67) dX1_onlyLine_62 (by decide) (fun cq36 => ?_) (fun cq36 => ?_)
              · refine g_lload X 0 rfl dX1_onlyLine_67 ?_
                refine g_iconst X 0 dX1_onlyLine_69 (by decide) ?_
                refine g_callS X m_X1_80 (c_X6_pick_F ad Mq23 zq2 rfl 0 (show (0 : Int32).toInt = 0 by decide) (pick_pre (b := ((ctb (b64 (Mq.2 37 4 &&& Mq.2 11 b4_5.toNat)) 64 : Nat) : Int)) kx26 (hz _ · (by omega)) rfl (by omega))) rfl (by decide) (Nat.le_of_ble_eq_true rfl) rfl dX1_onlyLine_70 ?_
                rintro _ _ ⟨rq37, aq38, rfl, tq39, hq40, rfl⟩
                have hpk := (hq40).1
                rw [kx26] at hpk
                show G Γ Mq23 73 [(5, .long zq2), (4, .int y4_5), (3, .int y3_5), (0, .ref (ad 37)), (1, .int x1), (2, .int x2)] [.int rq37]
                refine g_istore_n X (i := 3) [(3, .int rq37), (5, .long zq2), (4, .int y4_5), (0, .ref (ad 37)), (1, .int x1), (2, .int x2)] dX1_onlyLine_73 rfl (by decide) rfl ?_
                refine g_iinc X 2 (fun v => [(4, .int v), (3, .int rq37), (5, .long zq2), (0, .ref (ad 37)), (1, .int x1), (2, .int x2)]) dX1_onlyLine_74 rfl (by decide) (fun _ => rfl) (fun zq41 eq42 => ?_)
                have tq43 : zq41.toInt = b4_5 + 1 := add_nw eq42 e4_5 (show (Int32.ofInt 1).toInt = 1 by decide) (by omega)
                refine g_goto X (tgt := 5) dX1_onlyLine_77 (by decide) ?_
                refine g_sub [0, 1, 3, 4, 5] rfl ?_
                exact ih5 zq41 _ tq43 rq37 _ tq39 Mq23 (by omega) (by rw [show (b4_5 + 1).toNat = b4_5.toNat + 1 by omega]; first | exact OL_skip i2 (ctb_none (kz.mp (by omega))) | exact OL_skip i2 (fun l hl z => by have y := hgd.mpr z.2; omega) | exact OL_take i2 (by omega) (hgd.mp (by omega)) (hz _ · (by omega)) (by omega) (by omega) hpk) (by first | exact i3 | exact hou) Iq24 frq26 (by omega)
              · refine g_iconst X (-1) dX1_onlyLine_65 (by decide) ?_
                exact g_iret X dX1_onlyLine_66 ⟨_, _, rfl, (show ((-1) : Int32).toInt = (-1) by decide), (by first | exact OL_two (k := b4_5.toNat) (by omega) i2 (by omega) (hgd.mp (by omega)) (fun s l hs hl u1 u2 => by have z := hd s b4_5.toNat l (by omega) (by omega) hl u1 u2; omega) (by omega) | exact OL_many (k := b4_5.toNat) (by omega) (hgd.mp (by omega)) (by omega)), Iq24, frq26⟩
  refine g_sub [0, 1, 2, 3, 4] rfl ?_
  exact lp5 _ 0 _ (show (0 : Int32).toInt = 0 by decide) (-1) _ (show ((-1) : Int32).toInt = (-1) by decide) Mq (by omega) OL_0 (fun _ _ => rfl) Iq0 frq0 (Nat.lt_succ_self _)
end
