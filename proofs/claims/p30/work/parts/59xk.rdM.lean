section
set_option maxHeartbeats 4000000 in
set_option maxRecDepth 4000 in
theorem c_X7_least_R (ad : Nat → Nat) (Mq : Mem) (x1 : Int64) {a1 : Int} (t1 : x1.toInt = a1) : Ctr ad yX7_least cX7_least 2 (some .int) 0 [.long x1] Mq (fun v M' => ∃ (r : Int32) (a : Int), v = some (.int r) ∧ r.toInt = a ∧ ((1000000 < a1 ∧ a = 1000000) ∨ (a1 ≤ 1000000 ∧ (0 ≤ a1 → a = a1))) ∧ Mq = M') := by
  refine ctr_of (L := [(0, .long x1)]) (by decide) (Nat.le_of_ble_eq_true rfl) rfl ?_
  intro Γ X
  have X : gX Γ cX7_least RX7 2 (some .int) 0 ad _ := X
  refine g_lload_n X 0 rfl dX7_least_0 ?_
  refine g_ldc2 X k_X7_279 dX7_least_1 ?_
  refine g_lcmp X t1 (show (1000000 : Int64).toInt = 1000000 by decide) dX7_least_4 (fun zq1 eq2 => ?_)
  refine g_if_le X rfl (tgt := 14) dX7_least_5 (by decide) (fun cq3 => ?_) (fun cq3 => ?_)
  · refine g_lload_n X 0 rfl dX7_least_14 ?_
    refine g_l2i X dX7_least_15 (fun zq4 eq5 => ?_)
    have kl : 0 ≤ a1 → a1 ≤ 1000000 → zq4.toInt = a1 := fun u v => l2i_nw eq5 t1 (by omega)
    exact g_iret X dX7_least_16 ⟨_, _, rfl, rfl, (by omega), rfl⟩
  · refine g_ldcw X k_X7_281 dX7_least_8 ?_
    refine g_goto X (tgt := 16) dX7_least_11 (by decide) ?_
    exact g_iret X dX7_least_16 ⟨_, _, rfl, (show (1000000 : Int32).toInt = 1000000 by decide), (by omega), rfl⟩
abbrev W_X7_times_75_R : List (Nat × Nat) := [(74, 99), (76, 99)]
set_option maxHeartbeats 4000000 in
set_option maxRecDepth 4000 in
theorem c_X7_times_75_R (ad : Nat → Nat) (Mq : Mem) (x2 : Int32) {a2 : Int} (t2 : x2.toInt = a2) (Iq0 : Iv TM Mq) {A B : Mat} (h2 : 0 ≤ a2 ∧ a2 + 625 ≤ 625) (hA : MR (Mq.1 76) 0 ((Mq.1 47 44).toInt).toNat A) (hB : MR (Mq.1 75) a2.toNat ((Mq.1 47 44).toInt).toNat B) : Ctr ad yX7_times cX7_times 8 none 1 [.ref (ad 47), .ref (ad 75), .int x2] Mq (fun v M' => v = none ∧ (True) ∧ (MR (M'.1 76) 0 ((Mq.1 47 44).toInt).toNat (mM A B)) ∧ Iv TM M' ∧ Fr W_X7_times_75_R Mq M') := by
  refine ctr_of (L := [(0, .ref (ad 47)), (1, .ref (ad 75)), (2, .int x2)]) (by decide) (Nat.le_of_ble_eq_true rfl) rfl ?_
  intro Γ X
  have X : gX Γ cX7_times RX7 8 none 1 ad _ := X
  have frq0 : Fr W_X7_times_75_R Mq Mq := Fr.rf
  have g44 := ig_47_44 Iq0
  have hn : ((Mq.1 47 44).toInt).toNat < 25 := by omega
  refine g_iconst X 0 dX7_times_0 (by decide) ?_
  refine g_istore_n X (i := 3) [(3, .int 0), (0, .ref (ad 47)), (1, .ref (ad 75)), (2, .int x2)] dX7_times_1 rfl (by decide) rfl ?_
  have lp2 : ∀ n : Nat, ∀ (y3_2 : Int32) (b3_2 : Int), y3_2.toInt = b3_2 → ∀ (M_2 : Mem), (0 ≤ b3_2 ∧ b3_2 ≤ (Mq.1 47 44).toInt + 1) → (WKI (M_2.1 74) ((Mq.1 47 44).toInt).toNat (mM A B) b3_2 0) → (M_2.1 76 = Mq.1 76) → (Iv TM M_2) → (Fr W_X7_times_75_R Mq M_2) → ((Mq.1 47 44).toInt + 1 - b3_2).toNat < n → G Γ M_2 2 [(3, .int y3_2), (0, .ref (ad 47)), (1, .ref (ad 75)), (2, .int x2)] [] := by
    intro n
    induction n with
    | zero => intro y3_2 b3_2 e3_2 M_2 i1 i2 i3 I_2 fr_2 hm; exact absurd hm (Nat.not_lt_zero _)
    | succ n ih2 =>
      intro y3_2 b3_2 e3_2 M_2 i1 i2 i3 I_2 fr_2 hm2
      have trq1 : (M_2.1 47 44).toInt = (Mq.1 47 44).toInt := congrArg Int32.toInt (fr_2.at 47 44 rfl)
      refine g_iload_n X 0 rfl dX7_times_2 ?_
      refine g_aload_n X 1 rfl dX7_times_3 ?_
      refine g_geti X f_X7_282 dX7_times_4 (x := M_2.1 47 44) rfl ?_
      have bq2 := ig_47_44 I_2
      refine g_icmp_gt X e3_2 rfl (tgt := 102) dX7_times_7 (by decide) (fun cq3 => ?_) (fun cq3 => ?_)
      · refine g_iconst X 0 dX7_times_102 (by decide) ?_
        refine g_istore_n X (i := 3) [(3, .int 0), (0, .ref (ad 47)), (1, .ref (ad 75)), (2, .int x2)] dX7_times_103 rfl (by decide) rfl ?_
        have lp104 : ∀ n : Nat, ∀ (y3_104 : Int32) (b3_104 : Int), y3_104.toInt = b3_104 → ∀ (M_104 : Mem), (0 ≤ b3_104 ∧ b3_104 ≤ 625) → (∀ j : Nat, (j : Int) < b3_104 → M_104.1 76 j = M_104.1 74 j) → (WKI (M_104.1 74) ((Mq.1 47 44).toInt).toNat (mM A B) ((Mq.1 47 44).toInt + 1) 0) → (Iv TM M_104) → (Fr W_X7_times_75_R Mq M_104) → (625 - b3_104).toNat < n → G Γ M_104 104 [(3, .int y3_104), (0, .ref (ad 47)), (1, .ref (ad 75)), (2, .int x2)] [] := by
          intro n
          induction n with
          | zero => intro y3_104 b3_104 e3_104 M_104 i9 i10 i11 I_104 fr_104 hm; exact absurd hm (Nat.not_lt_zero _)
          | succ n ih104 =>
            intro y3_104 b3_104 e3_104 M_104 i9 i10 i11 I_104 fr_104 hm104
            have trq4 : (M_104.1 47 44).toInt = (Mq.1 47 44).toInt := congrArg Int32.toInt (fr_104.at 47 44 rfl)
            refine g_iload_n X 0 rfl dX7_times_104 ?_
            refine g_sipush X 625 dX7_times_105 (by decide) ?_
            refine g_icmp_ge X e3_104 (show (625 : Int32).toInt = 625 by decide) (tgt := 129) dX7_times_108 (by decide) (fun cq5 => ?_) (fun cq5 => ?_)
            · exact g_vret X dX7_times_129 ⟨rfl, trivial, (WKI_end hn i11 (by omega) i10 (by omega)), I_104, fr_104⟩
            · refine g_aload_n X 1 rfl dX7_times_111 ?_
              refine g_getr X f_X7_98 dX7_times_112 ?_
              refine g_iload_n X 0 rfl dX7_times_115 ?_
              refine g_aload_n X 1 rfl dX7_times_116 ?_
              refine g_getr X f_X7_92 dX7_times_117 ?_
              refine g_iload_n X 0 rfl dX7_times_120 ?_
              refine g_iald X la_74 e3_104 dX7_times_121 (by omega) (x := M_104.1 74 b3_104.toNat) rfl ?_
              refine g_iast X la_76 e3_104 dX7_times_122 (by omega) ?_
              have Iq6 : Iv TM (ui M_104 76 b3_104.toNat (M_104.1 74 b3_104.toNat)) := I_104.otherA rfl
              have frq7 : Fr W_X7_times_75_R Mq (ui M_104 76 b3_104.toNat (M_104.1 74 b3_104.toNat)) := fr_104.ui rfl
              refine g_iinc X 0 (fun v => [(3, .int v), (0, .ref (ad 47)), (1, .ref (ad 75)), (2, .int x2)]) dX7_times_123 rfl (by decide) (fun _ => rfl) (fun zq8 eq9 => ?_)
              have tq10 : zq8.toInt = b3_104 + 1 := add_nw eq9 e3_104 (show (Int32.ofInt 1).toInt = 1 by decide) (by omega)
              refine g_goto X (tgt := 104) dX7_times_126 (by decide) ?_
              refine g_sub [0, 1, 2, 3] rfl ?_
              exact ih104 zq8 _ tq10 (ui M_104 76 b3_104.toNat (M_104.1 74 b3_104.toNat)) (by omega) (cp2_step (by decide) i10 i9.1) (by rw [ui_cell (k := 76) (a := 74) (by decide)]; exact i11) Iq6 frq7 (by omega)
        refine g_sub [0, 1, 2, 3] rfl ?_
        exact lp104 _ 0 _ (show (0 : Int32).toInt = 0 by decide) M_2 (by omega) (fun j hj => absurd hj (by omega)) (by rw [show b3_2 = (Mq.1 47 44).toInt + 1 by omega] at i2; exact i2) I_2 fr_2 (Nat.lt_succ_self _)
      · refine g_iconst X 0 dX7_times_10 (by decide) ?_
        refine g_istore X [(4, .int 0), (3, .int y3_2), (0, .ref (ad 47)), (1, .ref (ad 75)), (2, .int x2)] dX7_times_11 (by decide) rfl ?_
        have lp13 : ∀ n : Nat, ∀ (y4_13 : Int32) (b4_13 : Int), y4_13.toInt = b4_13 → ∀ (M_13 : Mem), (0 ≤ b4_13 ∧ b4_13 ≤ (Mq.1 47 44).toInt + 1) → (WKI (M_13.1 74) ((Mq.1 47 44).toInt).toNat (mM A B) b3_2 b4_13) → (M_13.1 76 = Mq.1 76) → (Iv TM M_13) → (Fr W_X7_times_75_R Mq M_13) → ((Mq.1 47 44).toInt + 1 - b4_13).toNat < n → G Γ M_13 13 [(4, .int y4_13), (3, .int y3_2), (0, .ref (ad 47)), (1, .ref (ad 75)), (2, .int x2)] [] := by
          intro n
          induction n with
          | zero => intro y4_13 b4_13 e4_13 M_13 i4 i5 i6 I_13 fr_13 hm; exact absurd hm (Nat.not_lt_zero _)
          | succ n ih13 =>
            intro y4_13 b4_13 e4_13 M_13 i4 i5 i6 I_13 fr_13 hm13
            have trq11 : (M_13.1 47 44).toInt = (Mq.1 47 44).toInt := congrArg Int32.toInt (fr_13.at 47 44 rfl)
            refine g_iload X 0 rfl dX7_times_13 ?_
            refine g_aload_n X 2 rfl dX7_times_15 ?_
            refine g_geti X f_X7_282 dX7_times_16 (x := M_13.1 47 44) rfl ?_
            have bq12 := ig_47_44 I_13
            refine g_icmp_gt X e4_13 rfl (tgt := 96) dX7_times_19 (by decide) (fun cq13 => ?_) (fun cq13 => ?_)
            · refine g_iinc X 1 (fun v => [(3, .int v), (4, .int y4_13), (0, .ref (ad 47)), (1, .ref (ad 75)), (2, .int x2)]) dX7_times_96 rfl (by decide) (fun _ => rfl) (fun zq14 eq15 => ?_)
              have tq16 : zq14.toInt = b3_2 + 1 := add_nw eq15 e3_2 (show (Int32.ofInt 1).toInt = 1 by decide) (by omega)
              refine g_goto X (tgt := 2) dX7_times_99 (by decide) ?_
              refine g_sub [0, 2, 3, 4] rfl ?_
              exact ih2 zq14 _ tq16 M_13 (by omega) (WKI_row i5 (by omega)) i6 I_13 fr_13 (by omega)
            · refine g_lconst X 0 dX7_times_22 (by decide) ?_
              refine g_lstore X [(5, .long 0), (4, .int y4_13), (3, .int y3_2), (0, .ref (ad 47)), (1, .ref (ad 75)), (2, .int x2)] dX7_times_23 (by decide) rfl ?_
              refine g_iload_n X 2 rfl dX7_times_25 ?_
              refine g_istore X [(7, .int y3_2), (5, .long 0), (4, .int y4_13), (3, .int y3_2), (0, .ref (ad 47)), (1, .ref (ad 75)), (2, .int x2)] dX7_times_26 (by decide) rfl ?_
              have lp28 : ∀ n : Nat, ∀ (y7_28 : Int32) (b7_28 : Int), y7_28.toInt = b7_28 → ∀ (y5_28 : Int64) (b5_28 : Int), y5_28.toInt = b5_28 → (b3_2 ≤ b7_28 ∧ (b7_28 ≤ b4_13 + 1 ∨ b7_28 = b3_2)) → (b5_28 = ((smC A B (b3_2).toNat (b4_13).toNat (b7_28 - b3_2).toNat : Nat) : Int)) → (b4_13 + 1 - b7_28).toNat < n → G Γ M_13 28 [(7, .int y7_28), (5, .long y5_28), (4, .int y4_13), (3, .int y3_2), (0, .ref (ad 47)), (1, .ref (ad 75)), (2, .int x2)] [] := by
                intro n
                induction n with
                | zero => intro y7_28 b7_28 e7_28 y5_28 b5_28 e5_28 i7 i8 hm; exact absurd hm (Nat.not_lt_zero _)
                | succ n ih28 =>
                  intro y7_28 b7_28 e7_28 y5_28 b5_28 e5_28 i7 i8 hm28
                  refine g_iload X 0 rfl dX7_times_28 ?_
                  refine g_iload X 2 rfl dX7_times_30 ?_
                  refine g_icmp_gt X e7_28 e4_13 (tgt := 73) dX7_times_32 (by decide) (fun cq17 => ?_) (fun cq17 => ?_)
                  · refine g_aload_n X 4 rfl dX7_times_73 ?_
                    refine g_getr X f_X7_92 dX7_times_74 ?_
                    refine g_bipush X 25 dX7_times_77 (by decide) ?_
                    refine g_iload_n X 3 rfl dX7_times_79 ?_
                    refine g_imul X dX7_times_80 (fun zq18 eq19 => ?_)
                    have tq20 : zq18.toInt = 25 * b3_2 := mul_nw eq19 (show (25 : Int32).toInt = 25 by decide) e3_2 (by omega)
                    refine g_iload X 2 rfl dX7_times_81 ?_
                    refine g_iadd X dX7_times_83 (fun zq21 eq22 => ?_)
                    have tq23 : zq21.toInt = (25 * b3_2) + b4_13 := add_nw eq22 tq20 e4_13 (by omega)
                    refine g_lload X 1 rfl dX7_times_84 ?_
                    refine g_callS X m_X7_285 (c_X7_least_R ad M_13 y5_28 e5_28) rfl (by decide) (Nat.le_of_ble_eq_true rfl) rfl dX7_times_86 ?_
                    rintro _ _ ⟨rq24, aq25, rfl, tq26, hq27, rfl⟩
                    have hle := hq27
                    show G Γ M_13 89 [(7, .int y7_28), (5, .long y5_28), (4, .int y4_13), (3, .int y3_2), (0, .ref (ad 47)), (1, .ref (ad 75)), (2, .int x2)] [.int rq24, .int zq21, .ref (ad 74)]
                    refine g_iast X la_74 tq23 dX7_times_89 (by omega) ?_
                    have Iq28 : Iv TM (ui M_13 74 (((25 * b3_2) + b4_13).toNat) rq24) := I_13.otherA rfl
                    have frq29 : Fr W_X7_times_75_R Mq (ui M_13 74 (((25 * b3_2) + b4_13).toNat) rq24) := fr_13.ui rfl
                    refine g_iinc X 2 (fun v => [(4, .int v), (7, .int y7_28), (5, .long y5_28), (3, .int y3_2), (0, .ref (ad 47)), (1, .ref (ad 75)), (2, .int x2)]) dX7_times_90 rfl (by decide) (fun _ => rfl) (fun zq30 eq31 => ?_)
                    have tq32 : zq30.toInt = b4_13 + 1 := add_nw eq31 e4_13 (show (Int32.ofInt 1).toInt = 1 by decide) (by omega)
                    refine g_goto X (tgt := 13) dX7_times_93 (by decide) ?_
                    refine g_sub [0, 3, 4, 5, 6] rfl ?_
                    exact ih13 zq30 _ tq32 (ui M_13 74 (((25 * b3_2) + b4_13).toNat) rq24) (by omega) (WKI_put hn i5 (by omega) (by omega) (by have z := smC_cap (A := A) (B := B) (i := b3_2.toNat) (j := b4_13.toNat); rw [show (b7_28 - b3_2).toNat = b4_13.toNat + 1 - b3_2.toNat by omega] at i8; rw [← z]; unfold cap; split <;> omega)) (by rw [ui_cell (k := 74) (a := 76) (by decide)]; exact i6) Iq28 frq29 (by omega)
                  · have hu : (M_13.1 76 (25 * b3_2 + b7_28).toNat).toInt = ((cap (A (b3_2).toNat ((b3_2).toNat + (b7_28 - b3_2).toNat)) : Nat) : Int) := by rw [i6, show (25 * b3_2 + b7_28).toNat = 0 + (25 * (b3_2).toNat + ((b3_2).toNat + (b7_28 - b3_2).toNat)) by omega]; exact hA _ _ (by omega) (by omega)
                    have hv : (M_13.1 75 (a2 + 25 * b7_28 + b4_13).toNat).toInt = ((cap (B ((b3_2).toNat + (b7_28 - b3_2).toNat) (b4_13).toNat) : Nat) : Int) := by rw [fr_13.at 75 _ rfl, show (a2 + 25 * b7_28 + b4_13).toNat = a2.toNat + (25 * ((b3_2).toNat + (b7_28 - b3_2).toNat) + (b4_13).toNat) by omega]; exact hB _ _ (by omega) (by omega)
                    have hur := cap_le (A (b3_2).toNat ((b3_2).toNat + (b7_28 - b3_2).toNat))
                    have hvr := cap_le (B ((b3_2).toNat + (b7_28 - b3_2).toNat) (b4_13).toNat)
                    have hpb := prod_bd (a := (M_13.1 76 (25 * b3_2 + b7_28).toNat).toInt) (b := (M_13.1 75 (a2 + 25 * b7_28 + b4_13).toNat).toInt) (by omega) (by omega)
                    have hsl := smC_le A B (b3_2).toNat (b4_13).toNat (b7_28 - b3_2).toNat
                    refine g_lload X 1 rfl dX7_times_35 ?_
                    refine g_aload_n X 4 rfl dX7_times_37 ?_
                    refine g_getr X f_X7_98 dX7_times_38 ?_
                    refine g_bipush X 25 dX7_times_41 (by decide) ?_
                    refine g_iload_n X 3 rfl dX7_times_43 ?_
                    refine g_imul X dX7_times_44 (fun zq33 eq34 => ?_)
                    have tq35 : zq33.toInt = 25 * b3_2 := mul_nw eq34 (show (25 : Int32).toInt = 25 by decide) e3_2 (by omega)
                    refine g_iload X 0 rfl dX7_times_45 ?_
                    refine g_iadd X dX7_times_47 (fun zq36 eq37 => ?_)
                    have tq38 : zq36.toInt = (25 * b3_2) + b7_28 := add_nw eq37 tq35 e7_28 (by omega)
                    refine g_iald X la_76 tq38 dX7_times_48 (by omega) (x := M_13.1 76 (((25 * b3_2) + b7_28).toNat)) rfl ?_
                    refine g_i2l X dX7_times_49 (fun zq39 eq40 => ?_)
                    have tq41 : zq39.toInt = (M_13.1 76 (((25 * b3_2) + b7_28).toNat)).toInt := i2l_nw eq40 rfl
                    refine g_aload_n X 5 rfl dX7_times_50 ?_
                    refine g_iload_n X 6 rfl dX7_times_51 ?_
                    refine g_bipush X 25 dX7_times_52 (by decide) ?_
                    refine g_iload X 0 rfl dX7_times_54 ?_
                    refine g_imul X dX7_times_56 (fun zq42 eq43 => ?_)
                    have tq44 : zq42.toInt = 25 * b7_28 := mul_nw eq43 (show (25 : Int32).toInt = 25 by decide) e7_28 (by omega)
                    refine g_iadd X dX7_times_57 (fun zq45 eq46 => ?_)
                    have tq47 : zq45.toInt = a2 + (25 * b7_28) := add_nw eq46 t2 tq44 (by omega)
                    refine g_iload X 2 rfl dX7_times_58 ?_
                    refine g_iadd X dX7_times_60 (fun zq48 eq49 => ?_)
                    have tq50 : zq48.toInt = (a2 + (25 * b7_28)) + b4_13 := add_nw eq49 tq47 e4_13 (by omega)
                    refine g_iald X la_75 tq50 dX7_times_61 (by omega) (x := M_13.1 75 (((a2 + (25 * b7_28)) + b4_13).toNat)) rfl ?_
                    refine g_i2l X dX7_times_62 (fun zq51 eq52 => ?_)
                    have tq53 : zq51.toInt = (M_13.1 75 (((a2 + (25 * b7_28)) + b4_13).toNat)).toInt := i2l_nw eq52 rfl
                    refine g_lmul X dX7_times_63 (fun zq54 eq55 => ?_)
                    have kb1 := lmul_ex eq55 tq41 tq53 (by omega)
                    refine g_ladd X dX7_times_64 (fun zq56 eq57 => ?_)
                    have kb2 := ladd_ex eq57 e5_28 kb1 (by omega)
                    refine g_lstore X [(5, .long zq56), (7, .int y7_28), (4, .int y4_13), (3, .int y3_2), (0, .ref (ad 47)), (1, .ref (ad 75)), (2, .int x2)] dX7_times_65 (by decide) rfl ?_
                    refine g_iinc X 1 (fun v => [(7, .int v), (5, .long zq56), (4, .int y4_13), (3, .int y3_2), (0, .ref (ad 47)), (1, .ref (ad 75)), (2, .int x2)]) dX7_times_67 rfl (by decide) (fun _ => rfl) (fun zq58 eq59 => ?_)
                    have tq60 : zq58.toInt = b7_28 + 1 := add_nw eq59 e7_28 (show (Int32.ofInt 1).toInt = 1 by decide) (by omega)
                    refine g_goto X (tgt := 28) dX7_times_70 (by decide) ?_
                    refine g_sub [0, 1, 2, 3, 4, 5, 6] rfl ?_
                    exact ih28 zq58 _ tq60 zq56 _ rfl (by omega) (by rw [show (b7_28 + 1 - b3_2).toNat = (b7_28 - b3_2).toNat + 1 by omega]; exact smC_s i8 hu hv kb2) (by omega)
              refine g_sub [0, 1, 2, 3, 4, 5, 6] rfl ?_
              exact lp28 _ y3_2 _ e3_2 0 _ (show (0 : Int64).toInt = 0 by decide) (by omega) (by rw [show (b3_2 - b3_2).toNat = 0 by omega]; rfl) (Nat.lt_succ_self _)
        refine g_sub [0, 1, 2, 3, 4] rfl ?_
        exact lp13 _ 0 _ (show (0 : Int32).toInt = 0 by decide) M_2 (by omega) i2 i3 I_2 fr_2 (Nat.lt_succ_self _)
  refine g_sub [0, 1, 2, 3] rfl ?_
  exact lp2 _ 0 _ (show (0 : Int32).toInt = 0 by decide) Mq (by omega) WKI_0 rfl Iq0 frq0 (Nat.lt_succ_self _)
abbrev W_X7_times_73_R : List (Nat × Nat) := [(74, 99), (76, 99)]
set_option maxHeartbeats 4000000 in
set_option maxRecDepth 4000 in
theorem c_X7_times_73_R (ad : Nat → Nat) (Mq : Mem) (x2 : Int32) {a2 : Int} (t2 : x2.toInt = a2) (Iq0 : Iv TM Mq) {A B : Mat} (h2 : 0 ≤ a2 ∧ a2 + 625 ≤ 19375) (hA : MR (Mq.1 76) 0 ((Mq.1 47 44).toInt).toNat A) (hB : MR (Mq.1 73) a2.toNat ((Mq.1 47 44).toInt).toNat B) : Ctr ad yX7_times cX7_times 8 none 1 [.ref (ad 47), .ref (ad 73), .int x2] Mq (fun v M' => v = none ∧ (True) ∧ (MR (M'.1 76) 0 ((Mq.1 47 44).toInt).toNat (mM A B)) ∧ Iv TM M' ∧ Fr W_X7_times_73_R Mq M') := by
  refine ctr_of (L := [(0, .ref (ad 47)), (1, .ref (ad 73)), (2, .int x2)]) (by decide) (Nat.le_of_ble_eq_true rfl) rfl ?_
  intro Γ X
  have X : gX Γ cX7_times RX7 8 none 1 ad _ := X
  have frq0 : Fr W_X7_times_73_R Mq Mq := Fr.rf
  have g44 := ig_47_44 Iq0
  have hn : ((Mq.1 47 44).toInt).toNat < 25 := by omega
  refine g_iconst X 0 dX7_times_0 (by decide) ?_
  refine g_istore_n X (i := 3) [(3, .int 0), (0, .ref (ad 47)), (1, .ref (ad 73)), (2, .int x2)] dX7_times_1 rfl (by decide) rfl ?_
  have lp2 : ∀ n : Nat, ∀ (y3_2 : Int32) (b3_2 : Int), y3_2.toInt = b3_2 → ∀ (M_2 : Mem), (0 ≤ b3_2 ∧ b3_2 ≤ (Mq.1 47 44).toInt + 1) → (WKI (M_2.1 74) ((Mq.1 47 44).toInt).toNat (mM A B) b3_2 0) → (M_2.1 76 = Mq.1 76) → (Iv TM M_2) → (Fr W_X7_times_73_R Mq M_2) → ((Mq.1 47 44).toInt + 1 - b3_2).toNat < n → G Γ M_2 2 [(3, .int y3_2), (0, .ref (ad 47)), (1, .ref (ad 73)), (2, .int x2)] [] := by
    intro n
    induction n with
    | zero => intro y3_2 b3_2 e3_2 M_2 i1 i2 i3 I_2 fr_2 hm; exact absurd hm (Nat.not_lt_zero _)
    | succ n ih2 =>
      intro y3_2 b3_2 e3_2 M_2 i1 i2 i3 I_2 fr_2 hm2
      have trq1 : (M_2.1 47 44).toInt = (Mq.1 47 44).toInt := congrArg Int32.toInt (fr_2.at 47 44 rfl)
      refine g_iload_n X 0 rfl dX7_times_2 ?_
      refine g_aload_n X 1 rfl dX7_times_3 ?_
      refine g_geti X f_X7_282 dX7_times_4 (x := M_2.1 47 44) rfl ?_
      have bq2 := ig_47_44 I_2
      refine g_icmp_gt X e3_2 rfl (tgt := 102) dX7_times_7 (by decide) (fun cq3 => ?_) (fun cq3 => ?_)
      · refine g_iconst X 0 dX7_times_102 (by decide) ?_
        refine g_istore_n X (i := 3) [(3, .int 0), (0, .ref (ad 47)), (1, .ref (ad 73)), (2, .int x2)] dX7_times_103 rfl (by decide) rfl ?_
        have lp104 : ∀ n : Nat, ∀ (y3_104 : Int32) (b3_104 : Int), y3_104.toInt = b3_104 → ∀ (M_104 : Mem), (0 ≤ b3_104 ∧ b3_104 ≤ 625) → (∀ j : Nat, (j : Int) < b3_104 → M_104.1 76 j = M_104.1 74 j) → (WKI (M_104.1 74) ((Mq.1 47 44).toInt).toNat (mM A B) ((Mq.1 47 44).toInt + 1) 0) → (Iv TM M_104) → (Fr W_X7_times_73_R Mq M_104) → (625 - b3_104).toNat < n → G Γ M_104 104 [(3, .int y3_104), (0, .ref (ad 47)), (1, .ref (ad 73)), (2, .int x2)] [] := by
          intro n
          induction n with
          | zero => intro y3_104 b3_104 e3_104 M_104 i9 i10 i11 I_104 fr_104 hm; exact absurd hm (Nat.not_lt_zero _)
          | succ n ih104 =>
            intro y3_104 b3_104 e3_104 M_104 i9 i10 i11 I_104 fr_104 hm104
            have trq4 : (M_104.1 47 44).toInt = (Mq.1 47 44).toInt := congrArg Int32.toInt (fr_104.at 47 44 rfl)
            refine g_iload_n X 0 rfl dX7_times_104 ?_
            refine g_sipush X 625 dX7_times_105 (by decide) ?_
            refine g_icmp_ge X e3_104 (show (625 : Int32).toInt = 625 by decide) (tgt := 129) dX7_times_108 (by decide) (fun cq5 => ?_) (fun cq5 => ?_)
            · exact g_vret X dX7_times_129 ⟨rfl, trivial, (WKI_end hn i11 (by omega) i10 (by omega)), I_104, fr_104⟩
            · refine g_aload_n X 1 rfl dX7_times_111 ?_
              refine g_getr X f_X7_98 dX7_times_112 ?_
              refine g_iload_n X 0 rfl dX7_times_115 ?_
              refine g_aload_n X 1 rfl dX7_times_116 ?_
              refine g_getr X f_X7_92 dX7_times_117 ?_
              refine g_iload_n X 0 rfl dX7_times_120 ?_
              refine g_iald X la_74 e3_104 dX7_times_121 (by omega) (x := M_104.1 74 b3_104.toNat) rfl ?_
              refine g_iast X la_76 e3_104 dX7_times_122 (by omega) ?_
              have Iq6 : Iv TM (ui M_104 76 b3_104.toNat (M_104.1 74 b3_104.toNat)) := I_104.otherA rfl
              have frq7 : Fr W_X7_times_73_R Mq (ui M_104 76 b3_104.toNat (M_104.1 74 b3_104.toNat)) := fr_104.ui rfl
              refine g_iinc X 0 (fun v => [(3, .int v), (0, .ref (ad 47)), (1, .ref (ad 73)), (2, .int x2)]) dX7_times_123 rfl (by decide) (fun _ => rfl) (fun zq8 eq9 => ?_)
              have tq10 : zq8.toInt = b3_104 + 1 := add_nw eq9 e3_104 (show (Int32.ofInt 1).toInt = 1 by decide) (by omega)
              refine g_goto X (tgt := 104) dX7_times_126 (by decide) ?_
              refine g_sub [0, 1, 2, 3] rfl ?_
              exact ih104 zq8 _ tq10 (ui M_104 76 b3_104.toNat (M_104.1 74 b3_104.toNat)) (by omega) (cp2_step (by decide) i10 i9.1) (by rw [ui_cell (k := 76) (a := 74) (by decide)]; exact i11) Iq6 frq7 (by omega)
        refine g_sub [0, 1, 2, 3] rfl ?_
        exact lp104 _ 0 _ (show (0 : Int32).toInt = 0 by decide) M_2 (by omega) (fun j hj => absurd hj (by omega)) (by rw [show b3_2 = (Mq.1 47 44).toInt + 1 by omega] at i2; exact i2) I_2 fr_2 (Nat.lt_succ_self _)
      · refine g_iconst X 0 dX7_times_10 (by decide) ?_
        refine g_istore X [(4, .int 0), (3, .int y3_2), (0, .ref (ad 47)), (1, .ref (ad 73)), (2, .int x2)] dX7_times_11 (by decide) rfl ?_
        have lp13 : ∀ n : Nat, ∀ (y4_13 : Int32) (b4_13 : Int), y4_13.toInt = b4_13 → ∀ (M_13 : Mem), (0 ≤ b4_13 ∧ b4_13 ≤ (Mq.1 47 44).toInt + 1) → (WKI (M_13.1 74) ((Mq.1 47 44).toInt).toNat (mM A B) b3_2 b4_13) → (M_13.1 76 = Mq.1 76) → (Iv TM M_13) → (Fr W_X7_times_73_R Mq M_13) → ((Mq.1 47 44).toInt + 1 - b4_13).toNat < n → G Γ M_13 13 [(4, .int y4_13), (3, .int y3_2), (0, .ref (ad 47)), (1, .ref (ad 73)), (2, .int x2)] [] := by
          intro n
          induction n with
          | zero => intro y4_13 b4_13 e4_13 M_13 i4 i5 i6 I_13 fr_13 hm; exact absurd hm (Nat.not_lt_zero _)
          | succ n ih13 =>
            intro y4_13 b4_13 e4_13 M_13 i4 i5 i6 I_13 fr_13 hm13
            have trq11 : (M_13.1 47 44).toInt = (Mq.1 47 44).toInt := congrArg Int32.toInt (fr_13.at 47 44 rfl)
            refine g_iload X 0 rfl dX7_times_13 ?_
            refine g_aload_n X 2 rfl dX7_times_15 ?_
            refine g_geti X f_X7_282 dX7_times_16 (x := M_13.1 47 44) rfl ?_
            have bq12 := ig_47_44 I_13
            refine g_icmp_gt X e4_13 rfl (tgt := 96) dX7_times_19 (by decide) (fun cq13 => ?_) (fun cq13 => ?_)
            · refine g_iinc X 1 (fun v => [(3, .int v), (4, .int y4_13), (0, .ref (ad 47)), (1, .ref (ad 73)), (2, .int x2)]) dX7_times_96 rfl (by decide) (fun _ => rfl) (fun zq14 eq15 => ?_)
              have tq16 : zq14.toInt = b3_2 + 1 := add_nw eq15 e3_2 (show (Int32.ofInt 1).toInt = 1 by decide) (by omega)
              refine g_goto X (tgt := 2) dX7_times_99 (by decide) ?_
              refine g_sub [0, 2, 3, 4] rfl ?_
              exact ih2 zq14 _ tq16 M_13 (by omega) (WKI_row i5 (by omega)) i6 I_13 fr_13 (by omega)
            · refine g_lconst X 0 dX7_times_22 (by decide) ?_
              refine g_lstore X [(5, .long 0), (4, .int y4_13), (3, .int y3_2), (0, .ref (ad 47)), (1, .ref (ad 73)), (2, .int x2)] dX7_times_23 (by decide) rfl ?_
              refine g_iload_n X 2 rfl dX7_times_25 ?_
              refine g_istore X [(7, .int y3_2), (5, .long 0), (4, .int y4_13), (3, .int y3_2), (0, .ref (ad 47)), (1, .ref (ad 73)), (2, .int x2)] dX7_times_26 (by decide) rfl ?_
              have lp28 : ∀ n : Nat, ∀ (y7_28 : Int32) (b7_28 : Int), y7_28.toInt = b7_28 → ∀ (y5_28 : Int64) (b5_28 : Int), y5_28.toInt = b5_28 → (b3_2 ≤ b7_28 ∧ (b7_28 ≤ b4_13 + 1 ∨ b7_28 = b3_2)) → (b5_28 = ((smC A B (b3_2).toNat (b4_13).toNat (b7_28 - b3_2).toNat : Nat) : Int)) → (b4_13 + 1 - b7_28).toNat < n → G Γ M_13 28 [(7, .int y7_28), (5, .long y5_28), (4, .int y4_13), (3, .int y3_2), (0, .ref (ad 47)), (1, .ref (ad 73)), (2, .int x2)] [] := by
                intro n
                induction n with
                | zero => intro y7_28 b7_28 e7_28 y5_28 b5_28 e5_28 i7 i8 hm; exact absurd hm (Nat.not_lt_zero _)
                | succ n ih28 =>
                  intro y7_28 b7_28 e7_28 y5_28 b5_28 e5_28 i7 i8 hm28
                  refine g_iload X 0 rfl dX7_times_28 ?_
                  refine g_iload X 2 rfl dX7_times_30 ?_
                  refine g_icmp_gt X e7_28 e4_13 (tgt := 73) dX7_times_32 (by decide) (fun cq17 => ?_) (fun cq17 => ?_)
                  · refine g_aload_n X 4 rfl dX7_times_73 ?_
                    refine g_getr X f_X7_92 dX7_times_74 ?_
                    refine g_bipush X 25 dX7_times_77 (by decide) ?_
                    refine g_iload_n X 3 rfl dX7_times_79 ?_
                    refine g_imul X dX7_times_80 (fun zq18 eq19 => ?_)
                    have tq20 : zq18.toInt = 25 * b3_2 := mul_nw eq19 (show (25 : Int32).toInt = 25 by decide) e3_2 (by omega)
                    refine g_iload X 2 rfl dX7_times_81 ?_
                    refine g_iadd X dX7_times_83 (fun zq21 eq22 => ?_)
                    have tq23 : zq21.toInt = (25 * b3_2) + b4_13 := add_nw eq22 tq20 e4_13 (by omega)
                    refine g_lload X 1 rfl dX7_times_84 ?_
                    refine g_callS X m_X7_285 (c_X7_least_R ad M_13 y5_28 e5_28) rfl (by decide) (Nat.le_of_ble_eq_true rfl) rfl dX7_times_86 ?_
                    rintro _ _ ⟨rq24, aq25, rfl, tq26, hq27, rfl⟩
                    have hle := hq27
                    show G Γ M_13 89 [(7, .int y7_28), (5, .long y5_28), (4, .int y4_13), (3, .int y3_2), (0, .ref (ad 47)), (1, .ref (ad 73)), (2, .int x2)] [.int rq24, .int zq21, .ref (ad 74)]
                    refine g_iast X la_74 tq23 dX7_times_89 (by omega) ?_
                    have Iq28 : Iv TM (ui M_13 74 (((25 * b3_2) + b4_13).toNat) rq24) := I_13.otherA rfl
                    have frq29 : Fr W_X7_times_73_R Mq (ui M_13 74 (((25 * b3_2) + b4_13).toNat) rq24) := fr_13.ui rfl
                    refine g_iinc X 2 (fun v => [(4, .int v), (7, .int y7_28), (5, .long y5_28), (3, .int y3_2), (0, .ref (ad 47)), (1, .ref (ad 73)), (2, .int x2)]) dX7_times_90 rfl (by decide) (fun _ => rfl) (fun zq30 eq31 => ?_)
                    have tq32 : zq30.toInt = b4_13 + 1 := add_nw eq31 e4_13 (show (Int32.ofInt 1).toInt = 1 by decide) (by omega)
                    refine g_goto X (tgt := 13) dX7_times_93 (by decide) ?_
                    refine g_sub [0, 3, 4, 5, 6] rfl ?_
                    exact ih13 zq30 _ tq32 (ui M_13 74 (((25 * b3_2) + b4_13).toNat) rq24) (by omega) (WKI_put hn i5 (by omega) (by omega) (by have z := smC_cap (A := A) (B := B) (i := b3_2.toNat) (j := b4_13.toNat); rw [show (b7_28 - b3_2).toNat = b4_13.toNat + 1 - b3_2.toNat by omega] at i8; rw [← z]; unfold cap; split <;> omega)) (by rw [ui_cell (k := 74) (a := 76) (by decide)]; exact i6) Iq28 frq29 (by omega)
                  · have hu : (M_13.1 76 (25 * b3_2 + b7_28).toNat).toInt = ((cap (A (b3_2).toNat ((b3_2).toNat + (b7_28 - b3_2).toNat)) : Nat) : Int) := by rw [i6, show (25 * b3_2 + b7_28).toNat = 0 + (25 * (b3_2).toNat + ((b3_2).toNat + (b7_28 - b3_2).toNat)) by omega]; exact hA _ _ (by omega) (by omega)
                    have hv : (M_13.1 73 (a2 + 25 * b7_28 + b4_13).toNat).toInt = ((cap (B ((b3_2).toNat + (b7_28 - b3_2).toNat) (b4_13).toNat) : Nat) : Int) := by rw [fr_13.at 73 _ rfl, show (a2 + 25 * b7_28 + b4_13).toNat = a2.toNat + (25 * ((b3_2).toNat + (b7_28 - b3_2).toNat) + (b4_13).toNat) by omega]; exact hB _ _ (by omega) (by omega)
                    have hur := cap_le (A (b3_2).toNat ((b3_2).toNat + (b7_28 - b3_2).toNat))
                    have hvr := cap_le (B ((b3_2).toNat + (b7_28 - b3_2).toNat) (b4_13).toNat)
                    have hpb := prod_bd (a := (M_13.1 76 (25 * b3_2 + b7_28).toNat).toInt) (b := (M_13.1 73 (a2 + 25 * b7_28 + b4_13).toNat).toInt) (by omega) (by omega)
                    have hsl := smC_le A B (b3_2).toNat (b4_13).toNat (b7_28 - b3_2).toNat
                    refine g_lload X 1 rfl dX7_times_35 ?_
                    refine g_aload_n X 4 rfl dX7_times_37 ?_
                    refine g_getr X f_X7_98 dX7_times_38 ?_
                    refine g_bipush X 25 dX7_times_41 (by decide) ?_
                    refine g_iload_n X 3 rfl dX7_times_43 ?_
                    refine g_imul X dX7_times_44 (fun zq33 eq34 => ?_)
                    have tq35 : zq33.toInt = 25 * b3_2 := mul_nw eq34 (show (25 : Int32).toInt = 25 by decide) e3_2 (by omega)
                    refine g_iload X 0 rfl dX7_times_45 ?_
                    refine g_iadd X dX7_times_47 (fun zq36 eq37 => ?_)
                    have tq38 : zq36.toInt = (25 * b3_2) + b7_28 := add_nw eq37 tq35 e7_28 (by omega)
                    refine g_iald X la_76 tq38 dX7_times_48 (by omega) (x := M_13.1 76 (((25 * b3_2) + b7_28).toNat)) rfl ?_
                    refine g_i2l X dX7_times_49 (fun zq39 eq40 => ?_)
                    have tq41 : zq39.toInt = (M_13.1 76 (((25 * b3_2) + b7_28).toNat)).toInt := i2l_nw eq40 rfl
                    refine g_aload_n X 5 rfl dX7_times_50 ?_
                    refine g_iload_n X 6 rfl dX7_times_51 ?_
                    refine g_bipush X 25 dX7_times_52 (by decide) ?_
                    refine g_iload X 0 rfl dX7_times_54 ?_
                    refine g_imul X dX7_times_56 (fun zq42 eq43 => ?_)
                    have tq44 : zq42.toInt = 25 * b7_28 := mul_nw eq43 (show (25 : Int32).toInt = 25 by decide) e7_28 (by omega)
                    refine g_iadd X dX7_times_57 (fun zq45 eq46 => ?_)
                    have tq47 : zq45.toInt = a2 + (25 * b7_28) := add_nw eq46 t2 tq44 (by omega)
                    refine g_iload X 2 rfl dX7_times_58 ?_
                    refine g_iadd X dX7_times_60 (fun zq48 eq49 => ?_)
                    have tq50 : zq48.toInt = (a2 + (25 * b7_28)) + b4_13 := add_nw eq49 tq47 e4_13 (by omega)
                    refine g_iald X la_73 tq50 dX7_times_61 (by omega) (x := M_13.1 73 (((a2 + (25 * b7_28)) + b4_13).toNat)) rfl ?_
                    refine g_i2l X dX7_times_62 (fun zq51 eq52 => ?_)
                    have tq53 : zq51.toInt = (M_13.1 73 (((a2 + (25 * b7_28)) + b4_13).toNat)).toInt := i2l_nw eq52 rfl
                    refine g_lmul X dX7_times_63 (fun zq54 eq55 => ?_)
                    have kb1 := lmul_ex eq55 tq41 tq53 (by omega)
                    refine g_ladd X dX7_times_64 (fun zq56 eq57 => ?_)
                    have kb2 := ladd_ex eq57 e5_28 kb1 (by omega)
                    refine g_lstore X [(5, .long zq56), (7, .int y7_28), (4, .int y4_13), (3, .int y3_2), (0, .ref (ad 47)), (1, .ref (ad 73)), (2, .int x2)] dX7_times_65 (by decide) rfl ?_
                    refine g_iinc X 1 (fun v => [(7, .int v), (5, .long zq56), (4, .int y4_13), (3, .int y3_2), (0, .ref (ad 47)), (1, .ref (ad 73)), (2, .int x2)]) dX7_times_67 rfl (by decide) (fun _ => rfl) (fun zq58 eq59 => ?_)
                    have tq60 : zq58.toInt = b7_28 + 1 := add_nw eq59 e7_28 (show (Int32.ofInt 1).toInt = 1 by decide) (by omega)
                    refine g_goto X (tgt := 28) dX7_times_70 (by decide) ?_
                    refine g_sub [0, 1, 2, 3, 4, 5, 6] rfl ?_
                    exact ih28 zq58 _ tq60 zq56 _ rfl (by omega) (by rw [show (b7_28 + 1 - b3_2).toNat = (b7_28 - b3_2).toNat + 1 by omega]; exact smC_s i8 hu hv kb2) (by omega)
              refine g_sub [0, 1, 2, 3, 4, 5, 6] rfl ?_
              exact lp28 _ y3_2 _ e3_2 0 _ (show (0 : Int64).toInt = 0 by decide) (by omega) (by rw [show (b3_2 - b3_2).toNat = 0 by omega]; rfl) (Nat.lt_succ_self _)
        refine g_sub [0, 1, 2, 3, 4] rfl ?_
        exact lp13 _ 0 _ (show (0 : Int32).toInt = 0 by decide) M_2 (by omega) i2 i3 I_2 fr_2 (Nat.lt_succ_self _)
  refine g_sub [0, 1, 2, 3] rfl ?_
  exact lp2 _ 0 _ (show (0 : Int32).toInt = 0 by decide) Mq (by omega) WKI_0 rfl Iq0 frq0 (Nat.lt_succ_self _)
abbrev W_X7_times_71_R : List (Nat × Nat) := [(74, 99), (76, 99)]
set_option maxHeartbeats 4000000 in
set_option maxRecDepth 4000 in
theorem c_X7_times_71_R (ad : Nat → Nat) (Mq : Mem) (x2 : Int32) {a2 : Int} (t2 : x2.toInt = a2) (Iq0 : Iv TM Mq) {A B : Mat} (h2 : 0 ≤ a2 ∧ a2 + 625 ≤ 5000) (hA : MR (Mq.1 76) 0 ((Mq.1 47 44).toInt).toNat A) (hB : MR (Mq.1 71) a2.toNat ((Mq.1 47 44).toInt).toNat B) : Ctr ad yX7_times cX7_times 8 none 1 [.ref (ad 47), .ref (ad 71), .int x2] Mq (fun v M' => v = none ∧ (True) ∧ (MR (M'.1 76) 0 ((Mq.1 47 44).toInt).toNat (mM A B)) ∧ Iv TM M' ∧ Fr W_X7_times_71_R Mq M') := by
  refine ctr_of (L := [(0, .ref (ad 47)), (1, .ref (ad 71)), (2, .int x2)]) (by decide) (Nat.le_of_ble_eq_true rfl) rfl ?_
  intro Γ X
  have X : gX Γ cX7_times RX7 8 none 1 ad _ := X
  have frq0 : Fr W_X7_times_71_R Mq Mq := Fr.rf
  have g44 := ig_47_44 Iq0
  have hn : ((Mq.1 47 44).toInt).toNat < 25 := by omega
  refine g_iconst X 0 dX7_times_0 (by decide) ?_
  refine g_istore_n X (i := 3) [(3, .int 0), (0, .ref (ad 47)), (1, .ref (ad 71)), (2, .int x2)] dX7_times_1 rfl (by decide) rfl ?_
  have lp2 : ∀ n : Nat, ∀ (y3_2 : Int32) (b3_2 : Int), y3_2.toInt = b3_2 → ∀ (M_2 : Mem), (0 ≤ b3_2 ∧ b3_2 ≤ (Mq.1 47 44).toInt + 1) → (WKI (M_2.1 74) ((Mq.1 47 44).toInt).toNat (mM A B) b3_2 0) → (M_2.1 76 = Mq.1 76) → (Iv TM M_2) → (Fr W_X7_times_71_R Mq M_2) → ((Mq.1 47 44).toInt + 1 - b3_2).toNat < n → G Γ M_2 2 [(3, .int y3_2), (0, .ref (ad 47)), (1, .ref (ad 71)), (2, .int x2)] [] := by
    intro n
    induction n with
    | zero => intro y3_2 b3_2 e3_2 M_2 i1 i2 i3 I_2 fr_2 hm; exact absurd hm (Nat.not_lt_zero _)
    | succ n ih2 =>
      intro y3_2 b3_2 e3_2 M_2 i1 i2 i3 I_2 fr_2 hm2
      have trq1 : (M_2.1 47 44).toInt = (Mq.1 47 44).toInt := congrArg Int32.toInt (fr_2.at 47 44 rfl)
      refine g_iload_n X 0 rfl dX7_times_2 ?_
      refine g_aload_n X 1 rfl dX7_times_3 ?_
      refine g_geti X f_X7_282 dX7_times_4 (x := M_2.1 47 44) rfl ?_
      have bq2 := ig_47_44 I_2
      refine g_icmp_gt X e3_2 rfl (tgt := 102) dX7_times_7 (by decide) (fun cq3 => ?_) (fun cq3 => ?_)
      · refine g_iconst X 0 dX7_times_102 (by decide) ?_
        refine g_istore_n X (i := 3) [(3, .int 0), (0, .ref (ad 47)), (1, .ref (ad 71)), (2, .int x2)] dX7_times_103 rfl (by decide) rfl ?_
        have lp104 : ∀ n : Nat, ∀ (y3_104 : Int32) (b3_104 : Int), y3_104.toInt = b3_104 → ∀ (M_104 : Mem), (0 ≤ b3_104 ∧ b3_104 ≤ 625) → (∀ j : Nat, (j : Int) < b3_104 → M_104.1 76 j = M_104.1 74 j) → (WKI (M_104.1 74) ((Mq.1 47 44).toInt).toNat (mM A B) ((Mq.1 47 44).toInt + 1) 0) → (Iv TM M_104) → (Fr W_X7_times_71_R Mq M_104) → (625 - b3_104).toNat < n → G Γ M_104 104 [(3, .int y3_104), (0, .ref (ad 47)), (1, .ref (ad 71)), (2, .int x2)] [] := by
          intro n
          induction n with
          | zero => intro y3_104 b3_104 e3_104 M_104 i9 i10 i11 I_104 fr_104 hm; exact absurd hm (Nat.not_lt_zero _)
          | succ n ih104 =>
            intro y3_104 b3_104 e3_104 M_104 i9 i10 i11 I_104 fr_104 hm104
            have trq4 : (M_104.1 47 44).toInt = (Mq.1 47 44).toInt := congrArg Int32.toInt (fr_104.at 47 44 rfl)
            refine g_iload_n X 0 rfl dX7_times_104 ?_
            refine g_sipush X 625 dX7_times_105 (by decide) ?_
            refine g_icmp_ge X e3_104 (show (625 : Int32).toInt = 625 by decide) (tgt := 129) dX7_times_108 (by decide) (fun cq5 => ?_) (fun cq5 => ?_)
            · exact g_vret X dX7_times_129 ⟨rfl, trivial, (WKI_end hn i11 (by omega) i10 (by omega)), I_104, fr_104⟩
            · refine g_aload_n X 1 rfl dX7_times_111 ?_
              refine g_getr X f_X7_98 dX7_times_112 ?_
              refine g_iload_n X 0 rfl dX7_times_115 ?_
              refine g_aload_n X 1 rfl dX7_times_116 ?_
              refine g_getr X f_X7_92 dX7_times_117 ?_
              refine g_iload_n X 0 rfl dX7_times_120 ?_
              refine g_iald X la_74 e3_104 dX7_times_121 (by omega) (x := M_104.1 74 b3_104.toNat) rfl ?_
              refine g_iast X la_76 e3_104 dX7_times_122 (by omega) ?_
              have Iq6 : Iv TM (ui M_104 76 b3_104.toNat (M_104.1 74 b3_104.toNat)) := I_104.otherA rfl
              have frq7 : Fr W_X7_times_71_R Mq (ui M_104 76 b3_104.toNat (M_104.1 74 b3_104.toNat)) := fr_104.ui rfl
              refine g_iinc X 0 (fun v => [(3, .int v), (0, .ref (ad 47)), (1, .ref (ad 71)), (2, .int x2)]) dX7_times_123 rfl (by decide) (fun _ => rfl) (fun zq8 eq9 => ?_)
              have tq10 : zq8.toInt = b3_104 + 1 := add_nw eq9 e3_104 (show (Int32.ofInt 1).toInt = 1 by decide) (by omega)
              refine g_goto X (tgt := 104) dX7_times_126 (by decide) ?_
              refine g_sub [0, 1, 2, 3] rfl ?_
              exact ih104 zq8 _ tq10 (ui M_104 76 b3_104.toNat (M_104.1 74 b3_104.toNat)) (by omega) (cp2_step (by decide) i10 i9.1) (by rw [ui_cell (k := 76) (a := 74) (by decide)]; exact i11) Iq6 frq7 (by omega)
        refine g_sub [0, 1, 2, 3] rfl ?_
        exact lp104 _ 0 _ (show (0 : Int32).toInt = 0 by decide) M_2 (by omega) (fun j hj => absurd hj (by omega)) (by rw [show b3_2 = (Mq.1 47 44).toInt + 1 by omega] at i2; exact i2) I_2 fr_2 (Nat.lt_succ_self _)
      · refine g_iconst X 0 dX7_times_10 (by decide) ?_
        refine g_istore X [(4, .int 0), (3, .int y3_2), (0, .ref (ad 47)), (1, .ref (ad 71)), (2, .int x2)] dX7_times_11 (by decide) rfl ?_
        have lp13 : ∀ n : Nat, ∀ (y4_13 : Int32) (b4_13 : Int), y4_13.toInt = b4_13 → ∀ (M_13 : Mem), (0 ≤ b4_13 ∧ b4_13 ≤ (Mq.1 47 44).toInt + 1) → (WKI (M_13.1 74) ((Mq.1 47 44).toInt).toNat (mM A B) b3_2 b4_13) → (M_13.1 76 = Mq.1 76) → (Iv TM M_13) → (Fr W_X7_times_71_R Mq M_13) → ((Mq.1 47 44).toInt + 1 - b4_13).toNat < n → G Γ M_13 13 [(4, .int y4_13), (3, .int y3_2), (0, .ref (ad 47)), (1, .ref (ad 71)), (2, .int x2)] [] := by
          intro n
          induction n with
          | zero => intro y4_13 b4_13 e4_13 M_13 i4 i5 i6 I_13 fr_13 hm; exact absurd hm (Nat.not_lt_zero _)
          | succ n ih13 =>
            intro y4_13 b4_13 e4_13 M_13 i4 i5 i6 I_13 fr_13 hm13
            have trq11 : (M_13.1 47 44).toInt = (Mq.1 47 44).toInt := congrArg Int32.toInt (fr_13.at 47 44 rfl)
            refine g_iload X 0 rfl dX7_times_13 ?_
            refine g_aload_n X 2 rfl dX7_times_15 ?_
            refine g_geti X f_X7_282 dX7_times_16 (x := M_13.1 47 44) rfl ?_
            have bq12 := ig_47_44 I_13
            refine g_icmp_gt X e4_13 rfl (tgt := 96) dX7_times_19 (by decide) (fun cq13 => ?_) (fun cq13 => ?_)
            · refine g_iinc X 1 (fun v => [(3, .int v), (4, .int y4_13), (0, .ref (ad 47)), (1, .ref (ad 71)), (2, .int x2)]) dX7_times_96 rfl (by decide) (fun _ => rfl) (fun zq14 eq15 => ?_)
              have tq16 : zq14.toInt = b3_2 + 1 := add_nw eq15 e3_2 (show (Int32.ofInt 1).toInt = 1 by decide) (by omega)
              refine g_goto X (tgt := 2) dX7_times_99 (by decide) ?_
              refine g_sub [0, 2, 3, 4] rfl ?_
              exact ih2 zq14 _ tq16 M_13 (by omega) (WKI_row i5 (by omega)) i6 I_13 fr_13 (by omega)
            · refine g_lconst X 0 dX7_times_22 (by decide) ?_
              refine g_lstore X [(5, .long 0), (4, .int y4_13), (3, .int y3_2), (0, .ref (ad 47)), (1, .ref (ad 71)), (2, .int x2)] dX7_times_23 (by decide) rfl ?_
              refine g_iload_n X 2 rfl dX7_times_25 ?_
              refine g_istore X [(7, .int y3_2), (5, .long 0), (4, .int y4_13), (3, .int y3_2), (0, .ref (ad 47)), (1, .ref (ad 71)), (2, .int x2)] dX7_times_26 (by decide) rfl ?_
              have lp28 : ∀ n : Nat, ∀ (y7_28 : Int32) (b7_28 : Int), y7_28.toInt = b7_28 → ∀ (y5_28 : Int64) (b5_28 : Int), y5_28.toInt = b5_28 → (b3_2 ≤ b7_28 ∧ (b7_28 ≤ b4_13 + 1 ∨ b7_28 = b3_2)) → (b5_28 = ((smC A B (b3_2).toNat (b4_13).toNat (b7_28 - b3_2).toNat : Nat) : Int)) → (b4_13 + 1 - b7_28).toNat < n → G Γ M_13 28 [(7, .int y7_28), (5, .long y5_28), (4, .int y4_13), (3, .int y3_2), (0, .ref (ad 47)), (1, .ref (ad 71)), (2, .int x2)] [] := by
                intro n
                induction n with
                | zero => intro y7_28 b7_28 e7_28 y5_28 b5_28 e5_28 i7 i8 hm; exact absurd hm (Nat.not_lt_zero _)
                | succ n ih28 =>
                  intro y7_28 b7_28 e7_28 y5_28 b5_28 e5_28 i7 i8 hm28
                  refine g_iload X 0 rfl dX7_times_28 ?_
                  refine g_iload X 2 rfl dX7_times_30 ?_
                  refine g_icmp_gt X e7_28 e4_13 (tgt := 73) dX7_times_32 (by decide) (fun cq17 => ?_) (fun cq17 => ?_)
                  · refine g_aload_n X 4 rfl dX7_times_73 ?_
                    refine g_getr X f_X7_92 dX7_times_74 ?_
                    refine g_bipush X 25 dX7_times_77 (by decide) ?_
                    refine g_iload_n X 3 rfl dX7_times_79 ?_
                    refine g_imul X dX7_times_80 (fun zq18 eq19 => ?_)
                    have tq20 : zq18.toInt = 25 * b3_2 := mul_nw eq19 (show (25 : Int32).toInt = 25 by decide) e3_2 (by omega)
                    refine g_iload X 2 rfl dX7_times_81 ?_
                    refine g_iadd X dX7_times_83 (fun zq21 eq22 => ?_)
                    have tq23 : zq21.toInt = (25 * b3_2) + b4_13 := add_nw eq22 tq20 e4_13 (by omega)
                    refine g_lload X 1 rfl dX7_times_84 ?_
                    refine g_callS X m_X7_285 (c_X7_least_R ad M_13 y5_28 e5_28) rfl (by decide) (Nat.le_of_ble_eq_true rfl) rfl dX7_times_86 ?_
                    rintro _ _ ⟨rq24, aq25, rfl, tq26, hq27, rfl⟩
                    have hle := hq27
                    show G Γ M_13 89 [(7, .int y7_28), (5, .long y5_28), (4, .int y4_13), (3, .int y3_2), (0, .ref (ad 47)), (1, .ref (ad 71)), (2, .int x2)] [.int rq24, .int zq21, .ref (ad 74)]
                    refine g_iast X la_74 tq23 dX7_times_89 (by omega) ?_
                    have Iq28 : Iv TM (ui M_13 74 (((25 * b3_2) + b4_13).toNat) rq24) := I_13.otherA rfl
                    have frq29 : Fr W_X7_times_71_R Mq (ui M_13 74 (((25 * b3_2) + b4_13).toNat) rq24) := fr_13.ui rfl
                    refine g_iinc X 2 (fun v => [(4, .int v), (7, .int y7_28), (5, .long y5_28), (3, .int y3_2), (0, .ref (ad 47)), (1, .ref (ad 71)), (2, .int x2)]) dX7_times_90 rfl (by decide) (fun _ => rfl) (fun zq30 eq31 => ?_)
                    have tq32 : zq30.toInt = b4_13 + 1 := add_nw eq31 e4_13 (show (Int32.ofInt 1).toInt = 1 by decide) (by omega)
                    refine g_goto X (tgt := 13) dX7_times_93 (by decide) ?_
                    refine g_sub [0, 3, 4, 5, 6] rfl ?_
                    exact ih13 zq30 _ tq32 (ui M_13 74 (((25 * b3_2) + b4_13).toNat) rq24) (by omega) (WKI_put hn i5 (by omega) (by omega) (by have z := smC_cap (A := A) (B := B) (i := b3_2.toNat) (j := b4_13.toNat); rw [show (b7_28 - b3_2).toNat = b4_13.toNat + 1 - b3_2.toNat by omega] at i8; rw [← z]; unfold cap; split <;> omega)) (by rw [ui_cell (k := 74) (a := 76) (by decide)]; exact i6) Iq28 frq29 (by omega)
                  · have hu : (M_13.1 76 (25 * b3_2 + b7_28).toNat).toInt = ((cap (A (b3_2).toNat ((b3_2).toNat + (b7_28 - b3_2).toNat)) : Nat) : Int) := by rw [i6, show (25 * b3_2 + b7_28).toNat = 0 + (25 * (b3_2).toNat + ((b3_2).toNat + (b7_28 - b3_2).toNat)) by omega]; exact hA _ _ (by omega) (by omega)
                    have hv : (M_13.1 71 (a2 + 25 * b7_28 + b4_13).toNat).toInt = ((cap (B ((b3_2).toNat + (b7_28 - b3_2).toNat) (b4_13).toNat) : Nat) : Int) := by rw [fr_13.at 71 _ rfl, show (a2 + 25 * b7_28 + b4_13).toNat = a2.toNat + (25 * ((b3_2).toNat + (b7_28 - b3_2).toNat) + (b4_13).toNat) by omega]; exact hB _ _ (by omega) (by omega)
                    have hur := cap_le (A (b3_2).toNat ((b3_2).toNat + (b7_28 - b3_2).toNat))
                    have hvr := cap_le (B ((b3_2).toNat + (b7_28 - b3_2).toNat) (b4_13).toNat)
                    have hpb := prod_bd (a := (M_13.1 76 (25 * b3_2 + b7_28).toNat).toInt) (b := (M_13.1 71 (a2 + 25 * b7_28 + b4_13).toNat).toInt) (by omega) (by omega)
                    have hsl := smC_le A B (b3_2).toNat (b4_13).toNat (b7_28 - b3_2).toNat
                    refine g_lload X 1 rfl dX7_times_35 ?_
                    refine g_aload_n X 4 rfl dX7_times_37 ?_
                    refine g_getr X f_X7_98 dX7_times_38 ?_
                    refine g_bipush X 25 dX7_times_41 (by decide) ?_
                    refine g_iload_n X 3 rfl dX7_times_43 ?_
                    refine g_imul X dX7_times_44 (fun zq33 eq34 => ?_)
                    have tq35 : zq33.toInt = 25 * b3_2 := mul_nw eq34 (show (25 : Int32).toInt = 25 by decide) e3_2 (by omega)
                    refine g_iload X 0 rfl dX7_times_45 ?_
                    refine g_iadd X dX7_times_47 (fun zq36 eq37 => ?_)
                    have tq38 : zq36.toInt = (25 * b3_2) + b7_28 := add_nw eq37 tq35 e7_28 (by omega)
                    refine g_iald X la_76 tq38 dX7_times_48 (by omega) (x := M_13.1 76 (((25 * b3_2) + b7_28).toNat)) rfl ?_
                    refine g_i2l X dX7_times_49 (fun zq39 eq40 => ?_)
                    have tq41 : zq39.toInt = (M_13.1 76 (((25 * b3_2) + b7_28).toNat)).toInt := i2l_nw eq40 rfl
                    refine g_aload_n X 5 rfl dX7_times_50 ?_
                    refine g_iload_n X 6 rfl dX7_times_51 ?_
                    refine g_bipush X 25 dX7_times_52 (by decide) ?_
                    refine g_iload X 0 rfl dX7_times_54 ?_
                    refine g_imul X dX7_times_56 (fun zq42 eq43 => ?_)
                    have tq44 : zq42.toInt = 25 * b7_28 := mul_nw eq43 (show (25 : Int32).toInt = 25 by decide) e7_28 (by omega)
                    refine g_iadd X dX7_times_57 (fun zq45 eq46 => ?_)
                    have tq47 : zq45.toInt = a2 + (25 * b7_28) := add_nw eq46 t2 tq44 (by omega)
                    refine g_iload X 2 rfl dX7_times_58 ?_
                    refine g_iadd X dX7_times_60 (fun zq48 eq49 => ?_)
                    have tq50 : zq48.toInt = (a2 + (25 * b7_28)) + b4_13 := add_nw eq49 tq47 e4_13 (by omega)
                    refine g_iald X la_71 tq50 dX7_times_61 (by omega) (x := M_13.1 71 (((a2 + (25 * b7_28)) + b4_13).toNat)) rfl ?_
                    refine g_i2l X dX7_times_62 (fun zq51 eq52 => ?_)
                    have tq53 : zq51.toInt = (M_13.1 71 (((a2 + (25 * b7_28)) + b4_13).toNat)).toInt := i2l_nw eq52 rfl
                    refine g_lmul X dX7_times_63 (fun zq54 eq55 => ?_)
                    have kb1 := lmul_ex eq55 tq41 tq53 (by omega)
                    refine g_ladd X dX7_times_64 (fun zq56 eq57 => ?_)
                    have kb2 := ladd_ex eq57 e5_28 kb1 (by omega)
                    refine g_lstore X [(5, .long zq56), (7, .int y7_28), (4, .int y4_13), (3, .int y3_2), (0, .ref (ad 47)), (1, .ref (ad 71)), (2, .int x2)] dX7_times_65 (by decide) rfl ?_
                    refine g_iinc X 1 (fun v => [(7, .int v), (5, .long zq56), (4, .int y4_13), (3, .int y3_2), (0, .ref (ad 47)), (1, .ref (ad 71)), (2, .int x2)]) dX7_times_67 rfl (by decide) (fun _ => rfl) (fun zq58 eq59 => ?_)
                    have tq60 : zq58.toInt = b7_28 + 1 := add_nw eq59 e7_28 (show (Int32.ofInt 1).toInt = 1 by decide) (by omega)
                    refine g_goto X (tgt := 28) dX7_times_70 (by decide) ?_
                    refine g_sub [0, 1, 2, 3, 4, 5, 6] rfl ?_
                    exact ih28 zq58 _ tq60 zq56 _ rfl (by omega) (by rw [show (b7_28 + 1 - b3_2).toNat = (b7_28 - b3_2).toNat + 1 by omega]; exact smC_s i8 hu hv kb2) (by omega)
              refine g_sub [0, 1, 2, 3, 4, 5, 6] rfl ?_
              exact lp28 _ y3_2 _ e3_2 0 _ (show (0 : Int64).toInt = 0 by decide) (by omega) (by rw [show (b3_2 - b3_2).toNat = 0 by omega]; rfl) (Nat.lt_succ_self _)
        refine g_sub [0, 1, 2, 3, 4] rfl ?_
        exact lp13 _ 0 _ (show (0 : Int32).toInt = 0 by decide) M_2 (by omega) i2 i3 I_2 fr_2 (Nat.lt_succ_self _)
  refine g_sub [0, 1, 2, 3] rfl ?_
  exact lp2 _ 0 _ (show (0 : Int32).toInt = 0 by decide) Mq (by omega) WKI_0 rfl Iq0 frq0 (Nat.lt_succ_self _)
abbrev W_X7_begins_R : List (Nat × Nat) := [(74, 99), (76, 99)]
set_option maxHeartbeats 4000000 in
set_option maxRecDepth 4000 in
theorem c_X7_begins_R (ad : Nat → Nat) (Mq : Mem) (Iq0 : Iv TM Mq) : Ctr ad yX7_begins cX7_begins 2 none 0 [.ref (ad 47)] Mq (fun v M' => v = none ∧ (True) ∧ (MR (M'.1 76) 0 ((Mq.1 47 44).toInt).toNat mO) ∧ Iv TM M' ∧ Fr W_X7_begins_R Mq M') := by
  refine ctr_of (L := [(0, .ref (ad 47))]) (by decide) (Nat.le_of_ble_eq_true rfl) rfl ?_
  intro Γ X
  have X : gX Γ cX7_begins RX7 2 none 0 ad _ := X
  have frq0 : Fr W_X7_begins_R Mq Mq := Fr.rf
  have g44 := ig_47_44 Iq0
  have hn : ((Mq.1 47 44).toInt).toNat < 25 := by omega
  refine g_iconst X 0 dX7_begins_0 (by decide) ?_
  refine g_istore_n X (i := 1) [(1, .int 0), (0, .ref (ad 47))] dX7_begins_1 rfl (by decide) rfl ?_
  have lp2 : ∀ n : Nat, ∀ (y1_2 : Int32) (b1_2 : Int), y1_2.toInt = b1_2 → ∀ (M_2 : Mem), (0 ≤ b1_2 ∧ b1_2 ≤ 625) → (∀ d : Nat, (d : Int) < b1_2 → (M_2.1 76 (0 + d)).toInt = if d % 26 = 0 then 1 else 0) → (Iv TM M_2) → (Fr W_X7_begins_R Mq M_2) → (625 - b1_2).toNat < n → G Γ M_2 2 [(1, .int y1_2), (0, .ref (ad 47))] [] := by
    intro n
    induction n with
    | zero => intro y1_2 b1_2 e1_2 M_2 i1 i2 I_2 fr_2 hm; exact absurd hm (Nat.not_lt_zero _)
    | succ n ih2 =>
      intro y1_2 b1_2 e1_2 M_2 i1 i2 I_2 fr_2 hm2
      have trq1 : (M_2.1 47 44).toInt = (Mq.1 47 44).toInt := congrArg Int32.toInt (fr_2.at 47 44 rfl)
      refine g_iload_n X 0 rfl dX7_begins_2 ?_
      refine g_sipush X 625 dX7_begins_3 (by decide) ?_
      refine g_icmp_ge X e1_2 (show (625 : Int32).toInt = 625 by decide) (tgt := 40) dX7_begins_6 (by decide) (fun cq2 => ?_) (fun cq2 => ?_)
      · exact g_vret X dX7_begins_40 ⟨rfl, trivial, (BG_end hn i2 (by omega)), I_2, fr_2⟩
      · refine g_aload_n X 1 rfl dX7_begins_9 ?_
        refine g_getr X f_X7_98 dX7_begins_10 ?_
        refine g_iload_n X 0 rfl dX7_begins_13 ?_
        refine g_iload_n X 0 rfl dX7_begins_14 ?_
        refine g_bipush X 26 dX7_begins_15 (by decide) ?_
        refine g_irem X dX7_begins_17 (ne0 (show (26 : Int32).toInt = 26 by decide) (by omega)) (fun zq3 eq4 => ?_)
        have tq5 : zq3.toInt = b1_2 % 26 := rem_nw eq4 e1_2 (show (26 : Int32).toInt = 26 by decide) (by omega)
        refine g_if_ne X tq5 (tgt := 25) dX7_begins_18 (by decide) (fun cq6 => ?_) (fun cq6 => ?_)
        · refine g_iconst X 0 dX7_begins_25 (by decide) ?_
          refine g_iast X la_76 e1_2 dX7_begins_26 (by omega) ?_
          have ltq7 : (0 : Int32).toInt = 0 := by decide
          have Iq8 : Iv TM (ui M_2 76 b1_2.toNat 0) := I_2.otherA rfl
          have frq9 : Fr W_X7_begins_R Mq (ui M_2 76 b1_2.toNat 0) := fr_2.ui rfl
          refine g_aload_n X 1 rfl dX7_begins_27 ?_
          refine g_getr X f_X7_92 dX7_begins_28 ?_
          refine g_iload_n X 0 rfl dX7_begins_31 ?_
          refine g_iconst X 0 dX7_begins_32 (by decide) ?_
          refine g_iast X la_74 e1_2 dX7_begins_33 (by omega) ?_
          have ltq10 : (0 : Int32).toInt = 0 := by decide
          have Iq11 : Iv TM (ui (ui M_2 76 b1_2.toNat 0) 74 b1_2.toNat 0) := Iq8.otherA rfl
          have frq12 : Fr W_X7_begins_R Mq (ui (ui M_2 76 b1_2.toNat 0) 74 b1_2.toNat 0) := frq9.ui rfl
          refine g_iinc X 0 (fun v => [(1, .int v), (0, .ref (ad 47))]) dX7_begins_34 rfl (by decide) (fun _ => rfl) (fun zq13 eq14 => ?_)
          have tq15 : zq13.toInt = b1_2 + 1 := add_nw eq14 e1_2 (show (Int32.ofInt 1).toInt = 1 by decide) (by omega)
          refine g_goto X (tgt := 2) dX7_begins_37 (by decide) ?_
          refine g_sub [0, 1] rfl ?_
          exact ih2 zq13 _ tq15 (ui (ui M_2 76 b1_2.toNat 0) 74 b1_2.toNat 0) (by omega) (fun d hd => by rw [ui_cell (k := 74) (a := 76) (by decide)]; exact BG_step i2 i1.1 (by omega) (by first | (rw [if_pos (by omega)]; decide) | (rw [if_neg (by omega)]; decide)) d hd) Iq11 frq12 (by omega)
        · refine g_iconst X 1 dX7_begins_21 (by decide) ?_
          refine g_goto X (tgt := 26) dX7_begins_22 (by decide) ?_
          refine g_iast X la_76 e1_2 dX7_begins_26 (by omega) ?_
          have ltq16 : (1 : Int32).toInt = 1 := by decide
          have Iq17 : Iv TM (ui M_2 76 b1_2.toNat 1) := I_2.otherA rfl
          have frq18 : Fr W_X7_begins_R Mq (ui M_2 76 b1_2.toNat 1) := fr_2.ui rfl
          refine g_aload_n X 1 rfl dX7_begins_27 ?_
          refine g_getr X f_X7_92 dX7_begins_28 ?_
          refine g_iload_n X 0 rfl dX7_begins_31 ?_
          refine g_iconst X 0 dX7_begins_32 (by decide) ?_
          refine g_iast X la_74 e1_2 dX7_begins_33 (by omega) ?_
          have ltq19 : (0 : Int32).toInt = 0 := by decide
          have Iq20 : Iv TM (ui (ui M_2 76 b1_2.toNat 1) 74 b1_2.toNat 0) := Iq17.otherA rfl
          have frq21 : Fr W_X7_begins_R Mq (ui (ui M_2 76 b1_2.toNat 1) 74 b1_2.toNat 0) := frq18.ui rfl
          refine g_iinc X 0 (fun v => [(1, .int v), (0, .ref (ad 47))]) dX7_begins_34 rfl (by decide) (fun _ => rfl) (fun zq22 eq23 => ?_)
          have tq24 : zq22.toInt = b1_2 + 1 := add_nw eq23 e1_2 (show (Int32.ofInt 1).toInt = 1 by decide) (by omega)
          refine g_goto X (tgt := 2) dX7_begins_37 (by decide) ?_
          refine g_sub [0, 1] rfl ?_
          exact ih2 zq22 _ tq24 (ui (ui M_2 76 b1_2.toNat 1) 74 b1_2.toNat 0) (by omega) (fun d hd => by rw [ui_cell (k := 74) (a := 76) (by decide)]; exact BG_step i2 i1.1 (by omega) (by first | (rw [if_pos (by omega)]; decide) | (rw [if_neg (by omega)]; decide)) d hd) Iq20 frq21 (by omega)
  refine g_sub [0, 1] rfl ?_
  exact lp2 _ 0 _ (show (0 : Int32).toInt = 0 by decide) Mq (by omega) (fun d hd => absurd hd (by omega)) Iq0 frq0 (Nat.lt_succ_self _)
set_option maxHeartbeats 4000000 in
set_option maxRecDepth 4000 in
theorem c_X7_waysAt_R (ad : Nat → Nat) (Mq : Mem) (x1 : Int32) {a1 : Int} (t1 : x1.toInt = a1) (x2 : Int32) {a2 : Int} (t2 : x2.toInt = a2) (Iq0 : Iv TM Mq) (h1 : 0 ≤ a1 ∧ a1 < 24) : Ctr ad yX7_waysAt cX7_waysAt 4 (some .int) 1 [.ref (ad 47), .int x1, .int x2] Mq (fun v M' => ∃ (r : Int32) (a : Int), v = some (.int r) ∧ r.toInt = a ∧ (a = ((wtR Mq (Mq.1 78 a1.toNat).toInt a2 : Nat) : Int)) ∧ Mq = M') := by
  refine ctr_of (L := [(0, .ref (ad 47)), (1, .int x1), (2, .int x2)]) (by decide) (Nat.le_of_ble_eq_true rfl) rfl ?_
  intro Γ X
  have X : gX Γ cX7_waysAt RX7 4 (some .int) 1 ad _ := X
  have g44 := ig_47_44 Iq0
  have hn : ((Mq.1 47 44).toInt).toNat < 25 := by omega
  refine g_aload_n X 0 rfl dX7_waysAt_0 ?_
  refine g_getr X f_X7_104 dX7_waysAt_1 ?_
  refine g_iload_n X 1 rfl dX7_waysAt_4 ?_
  refine g_iald X la_78 t1 dX7_waysAt_5 (by omega) (x := Mq.1 78 a1.toNat) rfl ?_
  have bq1 := ig_78 Iq0 a1.toNat (by omega)
  refine g_istore_n X (i := 3) [(3, .int (Mq.1 78 a1.toNat)), (0, .ref (ad 47)), (1, .int x1), (2, .int x2)] dX7_waysAt_6 rfl (by decide) rfl ?_
  refine g_iload_n X 0 rfl dX7_waysAt_7 ?_
  refine g_bipush X 40 dX7_waysAt_8 (by decide) ?_
  refine g_icmp_ne X rfl (show (40 : Int32).toInt = 40 by decide) (tgt := 19) dX7_waysAt_10 (by decide) (fun cq2 => ?_) (fun cq2 => ?_)
  · refine g_aload_n X 1 rfl dX7_waysAt_19 ?_
    refine g_getr X f_X7_126 dX7_waysAt_20 ?_
    refine g_iload_n X 0 rfl dX7_waysAt_23 ?_
    refine g_zald X la_85 rfl dX7_waysAt_24 (by omega) (x := Mq.1 85 (((Mq.1 78 a1.toNat).toInt).toNat)) rfl ?_
    have bq3 := ig_85 Iq0 (((Mq.1 78 a1.toNat).toInt).toNat) (by omega)
    refine g_if_eq X rfl (tgt := 42) dX7_waysAt_25 (by decide) (fun cq4 => ?_) (fun cq4 => ?_)
    · refine g_iconst X 0 dX7_waysAt_42 (by decide) ?_
      exact g_iret X dX7_waysAt_43 ⟨_, _, rfl, (show (0 : Int32).toInt = 0 by decide), (by first | (rw [wtR_y (by omega) (by omega) (by omega)]; rfl) | (rw [wtR_n (by omega) (by omega)]; rfl)), rfl⟩
    · refine g_aload_n X 1 rfl dX7_waysAt_28 ?_
      refine g_getr X f_X7_31 dX7_waysAt_29 ?_
      refine g_iload_n X 0 rfl dX7_waysAt_32 ?_
      refine g_iald X la_55 rfl dX7_waysAt_33 (by omega) (x := Mq.1 55 (((Mq.1 78 a1.toNat).toInt).toNat)) rfl ?_
      refine g_iload_n X 3 rfl dX7_waysAt_34 ?_
      refine g_icmp_ne X rfl t2 (tgt := 42) dX7_waysAt_35 (by decide) (fun cq5 => ?_) (fun cq5 => ?_)
      · refine g_iconst X 0 dX7_waysAt_42 (by decide) ?_
        exact g_iret X dX7_waysAt_43 ⟨_, _, rfl, (show (0 : Int32).toInt = 0 by decide), (by first | (rw [wtR_y (by omega) (by omega) (by omega)]; rfl) | (rw [wtR_n (by omega) (by omega)]; rfl)), rfl⟩
      · refine g_iconst X 1 dX7_waysAt_38 (by decide) ?_
        refine g_goto X (tgt := 43) dX7_waysAt_39 (by decide) ?_
        exact g_iret X dX7_waysAt_43 ⟨_, _, rfl, (show (1 : Int32).toInt = 1 by decide), (by first | (rw [wtR_y (by omega) (by omega) (by omega)]; rfl) | (rw [wtR_n (by omega) (by omega)]; rfl)), rfl⟩
  · refine g_aload_n X 1 rfl dX7_waysAt_13 ?_
    refine g_iload_n X 3 rfl dX7_waysAt_14 ?_
    refine g_callV X m_X7_254 (c_X7_linesOf ad Mq x2 t2 Iq0) rfl (by decide) (Nat.le_of_ble_eq_true rfl) rfl dX7_waysAt_15 ?_
    rintro _ _ ⟨rq6, aq7, rfl, tq8, hq9, rfl⟩
    have hcl := (hq9).1
    show G Γ Mq 18 [(3, .int (Mq.1 78 a1.toNat)), (0, .ref (ad 47)), (1, .int x1), (2, .int x2)] [.int rq6]
    exact g_iret X dX7_waysAt_18 ⟨_, _, rfl, tq8, (by rw [wtR_40 (by omega)]; omega), rfl⟩
abbrev W_X7_takesSlot_R : List (Nat × Nat) := [(76, 99)]
set_option maxHeartbeats 4000000 in
set_option maxRecDepth 4000 in
theorem c_X7_takesSlot_R (ad : Nat → Nat) (Mq : Mem) (x1 : Int32) {a1 : Int} (t1 : x1.toInt = a1) (Iq0 : Iv TM Mq) {A : Mat} {w : Nat → Nat} (hA : MR (Mq.1 76) 0 ((Mq.1 47 44).toInt).toNat A) (hU : UTr A) (hw : ∀ j : Nat, (j : Int) < (Mq.1 47 44).toInt → wtR Mq (Mq.1 78 j).toInt a1 = w j ∧ w j ≤ 64) : Ctr ad yX7_takesSlot cX7_takesSlot 4 none 2 [.ref (ad 47), .int x1] Mq (fun v M' => v = none ∧ (True) ∧ (MR (M'.1 76) 0 ((Mq.1 47 44).toInt).toNat (mS1 w A)) ∧ Iv TM M' ∧ Fr W_X7_takesSlot_R Mq M') := by
  refine ctr_of (L := [(0, .ref (ad 47)), (1, .int x1)]) (by decide) (Nat.le_of_ble_eq_true rfl) rfl ?_
  intro Γ X
  have X : gX Γ cX7_takesSlot RX7 4 none 2 ad _ := X
  have frq0 : Fr W_X7_takesSlot_R Mq Mq := Fr.rf
  have g44 := ig_47_44 Iq0
  have hn : ((Mq.1 47 44).toInt).toNat < 25 := by omega
  refine g_iconst X 0 dX7_takesSlot_0 (by decide) ?_
  refine g_istore_n X (i := 2) [(2, .int 0), (0, .ref (ad 47)), (1, .int x1)] dX7_takesSlot_1 rfl (by decide) rfl ?_
  have lp2 : ∀ n : Nat, ∀ (y2_2 : Int32) (b2_2 : Int), y2_2.toInt = b2_2 → ∀ (M_2 : Mem), (0 ≤ b2_2 ∧ b2_2 ≤ (Mq.1 47 44).toInt + 1) → (MR (M_2.1 76) 0 ((Mq.1 47 44).toInt).toNat (mv5 w A (b2_2).toNat ((Mq.1 47 44).toInt).toNat)) → (Iv TM M_2) → (Fr W_X7_takesSlot_R Mq M_2) → ((Mq.1 47 44).toInt + 1 - b2_2).toNat < n → G Γ M_2 2 [(2, .int y2_2), (0, .ref (ad 47)), (1, .int x1)] [] := by
    intro n
    induction n with
    | zero => intro y2_2 b2_2 e2_2 M_2 i1 i2 I_2 fr_2 hm; exact absurd hm (Nat.not_lt_zero _)
    | succ n ih2 =>
      intro y2_2 b2_2 e2_2 M_2 i1 i2 I_2 fr_2 hm2
      have trq1 : (M_2.1 47 44).toInt = (Mq.1 47 44).toInt := congrArg Int32.toInt (fr_2.at 47 44 rfl)
      have q44 : (M_2.1 47 44).toInt = (Mq.1 47 44).toInt := congrArg Int32.toInt (fr_2.at 47 44 rfl)
      refine g_iload_n X 0 rfl dX7_takesSlot_2 ?_
      refine g_aload_n X 1 rfl dX7_takesSlot_3 ?_
      refine g_geti X f_X7_282 dX7_takesSlot_4 (x := M_2.1 47 44) rfl ?_
      have bq2 := ig_47_44 I_2
      refine g_icmp_gt X e2_2 rfl (tgt := 79) dX7_takesSlot_7 (by decide) (fun cq3 => ?_) (fun cq3 => ?_)
      · exact g_vret X dX7_takesSlot_79 ⟨rfl, trivial, (mv5_end i2 (by omega)), I_2, fr_2⟩
      · refine g_aload_n X 1 rfl dX7_takesSlot_10 ?_
        refine g_geti X f_X7_282 dX7_takesSlot_11 (x := M_2.1 47 44) rfl ?_
        have bq4 := ig_47_44 I_2
        refine g_istore_n X (i := 3) [(3, .int (M_2.1 47 44)), (2, .int y2_2), (0, .ref (ad 47)), (1, .int x1)] dX7_takesSlot_14 rfl (by decide) rfl ?_
        have lp15 : ∀ n : Nat, ∀ (y3_15 : Int32) (b3_15 : Int), y3_15.toInt = b3_15 → ∀ (M_15 : Mem), (0 ≤ b3_15 ∧ b3_15 ≤ (Mq.1 47 44).toInt) → (MR (M_15.1 76) 0 ((Mq.1 47 44).toInt).toNat (mv5 w A (b2_2).toNat (b3_15).toNat)) → (Iv TM M_15) → (Fr W_X7_takesSlot_R Mq M_15) → (b3_15).toNat < n → G Γ M_15 15 [(3, .int y3_15), (2, .int y2_2), (0, .ref (ad 47)), (1, .int x1)] [] := by
          intro n
          induction n with
          | zero => intro y3_15 b3_15 e3_15 M_15 i4 i5 I_15 fr_15 hm; exact absurd hm (Nat.not_lt_zero _)
          | succ n ih15 =>
            intro y3_15 b3_15 e3_15 M_15 i4 i5 I_15 fr_15 hm15
            have trq5 : (M_15.1 47 44).toInt = (Mq.1 47 44).toInt := congrArg Int32.toInt (fr_15.at 47 44 rfl)
            have q44 : (M_15.1 47 44).toInt = (Mq.1 47 44).toInt := congrArg Int32.toInt (fr_15.at 47 44 rfl)
            refine g_iload_n X 0 rfl dX7_takesSlot_15 ?_
            refine g_if_le X e3_15 (tgt := 63) dX7_takesSlot_16 (by decide) (fun cq6 => ?_) (fun cq6 => ?_)
            · refine g_aload_n X 2 rfl dX7_takesSlot_63 ?_
              refine g_getr X f_X7_98 dX7_takesSlot_64 ?_
              refine g_bipush X 25 dX7_takesSlot_67 (by decide) ?_
              refine g_iload_n X 1 rfl dX7_takesSlot_69 ?_
              refine g_imul X dX7_takesSlot_70 (fun zq7 eq8 => ?_)
              have tq9 : zq7.toInt = 25 * b2_2 := mul_nw eq8 (show (25 : Int32).toInt = 25 by decide) e2_2 (by omega)
              refine g_iconst X 0 dX7_takesSlot_71 (by decide) ?_
              refine g_iast X la_76 tq9 dX7_takesSlot_72 (by omega) ?_
              have ltq10 : (0 : Int32).toInt = 0 := by decide
              have Iq11 : Iv TM (ui M_15 76 ((25 * b2_2).toNat) 0) := I_15.otherA rfl
              have frq12 : Fr W_X7_takesSlot_R Mq (ui M_15 76 ((25 * b2_2).toNat) 0) := fr_15.ui rfl
              refine g_iinc X 1 (fun v => [(2, .int v), (3, .int y3_15), (0, .ref (ad 47)), (1, .int x1)]) dX7_takesSlot_73 rfl (by decide) (fun _ => rfl) (fun zq13 eq14 => ?_)
              have tq15 : zq13.toInt = b2_2 + 1 := add_nw eq14 e2_2 (show (Int32.ofInt 1).toInt = 1 by decide) (by omega)
              refine g_goto X (tgt := 2) dX7_takesSlot_76 (by decide) ?_
              refine g_sub [0, 2, 3] rfl ?_
              exact ih2 zq13 _ tq15 (ui M_15 76 ((25 * b2_2).toNat) 0) (by omega) (by rw [show (b2_2 + 1).toNat = b2_2.toNat + 1 by omega]; exact mv5_row hn (by rw [show b3_15.toNat = 0 by omega] at i5; exact i5) (by omega) (by omega) (by decide)) Iq11 frq12 (by omega)
            · have hwj := hw ((b3_15).toNat - 1) (by omega)
              have ex1 : (25 * b2_2 + b3_15 - 1).toNat = 0 + (25 * (b2_2).toNat + ((b3_15).toNat - 1)) := by omega
              have hrg : 0 ≤ (M_15.1 76 (25 * b2_2 + b3_15 - 1).toNat).toInt ∧ (M_15.1 76 (25 * b2_2 + b3_15 - 1).toNat).toInt ≤ 1000000 := by rw [ex1]; exact MR_rng i5 ⟨by omega, by omega⟩
              refine g_aload_n X 2 rfl dX7_takesSlot_19 ?_
              refine g_getr X f_X7_98 dX7_takesSlot_20 ?_
              refine g_bipush X 25 dX7_takesSlot_23 (by decide) ?_
              refine g_iload_n X 1 rfl dX7_takesSlot_25 ?_
              refine g_imul X dX7_takesSlot_26 (fun zq16 eq17 => ?_)
              have tq18 : zq16.toInt = 25 * b2_2 := mul_nw eq17 (show (25 : Int32).toInt = 25 by decide) e2_2 (by omega)
              refine g_iload_n X 0 rfl dX7_takesSlot_27 ?_
              refine g_iadd X dX7_takesSlot_28 (fun zq19 eq20 => ?_)
              have tq21 : zq19.toInt = (25 * b2_2) + b3_15 := add_nw eq20 tq18 e3_15 (by omega)
              refine g_aload_n X 2 rfl dX7_takesSlot_29 ?_
              refine g_getr X f_X7_98 dX7_takesSlot_30 ?_
              refine g_bipush X 25 dX7_takesSlot_33 (by decide) ?_
              refine g_iload_n X 1 rfl dX7_takesSlot_35 ?_
              refine g_imul X dX7_takesSlot_36 (fun zq22 eq23 => ?_)
              have tq24 : zq22.toInt = 25 * b2_2 := mul_nw eq23 (show (25 : Int32).toInt = 25 by decide) e2_2 (by omega)
              refine g_iload_n X 0 rfl dX7_takesSlot_37 ?_
              refine g_iadd X dX7_takesSlot_38 (fun zq25 eq26 => ?_)
              have tq27 : zq25.toInt = (25 * b2_2) + b3_15 := add_nw eq26 tq24 e3_15 (by omega)
              refine g_iconst X 1 dX7_takesSlot_39 (by decide) ?_
              refine g_isub X dX7_takesSlot_40 (fun zq28 eq29 => ?_)
              have tq30 : zq28.toInt = ((25 * b2_2) + b3_15) - 1 := sub_nw eq29 tq27 (show (1 : Int32).toInt = 1 by decide) (by omega)
              refine g_iald X la_76 tq30 dX7_takesSlot_41 (by omega) (x := M_15.1 76 ((((25 * b2_2) + b3_15) - 1).toNat)) rfl ?_
              refine g_i2l X dX7_takesSlot_42 (fun zq31 eq32 => ?_)
              have tq33 : zq31.toInt = (M_15.1 76 ((((25 * b2_2) + b3_15) - 1).toNat)).toInt := i2l_nw eq32 rfl
              refine g_aload_n X 2 rfl dX7_takesSlot_43 ?_
              refine g_iload_n X 0 rfl dX7_takesSlot_44 ?_
              refine g_iconst X 1 dX7_takesSlot_45 (by decide) ?_
              refine g_isub X dX7_takesSlot_46 (fun zq34 eq35 => ?_)
              have tq36 : zq34.toInt = b3_15 - 1 := sub_nw eq35 e3_15 (show (1 : Int32).toInt = 1 by decide) (by omega)
              refine g_iload_n X 3 rfl dX7_takesSlot_47 ?_
              refine g_callV X m_X7_289 (c_X7_waysAt_R ad M_15 zq34 tq36 x1 t1 I_15 (by omega)) rfl (by decide) (Nat.le_of_ble_eq_true rfl) rfl dX7_takesSlot_48 ?_
              rintro _ _ ⟨rq37, aq38, rfl, tq39, hq40, rfl⟩
              have hwv := hq40
              rw [wtR_fr fr_15 (by decide), fr_15.at 78 _ rfl, show (b3_15 - 1).toNat = b3_15.toNat - 1 by omega, hwj.1] at hwv
              have hpb := prod_bd hrg (show 0 ≤ aq38 ∧ aq38 ≤ 1000000 by omega)
              show G Γ M_15 51 [(3, .int y3_15), (2, .int y2_2), (0, .ref (ad 47)), (1, .int x1)] [.int rq37, .long zq31, .int zq19, .ref (ad 76)]
              refine g_i2l X dX7_takesSlot_51 (fun zq41 eq42 => ?_)
              have tq43 : zq41.toInt = aq38 := i2l_nw eq42 tq39
              refine g_lmul X dX7_takesSlot_52 (fun zq44 eq45 => ?_)
              have kb := lmul_ex eq45 tq33 tq43 (by omega)
              refine g_callS X m_X7_285 (c_X7_least_R ad M_15 zq44 rfl) rfl (by decide) (Nat.le_of_ble_eq_true rfl) rfl dX7_takesSlot_53 ?_
              rintro _ _ ⟨rq46, aq47, rfl, tq48, hq49, rfl⟩
              have hle := hq49
              show G Γ M_15 56 [(3, .int y3_15), (2, .int y2_2), (0, .ref (ad 47)), (1, .int x1)] [.int rq46, .int zq19, .ref (ad 76)]
              refine g_iast X la_76 tq21 dX7_takesSlot_56 (by omega) ?_
              have Iq50 : Iv TM (ui M_15 76 (((25 * b2_2) + b3_15).toNat) rq46) := I_15.otherA rfl
              have frq51 : Fr W_X7_takesSlot_R Mq (ui M_15 76 (((25 * b2_2) + b3_15).toNat) rq46) := fr_15.ui rfl
              refine g_iinc X 0 (fun v => [(3, .int v), (2, .int y2_2), (0, .ref (ad 47)), (1, .int x1)]) dX7_takesSlot_57 rfl (by decide) (fun _ => rfl) (fun zq52 eq53 => ?_)
              have tq54 : zq52.toInt = b3_15 + (-1) := add_nw eq53 e3_15 (show (Int32.ofInt (-1)).toInt = (-1) by decide) (by omega)
              refine g_goto X (tgt := 15) dX7_takesSlot_60 (by decide) ?_
              refine g_sub [0, 1, 2, 3] rfl ?_
              exact ih15 zq52 _ tq54 (ui M_15 76 (((25 * b2_2) + b3_15).toNat) rq46) (by omega) (by rw [show (b3_15 + -1).toNat = b3_15.toNat - 1 by omega]; exact mv5_step hn hU i5 (by omega) (by omega) (by rw [← hwv, show 25 * b2_2.toNat + (b3_15.toNat - 1) = (25 * b2_2 + b3_15 - 1).toNat by omega]) (by split <;> omega)) Iq50 frq51 (by omega)
        refine g_sub [0, 1, 2, 3] rfl ?_
        exact lp15 _ (M_2.1 47 44) _ rfl M_2 (by omega) (by rw [q44]; exact i2) I_2 fr_2 (Nat.lt_succ_self _)
  refine g_sub [0, 1, 2] rfl ?_
  exact lp2 _ 0 _ (show (0 : Int32).toInt = 0 by decide) Mq (by omega) (mv5_0 hA) Iq0 frq0 (Nat.lt_succ_self _)
abbrev W_X7_goesBehind_R : List (Nat × Nat) := [(74, 99), (76, 99)]
set_option maxHeartbeats 4000000 in
set_option maxRecDepth 4000 in
theorem c_X7_goesBehind_R (ad : Nat → Nat) (Mq : Mem) (x1 : Int32) {a1 : Int} (t1 : x1.toInt = a1) (Iq0 : Iv TM Mq) {B C : Mat} (h1 : 0 ≤ a1 ∧ a1 ≤ 30) (hB : MR (Mq.1 72) (625 * a1.toNat) ((Mq.1 47 44).toInt).toNat B) (hC : MR (Mq.1 73) (625 * a1.toNat) ((Mq.1 47 44).toInt).toNat C) : Ctr ad yX7_goesBehind cX7_goesBehind 3 none 2 [.ref (ad 47), .int x1] Mq (fun v M' => v = none ∧ (True) ∧ (MR (M'.1 76) 0 ((Mq.1 47 44).toInt).toNat (mM B C)) ∧ Iv TM M' ∧ Fr W_X7_goesBehind_R Mq M') := by
  refine ctr_of (L := [(0, .ref (ad 47)), (1, .int x1)]) (by decide) (Nat.le_of_ble_eq_true rfl) rfl ?_
  intro Γ X
  have X : gX Γ cX7_goesBehind RX7 3 none 2 ad _ := X
  have frq0 : Fr W_X7_goesBehind_R Mq Mq := Fr.rf
  have g44 := ig_47_44 Iq0
  have hn : ((Mq.1 47 44).toInt).toNat < 25 := by omega
  refine g_iconst X 0 dX7_goesBehind_0 (by decide) ?_
  refine g_istore_n X (i := 2) [(2, .int 0), (0, .ref (ad 47)), (1, .int x1)] dX7_goesBehind_1 rfl (by decide) rfl ?_
  have lp2 : ∀ n : Nat, ∀ (y2_2 : Int32) (b2_2 : Int), y2_2.toInt = b2_2 → ∀ (M_2 : Mem), (0 ≤ b2_2 ∧ b2_2 ≤ 625) → (∀ d : Nat, (d : Int) < b2_2 → M_2.1 76 d = Mq.1 72 (625 * a1.toNat + d)) → (Iv TM M_2) → (Fr W_X7_goesBehind_R Mq M_2) → (625 - b2_2).toNat < n → G Γ M_2 2 [(2, .int y2_2), (0, .ref (ad 47)), (1, .int x1)] [] := by
    intro n
    induction n with
    | zero => intro y2_2 b2_2 e2_2 M_2 i1 i2 I_2 fr_2 hm; exact absurd hm (Nat.not_lt_zero _)
    | succ n ih2 =>
      intro y2_2 b2_2 e2_2 M_2 i1 i2 I_2 fr_2 hm2
      have trq1 : (M_2.1 47 44).toInt = (Mq.1 47 44).toInt := congrArg Int32.toInt (fr_2.at 47 44 rfl)
      have q44 : (M_2.1 47 44).toInt = (Mq.1 47 44).toInt := congrArg Int32.toInt (fr_2.at 47 44 rfl)
      refine g_iload_n X 0 rfl dX7_goesBehind_2 ?_
      refine g_sipush X 625 dX7_goesBehind_3 (by decide) ?_
      refine g_icmp_ge X e2_2 (show (625 : Int32).toInt = 625 by decide) (tgt := 33) dX7_goesBehind_6 (by decide) (fun cq2 => ?_) (fun cq2 => ?_)
      · refine g_aload_n X 1 rfl dX7_goesBehind_33 ?_
        refine g_aload_n X 1 rfl dX7_goesBehind_34 ?_
        refine g_getr X f_X7_89 dX7_goesBehind_35 ?_
        refine g_sipush X 625 dX7_goesBehind_38 (by decide) ?_
        refine g_iload_n X 2 rfl dX7_goesBehind_41 ?_
        refine g_imul X dX7_goesBehind_42 (fun zq3 eq4 => ?_)
        have tq5 : zq3.toInt = 625 * a1 := mul_nw eq4 (show (625 : Int32).toInt = 625 by decide) t1 (by omega)
        refine g_callV X m_X7_295 (c_X7_times_73_R ad M_2 zq3 tq5 I_2 (by omega) (by rw [q44]; exact MR_row hn hB (fun c hc => by rw [Nat.zero_add]; exact i2 c (by omega))) (by rw [q44, show (625 * a1).toNat = 625 * a1.toNat by omega, row_fr fr_2 (c := 73) (by decide)]; exact hC)) rfl (by decide) (Nat.le_of_ble_eq_true rfl) rfl dX7_goesBehind_43 ?_
        rintro _ Mq11 ⟨rfl, hq9, hq10, Iq12, frq13⟩
        have frq14 : Fr W_X7_goesBehind_R Mq Mq11 := fr_2.trans frq13 rfl
        have trq15 : (Mq11.1 47 44).toInt = (M_2.1 47 44).toInt := congrArg Int32.toInt (frq13.at 47 44 rfl)
        have hq1 := hq10
        rw [q44] at hq1
        show G Γ Mq11 46 [(2, .int y2_2), (0, .ref (ad 47)), (1, .int x1)] []
        exact g_vret X dX7_goesBehind_46 ⟨rfl, trivial, (hq1), Iq12, frq14⟩
      · refine g_aload_n X 1 rfl dX7_goesBehind_9 ?_
        refine g_getr X f_X7_98 dX7_goesBehind_10 ?_
        refine g_iload_n X 0 rfl dX7_goesBehind_13 ?_
        refine g_aload_n X 1 rfl dX7_goesBehind_14 ?_
        refine g_getr X f_X7_86 dX7_goesBehind_15 ?_
        refine g_sipush X 625 dX7_goesBehind_18 (by decide) ?_
        refine g_iload_n X 2 rfl dX7_goesBehind_21 ?_
        refine g_imul X dX7_goesBehind_22 (fun zq16 eq17 => ?_)
        have tq18 : zq16.toInt = 625 * a1 := mul_nw eq17 (show (625 : Int32).toInt = 625 by decide) t1 (by omega)
        refine g_iload_n X 0 rfl dX7_goesBehind_23 ?_
        refine g_iadd X dX7_goesBehind_24 (fun zq19 eq20 => ?_)
        have tq21 : zq19.toInt = (625 * a1) + b2_2 := add_nw eq20 tq18 e2_2 (by omega)
        refine g_iald X la_72 tq21 dX7_goesBehind_25 (by omega) (x := M_2.1 72 (((625 * a1) + b2_2).toNat)) rfl ?_
        refine g_iast X la_76 e2_2 dX7_goesBehind_26 (by omega) ?_
        have Iq22 : Iv TM (ui M_2 76 b2_2.toNat (M_2.1 72 (((625 * a1) + b2_2).toNat))) := I_2.otherA rfl
        have frq23 : Fr W_X7_goesBehind_R Mq (ui M_2 76 b2_2.toNat (M_2.1 72 (((625 * a1) + b2_2).toNat))) := fr_2.ui rfl
        refine g_iinc X 0 (fun v => [(2, .int v), (0, .ref (ad 47)), (1, .int x1)]) dX7_goesBehind_27 rfl (by decide) (fun _ => rfl) (fun zq24 eq25 => ?_)
        have tq26 : zq24.toInt = b2_2 + 1 := add_nw eq25 e2_2 (show (Int32.ofInt 1).toInt = 1 by decide) (by omega)
        refine g_goto X (tgt := 2) dX7_goesBehind_30 (by decide) ?_
        refine g_sub [0, 1, 2] rfl ?_
        exact ih2 zq24 _ tq26 (ui M_2 76 b2_2.toNat (M_2.1 72 (((625 * a1) + b2_2).toNat))) (by omega) (fun d hd => by by_cases q : d = b2_2.toNat; (rw [q, ui_eq, fr_2.at 72 _ rfl, show (625 * a1 + b2_2).toNat = 625 * a1.toNat + b2_2.toNat by omega]); (rw [ui_nj (by omega)]; exact i2 d (by omega))) Iq22 frq23 (by omega)
  refine g_sub [0, 1, 2] rfl ?_
  exact lp2 _ 0 _ (show (0 : Int32).toInt = 0 by decide) Mq (by omega) (fun d hd => absurd hd (by omega)) Iq0 frq0 (Nat.lt_succ_self _)
abbrev W_X7_closes_R : List (Nat × Nat) := [(73, 99), (74, 99), (75, 99), (76, 99)]
set_option maxHeartbeats 4000000 in
set_option maxRecDepth 4000 in
theorem c_X7_closes_R (ad : Nat → Nat) (Mq : Mem) (x1 : Int32) {a1 : Int} (t1 : x1.toInt = a1) (x2 : Int32) {a2 : Int} (t2 : x2.toInt = a2) (Iq0 : Iv TM Mq) {A B : Mat} (h1 : 0 ≤ a1 ∧ a1 ≤ 3) (h2 : 0 ≤ a2 ∧ a2 ≤ 30) (hA : MR (Mq.1 76) 0 ((Mq.1 47 44).toInt).toNat A) (hB : MR (Mq.1 72) (625 * a2.toNat) ((Mq.1 47 44).toInt).toNat B) : Ctr ad yX7_closes cX7_closes 5 none 3 [.ref (ad 47), .int x1, .int x2] Mq (fun v M' => v = none ∧ (True) ∧ (MR (M'.1 76) 0 ((Mq.1 47 44).toInt).toNat (mM B (mQ A a1.toNat)) ∧ OUP (Mq.1 73) (M'.1 73) (625 * a2.toNat)) ∧ Iv TM M' ∧ Fr W_X7_closes_R Mq M') := by
  refine ctr_of (L := [(0, .ref (ad 47)), (1, .int x1), (2, .int x2)]) (by decide) (Nat.le_of_ble_eq_true rfl) rfl ?_
  intro Γ X
  have X : gX Γ cX7_closes RX7 5 none 3 ad _ := X
  have frq0 : Fr W_X7_closes_R Mq Mq := Fr.rf
  have g44 := ig_47_44 Iq0
  have hn : ((Mq.1 47 44).toInt).toNat < 25 := by omega
  refine g_iconst X 0 dX7_closes_0 (by decide) ?_
  refine g_istore_n X (i := 3) [(3, .int 0), (0, .ref (ad 47)), (1, .int x1), (2, .int x2)] dX7_closes_1 rfl (by decide) rfl ?_
  have lp2 : ∀ n : Nat, ∀ (y3_2 : Int32) (b3_2 : Int), y3_2.toInt = b3_2 → ∀ (M_2 : Mem), (0 ≤ b3_2 ∧ b3_2 ≤ 625) → (∀ d : Nat, (d : Int) < b3_2 → M_2.1 75 d = Mq.1 76 d) → (∀ d : Nat, (d : Int) < b3_2 → (M_2.1 73 (625 * a2.toNat + d)).toInt = if d % 26 = 0 then 1 else 0) → (OUP (Mq.1 73) (M_2.1 73) (625 * a2.toNat)) → (M_2.1 76 = Mq.1 76) → (Iv TM M_2) → (Fr W_X7_closes_R Mq M_2) → (625 - b3_2).toNat < n → G Γ M_2 2 [(3, .int y3_2), (0, .ref (ad 47)), (1, .int x1), (2, .int x2)] [] := by
    intro n
    induction n with
    | zero => intro y3_2 b3_2 e3_2 M_2 j1 j2 j3 j4 j5 I_2 fr_2 hm; exact absurd hm (Nat.not_lt_zero _)
    | succ n ih2 =>
      intro y3_2 b3_2 e3_2 M_2 j1 j2 j3 j4 j5 I_2 fr_2 hm2
      have trq1 : (M_2.1 47 44).toInt = (Mq.1 47 44).toInt := congrArg Int32.toInt (fr_2.at 47 44 rfl)
      have q44 : (M_2.1 47 44).toInt = (Mq.1 47 44).toInt := congrArg Int32.toInt (fr_2.at 47 44 rfl)
      refine g_iload_n X 0 rfl dX7_closes_2 ?_
      refine g_sipush X 625 dX7_closes_3 (by decide) ?_
      refine g_icmp_ge X e3_2 (show (625 : Int32).toInt = 625 by decide) (tgt := 51) dX7_closes_6 (by decide) (fun cq2 => ?_) (fun cq2 => ?_)
      · refine g_aload_n X 1 rfl dX7_closes_51 ?_
        refine g_callV X m_X7_292 (c_X7_begins_R ad M_2 I_2) rfl (by decide) (Nat.le_of_ble_eq_true rfl) rfl dX7_closes_52 ?_
        rintro _ Mq8 ⟨rfl, hq6, hq7, Iq9, frq10⟩
        have frq11 : Fr W_X7_closes_R Mq Mq8 := fr_2.trans frq10 rfl
        have trq12 : (Mq8.1 47 44).toInt = (M_2.1 47 44).toInt := congrArg Int32.toInt (frq10.at 47 44 rfl)
        have hq1 := hq7
        rw [q44] at hq1
        have hq2 : MR (Mq8.1 75) 0 ((Mq.1 47 44).toInt).toNat A := by rw [row_fr frq10 (by decide)]; exact MR_row hn hA (fun c hc => by rw [Nat.zero_add]; exact j2 c (by omega))
        have hq3 : MR (Mq8.1 73) (625 * a2.toNat) ((Mq.1 47 44).toInt).toNat mO := by rw [row_fr frq10 (c := 73) (by decide)]; exact BG_end hn j3 (by omega)
        have hq4 : OUP (Mq.1 73) (Mq8.1 73) (625 * a2.toNat) := by rw [row_fr frq10 (c := 73) (by decide)]; exact j4
        show G Γ Mq8 55 [(3, .int y3_2), (0, .ref (ad 47)), (1, .int x1), (2, .int x2)] []
        refine g_iconst X 0 dX7_closes_55 (by decide) ?_
        refine g_istore_n X (i := 3) [(3, .int 0), (0, .ref (ad 47)), (1, .int x1), (2, .int x2)] dX7_closes_56 rfl (by decide) rfl ?_
        have lp57 : ∀ n : Nat, ∀ (y3_57 : Int32) (b3_57 : Int), y3_57.toInt = b3_57 → ∀ (M_57 : Mem), (0 ≤ b3_57 ∧ b3_57 ≤ a1) → (MR (M_57.1 75) 0 ((Mq.1 47 44).toInt).toNat A) → (MR (M_57.1 76) 0 ((Mq.1 47 44).toInt).toNat (mP A (b3_57).toNat)) → (MR (M_57.1 73) (625 * a2.toNat) ((Mq.1 47 44).toInt).toNat (mQ A (b3_57).toNat)) → (OUP (Mq.1 73) (M_57.1 73) (625 * a2.toNat)) → (Iv TM M_57) → (Fr W_X7_closes_R Mq M_57) → (a1 - b3_57).toNat < n → G Γ M_57 57 [(3, .int y3_57), (0, .ref (ad 47)), (1, .int x1), (2, .int x2)] [] := by
          intro n
          induction n with
          | zero => intro y3_57 b3_57 e3_57 M_57 k1 k2 k3 k4 k5 I_57 fr_57 hm; exact absurd hm (Nat.not_lt_zero _)
          | succ n ih57 =>
            intro y3_57 b3_57 e3_57 M_57 k1 k2 k3 k4 k5 I_57 fr_57 hm57
            have trq13 : (M_57.1 47 44).toInt = (Mq.1 47 44).toInt := congrArg Int32.toInt (fr_57.at 47 44 rfl)
            have r44 : (M_57.1 47 44).toInt = (Mq.1 47 44).toInt := congrArg Int32.toInt (fr_57.at 47 44 rfl)
            refine g_iload_n X 0 rfl dX7_closes_57 ?_
            refine g_iload_n X 2 rfl dX7_closes_58 ?_
            refine g_icmp_ge X e3_57 t1 (tgt := 133) dX7_closes_59 (by decide) (fun cq14 => ?_) (fun cq14 => ?_)
            · refine g_aload_n X 1 rfl dX7_closes_133 ?_
              refine g_iload_n X 3 rfl dX7_closes_134 ?_
              refine g_callV X m_X7_299 (c_X7_goesBehind_R ad M_57 x2 t2 I_57 (by omega) (by rw [r44, row_fr fr_57 (c := 72) (by decide)]; exact hB) (by rw [r44]; exact k4)) rfl (by decide) (Nat.le_of_ble_eq_true rfl) rfl dX7_closes_135 ?_
              rintro _ Mq20 ⟨rfl, hq18, hq19, Iq21, frq22⟩
              have frq23 : Fr W_X7_closes_R Mq Mq20 := fr_57.trans frq22 rfl
              have trq24 : (Mq20.1 47 44).toInt = (M_57.1 47 44).toInt := congrArg Int32.toInt (frq22.at 47 44 rfl)
              have hq5 := hq19
              rw [r44, show b3_57.toNat = a1.toNat by omega] at hq5
              have hq6 : OUP (Mq.1 73) (Mq20.1 73) (625 * a2.toNat) := by rw [row_fr frq22 (c := 73) (by decide)]; exact k5
              show G Γ Mq20 138 [(3, .int y3_57), (0, .ref (ad 47)), (1, .int x1), (2, .int x2)] []
              exact g_vret X dX7_closes_138 ⟨rfl, trivial, (⟨hq5, hq6⟩), Iq21, frq23⟩
            · refine g_aload_n X 1 rfl dX7_closes_62 ?_
              refine g_aload_n X 1 rfl dX7_closes_63 ?_
              refine g_getr X f_X7_95 dX7_closes_64 ?_
              refine g_iconst X 0 dX7_closes_67 (by decide) ?_
              refine g_callV X m_X7_295 (c_X7_times_75_R ad M_57 0 (show (0 : Int32).toInt = 0 by decide) I_57 (by omega) (by rw [r44]; exact k3) (by rw [r44]; exact k2)) rfl (by decide) (Nat.le_of_ble_eq_true rfl) rfl dX7_closes_68 ?_
              rintro _ Mq30 ⟨rfl, hq28, hq29, Iq31, frq32⟩
              have frq33 : Fr W_X7_closes_R Mq Mq30 := fr_57.trans frq32 rfl
              have trq34 : (Mq30.1 47 44).toInt = (M_57.1 47 44).toInt := congrArg Int32.toInt (frq32.at 47 44 rfl)
              have hm1 := hq29
              rw [r44] at hm1
              have s73 : Mq30.1 73 = M_57.1 73 := row_fr frq32 (by decide)
              have s75 : MR (Mq30.1 75) 0 ((Mq.1 47 44).toInt).toNat A := by rw [row_fr frq32 (c := 75) (by decide)]; exact k2
              obtain ⟨Mt, hMt⟩ : ∃ x : Mem, x = Mq30 := ⟨_, rfl⟩
              show G Γ Mq30 71 [(3, .int y3_57), (0, .ref (ad 47)), (1, .int x1), (2, .int x2)] []
              refine g_iconst X 0 dX7_closes_71 (by decide) ?_
              refine g_istore X [(4, .int 0), (3, .int y3_57), (0, .ref (ad 47)), (1, .int x1), (2, .int x2)] dX7_closes_72 (by decide) rfl ?_
              have lp74 : ∀ n : Nat, ∀ (y4_74 : Int32) (b4_74 : Int), y4_74.toInt = b4_74 → ∀ (M_74 : Mem), (0 ≤ b4_74 ∧ b4_74 ≤ 625) → (PAI (M_57.1 73) (Mt.1 76) (M_74.1 73) (625 * a2.toNat) b4_74) → (M_74.1 76 = Mt.1 76) → (MR (M_74.1 75) 0 ((Mq.1 47 44).toInt).toNat A) → (Iv TM M_74) → (Fr W_X7_closes_R Mq M_74) → (625 - b4_74).toNat < n → G Γ M_74 74 [(4, .int y4_74), (3, .int y3_57), (0, .ref (ad 47)), (1, .int x1), (2, .int x2)] [] := by
                intro n
                induction n with
                | zero => intro y4_74 b4_74 e4_74 M_74 n1 n2 n3 n4 I_74 fr_74 hm; exact absurd hm (Nat.not_lt_zero _)
                | succ n ih74 =>
                  intro y4_74 b4_74 e4_74 M_74 n1 n2 n3 n4 I_74 fr_74 hm74
                  have trq35 : (M_74.1 47 44).toInt = (Mq.1 47 44).toInt := congrArg Int32.toInt (fr_74.at 47 44 rfl)
                  refine g_iload X 0 rfl dX7_closes_74 ?_
                  refine g_sipush X 625 dX7_closes_76 (by decide) ?_
                  refine g_icmp_ge X e4_74 (show (625 : Int32).toInt = 625 by decide) (tgt := 127) dX7_closes_79 (by decide) (fun cq36 => ?_) (fun cq36 => ?_)
                  · refine g_iinc X 1 (fun v => [(3, .int v), (4, .int y4_74), (0, .ref (ad 47)), (1, .int x1), (2, .int x2)]) dX7_closes_127 rfl (by decide) (fun _ => rfl) (fun zq37 eq38 => ?_)
                    have tq39 : zq37.toInt = b3_57 + 1 := add_nw eq38 e3_57 (show (Int32.ofInt 1).toInt = 1 by decide) (by omega)
                    refine g_goto X (tgt := 57) dX7_closes_130 (by decide) ?_
                    refine g_sub [0, 2, 3, 4] rfl ?_
                    exact ih57 zq37 _ tq39 M_74 (by omega) n4 (by rw [show (b3_57 + 1).toNat = b3_57.toNat + 1 by omega, n3]; exact hMt ▸ hm1) (by rw [show (b3_57 + 1).toNat = b3_57.toNat + 1 by omega]; exact PAI_end hn n2 (by omega) k4 (hMt ▸ hm1)) (OUP_tr k5 (PAI_out n2 (by omega))) I_74 fr_74 (by omega)
                  · refine g_aload_n X 2 rfl dX7_closes_82 ?_
                    refine g_getr X f_X7_89 dX7_closes_83 ?_
                    refine g_sipush X 625 dX7_closes_86 (by decide) ?_
                    refine g_iload_n X 4 rfl dX7_closes_89 ?_
                    refine g_imul X dX7_closes_90 (fun zq40 eq41 => ?_)
                    have tq42 : zq40.toInt = 625 * a2 := mul_nw eq41 (show (625 : Int32).toInt = 625 by decide) t2 (by omega)
                    refine g_iload X 0 rfl dX7_closes_91 ?_
                    refine g_iadd X dX7_closes_93 (fun zq43 eq44 => ?_)
                    have tq45 : zq43.toInt = (625 * a2) + b4_74 := add_nw eq44 tq42 e4_74 (by omega)
                    refine g_aload_n X 2 rfl dX7_closes_94 ?_
                    refine g_getr X f_X7_89 dX7_closes_95 ?_
                    refine g_sipush X 625 dX7_closes_98 (by decide) ?_
                    refine g_iload_n X 4 rfl dX7_closes_101 ?_
                    refine g_imul X dX7_closes_102 (fun zq46 eq47 => ?_)
                    have tq48 : zq46.toInt = 625 * a2 := mul_nw eq47 (show (625 : Int32).toInt = 625 by decide) t2 (by omega)
                    refine g_iload X 0 rfl dX7_closes_103 ?_
                    refine g_iadd X dX7_closes_105 (fun zq49 eq50 => ?_)
                    have tq51 : zq49.toInt = (625 * a2) + b4_74 := add_nw eq50 tq48 e4_74 (by omega)
                    refine g_iald X la_73 tq51 dX7_closes_106 (by omega) (x := M_74.1 73 (((625 * a2) + b4_74).toNat)) rfl ?_
                    refine g_i2l X dX7_closes_107 (fun zq52 eq53 => ?_)
                    have tq54 : zq52.toInt = (M_74.1 73 (((625 * a2) + b4_74).toNat)).toInt := i2l_nw eq53 rfl
                    refine g_aload_n X 2 rfl dX7_closes_108 ?_
                    refine g_getr X f_X7_98 dX7_closes_109 ?_
                    refine g_iload X 0 rfl dX7_closes_112 ?_
                    refine g_iald X la_76 e4_74 dX7_closes_114 (by omega) (x := M_74.1 76 b4_74.toNat) rfl ?_
                    refine g_i2l X dX7_closes_115 (fun zq55 eq56 => ?_)
                    have tq57 : zq55.toInt = (M_74.1 76 b4_74.toNat).toInt := i2l_nw eq56 rfl
                    refine g_ladd X dX7_closes_116 (fun zq58 eq59 => ?_)
                    have kb : zq58.toInt = ((M_74.1 73 (((625 * a2) + b4_74).toNat)).toInt) + ((M_74.1 76 b4_74.toNat).toInt) := by rw [eq59, Int64.toInt_add, tq54, tq57]; have u1 := i_rng ((M_74).1 73 (625 * a2 + b4_74).toNat); have u2 := i_rng ((M_74).1 76 (b4_74).toNat); exact Int.bmod_eq_of_le (by omega) (by omega)
                    refine g_callS X m_X7_285 (c_X7_least_R ad M_74 zq58 rfl) rfl (by decide) (Nat.le_of_ble_eq_true rfl) rfl dX7_closes_117 ?_
                    rintro _ _ ⟨rq60, aq61, rfl, tq62, hq63, rfl⟩
                    have hle := hq63
                    show G Γ M_74 120 [(4, .int y4_74), (3, .int y3_57), (0, .ref (ad 47)), (1, .int x1), (2, .int x2)] [.int rq60, .int zq43, .ref (ad 73)]
                    refine g_iast X la_73 tq45 dX7_closes_120 (by omega) ?_
                    have Iq64 : Iv TM (ui M_74 73 (((625 * a2) + b4_74).toNat) rq60) := I_74.otherA rfl
                    have frq65 : Fr W_X7_closes_R Mq (ui M_74 73 (((625 * a2) + b4_74).toNat) rq60) := fr_74.ui rfl
                    refine g_iinc X 0 (fun v => [(4, .int v), (3, .int y3_57), (0, .ref (ad 47)), (1, .int x1), (2, .int x2)]) dX7_closes_121 rfl (by decide) (fun _ => rfl) (fun zq66 eq67 => ?_)
                    have tq68 : zq66.toInt = b4_74 + 1 := add_nw eq67 e4_74 (show (Int32.ofInt 1).toInt = 1 by decide) (by omega)
                    refine g_goto X (tgt := 74) dX7_closes_124 (by decide) ?_
                    refine g_sub [0, 1, 2, 3, 4] rfl ?_
                    exact ih74 zq66 _ tq68 (ui M_74 73 (((625 * a2) + b4_74).toNat) rq60) (by omega) (PAI_step n2 n1.1 (by omega) rfl (by rw [n3]) kb (fun z => by unfold capI; split <;> omega)) (by rw [ui_cell (k := 73) (a := 76) (by decide)]; exact n3) (by rw [ui_cell (k := 73) (a := 75) (by decide)]; exact n4) Iq64 frq65 (by omega)
              refine g_sub [0, 1, 2, 3, 4] rfl ?_
              exact lp74 _ 0 _ (show (0 : Int32).toInt = 0 by decide) Mq30 (by omega) (by rw [hMt, s73]; exact PAI_0) (by rw [hMt]) s75 Iq31 frq33 (Nat.lt_succ_self _)
        refine g_sub [0, 1, 2, 3] rfl ?_
        exact lp57 _ 0 _ (show (0 : Int32).toInt = 0 by decide) Mq8 (by omega) hq2 hq1 hq3 hq4 Iq9 frq11 (Nat.lt_succ_self _)
      · refine g_aload_n X 1 rfl dX7_closes_9 ?_
        refine g_getr X f_X7_95 dX7_closes_10 ?_
        refine g_iload_n X 0 rfl dX7_closes_13 ?_
        refine g_aload_n X 1 rfl dX7_closes_14 ?_
        refine g_getr X f_X7_98 dX7_closes_15 ?_
        refine g_iload_n X 0 rfl dX7_closes_18 ?_
        refine g_iald X la_76 e3_2 dX7_closes_19 (by omega) (x := M_2.1 76 b3_2.toNat) rfl ?_
        refine g_iast X la_75 e3_2 dX7_closes_20 (by omega) ?_
        have Iq69 : Iv TM (ui M_2 75 b3_2.toNat (M_2.1 76 b3_2.toNat)) := I_2.otherA rfl
        have frq70 : Fr W_X7_closes_R Mq (ui M_2 75 b3_2.toNat (M_2.1 76 b3_2.toNat)) := fr_2.ui rfl
        refine g_aload_n X 1 rfl dX7_closes_21 ?_
        refine g_getr X f_X7_89 dX7_closes_22 ?_
        refine g_sipush X 625 dX7_closes_25 (by decide) ?_
        refine g_iload_n X 3 rfl dX7_closes_28 ?_
        refine g_imul X dX7_closes_29 (fun zq71 eq72 => ?_)
        have tq73 : zq71.toInt = 625 * a2 := mul_nw eq72 (show (625 : Int32).toInt = 625 by decide) t2 (by omega)
        refine g_iload_n X 0 rfl dX7_closes_30 ?_
        refine g_iadd X dX7_closes_31 (fun zq74 eq75 => ?_)
        have tq76 : zq74.toInt = (625 * a2) + b3_2 := add_nw eq75 tq73 e3_2 (by omega)
        refine g_iload_n X 0 rfl dX7_closes_32 ?_
        refine g_bipush X 26 dX7_closes_33 (by decide) ?_
        refine g_irem X dX7_closes_35 (ne0 (show (26 : Int32).toInt = 26 by decide) (by omega)) (fun zq77 eq78 => ?_)
        have tq79 : zq77.toInt = b3_2 % 26 := rem_nw eq78 e3_2 (show (26 : Int32).toInt = 26 by decide) (by omega)
        refine g_if_ne X tq79 (tgt := 43) dX7_closes_36 (by decide) (fun cq80 => ?_) (fun cq80 => ?_)
        · refine g_iconst X 0 dX7_closes_43 (by decide) ?_
          refine g_iast X la_73 tq76 dX7_closes_44 (by omega) ?_
          have ltq81 : (0 : Int32).toInt = 0 := by decide
          have Iq82 : Iv TM (ui (ui M_2 75 b3_2.toNat (M_2.1 76 b3_2.toNat)) 73 (((625 * a2) + b3_2).toNat) 0) := Iq69.otherA rfl
          have frq83 : Fr W_X7_closes_R Mq (ui (ui M_2 75 b3_2.toNat (M_2.1 76 b3_2.toNat)) 73 (((625 * a2) + b3_2).toNat) 0) := frq70.ui rfl
          refine g_iinc X 0 (fun v => [(3, .int v), (0, .ref (ad 47)), (1, .int x1), (2, .int x2)]) dX7_closes_45 rfl (by decide) (fun _ => rfl) (fun zq84 eq85 => ?_)
          have tq86 : zq84.toInt = b3_2 + 1 := add_nw eq85 e3_2 (show (Int32.ofInt 1).toInt = 1 by decide) (by omega)
          refine g_goto X (tgt := 2) dX7_closes_48 (by decide) ?_
          refine g_sub [0, 1, 2, 3] rfl ?_
          exact ih2 zq84 _ tq86 (ui (ui M_2 75 b3_2.toNat (M_2.1 76 b3_2.toNat)) 73 (((625 * a2) + b3_2).toNat) 0) (by omega) (fun d hd => by rw [ui_cell (k := 73) (a := 75) (by decide)]; by_cases q : d = b3_2.toNat; (rw [q, ui_eq, j5]); (rw [ui_nj (by omega)]; exact j2 d (by omega))) (BG_step (fun d hd => by rw [ui_cell (k := 75) (a := 73) (by decide)]; exact j3 d hd) j1.1 (by omega) (by first | (rw [if_pos (by omega)]; decide) | (rw [if_neg (by omega)]; decide))) (OUP_ui (by rw [ui_cell (k := 75) (a := 73) (by decide)]; exact j4) (by omega)) (by rw [ui_cell (k := 73) (a := 76) (by decide), ui_cell (k := 75) (a := 76) (by decide)]; exact j5) Iq82 frq83 (by omega)
        · refine g_iconst X 1 dX7_closes_39 (by decide) ?_
          refine g_goto X (tgt := 44) dX7_closes_40 (by decide) ?_
          refine g_iast X la_73 tq76 dX7_closes_44 (by omega) ?_
          have ltq87 : (1 : Int32).toInt = 1 := by decide
          have Iq88 : Iv TM (ui (ui M_2 75 b3_2.toNat (M_2.1 76 b3_2.toNat)) 73 (((625 * a2) + b3_2).toNat) 1) := Iq69.otherA rfl
          have frq89 : Fr W_X7_closes_R Mq (ui (ui M_2 75 b3_2.toNat (M_2.1 76 b3_2.toNat)) 73 (((625 * a2) + b3_2).toNat) 1) := frq70.ui rfl
          refine g_iinc X 0 (fun v => [(3, .int v), (0, .ref (ad 47)), (1, .int x1), (2, .int x2)]) dX7_closes_45 rfl (by decide) (fun _ => rfl) (fun zq90 eq91 => ?_)
          have tq92 : zq90.toInt = b3_2 + 1 := add_nw eq91 e3_2 (show (Int32.ofInt 1).toInt = 1 by decide) (by omega)
          refine g_goto X (tgt := 2) dX7_closes_48 (by decide) ?_
          refine g_sub [0, 1, 2, 3] rfl ?_
          exact ih2 zq90 _ tq92 (ui (ui M_2 75 b3_2.toNat (M_2.1 76 b3_2.toNat)) 73 (((625 * a2) + b3_2).toNat) 1) (by omega) (fun d hd => by rw [ui_cell (k := 73) (a := 75) (by decide)]; by_cases q : d = b3_2.toNat; (rw [q, ui_eq, j5]); (rw [ui_nj (by omega)]; exact j2 d (by omega))) (BG_step (fun d hd => by rw [ui_cell (k := 75) (a := 73) (by decide)]; exact j3 d hd) j1.1 (by omega) (by first | (rw [if_pos (by omega)]; decide) | (rw [if_neg (by omega)]; decide))) (OUP_ui (by rw [ui_cell (k := 75) (a := 73) (by decide)]; exact j4) (by omega)) (by rw [ui_cell (k := 73) (a := 76) (by decide), ui_cell (k := 75) (a := 76) (by decide)]; exact j5) Iq88 frq89 (by omega)
  refine g_sub [0, 1, 2, 3] rfl ?_
  exact lp2 _ 0 _ (show (0 : Int32).toInt = 0 by decide) Mq (by omega) (fun d hd => absurd hd (by omega)) (fun d hd => absurd hd (by omega)) (fun _ _ => rfl) rfl Iq0 frq0 (Nat.lt_succ_self _)
end
