section
set_option maxHeartbeats 4000000 in
set_option maxRecDepth 4000 in
theorem c_X7_hasLine_E (ad : Nat → Nat) (Mq : Mem) (x1 : Int32) {a1 : Int} (t1 : x1.toInt = a1) (x2 : Int32) {a2 : Int} (t2 : x2.toInt = a2) (x3 : Int32) {a3 : Int} (t3 : x3.toInt = a3) (x4 : Int32) {a4 : Int} (t4 : x4.toInt = a4) (Iq0 : Iv TM Mq) (h4 : a4 ≤ 200) : Ctr ad yX7_hasLine cX7_hasLine 7 (some .boolean) 0 [.ref (ad 47), .int x1, .int x2, .int x3, .int x4] Mq (fun v M' => ∃ (r : Int32) (a : Int), v = some (.int r) ∧ r.toInt = a ∧ ((a = 1 ∧ (hsM Mq a1 a2 a3 a4.toNat = true)) ∨ (a = 0 ∧ ¬ (hsM Mq a1 a2 a3 a4.toNat = true))) ∧ Mq = M') := by
  refine ctr_of (L := [(0, .ref (ad 47)), (1, .int x1), (2, .int x2), (3, .int x3), (4, .int x4)]) (by decide) (Nat.le_of_ble_eq_true rfl) rfl ?_
  intro Γ X
  have X : gX Γ cX7_hasLine RX7 7 (some .boolean) 0 ad _ := X
  have g11 := ig_47_11 Iq0
  have g12 := ig_47_12 Iq0
  have g14 := ig_47_14 Iq0
  have g32 := ig_47_32 Iq0
  have g43 := ig_47_43 Iq0
  have g44 := ig_47_44 Iq0
  have g52 := ig_47_52 Iq0
  have g53 := ig_47_53 Iq0
  have g59 := ig_47_59 Iq0
  refine g_iconst X (-1) dX7_hasLine_0 (by decide) ?_
  refine g_istore X [(5, .int (-1)), (0, .ref (ad 47)), (1, .int x1), (2, .int x2), (3, .int x3), (4, .int x4)] dX7_hasLine_1 (by decide) rfl ?_
  refine g_iconst X 0 dX7_hasLine_3 (by decide) ?_
  refine g_istore X [(6, .int 0), (5, .int (-1)), (0, .ref (ad 47)), (1, .int x1), (2, .int x2), (3, .int x3), (4, .int x4)] dX7_hasLine_4 (by decide) rfl ?_
  have lp6 : ∀ n : Nat, ∀ (y6_6 : Int32) (b6_6 : Int), y6_6.toInt = b6_6 → ∀ (y5_6 : Int32) (b5_6 : Int), y5_6.toInt = b5_6 → (0 ≤ b6_6) → (b5_6 = bst (eW Mq 81) (eW Mq 82) (eW Mq 83) a1 a2 a3 (b6_6).toNat) → (b6_6 ≤ a4 ∨ b6_6 = 0) → (a4 - b6_6).toNat < n → G Γ Mq 6 [(6, .int y6_6), (5, .int y5_6), (0, .ref (ad 47)), (1, .int x1), (2, .int x2), (3, .int x3), (4, .int x4)] [] := by
    intro n
    induction n with
    | zero => intro y6_6 b6_6 e6_6 y5_6 b5_6 e5_6 i1 i2 i3 hm; exact absurd hm (Nat.not_lt_zero _)
    | succ n ih6 =>
      intro y6_6 b6_6 e6_6 y5_6 b5_6 e5_6 i1 i2 i3 hm6
      have hbr := bst_rng (eW Mq 81) (eW Mq 82) (eW Mq 83) a1 a2 a3 (b6_6).toNat
      have q81 : eW Mq 81 (b6_6).toNat = (Mq.1 81 (b6_6).toNat).toInt := rfl
      have q82 : eW Mq 82 (b6_6).toNat = (Mq.1 82 (b6_6).toNat).toInt := rfl
      have q83 : eW Mq 83 (b6_6).toNat = (Mq.1 83 (b6_6).toNat).toInt := rfl
      have r83 : eW Mq 83 (b5_6).toNat = (Mq.1 83 (b5_6).toNat).toInt := rfl
      have r84 : eW Mq 84 (b5_6).toNat = (Mq.1 84 (b5_6).toNat).toInt := rfl
      refine g_iload X 0 rfl dX7_hasLine_6 ?_
      refine g_iload X 6 rfl dX7_hasLine_8 ?_
      refine g_icmp_ge X e6_6 t4 (tgt := 78) dX7_hasLine_10 (by decide) (fun cq1 => ?_) (fun cq1 => ?_)
      · refine g_iload X 1 rfl dX7_hasLine_78 ?_
        refine g_if_lt X e5_6 (tgt := 97) dX7_hasLine_80 (by decide) (fun cq2 => ?_) (fun cq2 => ?_)
        · refine g_iconst X 0 dX7_hasLine_97 (by decide) ?_
          exact g_zret X (b01 (show (0 : Int32).toInt = 0 by decide) (by omega)) dX7_hasLine_98 ⟨_, _, rfl, (show (0 : Int32).toInt = 0 by decide), (by first | exact Or.inr ⟨rfl, hsl_n i2 (by omega) (by omega)⟩ | exact Or.inl ⟨rfl, hsl_y i2 (by omega) (by omega) (by omega)⟩), rfl⟩
        · refine g_aload_n X 2 rfl dX7_hasLine_83 ?_
          refine g_getr X f_X7_122 dX7_hasLine_84 ?_
          refine g_iload X 1 rfl dX7_hasLine_87 ?_
          refine g_zald X la_84 e5_6 dX7_hasLine_89 (by omega) (x := Mq.1 84 b5_6.toNat) rfl ?_
          have bq3 := ig_84 Iq0 b5_6.toNat (by omega)
          refine g_if_eq X rfl (tgt := 97) dX7_hasLine_90 (by decide) (fun cq4 => ?_) (fun cq4 => ?_)
          · refine g_iconst X 0 dX7_hasLine_97 (by decide) ?_
            exact g_zret X (b01 (show (0 : Int32).toInt = 0 by decide) (by omega)) dX7_hasLine_98 ⟨_, _, rfl, (show (0 : Int32).toInt = 0 by decide), (by first | exact Or.inr ⟨rfl, hsl_n i2 (by omega) (by omega)⟩ | exact Or.inl ⟨rfl, hsl_y i2 (by omega) (by omega) (by omega)⟩), rfl⟩
          · refine g_iconst X 1 dX7_hasLine_93 (by decide) ?_
            refine g_goto X (tgt := 98) dX7_hasLine_94 (by decide) ?_
            exact g_zret X (b01 (show (1 : Int32).toInt = 1 by decide) (by omega)) dX7_hasLine_98 ⟨_, _, rfl, (show (1 : Int32).toInt = 1 by decide), (by first | exact Or.inr ⟨rfl, hsl_n i2 (by omega) (by omega)⟩ | exact Or.inl ⟨rfl, hsl_y i2 (by omega) (by omega) (by omega)⟩), rfl⟩
      · refine g_aload_n X 2 rfl dX7_hasLine_13 ?_
        refine g_getr X f_X7_113 dX7_hasLine_14 ?_
        refine g_iload X 0 rfl dX7_hasLine_17 ?_
        refine g_iald X la_81 e6_6 dX7_hasLine_19 (by omega) (x := Mq.1 81 b6_6.toNat) rfl ?_
        refine g_iload_n X 3 rfl dX7_hasLine_20 ?_
        refine g_icmp_ne X rfl t1 (tgt := 72) dX7_hasLine_21 (by decide) (fun cq5 => ?_) (fun cq5 => ?_)
        · refine g_iinc X 0 (fun v => [(6, .int v), (5, .int y5_6), (0, .ref (ad 47)), (1, .int x1), (2, .int x2), (3, .int x3), (4, .int x4)]) dX7_hasLine_72 rfl (by decide) (fun _ => rfl) (fun zq6 eq7 => ?_)
          have tq8 : zq6.toInt = b6_6 + 1 := add_nw eq7 e6_6 (show (Int32.ofInt 1).toInt = 1 by decide) (by omega)
          refine g_goto X (tgt := 6) dX7_hasLine_75 (by decide) ?_
          refine g_sub [0, 1, 2, 3, 4, 5, 6] rfl ?_
          exact ih6 zq6 _ tq8 y5_6 _ e5_6 (by omega) (by first | exact bst_skip i2 (by omega) (by omega) | exact bst_take i2 (by omega) (by omega) (by omega) (by omega) (by omega) (by omega)) (by omega) (by omega)
        · refine g_aload_n X 2 rfl dX7_hasLine_24 ?_
          refine g_getr X f_X7_116 dX7_hasLine_25 ?_
          refine g_iload X 0 rfl dX7_hasLine_28 ?_
          refine g_iald X la_82 e6_6 dX7_hasLine_30 (by omega) (x := Mq.1 82 b6_6.toNat) rfl ?_
          refine g_iload_n X 4 rfl dX7_hasLine_31 ?_
          refine g_icmp_ne X rfl t2 (tgt := 72) dX7_hasLine_32 (by decide) (fun cq9 => ?_) (fun cq9 => ?_)
          · refine g_iinc X 0 (fun v => [(6, .int v), (5, .int y5_6), (0, .ref (ad 47)), (1, .int x1), (2, .int x2), (3, .int x3), (4, .int x4)]) dX7_hasLine_72 rfl (by decide) (fun _ => rfl) (fun zq10 eq11 => ?_)
            have tq12 : zq10.toInt = b6_6 + 1 := add_nw eq11 e6_6 (show (Int32.ofInt 1).toInt = 1 by decide) (by omega)
            refine g_goto X (tgt := 6) dX7_hasLine_75 (by decide) ?_
            refine g_sub [0, 1, 2, 3, 4, 5, 6] rfl ?_
            exact ih6 zq10 _ tq12 y5_6 _ e5_6 (by omega) (by first | exact bst_skip i2 (by omega) (by omega) | exact bst_take i2 (by omega) (by omega) (by omega) (by omega) (by omega) (by omega)) (by omega) (by omega)
          · refine g_aload_n X 2 rfl dX7_hasLine_35 ?_
            refine g_getr X f_X7_119 dX7_hasLine_36 ?_
            refine g_iload X 0 rfl dX7_hasLine_39 ?_
            refine g_iald X la_83 e6_6 dX7_hasLine_41 (by omega) (x := Mq.1 83 b6_6.toNat) rfl ?_
            refine g_iload_n X 5 rfl dX7_hasLine_42 ?_
            refine g_icmp_gt X rfl t3 (tgt := 72) dX7_hasLine_43 (by decide) (fun cq13 => ?_) (fun cq13 => ?_)
            · refine g_iinc X 0 (fun v => [(6, .int v), (5, .int y5_6), (0, .ref (ad 47)), (1, .int x1), (2, .int x2), (3, .int x3), (4, .int x4)]) dX7_hasLine_72 rfl (by decide) (fun _ => rfl) (fun zq14 eq15 => ?_)
              have tq16 : zq14.toInt = b6_6 + 1 := add_nw eq15 e6_6 (show (Int32.ofInt 1).toInt = 1 by decide) (by omega)
              refine g_goto X (tgt := 6) dX7_hasLine_75 (by decide) ?_
              refine g_sub [0, 1, 2, 3, 4, 5, 6] rfl ?_
              exact ih6 zq14 _ tq16 y5_6 _ e5_6 (by omega) (by first | exact bst_skip i2 (by omega) (by omega) | exact bst_take i2 (by omega) (by omega) (by omega) (by omega) (by omega) (by omega)) (by omega) (by omega)
            · refine g_iload X 1 rfl dX7_hasLine_46 ?_
              refine g_if_lt X e5_6 (tgt := 68) dX7_hasLine_48 (by decide) (fun cq17 => ?_) (fun cq17 => ?_)
              · refine g_iload X 0 rfl dX7_hasLine_68 ?_
                refine g_istore X [(5, .int y6_6), (6, .int y6_6), (0, .ref (ad 47)), (1, .int x1), (2, .int x2), (3, .int x3), (4, .int x4)] dX7_hasLine_70 (by decide) rfl ?_
                refine g_iinc X 1 (fun v => [(6, .int v), (5, .int y6_6), (0, .ref (ad 47)), (1, .int x1), (2, .int x2), (3, .int x3), (4, .int x4)]) dX7_hasLine_72 rfl (by decide) (fun _ => rfl) (fun zq18 eq19 => ?_)
                have tq20 : zq18.toInt = b6_6 + 1 := add_nw eq19 e6_6 (show (Int32.ofInt 1).toInt = 1 by decide) (by omega)
                refine g_goto X (tgt := 6) dX7_hasLine_75 (by decide) ?_
                refine g_sub [0, 1, 2, 3, 4, 5, 6] rfl ?_
                exact ih6 zq18 _ tq20 y6_6 _ e6_6 (by omega) (by first | exact bst_skip i2 (by omega) (by omega) | exact bst_take i2 (by omega) (by omega) (by omega) (by omega) (by omega) (by omega)) (by omega) (by omega)
              · refine g_aload_n X 2 rfl dX7_hasLine_51 ?_
                refine g_getr X f_X7_119 dX7_hasLine_52 ?_
                refine g_iload X 0 rfl dX7_hasLine_55 ?_
                refine g_iald X la_83 e6_6 dX7_hasLine_57 (by omega) (x := Mq.1 83 b6_6.toNat) rfl ?_
                refine g_aload_n X 2 rfl dX7_hasLine_58 ?_
                refine g_getr X f_X7_119 dX7_hasLine_59 ?_
                refine g_iload X 1 rfl dX7_hasLine_62 ?_
                refine g_iald X la_83 e5_6 dX7_hasLine_64 (by omega) (x := Mq.1 83 b5_6.toNat) rfl ?_
                refine g_icmp_lt X rfl rfl (tgt := 72) dX7_hasLine_65 (by decide) (fun cq21 => ?_) (fun cq21 => ?_)
                · refine g_iinc X 0 (fun v => [(6, .int v), (5, .int y5_6), (0, .ref (ad 47)), (1, .int x1), (2, .int x2), (3, .int x3), (4, .int x4)]) dX7_hasLine_72 rfl (by decide) (fun _ => rfl) (fun zq22 eq23 => ?_)
                  have tq24 : zq22.toInt = b6_6 + 1 := add_nw eq23 e6_6 (show (Int32.ofInt 1).toInt = 1 by decide) (by omega)
                  refine g_goto X (tgt := 6) dX7_hasLine_75 (by decide) ?_
                  refine g_sub [0, 1, 2, 3, 4, 5, 6] rfl ?_
                  exact ih6 zq22 _ tq24 y5_6 _ e5_6 (by omega) (by first | exact bst_skip i2 (by omega) (by omega) | exact bst_take i2 (by omega) (by omega) (by omega) (by omega) (by omega) (by omega)) (by omega) (by omega)
                · refine g_iload X 0 rfl dX7_hasLine_68 ?_
                  refine g_istore X [(5, .int y6_6), (6, .int y6_6), (0, .ref (ad 47)), (1, .int x1), (2, .int x2), (3, .int x3), (4, .int x4)] dX7_hasLine_70 (by decide) rfl ?_
                  refine g_iinc X 1 (fun v => [(6, .int v), (5, .int y6_6), (0, .ref (ad 47)), (1, .int x1), (2, .int x2), (3, .int x3), (4, .int x4)]) dX7_hasLine_72 rfl (by decide) (fun _ => rfl) (fun zq25 eq26 => ?_)
                  have tq27 : zq25.toInt = b6_6 + 1 := add_nw eq26 e6_6 (show (Int32.ofInt 1).toInt = 1 by decide) (by omega)
                  refine g_goto X (tgt := 6) dX7_hasLine_75 (by decide) ?_
                  refine g_sub [0, 1, 2, 3, 4, 5, 6] rfl ?_
                  exact ih6 zq25 _ tq27 y6_6 _ e6_6 (by omega) (by first | exact bst_skip i2 (by omega) (by omega) | exact bst_take i2 (by omega) (by omega) (by omega) (by omega) (by omega) (by omega)) (by omega) (by omega)
  refine g_sub [0, 1, 2, 3, 4, 5, 6] rfl ?_
  exact lp6 _ 0 _ (show (0 : Int32).toInt = 0 by decide) (-1) _ (show ((-1) : Int32).toInt = (-1) by decide) (by omega) rfl (by omega) (Nat.lt_succ_self _)
set_option maxHeartbeats 4000000 in
set_option maxRecDepth 4000 in
theorem c_X7_has_E (ad : Nat → Nat) (Mq : Mem) (x1 : Int32) {a1 : Int} (t1 : x1.toInt = a1) (x2 : Int32) {a2 : Int} (t2 : x2.toInt = a2) (x3 : Int32) {a3 : Int} (t3 : x3.toInt = a3) (x4 : Int32) {a4 : Int} (t4 : x4.toInt = a4) (Iq0 : Iv TM Mq) : Ctr ad yX7_has cX7_has 5 (some .int) 2 [.ref (ad 47), .int x1, .int x2, .int x3, .int x4] Mq (fun v M' => ∃ (r : Int32) (a : Int), v = some (.int r) ∧ r.toInt = a ∧ (((¬ ((0 ≤ a1 ∧ a1 < (Mq.1 47 52).toInt) ∧ (0 ≤ a2 ∧ a2 < (Mq.1 47 12).toInt) ∧ (-1 ≤ a4 ∧ a4 ≤ (Mq.1 47 53).toInt))) ∧ (a = -1)) ∨ (¬ (¬ ((0 ≤ a1 ∧ a1 < (Mq.1 47 52).toInt) ∧ (0 ≤ a2 ∧ a2 < (Mq.1 47 12).toInt) ∧ (-1 ≤ a4 ∧ a4 ≤ (Mq.1 47 53).toInt))) ∧ (¬ (0 ≤ a3 ∧ a3 ≤ 999)) ∧ (a = -2)) ∨ (¬ (¬ ((0 ≤ a1 ∧ a1 < (Mq.1 47 52).toInt) ∧ (0 ≤ a2 ∧ a2 < (Mq.1 47 12).toInt) ∧ (-1 ≤ a4 ∧ a4 ≤ (Mq.1 47 53).toInt))) ∧ ¬ (¬ (0 ≤ a3 ∧ a3 ≤ 999)) ∧ ((a = 1 ∧ (hsM Mq a1 a2 a3 (upk a4 (Mq.1 47 53).toInt).toNat = true)) ∨ (a = 0 ∧ ¬ (hsM Mq a1 a2 a3 (upk a4 (Mq.1 47 53).toInt).toNat = true))))) ∧ Mq = M') := by
  refine ctr_of (L := [(0, .ref (ad 47)), (1, .int x1), (2, .int x2), (3, .int x3), (4, .int x4)]) (by decide) (Nat.le_of_ble_eq_true rfl) rfl ?_
  intro Γ X
  have X : gX Γ cX7_has RX7 5 (some .int) 2 ad _ := X
  have g11 := ig_47_11 Iq0
  have g12 := ig_47_12 Iq0
  have g14 := ig_47_14 Iq0
  have g32 := ig_47_32 Iq0
  have g43 := ig_47_43 Iq0
  have g44 := ig_47_44 Iq0
  have g52 := ig_47_52 Iq0
  have g53 := ig_47_53 Iq0
  have g59 := ig_47_59 Iq0
  refine g_aload_n X 0 rfl dX7_has_0 ?_
  refine g_iload_n X 1 rfl dX7_has_1 ?_
  refine g_callV X m_X7_260 (c_X7_isSinger ad Mq x1 t1) rfl (by decide) (Nat.le_of_ble_eq_true rfl) rfl dX7_has_2 ?_
  rintro _ _ ⟨rq1, aq2, rfl, tq3, hq4, rfl⟩
  show G Γ Mq 5 [(0, .ref (ad 47)), (1, .int x1), (2, .int x2), (3, .int x3), (4, .int x4)] [.int rq1]
  refine g_if_eq X tq3 (tgt := 25) dX7_has_5 (by decide) (fun cq5 => ?_) (fun cq5 => ?_)
  · have pq6 : ¬ (0 ≤ a1 ∧ a1 < ((Mq.1 47 52)).toInt) := by first | omega | (rcases hq4 with ⟨z1, z2⟩ | ⟨z1, z2⟩ <;> first | exact z2 | (exfalso; omega))
    refine g_iconst X (-1) dX7_has_25 (by decide) ?_
    exact g_iret X dX7_has_26 ⟨_, _, rfl, (show ((-1) : Int32).toInt = (-1) by decide), (by first | exact Or.inl ⟨by omega, rfl⟩ | exact Or.inr (Or.inl ⟨by omega, by omega, rfl⟩) | exact Or.inr (Or.inr ⟨by omega, by omega, (by rcases hhs with ⟨z1, z2⟩ | ⟨z1, z2⟩ <;> first | (exfalso; omega) | exact Or.inl ⟨rfl, z2⟩ | exact Or.inr ⟨rfl, z2⟩)⟩)), rfl⟩
  · have pq7 : (0 ≤ a1 ∧ a1 < ((Mq.1 47 52)).toInt) := by first | omega | (rcases hq4 with ⟨z1, z2⟩ | ⟨z1, z2⟩ <;> first | exact z2 | (exfalso; omega))
    refine g_aload_n X 0 rfl dX7_has_8 ?_
    refine g_iload_n X 2 rfl dX7_has_9 ?_
    refine g_callV X m_X7_186 (c_X7_isLine ad Mq x2 t2) rfl (by decide) (Nat.le_of_ble_eq_true rfl) rfl dX7_has_10 ?_
    rintro _ _ ⟨rq8, aq9, rfl, tq10, hq11, rfl⟩
    show G Γ Mq 13 [(0, .ref (ad 47)), (1, .int x1), (2, .int x2), (3, .int x3), (4, .int x4)] [.int rq8]
    refine g_if_eq X tq10 (tgt := 25) dX7_has_13 (by decide) (fun cq12 => ?_) (fun cq12 => ?_)
    · have pq13 : ¬ (0 ≤ a2 ∧ a2 < ((Mq.1 47 12)).toInt) := by first | omega | (rcases hq11 with ⟨z1, z2⟩ | ⟨z1, z2⟩ <;> first | exact z2 | (exfalso; omega))
      refine g_iconst X (-1) dX7_has_25 (by decide) ?_
      exact g_iret X dX7_has_26 ⟨_, _, rfl, (show ((-1) : Int32).toInt = (-1) by decide), (by first | exact Or.inl ⟨by omega, rfl⟩ | exact Or.inr (Or.inl ⟨by omega, by omega, rfl⟩) | exact Or.inr (Or.inr ⟨by omega, by omega, (by rcases hhs with ⟨z1, z2⟩ | ⟨z1, z2⟩ <;> first | (exfalso; omega) | exact Or.inl ⟨rfl, z2⟩ | exact Or.inr ⟨rfl, z2⟩)⟩)), rfl⟩
    · have pq14 : (0 ≤ a2 ∧ a2 < ((Mq.1 47 12)).toInt) := by first | omega | (rcases hq11 with ⟨z1, z2⟩ | ⟨z1, z2⟩ <;> first | exact z2 | (exfalso; omega))
      refine g_aload_n X 0 rfl dX7_has_16 ?_
      refine g_iload X 4 rfl dX7_has_17 ?_
      refine g_callV X m_X7_326 (c_X7_isKnown ad Mq x4 t4) rfl (by decide) (Nat.le_of_ble_eq_true rfl) rfl dX7_has_19 ?_
      rintro _ _ ⟨rq15, aq16, rfl, tq17, hq18, rfl⟩
      show G Γ Mq 22 [(0, .ref (ad 47)), (1, .int x1), (2, .int x2), (3, .int x3), (4, .int x4)] [.int rq15]
      refine g_if_ne X tq17 (tgt := 27) dX7_has_22 (by decide) (fun cq19 => ?_) (fun cq19 => ?_)
      · have pq20 : (-1 ≤ a4 ∧ a4 ≤ ((Mq.1 47 53)).toInt) := by first | omega | (rcases hq18 with ⟨z1, z2⟩ | ⟨z1, z2⟩ <;> first | exact z2 | (exfalso; omega))
        refine g_iload_n X 3 rfl dX7_has_27 ?_
        refine g_callS X m_X7_263 (c_X7_isYear ad Mq x3 t3) rfl (by decide) (Nat.le_of_ble_eq_true rfl) rfl dX7_has_28 ?_
        rintro _ _ ⟨rq21, aq22, rfl, tq23, hq24, rfl⟩
        show G Γ Mq 31 [(0, .ref (ad 47)), (1, .int x1), (2, .int x2), (3, .int x3), (4, .int x4)] [.int rq21]
        refine g_if_ne X tq23 (tgt := 37) dX7_has_31 (by decide) (fun cq25 => ?_) (fun cq25 => ?_)
        · have pq26 : (0 ≤ a3 ∧ a3 ≤ 999) := by first | omega | (rcases hq24 with ⟨z1, z2⟩ | ⟨z1, z2⟩ <;> first | exact z2 | (exfalso; omega))
          refine g_aload_n X 0 rfl dX7_has_37 ?_
          refine g_iload_n X 1 rfl dX7_has_38 ?_
          refine g_iload_n X 2 rfl dX7_has_39 ?_
          refine g_iload_n X 3 rfl dX7_has_40 ?_
          refine g_aload_n X 0 rfl dX7_has_41 ?_
          refine g_iload X 4 rfl dX7_has_42 ?_
          refine g_callV X m_X7_329 (c_X7_upTo ad Mq x4 t4) rfl (by decide) (Nat.le_of_ble_eq_true rfl) rfl dX7_has_44 ?_
          rintro _ _ ⟨rq27, aq28, rfl, tq29, hq30, rfl⟩
          have hup := upk_of hq30
          show G Γ Mq 47 [(0, .ref (ad 47)), (1, .int x1), (2, .int x2), (3, .int x3), (4, .int x4)] [.int rq27, .int x3, .int x2, .int x1, .ref (ad 47)]
          refine g_callV X m_X7_322 (c_X7_hasLine_E ad Mq x1 t1 x2 t2 x3 t3 rq27 tq29 Iq0 (by omega)) rfl (by decide) (Nat.le_of_ble_eq_true rfl) rfl dX7_has_47 ?_
          rintro _ _ ⟨rq31, aq32, rfl, tq33, hq34, rfl⟩
          have hhs := hq34
          rw [hup] at hhs
          show G Γ Mq 50 [(0, .ref (ad 47)), (1, .int x1), (2, .int x2), (3, .int x3), (4, .int x4)] [.int rq31]
          refine g_if_eq X tq33 (tgt := 57) dX7_has_50 (by decide) (fun cq35 => ?_) (fun cq35 => ?_)
          · have pq36 : ¬ (hsM Mq a1 a2 a3 aq28.toNat = true) := by first | omega | (rcases hq34 with ⟨z1, z2⟩ | ⟨z1, z2⟩ <;> first | exact z2 | (exfalso; omega))
            refine g_iconst X 0 dX7_has_57 (by decide) ?_
            exact g_iret X dX7_has_58 ⟨_, _, rfl, (show (0 : Int32).toInt = 0 by decide), (by first | exact Or.inl ⟨by omega, rfl⟩ | exact Or.inr (Or.inl ⟨by omega, by omega, rfl⟩) | exact Or.inr (Or.inr ⟨by omega, by omega, (by rcases hhs with ⟨z1, z2⟩ | ⟨z1, z2⟩ <;> first | (exfalso; omega) | exact Or.inl ⟨rfl, z2⟩ | exact Or.inr ⟨rfl, z2⟩)⟩)), rfl⟩
          · have pq37 : (hsM Mq a1 a2 a3 aq28.toNat = true) := by first | omega | (rcases hq34 with ⟨z1, z2⟩ | ⟨z1, z2⟩ <;> first | exact z2 | (exfalso; omega))
            refine g_iconst X 1 dX7_has_53 (by decide) ?_
            refine g_goto X (tgt := 58) dX7_has_54 (by decide) ?_
            exact g_iret X dX7_has_58 ⟨_, _, rfl, (show (1 : Int32).toInt = 1 by decide), (by first | exact Or.inl ⟨by omega, rfl⟩ | exact Or.inr (Or.inl ⟨by omega, by omega, rfl⟩) | exact Or.inr (Or.inr ⟨by omega, by omega, (by rcases hhs with ⟨z1, z2⟩ | ⟨z1, z2⟩ <;> first | (exfalso; omega) | exact Or.inl ⟨rfl, z2⟩ | exact Or.inr ⟨rfl, z2⟩)⟩)), rfl⟩
        · have pq38 : ¬ (0 ≤ a3 ∧ a3 ≤ 999) := by first | omega | (rcases hq24 with ⟨z1, z2⟩ | ⟨z1, z2⟩ <;> first | exact z2 | (exfalso; omega))
          refine g_bipush X (-2) dX7_has_34 (by decide) ?_
          exact g_iret X dX7_has_36 ⟨_, _, rfl, (show ((-2) : Int32).toInt = (-2) by decide), (by first | exact Or.inl ⟨by omega, rfl⟩ | exact Or.inr (Or.inl ⟨by omega, by omega, rfl⟩) | exact Or.inr (Or.inr ⟨by omega, by omega, (by rcases hhs with ⟨z1, z2⟩ | ⟨z1, z2⟩ <;> first | (exfalso; omega) | exact Or.inl ⟨rfl, z2⟩ | exact Or.inr ⟨rfl, z2⟩)⟩)), rfl⟩
      · have pq39 : ¬ (-1 ≤ a4 ∧ a4 ≤ ((Mq.1 47 53)).toInt) := by first | omega | (rcases hq18 with ⟨z1, z2⟩ | ⟨z1, z2⟩ <;> first | exact z2 | (exfalso; omega))
        refine g_iconst X (-1) dX7_has_25 (by decide) ?_
        exact g_iret X dX7_has_26 ⟨_, _, rfl, (show ((-1) : Int32).toInt = (-1) by decide), (by first | exact Or.inl ⟨by omega, rfl⟩ | exact Or.inr (Or.inl ⟨by omega, by omega, rfl⟩) | exact Or.inr (Or.inr ⟨by omega, by omega, (by rcases hhs with ⟨z1, z2⟩ | ⟨z1, z2⟩ <;> first | (exfalso; omega) | exact Or.inl ⟨rfl, z2⟩ | exact Or.inr ⟨rfl, z2⟩)⟩)), rfl⟩
set_option maxHeartbeats 4000000 in
set_option maxRecDepth 4000 in
theorem c_X7_stock_E (ad : Nat → Nat) (Mq : Mem) (x1 : Int32) {a1 : Int} (t1 : x1.toInt = a1) (x2 : Int32) {a2 : Int} (t2 : x2.toInt = a2) (x3 : Int32) {a3 : Int} (t3 : x3.toInt = a3) (Iq0 : Iv TM Mq) : Ctr ad yX7_stock cX7_stock 6 (some .int) 2 [.ref (ad 47), .int x1, .int x2, .int x3] Mq (fun v M' => ∃ (r : Int32) (a : Int), v = some (.int r) ∧ r.toInt = a ∧ (((¬ ((0 ≤ a1 ∧ a1 < (Mq.1 47 52).toInt) ∧ (-1 ≤ a3 ∧ a3 ≤ (Mq.1 47 53).toInt))) ∧ (a = -1)) ∨ (¬ (¬ ((0 ≤ a1 ∧ a1 < (Mq.1 47 52).toInt) ∧ (-1 ≤ a3 ∧ a3 ≤ (Mq.1 47 53).toInt))) ∧ (¬ (0 ≤ a2 ∧ a2 ≤ 999)) ∧ (a = -2)) ∨ (¬ (¬ ((0 ≤ a1 ∧ a1 < (Mq.1 47 52).toInt) ∧ (-1 ≤ a3 ∧ a3 ≤ (Mq.1 47 53).toInt))) ∧ ¬ (¬ (0 ≤ a2 ∧ a2 ≤ 999)) ∧ (a = (ctb (fun k : Nat => hsM Mq a1 k a2 (upk a3 (Mq.1 47 53).toInt).toNat) ((Mq.1 47 12).toInt).toNat : Nat)))) ∧ Mq = M') := by
  refine ctr_of (L := [(0, .ref (ad 47)), (1, .int x1), (2, .int x2), (3, .int x3)]) (by decide) (Nat.le_of_ble_eq_true rfl) rfl ?_
  intro Γ X
  have X : gX Γ cX7_stock RX7 6 (some .int) 2 ad _ := X
  have g11 := ig_47_11 Iq0
  have g12 := ig_47_12 Iq0
  have g14 := ig_47_14 Iq0
  have g32 := ig_47_32 Iq0
  have g43 := ig_47_43 Iq0
  have g44 := ig_47_44 Iq0
  have g52 := ig_47_52 Iq0
  have g53 := ig_47_53 Iq0
  have g59 := ig_47_59 Iq0
  refine g_aload_n X 0 rfl dX7_stock_0 ?_
  refine g_iload_n X 1 rfl dX7_stock_1 ?_
  refine g_callV X m_X7_260 (c_X7_isSinger ad Mq x1 t1) rfl (by decide) (Nat.le_of_ble_eq_true rfl) rfl dX7_stock_2 ?_
  rintro _ _ ⟨rq1, aq2, rfl, tq3, hq4, rfl⟩
  show G Γ Mq 5 [(0, .ref (ad 47)), (1, .int x1), (2, .int x2), (3, .int x3)] [.int rq1]
  refine g_if_eq X tq3 (tgt := 16) dX7_stock_5 (by decide) (fun cq5 => ?_) (fun cq5 => ?_)
  · have pq6 : ¬ (0 ≤ a1 ∧ a1 < ((Mq.1 47 52)).toInt) := by first | omega | (rcases hq4 with ⟨z1, z2⟩ | ⟨z1, z2⟩ <;> first | exact z2 | (exfalso; omega))
    refine g_iconst X (-1) dX7_stock_16 (by decide) ?_
    exact g_iret X dX7_stock_17 ⟨_, _, rfl, (show ((-1) : Int32).toInt = (-1) by decide), (by first | exact Or.inl ⟨by omega, rfl⟩ | exact Or.inr (Or.inl ⟨by omega, by omega, rfl⟩) | exact Or.inr (Or.inr ⟨by omega, by omega, (by have e : b5_34 = (Mq.1 47 12).toInt := (by omega); rw [e] at i2; exact i2)⟩)), rfl⟩
  · have pq7 : (0 ≤ a1 ∧ a1 < ((Mq.1 47 52)).toInt) := by first | omega | (rcases hq4 with ⟨z1, z2⟩ | ⟨z1, z2⟩ <;> first | exact z2 | (exfalso; omega))
    refine g_aload_n X 0 rfl dX7_stock_8 ?_
    refine g_iload_n X 3 rfl dX7_stock_9 ?_
    refine g_callV X m_X7_326 (c_X7_isKnown ad Mq x3 t3) rfl (by decide) (Nat.le_of_ble_eq_true rfl) rfl dX7_stock_10 ?_
    rintro _ _ ⟨rq8, aq9, rfl, tq10, hq11, rfl⟩
    show G Γ Mq 13 [(0, .ref (ad 47)), (1, .int x1), (2, .int x2), (3, .int x3)] [.int rq8]
    refine g_if_ne X tq10 (tgt := 18) dX7_stock_13 (by decide) (fun cq12 => ?_) (fun cq12 => ?_)
    · have pq13 : (-1 ≤ a3 ∧ a3 ≤ ((Mq.1 47 53)).toInt) := by first | omega | (rcases hq11 with ⟨z1, z2⟩ | ⟨z1, z2⟩ <;> first | exact z2 | (exfalso; omega))
      refine g_iload_n X 2 rfl dX7_stock_18 ?_
      refine g_callS X m_X7_263 (c_X7_isYear ad Mq x2 t2) rfl (by decide) (Nat.le_of_ble_eq_true rfl) rfl dX7_stock_19 ?_
      rintro _ _ ⟨rq14, aq15, rfl, tq16, hq17, rfl⟩
      show G Γ Mq 22 [(0, .ref (ad 47)), (1, .int x1), (2, .int x2), (3, .int x3)] [.int rq14]
      refine g_if_ne X tq16 (tgt := 28) dX7_stock_22 (by decide) (fun cq18 => ?_) (fun cq18 => ?_)
      · have pq19 : (0 ≤ a2 ∧ a2 ≤ 999) := by first | omega | (rcases hq17 with ⟨z1, z2⟩ | ⟨z1, z2⟩ <;> first | exact z2 | (exfalso; omega))
        refine g_iconst X 0 dX7_stock_28 (by decide) ?_
        refine g_istore X [(4, .int 0), (0, .ref (ad 47)), (1, .int x1), (2, .int x2), (3, .int x3)] dX7_stock_29 (by decide) rfl ?_
        refine g_iconst X 0 dX7_stock_31 (by decide) ?_
        refine g_istore X [(5, .int 0), (4, .int 0), (0, .ref (ad 47)), (1, .int x1), (2, .int x2), (3, .int x3)] dX7_stock_32 (by decide) rfl ?_
        have lp34 : ∀ n : Nat, ∀ (y5_34 : Int32) (b5_34 : Int), y5_34.toInt = b5_34 → ∀ (y4_34 : Int32) (b4_34 : Int), y4_34.toInt = b4_34 → (0 ≤ b5_34 ∧ b5_34 ≤ (Mq.1 47 12).toInt) → (b4_34 = (ctb (fun k : Nat => hsM Mq a1 k a2 (upk a3 (Mq.1 47 53).toInt).toNat) (b5_34).toNat : Nat)) → ((Mq.1 47 12).toInt - b5_34).toNat < n → G Γ Mq 34 [(5, .int y5_34), (4, .int y4_34), (0, .ref (ad 47)), (1, .int x1), (2, .int x2), (3, .int x3)] [] := by
          intro n
          induction n with
          | zero => intro y5_34 b5_34 e5_34 y4_34 b4_34 e4_34 i1 i2 hm; exact absurd hm (Nat.not_lt_zero _)
          | succ n ih34 =>
            intro y5_34 b5_34 e5_34 y4_34 b4_34 e4_34 i1 i2 hm34
            have hcl := ctb_le (fun k : Nat => hsM Mq a1 k a2 (upk a3 (Mq.1 47 53).toInt).toNat) (b5_34).toNat
            refine g_iload X 0 rfl dX7_stock_34 ?_
            refine g_aload_n X 2 rfl dX7_stock_36 ?_
            refine g_geti X f_X7_147 dX7_stock_37 (x := Mq.1 47 12) rfl ?_
            have bq20 := ig_47_12 Iq0
            refine g_icmp_ge X e5_34 rfl (tgt := 75) dX7_stock_40 (by decide) (fun cq21 => ?_) (fun cq21 => ?_)
            · refine g_iload X 1 rfl dX7_stock_75 ?_
              exact g_iret X dX7_stock_77 ⟨_, _, rfl, e4_34, (by first | exact Or.inl ⟨by omega, rfl⟩ | exact Or.inr (Or.inl ⟨by omega, by omega, rfl⟩) | exact Or.inr (Or.inr ⟨by omega, by omega, (by have e : b5_34 = (Mq.1 47 12).toInt := (by omega); rw [e] at i2; exact i2)⟩)), rfl⟩
            · refine g_iload X 1 rfl dX7_stock_43 ?_
              refine g_aload_n X 2 rfl dX7_stock_45 ?_
              refine g_iload_n X 3 rfl dX7_stock_46 ?_
              refine g_iload X 0 rfl dX7_stock_47 ?_
              refine g_iload_n X 4 rfl dX7_stock_49 ?_
              refine g_aload_n X 2 rfl dX7_stock_50 ?_
              refine g_iload_n X 5 rfl dX7_stock_51 ?_
              refine g_callV X m_X7_329 (c_X7_upTo ad Mq x3 t3) rfl (by decide) (Nat.le_of_ble_eq_true rfl) rfl dX7_stock_52 ?_
              rintro _ _ ⟨rq22, aq23, rfl, tq24, hq25, rfl⟩
              have hup := upk_of hq25
              show G Γ Mq 55 [(5, .int y5_34), (4, .int y4_34), (0, .ref (ad 47)), (1, .int x1), (2, .int x2), (3, .int x3)] [.int rq22, .int x2, .int y5_34, .int x1, .ref (ad 47), .int y4_34]
              refine g_callV X m_X7_322 (c_X7_hasLine_E ad Mq x1 t1 y5_34 e5_34 x2 t2 rq22 tq24 Iq0 (by omega)) rfl (by decide) (Nat.le_of_ble_eq_true rfl) rfl dX7_stock_55 ?_
              rintro _ _ ⟨rq26, aq27, rfl, tq28, hq29, rfl⟩
              have hhs := hq29
              rw [hup] at hhs
              show G Γ Mq 58 [(5, .int y5_34), (4, .int y4_34), (0, .ref (ad 47)), (1, .int x1), (2, .int x2), (3, .int x3)] [.int rq26, .int y4_34]
              refine g_if_eq X tq28 (tgt := 65) dX7_stock_58 (by decide) (fun cq30 => ?_) (fun cq30 => ?_)
              · have pq31 : ¬ (hsM Mq a1 b5_34 a2 aq23.toNat = true) := by first | omega | (rcases hq29 with ⟨z1, z2⟩ | ⟨z1, z2⟩ <;> first | exact z2 | (exfalso; omega))
                refine g_iconst X 0 dX7_stock_65 (by decide) ?_
                refine g_iadd X dX7_stock_66 (fun zq32 eq33 => ?_)
                have tq34 : zq32.toInt = b4_34 + 0 := add_nw eq33 e4_34 (show (0 : Int32).toInt = 0 by decide) (by omega)
                refine g_istore X [(4, .int zq32), (5, .int y5_34), (0, .ref (ad 47)), (1, .int x1), (2, .int x2), (3, .int x3)] dX7_stock_67 (by decide) rfl ?_
                refine g_iinc X 1 (fun v => [(5, .int v), (4, .int zq32), (0, .ref (ad 47)), (1, .int x1), (2, .int x2), (3, .int x3)]) dX7_stock_69 rfl (by decide) (fun _ => rfl) (fun zq35 eq36 => ?_)
                have tq37 : zq35.toInt = b5_34 + 1 := add_nw eq36 e5_34 (show (Int32.ofInt 1).toInt = 1 by decide) (by omega)
                refine g_goto X (tgt := 34) dX7_stock_72 (by decide) ?_
                refine g_sub [0, 1, 2, 3, 4, 5] rfl ?_
                exact ih34 zq35 _ tq37 zq32 _ tq34 (by omega) (by rcases hhs with ⟨z1, z2⟩ | ⟨z1, z2⟩ <;> first | (exfalso; omega) | exact ctbI_y (q := (fun l : Int => hsM Mq a1 l a2 (upk a3 (Mq.1 47 53).toInt).toNat)) i2 i1.1 z2 (by omega) | exact ctbI_n (q := (fun l : Int => hsM Mq a1 l a2 (upk a3 (Mq.1 47 53).toInt).toNat)) i2 i1.1 z2 (by omega)) (by omega)
              · have pq38 : (hsM Mq a1 b5_34 a2 aq23.toNat = true) := by first | omega | (rcases hq29 with ⟨z1, z2⟩ | ⟨z1, z2⟩ <;> first | exact z2 | (exfalso; omega))
                refine g_iconst X 1 dX7_stock_61 (by decide) ?_
                refine g_goto X (tgt := 66) dX7_stock_62 (by decide) ?_
                refine g_iadd X dX7_stock_66 (fun zq39 eq40 => ?_)
                have tq41 : zq39.toInt = b4_34 + 1 := add_nw eq40 e4_34 (show (1 : Int32).toInt = 1 by decide) (by omega)
                refine g_istore X [(4, .int zq39), (5, .int y5_34), (0, .ref (ad 47)), (1, .int x1), (2, .int x2), (3, .int x3)] dX7_stock_67 (by decide) rfl ?_
                refine g_iinc X 1 (fun v => [(5, .int v), (4, .int zq39), (0, .ref (ad 47)), (1, .int x1), (2, .int x2), (3, .int x3)]) dX7_stock_69 rfl (by decide) (fun _ => rfl) (fun zq42 eq43 => ?_)
                have tq44 : zq42.toInt = b5_34 + 1 := add_nw eq43 e5_34 (show (Int32.ofInt 1).toInt = 1 by decide) (by omega)
                refine g_goto X (tgt := 34) dX7_stock_72 (by decide) ?_
                refine g_sub [0, 1, 2, 3, 4, 5] rfl ?_
                exact ih34 zq42 _ tq44 zq39 _ tq41 (by omega) (by rcases hhs with ⟨z1, z2⟩ | ⟨z1, z2⟩ <;> first | (exfalso; omega) | exact ctbI_y (q := (fun l : Int => hsM Mq a1 l a2 (upk a3 (Mq.1 47 53).toInt).toNat)) i2 i1.1 z2 (by omega) | exact ctbI_n (q := (fun l : Int => hsM Mq a1 l a2 (upk a3 (Mq.1 47 53).toInt).toNat)) i2 i1.1 z2 (by omega)) (by omega)
        refine g_sub [0, 1, 2, 3, 4, 5] rfl ?_
        exact lp34 _ 0 _ (show (0 : Int32).toInt = 0 by decide) 0 _ (show (0 : Int32).toInt = 0 by decide) (by omega) rfl (Nat.lt_succ_self _)
      · have pq45 : ¬ (0 ≤ a2 ∧ a2 ≤ 999) := by first | omega | (rcases hq17 with ⟨z1, z2⟩ | ⟨z1, z2⟩ <;> first | exact z2 | (exfalso; omega))
        refine g_bipush X (-2) dX7_stock_25 (by decide) ?_
        exact g_iret X dX7_stock_27 ⟨_, _, rfl, (show ((-2) : Int32).toInt = (-2) by decide), (by first | exact Or.inl ⟨by omega, rfl⟩ | exact Or.inr (Or.inl ⟨by omega, by omega, rfl⟩) | exact Or.inr (Or.inr ⟨by omega, by omega, (by have e : b5_34 = (Mq.1 47 12).toInt := (by omega); rw [e] at i2; exact i2)⟩)), rfl⟩
    · have pq46 : ¬ (-1 ≤ a3 ∧ a3 ≤ ((Mq.1 47 53)).toInt) := by first | omega | (rcases hq11 with ⟨z1, z2⟩ | ⟨z1, z2⟩ <;> first | exact z2 | (exfalso; omega))
      refine g_iconst X (-1) dX7_stock_16 (by decide) ?_
      exact g_iret X dX7_stock_17 ⟨_, _, rfl, (show ((-1) : Int32).toInt = (-1) by decide), (by first | exact Or.inl ⟨by omega, rfl⟩ | exact Or.inr (Or.inl ⟨by omega, by omega, rfl⟩) | exact Or.inr (Or.inr ⟨by omega, by omega, (by have e : b5_34 = (Mq.1 47 12).toInt := (by omega); rw [e] at i2; exact i2)⟩)), rfl⟩
set_option maxHeartbeats 4000000 in
set_option maxRecDepth 4000 in
theorem c_X7_unlikeBy_E (ad : Nat → Nat) (Mq : Mem) (x1 : Int32) {a1 : Int} (t1 : x1.toInt = a1) (x2 : Int32) {a2 : Int} (t2 : x2.toInt = a2) (x3 : Int32) {a3 : Int} (t3 : x3.toInt = a3) (x4 : Int32) {a4 : Int} (t4 : x4.toInt = a4) (Iq0 : Iv TM Mq) (h4 : a4 ≤ 200) : Ctr ad yX7_unlikeBy cX7_unlikeBy 7 (some .int) 1 [.ref (ad 47), .int x1, .int x2, .int x3, .int x4] Mq (fun v M' => ∃ (r : Int32) (a : Int), v = some (.int r) ∧ r.toInt = a ∧ (a = uM Mq a1 a2 a3 a4.toNat ∧ 0 ≤ a ∧ a ≤ 40) ∧ Mq = M') := by
  refine ctr_of (L := [(0, .ref (ad 47)), (1, .int x1), (2, .int x2), (3, .int x3), (4, .int x4)]) (by decide) (Nat.le_of_ble_eq_true rfl) rfl ?_
  intro Γ X
  have X : gX Γ cX7_unlikeBy RX7 7 (some .int) 1 ad _ := X
  have g11 := ig_47_11 Iq0
  have g12 := ig_47_12 Iq0
  have g14 := ig_47_14 Iq0
  have g32 := ig_47_32 Iq0
  have g43 := ig_47_43 Iq0
  have g44 := ig_47_44 Iq0
  have g52 := ig_47_52 Iq0
  have g53 := ig_47_53 Iq0
  have g59 := ig_47_59 Iq0
  refine g_iconst X 0 dX7_unlikeBy_0 (by decide) ?_
  refine g_istore X [(5, .int 0), (0, .ref (ad 47)), (1, .int x1), (2, .int x2), (3, .int x3), (4, .int x4)] dX7_unlikeBy_1 (by decide) rfl ?_
  refine g_iconst X 0 dX7_unlikeBy_3 (by decide) ?_
  refine g_istore X [(6, .int 0), (5, .int 0), (0, .ref (ad 47)), (1, .int x1), (2, .int x2), (3, .int x3), (4, .int x4)] dX7_unlikeBy_4 (by decide) rfl ?_
  have lp6 : ∀ n : Nat, ∀ (y6_6 : Int32) (b6_6 : Int), y6_6.toInt = b6_6 → ∀ (y5_6 : Int32) (b5_6 : Int), y5_6.toInt = b5_6 → (0 ≤ b6_6 ∧ b6_6 ≤ (Mq.1 47 12).toInt) → (b5_6 = (ctb (fun k : Nat => hsM Mq a1 k a3 a4.toNat != hsM Mq a2 k a3 a4.toNat) (b6_6).toNat : Nat)) → ((Mq.1 47 12).toInt - b6_6).toNat < n → G Γ Mq 6 [(6, .int y6_6), (5, .int y5_6), (0, .ref (ad 47)), (1, .int x1), (2, .int x2), (3, .int x3), (4, .int x4)] [] := by
    intro n
    induction n with
    | zero => intro y6_6 b6_6 e6_6 y5_6 b5_6 e5_6 i1 i2 hm; exact absurd hm (Nat.not_lt_zero _)
    | succ n ih6 =>
      intro y6_6 b6_6 e6_6 y5_6 b5_6 e5_6 i1 i2 hm6
      have hcl := ctb_le (fun k : Nat => hsM Mq a1 k a3 a4.toNat != hsM Mq a2 k a3 a4.toNat) (b6_6).toNat
      refine g_iload X 0 rfl dX7_unlikeBy_6 ?_
      refine g_aload_n X 2 rfl dX7_unlikeBy_8 ?_
      refine g_geti X f_X7_147 dX7_unlikeBy_9 (x := Mq.1 47 12) rfl ?_
      have bq1 := ig_47_12 Iq0
      refine g_icmp_ge X e6_6 rfl (tgt := 54) dX7_unlikeBy_12 (by decide) (fun cq2 => ?_) (fun cq2 => ?_)
      · refine g_iload X 1 rfl dX7_unlikeBy_54 ?_
        exact g_iret X dX7_unlikeBy_56 ⟨_, _, rfl, e5_6, ⟨(by have e : b6_6 = (Mq.1 47 12).toInt := (by omega); rw [e] at i2; exact i2), by omega, by omega⟩, rfl⟩
      · refine g_iload X 1 rfl dX7_unlikeBy_15 ?_
        refine g_aload_n X 2 rfl dX7_unlikeBy_17 ?_
        refine g_iload_n X 3 rfl dX7_unlikeBy_18 ?_
        refine g_iload X 0 rfl dX7_unlikeBy_19 ?_
        refine g_iload_n X 5 rfl dX7_unlikeBy_21 ?_
        refine g_iload X 6 rfl dX7_unlikeBy_22 ?_
        refine g_callV X m_X7_322 (c_X7_hasLine_E ad Mq x1 t1 y6_6 e6_6 x3 t3 x4 t4 Iq0 (by omega)) rfl (by decide) (Nat.le_of_ble_eq_true rfl) rfl dX7_unlikeBy_24 ?_
        rintro _ _ ⟨rq3, aq4, rfl, tq5, hq6, rfl⟩
        have hA := hq6
        show G Γ Mq 27 [(6, .int y6_6), (5, .int y5_6), (0, .ref (ad 47)), (1, .int x1), (2, .int x2), (3, .int x3), (4, .int x4)] [.int rq3, .int y5_6]
        refine g_aload_n X 2 rfl dX7_unlikeBy_27 ?_
        refine g_iload_n X 4 rfl dX7_unlikeBy_28 ?_
        refine g_iload X 0 rfl dX7_unlikeBy_29 ?_
        refine g_iload_n X 5 rfl dX7_unlikeBy_31 ?_
        refine g_iload X 6 rfl dX7_unlikeBy_32 ?_
        refine g_callV X m_X7_322 (c_X7_hasLine_E ad Mq x2 t2 y6_6 e6_6 x3 t3 x4 t4 Iq0 (by omega)) rfl (by decide) (Nat.le_of_ble_eq_true rfl) rfl dX7_unlikeBy_34 ?_
        rintro _ _ ⟨rq7, aq8, rfl, tq9, hq10, rfl⟩
        have hB := hq10
        show G Γ Mq 37 [(6, .int y6_6), (5, .int y5_6), (0, .ref (ad 47)), (1, .int x1), (2, .int x2), (3, .int x3), (4, .int x4)] [.int rq7, .int rq3, .int y5_6]
        refine g_icmp_eq X tq5 tq9 (tgt := 44) dX7_unlikeBy_37 (by decide) (fun cq11 => ?_) (fun cq11 => ?_)
        · refine g_iconst X 0 dX7_unlikeBy_44 (by decide) ?_
          refine g_iadd X dX7_unlikeBy_45 (fun zq12 eq13 => ?_)
          have tq14 : zq12.toInt = b5_6 + 0 := add_nw eq13 e5_6 (show (0 : Int32).toInt = 0 by decide) (by omega)
          refine g_istore X [(5, .int zq12), (6, .int y6_6), (0, .ref (ad 47)), (1, .int x1), (2, .int x2), (3, .int x3), (4, .int x4)] dX7_unlikeBy_46 (by decide) rfl ?_
          refine g_iinc X 1 (fun v => [(6, .int v), (5, .int zq12), (0, .ref (ad 47)), (1, .int x1), (2, .int x2), (3, .int x3), (4, .int x4)]) dX7_unlikeBy_48 rfl (by decide) (fun _ => rfl) (fun zq15 eq16 => ?_)
          have tq17 : zq15.toInt = b6_6 + 1 := add_nw eq16 e6_6 (show (Int32.ofInt 1).toInt = 1 by decide) (by omega)
          refine g_goto X (tgt := 6) dX7_unlikeBy_51 (by decide) ?_
          refine g_sub [0, 1, 2, 3, 4, 5, 6] rfl ?_
          exact ih6 zq15 _ tq17 zq12 _ tq14 (by omega) (by first | exact ctbI_y (q := (fun l : Int => hsM Mq a1 l a3 a4.toNat != hsM Mq a2 l a3 a4.toNat)) i2 i1.1 (bb_ne hA hB (by omega)) (by omega) | exact ctbI_n (q := (fun l : Int => hsM Mq a1 l a3 a4.toNat != hsM Mq a2 l a3 a4.toNat)) i2 i1.1 (bb_eq hA hB (by omega)) (by omega)) (by omega)
        · refine g_iconst X 1 dX7_unlikeBy_40 (by decide) ?_
          refine g_goto X (tgt := 45) dX7_unlikeBy_41 (by decide) ?_
          refine g_iadd X dX7_unlikeBy_45 (fun zq18 eq19 => ?_)
          have tq20 : zq18.toInt = b5_6 + 1 := add_nw eq19 e5_6 (show (1 : Int32).toInt = 1 by decide) (by omega)
          refine g_istore X [(5, .int zq18), (6, .int y6_6), (0, .ref (ad 47)), (1, .int x1), (2, .int x2), (3, .int x3), (4, .int x4)] dX7_unlikeBy_46 (by decide) rfl ?_
          refine g_iinc X 1 (fun v => [(6, .int v), (5, .int zq18), (0, .ref (ad 47)), (1, .int x1), (2, .int x2), (3, .int x3), (4, .int x4)]) dX7_unlikeBy_48 rfl (by decide) (fun _ => rfl) (fun zq21 eq22 => ?_)
          have tq23 : zq21.toInt = b6_6 + 1 := add_nw eq22 e6_6 (show (Int32.ofInt 1).toInt = 1 by decide) (by omega)
          refine g_goto X (tgt := 6) dX7_unlikeBy_51 (by decide) ?_
          refine g_sub [0, 1, 2, 3, 4, 5, 6] rfl ?_
          exact ih6 zq21 _ tq23 zq18 _ tq20 (by omega) (by first | exact ctbI_y (q := (fun l : Int => hsM Mq a1 l a3 a4.toNat != hsM Mq a2 l a3 a4.toNat)) i2 i1.1 (bb_ne hA hB (by omega)) (by omega) | exact ctbI_n (q := (fun l : Int => hsM Mq a1 l a3 a4.toNat != hsM Mq a2 l a3 a4.toNat)) i2 i1.1 (bb_eq hA hB (by omega)) (by omega)) (by omega)
  refine g_sub [0, 1, 2, 3, 4, 5, 6] rfl ?_
  exact lp6 _ 0 _ (show (0 : Int32).toInt = 0 by decide) 0 _ (show (0 : Int32).toInt = 0 by decide) (by omega) rfl (Nat.lt_succ_self _)
set_option maxHeartbeats 4000000 in
set_option maxRecDepth 4000 in
theorem c_X7_unlike_E (ad : Nat → Nat) (Mq : Mem) (x1 : Int32) {a1 : Int} (t1 : x1.toInt = a1) (x2 : Int32) {a2 : Int} (t2 : x2.toInt = a2) (x3 : Int32) {a3 : Int} (t3 : x3.toInt = a3) (x4 : Int32) {a4 : Int} (t4 : x4.toInt = a4) (Iq0 : Iv TM Mq) : Ctr ad yX7_unlike cX7_unlike 5 (some .int) 2 [.ref (ad 47), .int x1, .int x2, .int x3, .int x4] Mq (fun v M' => ∃ (r : Int32) (a : Int), v = some (.int r) ∧ r.toInt = a ∧ (((¬ ((0 ≤ a1 ∧ a1 < (Mq.1 47 52).toInt) ∧ (0 ≤ a2 ∧ a2 < (Mq.1 47 52).toInt) ∧ (-1 ≤ a4 ∧ a4 ≤ (Mq.1 47 53).toInt))) ∧ (a = -1)) ∨ (¬ (¬ ((0 ≤ a1 ∧ a1 < (Mq.1 47 52).toInt) ∧ (0 ≤ a2 ∧ a2 < (Mq.1 47 52).toInt) ∧ (-1 ≤ a4 ∧ a4 ≤ (Mq.1 47 53).toInt))) ∧ (¬ (0 ≤ a3 ∧ a3 ≤ 999)) ∧ (a = -2)) ∨ (¬ (¬ ((0 ≤ a1 ∧ a1 < (Mq.1 47 52).toInt) ∧ (0 ≤ a2 ∧ a2 < (Mq.1 47 52).toInt) ∧ (-1 ≤ a4 ∧ a4 ≤ (Mq.1 47 53).toInt))) ∧ ¬ (¬ (0 ≤ a3 ∧ a3 ≤ 999)) ∧ (a = uM Mq a1 a2 a3 (upk a4 (Mq.1 47 53).toInt).toNat))) ∧ Mq = M') := by
  refine ctr_of (L := [(0, .ref (ad 47)), (1, .int x1), (2, .int x2), (3, .int x3), (4, .int x4)]) (by decide) (Nat.le_of_ble_eq_true rfl) rfl ?_
  intro Γ X
  have X : gX Γ cX7_unlike RX7 5 (some .int) 2 ad _ := X
  have g11 := ig_47_11 Iq0
  have g12 := ig_47_12 Iq0
  have g14 := ig_47_14 Iq0
  have g32 := ig_47_32 Iq0
  have g43 := ig_47_43 Iq0
  have g44 := ig_47_44 Iq0
  have g52 := ig_47_52 Iq0
  have g53 := ig_47_53 Iq0
  have g59 := ig_47_59 Iq0
  refine g_aload_n X 0 rfl dX7_unlike_0 ?_
  refine g_iload_n X 1 rfl dX7_unlike_1 ?_
  refine g_callV X m_X7_260 (c_X7_isSinger ad Mq x1 t1) rfl (by decide) (Nat.le_of_ble_eq_true rfl) rfl dX7_unlike_2 ?_
  rintro _ _ ⟨rq1, aq2, rfl, tq3, hq4, rfl⟩
  show G Γ Mq 5 [(0, .ref (ad 47)), (1, .int x1), (2, .int x2), (3, .int x3), (4, .int x4)] [.int rq1]
  refine g_if_eq X tq3 (tgt := 25) dX7_unlike_5 (by decide) (fun cq5 => ?_) (fun cq5 => ?_)
  · have pq6 : ¬ (0 ≤ a1 ∧ a1 < ((Mq.1 47 52)).toInt) := by first | omega | (rcases hq4 with ⟨z1, z2⟩ | ⟨z1, z2⟩ <;> first | exact z2 | (exfalso; omega))
    refine g_iconst X (-1) dX7_unlike_25 (by decide) ?_
    exact g_iret X dX7_unlike_26 ⟨_, _, rfl, (show ((-1) : Int32).toInt = (-1) by decide), (by first | exact Or.inl ⟨by omega, rfl⟩ | exact Or.inr (Or.inl ⟨by omega, by omega, rfl⟩) | exact Or.inr (Or.inr ⟨by omega, by omega, hhs⟩)), rfl⟩
  · have pq7 : (0 ≤ a1 ∧ a1 < ((Mq.1 47 52)).toInt) := by first | omega | (rcases hq4 with ⟨z1, z2⟩ | ⟨z1, z2⟩ <;> first | exact z2 | (exfalso; omega))
    refine g_aload_n X 0 rfl dX7_unlike_8 ?_
    refine g_iload_n X 2 rfl dX7_unlike_9 ?_
    refine g_callV X m_X7_260 (c_X7_isSinger ad Mq x2 t2) rfl (by decide) (Nat.le_of_ble_eq_true rfl) rfl dX7_unlike_10 ?_
    rintro _ _ ⟨rq8, aq9, rfl, tq10, hq11, rfl⟩
    show G Γ Mq 13 [(0, .ref (ad 47)), (1, .int x1), (2, .int x2), (3, .int x3), (4, .int x4)] [.int rq8]
    refine g_if_eq X tq10 (tgt := 25) dX7_unlike_13 (by decide) (fun cq12 => ?_) (fun cq12 => ?_)
    · have pq13 : ¬ (0 ≤ a2 ∧ a2 < ((Mq.1 47 52)).toInt) := by first | omega | (rcases hq11 with ⟨z1, z2⟩ | ⟨z1, z2⟩ <;> first | exact z2 | (exfalso; omega))
      refine g_iconst X (-1) dX7_unlike_25 (by decide) ?_
      exact g_iret X dX7_unlike_26 ⟨_, _, rfl, (show ((-1) : Int32).toInt = (-1) by decide), (by first | exact Or.inl ⟨by omega, rfl⟩ | exact Or.inr (Or.inl ⟨by omega, by omega, rfl⟩) | exact Or.inr (Or.inr ⟨by omega, by omega, hhs⟩)), rfl⟩
    · have pq14 : (0 ≤ a2 ∧ a2 < ((Mq.1 47 52)).toInt) := by first | omega | (rcases hq11 with ⟨z1, z2⟩ | ⟨z1, z2⟩ <;> first | exact z2 | (exfalso; omega))
      refine g_aload_n X 0 rfl dX7_unlike_16 ?_
      refine g_iload X 4 rfl dX7_unlike_17 ?_
      refine g_callV X m_X7_326 (c_X7_isKnown ad Mq x4 t4) rfl (by decide) (Nat.le_of_ble_eq_true rfl) rfl dX7_unlike_19 ?_
      rintro _ _ ⟨rq15, aq16, rfl, tq17, hq18, rfl⟩
      show G Γ Mq 22 [(0, .ref (ad 47)), (1, .int x1), (2, .int x2), (3, .int x3), (4, .int x4)] [.int rq15]
      refine g_if_ne X tq17 (tgt := 27) dX7_unlike_22 (by decide) (fun cq19 => ?_) (fun cq19 => ?_)
      · have pq20 : (-1 ≤ a4 ∧ a4 ≤ ((Mq.1 47 53)).toInt) := by first | omega | (rcases hq18 with ⟨z1, z2⟩ | ⟨z1, z2⟩ <;> first | exact z2 | (exfalso; omega))
        refine g_iload_n X 3 rfl dX7_unlike_27 ?_
        refine g_callS X m_X7_263 (c_X7_isYear ad Mq x3 t3) rfl (by decide) (Nat.le_of_ble_eq_true rfl) rfl dX7_unlike_28 ?_
        rintro _ _ ⟨rq21, aq22, rfl, tq23, hq24, rfl⟩
        show G Γ Mq 31 [(0, .ref (ad 47)), (1, .int x1), (2, .int x2), (3, .int x3), (4, .int x4)] [.int rq21]
        refine g_if_eq X tq23 (tgt := 50) dX7_unlike_31 (by decide) (fun cq25 => ?_) (fun cq25 => ?_)
        · have pq26 : ¬ (0 ≤ a3 ∧ a3 ≤ 999) := by first | omega | (rcases hq24 with ⟨z1, z2⟩ | ⟨z1, z2⟩ <;> first | exact z2 | (exfalso; omega))
          refine g_bipush X (-2) dX7_unlike_50 (by decide) ?_
          exact g_iret X dX7_unlike_52 ⟨_, _, rfl, (show ((-2) : Int32).toInt = (-2) by decide), (by first | exact Or.inl ⟨by omega, rfl⟩ | exact Or.inr (Or.inl ⟨by omega, by omega, rfl⟩) | exact Or.inr (Or.inr ⟨by omega, by omega, hhs⟩)), rfl⟩
        · have pq27 : (0 ≤ a3 ∧ a3 ≤ 999) := by first | omega | (rcases hq24 with ⟨z1, z2⟩ | ⟨z1, z2⟩ <;> first | exact z2 | (exfalso; omega))
          refine g_aload_n X 0 rfl dX7_unlike_34 ?_
          refine g_iload_n X 1 rfl dX7_unlike_35 ?_
          refine g_iload_n X 2 rfl dX7_unlike_36 ?_
          refine g_iload_n X 3 rfl dX7_unlike_37 ?_
          refine g_aload_n X 0 rfl dX7_unlike_38 ?_
          refine g_iload X 4 rfl dX7_unlike_39 ?_
          refine g_callV X m_X7_329 (c_X7_upTo ad Mq x4 t4) rfl (by decide) (Nat.le_of_ble_eq_true rfl) rfl dX7_unlike_41 ?_
          rintro _ _ ⟨rq28, aq29, rfl, tq30, hq31, rfl⟩
          have hup := upk_of hq31
          show G Γ Mq 44 [(0, .ref (ad 47)), (1, .int x1), (2, .int x2), (3, .int x3), (4, .int x4)] [.int rq28, .int x3, .int x2, .int x1, .ref (ad 47)]
          refine g_callV X m_X7_332 (c_X7_unlikeBy_E ad Mq x1 t1 x2 t2 x3 t3 rq28 tq30 Iq0 (by omega)) rfl (by decide) (Nat.le_of_ble_eq_true rfl) rfl dX7_unlike_44 ?_
          rintro _ _ ⟨rq32, aq33, rfl, tq34, hq35, rfl⟩
          have hhs := hq35.1
          rw [hup] at hhs
          show G Γ Mq 47 [(0, .ref (ad 47)), (1, .int x1), (2, .int x2), (3, .int x3), (4, .int x4)] [.int rq32]
          refine g_goto X (tgt := 52) dX7_unlike_47 (by decide) ?_
          exact g_iret X dX7_unlike_52 ⟨_, _, rfl, tq34, (by first | exact Or.inl ⟨by omega, rfl⟩ | exact Or.inr (Or.inl ⟨by omega, by omega, rfl⟩) | exact Or.inr (Or.inr ⟨by omega, by omega, hhs⟩)), rfl⟩
      · have pq36 : ¬ (-1 ≤ a4 ∧ a4 ≤ ((Mq.1 47 53)).toInt) := by first | omega | (rcases hq18 with ⟨z1, z2⟩ | ⟨z1, z2⟩ <;> first | exact z2 | (exfalso; omega))
        refine g_iconst X (-1) dX7_unlike_25 (by decide) ?_
        exact g_iret X dX7_unlike_26 ⟨_, _, rfl, (show ((-1) : Int32).toInt = (-1) by decide), (by first | exact Or.inl ⟨by omega, rfl⟩ | exact Or.inr (Or.inl ⟨by omega, by omega, rfl⟩) | exact Or.inr (Or.inr ⟨by omega, by omega, hhs⟩)), rfl⟩
set_option maxHeartbeats 4000000 in
set_option maxRecDepth 4000 in
theorem c_X7_masterOf_E (ad : Nat → Nat) (Mq : Mem) (x1 : Int32) {a1 : Int} (t1 : x1.toInt = a1) (x2 : Int32) {a2 : Int} (t2 : x2.toInt = a2) (x3 : Int32) {a3 : Int} (t3 : x3.toInt = a3) (Iq0 : Iv TM Mq) (h1 : 0 ≤ a1 ∧ a1 < (Mq.1 47 52).toInt) (h3 : a3 ≤ 200) : Ctr ad yX7_masterOf cX7_masterOf 8 (some .int) 2 [.ref (ad 47), .int x1, .int x2, .int x3] Mq (fun v M' => ∃ (r : Int32) (a : Int), v = some (.int r) ∧ r.toInt = a ∧ (a = mstM Mq a1 a2 a3.toNat ((Mq.1 47 52).toInt).toNat ∧ (a = -1 ∨ (0 ≤ a ∧ a < (Mq.1 47 52).toInt))) ∧ Mq = M') := by
  refine ctr_of (L := [(0, .ref (ad 47)), (1, .int x1), (2, .int x2), (3, .int x3)]) (by decide) (Nat.le_of_ble_eq_true rfl) rfl ?_
  intro Γ X
  have X : gX Γ cX7_masterOf RX7 8 (some .int) 2 ad _ := X
  have g11 := ig_47_11 Iq0
  have g12 := ig_47_12 Iq0
  have g14 := ig_47_14 Iq0
  have g32 := ig_47_32 Iq0
  have g43 := ig_47_43 Iq0
  have g44 := ig_47_44 Iq0
  have g52 := ig_47_52 Iq0
  have g53 := ig_47_53 Iq0
  have g59 := ig_47_59 Iq0
  refine g_iconst X (-1) dX7_masterOf_0 (by decide) ?_
  refine g_istore X [(4, .int (-1)), (0, .ref (ad 47)), (1, .int x1), (2, .int x2), (3, .int x3)] dX7_masterOf_1 (by decide) rfl ?_
  refine g_iconst X 0 dX7_masterOf_3 (by decide) ?_
  refine g_istore X [(5, .int 0), (4, .int (-1)), (0, .ref (ad 47)), (1, .int x1), (2, .int x2), (3, .int x3)] dX7_masterOf_4 (by decide) rfl ?_
  refine g_iconst X 0 dX7_masterOf_6 (by decide) ?_
  refine g_istore X [(6, .int 0), (5, .int 0), (4, .int (-1)), (0, .ref (ad 47)), (1, .int x1), (2, .int x2), (3, .int x3)] dX7_masterOf_7 (by decide) rfl ?_
  have lp9 : ∀ n : Nat, ∀ (y6_9 : Int32) (b6_9 : Int), y6_9.toInt = b6_9 → ∀ (y5_9 : Int32) (b5_9 : Int), y5_9.toInt = b5_9 → ∀ (y4_9 : Int32) (b4_9 : Int), y4_9.toInt = b4_9 → (0 ≤ b6_9 ∧ b6_9 ≤ (Mq.1 47 52).toInt) → (b4_9 = mstM Mq a1 a2 a3.toNat (b6_9).toNat) → (b4_9 < 0 ∨ b5_9 = uM Mq a1 b4_9 a2 a3.toNat) → ((Mq.1 47 52).toInt - b6_9).toNat < n → G Γ Mq 9 [(6, .int y6_9), (5, .int y5_9), (4, .int y4_9), (0, .ref (ad 47)), (1, .int x1), (2, .int x2), (3, .int x3)] [] := by
    intro n
    induction n with
    | zero => intro y6_9 b6_9 e6_9 y5_9 b5_9 e5_9 y4_9 b4_9 e4_9 i1 i2 i3 hm; exact absurd hm (Nat.not_lt_zero _)
    | succ n ih9 =>
      intro y6_9 b6_9 e6_9 y5_9 b5_9 e5_9 y4_9 b4_9 e4_9 i1 i2 i3 hm9
      have hmr := mstM_rng Mq a1 a2 a3.toNat (b6_9).toNat
      refine g_iload X 0 rfl dX7_masterOf_9 ?_
      refine g_aload_n X 3 rfl dX7_masterOf_11 ?_
      refine g_geti X f_X7_313 dX7_masterOf_12 (x := Mq.1 47 52) rfl ?_
      have bq1 := ig_47_52 Iq0
      refine g_icmp_ge X e6_9 rfl (tgt := 101) dX7_masterOf_15 (by decide) (fun cq2 => ?_) (fun cq2 => ?_)
      · refine g_iload X 2 rfl dX7_masterOf_101 ?_
        exact g_iret X dX7_masterOf_103 ⟨_, _, rfl, e4_9, ⟨(by have e : b6_9 = (Mq.1 47 52).toInt := (by omega); rw [e] at i2; exact i2), by omega⟩, rfl⟩
      · refine g_aload_n X 3 rfl dX7_masterOf_18 ?_
        refine g_getr X f_X7_107 dX7_masterOf_19 ?_
        refine g_iload X 0 rfl dX7_masterOf_22 ?_
        refine g_iald X la_79 e6_9 dX7_masterOf_24 (by omega) (x := Mq.1 79 b6_9.toNat) rfl ?_
        refine g_aload_n X 3 rfl dX7_masterOf_25 ?_
        refine g_getr X f_X7_107 dX7_masterOf_26 ?_
        refine g_iload_n X 4 rfl dX7_masterOf_29 ?_
        refine g_iald X la_79 t1 dX7_masterOf_30 (by omega) (x := Mq.1 79 a1.toNat) rfl ?_
        refine g_icmp_lt X rfl rfl (tgt := 37) dX7_masterOf_31 (by decide) (fun cq3 => ?_) (fun cq3 => ?_)
        · refine g_aload_n X 3 rfl dX7_masterOf_37 ?_
          refine g_iload_n X 4 rfl dX7_masterOf_38 ?_
          refine g_iload X 0 rfl dX7_masterOf_39 ?_
          refine g_iload_n X 5 rfl dX7_masterOf_41 ?_
          refine g_iload_n X 6 rfl dX7_masterOf_42 ?_
          refine g_callV X m_X7_332 (c_X7_unlikeBy_E ad Mq x1 t1 y6_9 e6_9 x2 t2 x3 t3 Iq0 (by omega)) rfl (by decide) (Nat.le_of_ble_eq_true rfl) rfl dX7_masterOf_43 ?_
          rintro _ _ ⟨rq4, aq5, rfl, tq6, hq7, rfl⟩
          have hu := hq7.1
          show G Γ Mq 46 [(6, .int y6_9), (5, .int y5_9), (4, .int y4_9), (0, .ref (ad 47)), (1, .int x1), (2, .int x2), (3, .int x3)] [.int rq4]
          refine g_istore X [(7, .int rq4), (6, .int y6_9), (5, .int y5_9), (4, .int y4_9), (0, .ref (ad 47)), (1, .int x1), (2, .int x2), (3, .int x3)] dX7_masterOf_46 (by decide) rfl ?_
          refine g_iload X 3 rfl dX7_masterOf_48 ?_
          refine g_if_lt X e4_9 (tgt := 87) dX7_masterOf_50 (by decide) (fun cq8 => ?_) (fun cq8 => ?_)
          · refine g_iload X 1 rfl dX7_masterOf_87 ?_
            refine g_istore X [(4, .int y6_9), (7, .int rq4), (6, .int y6_9), (5, .int y5_9), (0, .ref (ad 47)), (1, .int x1), (2, .int x2), (3, .int x3)] dX7_masterOf_89 (by decide) rfl ?_
            refine g_iload X 1 rfl dX7_masterOf_91 ?_
            refine g_istore X [(5, .int rq4), (4, .int y6_9), (7, .int rq4), (6, .int y6_9), (0, .ref (ad 47)), (1, .int x1), (2, .int x2), (3, .int x3)] dX7_masterOf_93 (by decide) rfl ?_
            refine g_iinc X 3 (fun v => [(6, .int v), (5, .int rq4), (4, .int y6_9), (7, .int rq4), (0, .ref (ad 47)), (1, .int x1), (2, .int x2), (3, .int x3)]) dX7_masterOf_95 rfl (by decide) (fun _ => rfl) (fun zq9 eq10 => ?_)
            have tq11 : zq9.toInt = b6_9 + 1 := add_nw eq10 e6_9 (show (Int32.ofInt 1).toInt = 1 by decide) (by omega)
            refine g_goto X (tgt := 9) dX7_masterOf_98 (by decide) ?_
            refine g_sub [0, 1, 2, 4, 5, 6, 7] rfl ?_
            exact ih9 zq9 _ tq11 rq4 _ tq6 y6_9 _ e6_9 (by omega) (by first | exact mm_skip i2 i1.1 (by omega) (by omega) | exact mm_take i2 i1.1 (by omega) (by omega) (by omega)) (by omega) (by omega)
          · refine g_iload X 0 rfl dX7_masterOf_53 ?_
            refine g_iload X 2 rfl dX7_masterOf_55 ?_
            refine g_icmp_gt X tq6 e5_9 (tgt := 95) dX7_masterOf_57 (by decide) (fun cq12 => ?_) (fun cq12 => ?_)
            · refine g_iinc X 1 (fun v => [(6, .int v), (7, .int rq4), (5, .int y5_9), (4, .int y4_9), (0, .ref (ad 47)), (1, .int x1), (2, .int x2), (3, .int x3)]) dX7_masterOf_95 rfl (by decide) (fun _ => rfl) (fun zq13 eq14 => ?_)
              have tq15 : zq13.toInt = b6_9 + 1 := add_nw eq14 e6_9 (show (Int32.ofInt 1).toInt = 1 by decide) (by omega)
              refine g_goto X (tgt := 9) dX7_masterOf_98 (by decide) ?_
              refine g_sub [0, 2, 3, 4, 5, 6, 7] rfl ?_
              exact ih9 zq13 _ tq15 y5_9 _ e5_9 y4_9 _ e4_9 (by omega) (by first | exact mm_skip i2 i1.1 (by omega) (by omega) | exact mm_take i2 i1.1 (by omega) (by omega) (by omega)) (by omega) (by omega)
            · refine g_iload X 0 rfl dX7_masterOf_60 ?_
              refine g_iload X 2 rfl dX7_masterOf_62 ?_
              refine g_icmp_ne X tq6 e5_9 (tgt := 87) dX7_masterOf_64 (by decide) (fun cq16 => ?_) (fun cq16 => ?_)
              · refine g_iload X 1 rfl dX7_masterOf_87 ?_
                refine g_istore X [(4, .int y6_9), (7, .int rq4), (6, .int y6_9), (5, .int y5_9), (0, .ref (ad 47)), (1, .int x1), (2, .int x2), (3, .int x3)] dX7_masterOf_89 (by decide) rfl ?_
                refine g_iload X 1 rfl dX7_masterOf_91 ?_
                refine g_istore X [(5, .int rq4), (4, .int y6_9), (7, .int rq4), (6, .int y6_9), (0, .ref (ad 47)), (1, .int x1), (2, .int x2), (3, .int x3)] dX7_masterOf_93 (by decide) rfl ?_
                refine g_iinc X 3 (fun v => [(6, .int v), (5, .int rq4), (4, .int y6_9), (7, .int rq4), (0, .ref (ad 47)), (1, .int x1), (2, .int x2), (3, .int x3)]) dX7_masterOf_95 rfl (by decide) (fun _ => rfl) (fun zq17 eq18 => ?_)
                have tq19 : zq17.toInt = b6_9 + 1 := add_nw eq18 e6_9 (show (Int32.ofInt 1).toInt = 1 by decide) (by omega)
                refine g_goto X (tgt := 9) dX7_masterOf_98 (by decide) ?_
                refine g_sub [0, 1, 2, 4, 5, 6, 7] rfl ?_
                exact ih9 zq17 _ tq19 rq4 _ tq6 y6_9 _ e6_9 (by omega) (by first | exact mm_skip i2 i1.1 (by omega) (by omega) | exact mm_take i2 i1.1 (by omega) (by omega) (by omega)) (by omega) (by omega)
              · refine g_aload_n X 4 rfl dX7_masterOf_67 ?_
                refine g_getr X f_X7_107 dX7_masterOf_68 ?_
                refine g_iload X 1 rfl dX7_masterOf_71 ?_
                refine g_iald X la_79 e6_9 dX7_masterOf_73 (by omega) (x := Mq.1 79 b6_9.toNat) rfl ?_
                refine g_aload_n X 4 rfl dX7_masterOf_74 ?_
                refine g_getr X f_X7_107 dX7_masterOf_75 ?_
                refine g_iload X 3 rfl dX7_masterOf_78 ?_
                refine g_iald X la_79 e4_9 dX7_masterOf_80 (by omega) (x := Mq.1 79 b4_9.toNat) rfl ?_
                refine g_icmp_gt X rfl rfl (tgt := 87) dX7_masterOf_81 (by decide) (fun cq20 => ?_) (fun cq20 => ?_)
                · refine g_iload X 1 rfl dX7_masterOf_87 ?_
                  refine g_istore X [(4, .int y6_9), (7, .int rq4), (6, .int y6_9), (5, .int y5_9), (0, .ref (ad 47)), (1, .int x1), (2, .int x2), (3, .int x3)] dX7_masterOf_89 (by decide) rfl ?_
                  refine g_iload X 1 rfl dX7_masterOf_91 ?_
                  refine g_istore X [(5, .int rq4), (4, .int y6_9), (7, .int rq4), (6, .int y6_9), (0, .ref (ad 47)), (1, .int x1), (2, .int x2), (3, .int x3)] dX7_masterOf_93 (by decide) rfl ?_
                  refine g_iinc X 3 (fun v => [(6, .int v), (5, .int rq4), (4, .int y6_9), (7, .int rq4), (0, .ref (ad 47)), (1, .int x1), (2, .int x2), (3, .int x3)]) dX7_masterOf_95 rfl (by decide) (fun _ => rfl) (fun zq21 eq22 => ?_)
                  have tq23 : zq21.toInt = b6_9 + 1 := add_nw eq22 e6_9 (show (Int32.ofInt 1).toInt = 1 by decide) (by omega)
                  refine g_goto X (tgt := 9) dX7_masterOf_98 (by decide) ?_
                  refine g_sub [0, 1, 2, 4, 5, 6, 7] rfl ?_
                  exact ih9 zq21 _ tq23 rq4 _ tq6 y6_9 _ e6_9 (by omega) (by first | exact mm_skip i2 i1.1 (by omega) (by omega) | exact mm_take i2 i1.1 (by omega) (by omega) (by omega)) (by omega) (by omega)
                · refine g_goto X (tgt := 95) dX7_masterOf_84 (by decide) ?_
                  refine g_iinc X 1 (fun v => [(6, .int v), (7, .int rq4), (5, .int y5_9), (4, .int y4_9), (0, .ref (ad 47)), (1, .int x1), (2, .int x2), (3, .int x3)]) dX7_masterOf_95 rfl (by decide) (fun _ => rfl) (fun zq24 eq25 => ?_)
                  have tq26 : zq24.toInt = b6_9 + 1 := add_nw eq25 e6_9 (show (Int32.ofInt 1).toInt = 1 by decide) (by omega)
                  refine g_goto X (tgt := 9) dX7_masterOf_98 (by decide) ?_
                  refine g_sub [0, 2, 3, 4, 5, 6, 7] rfl ?_
                  exact ih9 zq24 _ tq26 y5_9 _ e5_9 y4_9 _ e4_9 (by omega) (by first | exact mm_skip i2 i1.1 (by omega) (by omega) | exact mm_take i2 i1.1 (by omega) (by omega) (by omega)) (by omega) (by omega)
        · refine g_goto X (tgt := 95) dX7_masterOf_34 (by decide) ?_
          refine g_iinc X 0 (fun v => [(6, .int v), (5, .int y5_9), (4, .int y4_9), (0, .ref (ad 47)), (1, .int x1), (2, .int x2), (3, .int x3)]) dX7_masterOf_95 rfl (by decide) (fun _ => rfl) (fun zq27 eq28 => ?_)
          have tq29 : zq27.toInt = b6_9 + 1 := add_nw eq28 e6_9 (show (Int32.ofInt 1).toInt = 1 by decide) (by omega)
          refine g_goto X (tgt := 9) dX7_masterOf_98 (by decide) ?_
          refine g_sub [0, 1, 2, 3, 4, 5, 6] rfl ?_
          exact ih9 zq27 _ tq29 y5_9 _ e5_9 y4_9 _ e4_9 (by omega) (by first | exact mm_skip i2 i1.1 (by omega) (by omega) | exact mm_take i2 i1.1 (by omega) (by omega) (by omega)) (by omega) (by omega)
  refine g_sub [0, 1, 2, 3, 4, 5, 6] rfl ?_
  exact lp9 _ 0 _ (show (0 : Int32).toInt = 0 by decide) 0 _ (show (0 : Int32).toInt = 0 by decide) (-1) _ (show ((-1) : Int32).toInt = (-1) by decide) (by omega) rfl (Or.inl (by decide)) (Nat.lt_succ_self _)
set_option maxHeartbeats 4000000 in
set_option maxRecDepth 4000 in
theorem c_X7_master_E (ad : Nat → Nat) (Mq : Mem) (x1 : Int32) {a1 : Int} (t1 : x1.toInt = a1) (x2 : Int32) {a2 : Int} (t2 : x2.toInt = a2) (x3 : Int32) {a3 : Int} (t3 : x3.toInt = a3) (Iq0 : Iv TM Mq) : Ctr ad yX7_master cX7_master 5 (some .int) 3 [.ref (ad 47), .int x1, .int x2, .int x3] Mq (fun v M' => ∃ (r : Int32) (a : Int), v = some (.int r) ∧ r.toInt = a ∧ (((¬ ((0 ≤ a1 ∧ a1 < (Mq.1 47 52).toInt) ∧ (-1 ≤ a3 ∧ a3 ≤ (Mq.1 47 53).toInt))) ∧ (a = -1)) ∨ (¬ (¬ ((0 ≤ a1 ∧ a1 < (Mq.1 47 52).toInt) ∧ (-1 ≤ a3 ∧ a3 ≤ (Mq.1 47 53).toInt))) ∧ (¬ (0 ≤ a2 ∧ a2 ≤ 999)) ∧ (a = -2)) ∨ (¬ (¬ ((0 ≤ a1 ∧ a1 < (Mq.1 47 52).toInt) ∧ (-1 ≤ a3 ∧ a3 ≤ (Mq.1 47 53).toInt))) ∧ ¬ (¬ (0 ≤ a2 ∧ a2 ≤ 999)) ∧ ((a = -5 ∧ mstM Mq a1 a2 (upk a3 (Mq.1 47 53).toInt).toNat ((Mq.1 47 52).toInt).toNat < 0) ∨ (0 ≤ a ∧ a = mstM Mq a1 a2 (upk a3 (Mq.1 47 53).toInt).toNat ((Mq.1 47 52).toInt).toNat)))) ∧ Mq = M') := by
  refine ctr_of (L := [(0, .ref (ad 47)), (1, .int x1), (2, .int x2), (3, .int x3)]) (by decide) (Nat.le_of_ble_eq_true rfl) rfl ?_
  intro Γ X
  have X : gX Γ cX7_master RX7 5 (some .int) 3 ad _ := X
  have g11 := ig_47_11 Iq0
  have g12 := ig_47_12 Iq0
  have g14 := ig_47_14 Iq0
  have g32 := ig_47_32 Iq0
  have g43 := ig_47_43 Iq0
  have g44 := ig_47_44 Iq0
  have g52 := ig_47_52 Iq0
  have g53 := ig_47_53 Iq0
  have g59 := ig_47_59 Iq0
  refine g_aload_n X 0 rfl dX7_master_0 ?_
  refine g_iload_n X 1 rfl dX7_master_1 ?_
  refine g_callV X m_X7_260 (c_X7_isSinger ad Mq x1 t1) rfl (by decide) (Nat.le_of_ble_eq_true rfl) rfl dX7_master_2 ?_
  rintro _ _ ⟨rq1, aq2, rfl, tq3, hq4, rfl⟩
  show G Γ Mq 5 [(0, .ref (ad 47)), (1, .int x1), (2, .int x2), (3, .int x3)] [.int rq1]
  refine g_if_eq X tq3 (tgt := 16) dX7_master_5 (by decide) (fun cq5 => ?_) (fun cq5 => ?_)
  · have pq6 : ¬ (0 ≤ a1 ∧ a1 < ((Mq.1 47 52)).toInt) := by first | omega | (rcases hq4 with ⟨z1, z2⟩ | ⟨z1, z2⟩ <;> first | exact z2 | (exfalso; omega))
    refine g_iconst X (-1) dX7_master_16 (by decide) ?_
    exact g_iret X dX7_master_17 ⟨_, _, rfl, (show ((-1) : Int32).toInt = (-1) by decide), (by first | exact Or.inl ⟨by omega, rfl⟩ | exact Or.inr (Or.inl ⟨by omega, by omega, rfl⟩) | exact Or.inr (Or.inr ⟨by omega, by omega, (by omega)⟩)), rfl⟩
  · have pq7 : (0 ≤ a1 ∧ a1 < ((Mq.1 47 52)).toInt) := by first | omega | (rcases hq4 with ⟨z1, z2⟩ | ⟨z1, z2⟩ <;> first | exact z2 | (exfalso; omega))
    refine g_aload_n X 0 rfl dX7_master_8 ?_
    refine g_iload_n X 3 rfl dX7_master_9 ?_
    refine g_callV X m_X7_326 (c_X7_isKnown ad Mq x3 t3) rfl (by decide) (Nat.le_of_ble_eq_true rfl) rfl dX7_master_10 ?_
    rintro _ _ ⟨rq8, aq9, rfl, tq10, hq11, rfl⟩
    show G Γ Mq 13 [(0, .ref (ad 47)), (1, .int x1), (2, .int x2), (3, .int x3)] [.int rq8]
    refine g_if_ne X tq10 (tgt := 18) dX7_master_13 (by decide) (fun cq12 => ?_) (fun cq12 => ?_)
    · have pq13 : (-1 ≤ a3 ∧ a3 ≤ ((Mq.1 47 53)).toInt) := by first | omega | (rcases hq11 with ⟨z1, z2⟩ | ⟨z1, z2⟩ <;> first | exact z2 | (exfalso; omega))
      refine g_iload_n X 2 rfl dX7_master_18 ?_
      refine g_callS X m_X7_263 (c_X7_isYear ad Mq x2 t2) rfl (by decide) (Nat.le_of_ble_eq_true rfl) rfl dX7_master_19 ?_
      rintro _ _ ⟨rq14, aq15, rfl, tq16, hq17, rfl⟩
      show G Γ Mq 22 [(0, .ref (ad 47)), (1, .int x1), (2, .int x2), (3, .int x3)] [.int rq14]
      refine g_if_ne X tq16 (tgt := 28) dX7_master_22 (by decide) (fun cq18 => ?_) (fun cq18 => ?_)
      · have pq19 : (0 ≤ a2 ∧ a2 ≤ 999) := by first | omega | (rcases hq17 with ⟨z1, z2⟩ | ⟨z1, z2⟩ <;> first | exact z2 | (exfalso; omega))
        refine g_aload_n X 0 rfl dX7_master_28 ?_
        refine g_iload_n X 1 rfl dX7_master_29 ?_
        refine g_iload_n X 2 rfl dX7_master_30 ?_
        refine g_aload_n X 0 rfl dX7_master_31 ?_
        refine g_iload_n X 3 rfl dX7_master_32 ?_
        refine g_callV X m_X7_329 (c_X7_upTo ad Mq x3 t3) rfl (by decide) (Nat.le_of_ble_eq_true rfl) rfl dX7_master_33 ?_
        rintro _ _ ⟨rq20, aq21, rfl, tq22, hq23, rfl⟩
        have hup := upk_of hq23
        show G Γ Mq 36 [(0, .ref (ad 47)), (1, .int x1), (2, .int x2), (3, .int x3)] [.int rq20, .int x2, .int x1, .ref (ad 47)]
        refine g_callV X m_X7_336 (c_X7_masterOf_E ad Mq x1 t1 x2 t2 rq20 tq22 Iq0 (by omega) (by omega)) rfl (by decide) (Nat.le_of_ble_eq_true rfl) rfl dX7_master_36 ?_
        rintro _ _ ⟨rq24, aq25, rfl, tq26, hq27, rfl⟩
        have hhs := hq27.1
        rw [hup] at hhs
        show G Γ Mq 39 [(0, .ref (ad 47)), (1, .int x1), (2, .int x2), (3, .int x3)] [.int rq24]
        refine g_istore X [(4, .int rq24), (0, .ref (ad 47)), (1, .int x1), (2, .int x2), (3, .int x3)] dX7_master_39 (by decide) rfl ?_
        refine g_iload X 0 rfl dX7_master_41 ?_
        refine g_if_ge X tq26 (tgt := 51) dX7_master_43 (by decide) (fun cq28 => ?_) (fun cq28 => ?_)
        · refine g_iload X 0 rfl dX7_master_51 ?_
          exact g_iret X dX7_master_53 ⟨_, _, rfl, tq26, (by first | exact Or.inl ⟨by omega, rfl⟩ | exact Or.inr (Or.inl ⟨by omega, by omega, rfl⟩) | exact Or.inr (Or.inr ⟨by omega, by omega, (by omega)⟩)), rfl⟩
        · refine g_bipush X (-5) dX7_master_46 (by decide) ?_
          refine g_goto X (tgt := 53) dX7_master_48 (by decide) ?_
          exact g_iret X dX7_master_53 ⟨_, _, rfl, (show ((-5) : Int32).toInt = (-5) by decide), (by first | exact Or.inl ⟨by omega, rfl⟩ | exact Or.inr (Or.inl ⟨by omega, by omega, rfl⟩) | exact Or.inr (Or.inr ⟨by omega, by omega, (by omega)⟩)), rfl⟩
      · have pq29 : ¬ (0 ≤ a2 ∧ a2 ≤ 999) := by first | omega | (rcases hq17 with ⟨z1, z2⟩ | ⟨z1, z2⟩ <;> first | exact z2 | (exfalso; omega))
        refine g_bipush X (-2) dX7_master_25 (by decide) ?_
        exact g_iret X dX7_master_27 ⟨_, _, rfl, (show ((-2) : Int32).toInt = (-2) by decide), (by first | exact Or.inl ⟨by omega, rfl⟩ | exact Or.inr (Or.inl ⟨by omega, by omega, rfl⟩) | exact Or.inr (Or.inr ⟨by omega, by omega, (by omega)⟩)), rfl⟩
    · have pq30 : ¬ (-1 ≤ a3 ∧ a3 ≤ ((Mq.1 47 53)).toInt) := by first | omega | (rcases hq11 with ⟨z1, z2⟩ | ⟨z1, z2⟩ <;> first | exact z2 | (exfalso; omega))
      refine g_iconst X (-1) dX7_master_16 (by decide) ?_
      exact g_iret X dX7_master_17 ⟨_, _, rfl, (show ((-1) : Int32).toInt = (-1) by decide), (by first | exact Or.inl ⟨by omega, rfl⟩ | exact Or.inr (Or.inl ⟨by omega, by omega, rfl⟩) | exact Or.inr (Or.inr ⟨by omega, by omega, (by omega)⟩)), rfl⟩
set_option maxHeartbeats 4000000 in
set_option maxRecDepth 4000 in
theorem c_X7_lineage_E (ad : Nat → Nat) (Mq : Mem) (x1 : Int32) {a1 : Int} (t1 : x1.toInt = a1) (x2 : Int32) {a2 : Int} (t2 : x2.toInt = a2) (Iq0 : Iv TM Mq) : Ctr ad yX7_lineage cX7_lineage 6 (some .int) 3 [.ref (ad 47), .int x1, .int x2] Mq (fun v M' => ∃ (r : Int32) (a : Int), v = some (.int r) ∧ r.toInt = a ∧ (((¬ (-1 ≤ a2 ∧ a2 ≤ (Mq.1 47 53).toInt)) ∧ (a = -1)) ∨ (¬ (¬ (-1 ≤ a2 ∧ a2 ≤ (Mq.1 47 53).toInt)) ∧ (¬ (0 ≤ a1 ∧ a1 ≤ 999)) ∧ (a = -2)) ∨ (¬ (¬ (-1 ≤ a2 ∧ a2 ≤ (Mq.1 47 53).toInt)) ∧ ¬ (¬ (0 ≤ a1 ∧ a1 ≤ 999)) ∧ (a = lng (lnM Mq a1 (upk a2 (Mq.1 47 53).toInt).toNat) ((Mq.1 47 52).toInt).toNat))) ∧ Mq = M') := by
  refine ctr_of (L := [(0, .ref (ad 47)), (1, .int x1), (2, .int x2)]) (by decide) (Nat.le_of_ble_eq_true rfl) rfl ?_
  intro Γ X
  have X : gX Γ cX7_lineage RX7 6 (some .int) 3 ad _ := X
  have g11 := ig_47_11 Iq0
  have g12 := ig_47_12 Iq0
  have g14 := ig_47_14 Iq0
  have g32 := ig_47_32 Iq0
  have g43 := ig_47_43 Iq0
  have g44 := ig_47_44 Iq0
  have g52 := ig_47_52 Iq0
  have g53 := ig_47_53 Iq0
  have g59 := ig_47_59 Iq0
  refine g_aload_n X 0 rfl dX7_lineage_0 ?_
  refine g_iload_n X 2 rfl dX7_lineage_1 ?_
  refine g_callV X m_X7_326 (c_X7_isKnown ad Mq x2 t2) rfl (by decide) (Nat.le_of_ble_eq_true rfl) rfl dX7_lineage_2 ?_
  rintro _ _ ⟨rq1, aq2, rfl, tq3, hq4, rfl⟩
  show G Γ Mq 5 [(0, .ref (ad 47)), (1, .int x1), (2, .int x2)] [.int rq1]
  refine g_if_ne X tq3 (tgt := 10) dX7_lineage_5 (by decide) (fun cq5 => ?_) (fun cq5 => ?_)
  · have pq6 : (-1 ≤ a2 ∧ a2 ≤ ((Mq.1 47 53)).toInt) := by first | omega | (rcases hq4 with ⟨z1, z2⟩ | ⟨z1, z2⟩ <;> first | exact z2 | (exfalso; omega))
    refine g_iload_n X 1 rfl dX7_lineage_10 ?_
    refine g_callS X m_X7_263 (c_X7_isYear ad Mq x1 t1) rfl (by decide) (Nat.le_of_ble_eq_true rfl) rfl dX7_lineage_11 ?_
    rintro _ _ ⟨rq7, aq8, rfl, tq9, hq10, rfl⟩
    show G Γ Mq 14 [(0, .ref (ad 47)), (1, .int x1), (2, .int x2)] [.int rq7]
    refine g_if_ne X tq9 (tgt := 20) dX7_lineage_14 (by decide) (fun cq11 => ?_) (fun cq11 => ?_)
    · have pq12 : (0 ≤ a1 ∧ a1 ≤ 999) := by first | omega | (rcases hq10 with ⟨z1, z2⟩ | ⟨z1, z2⟩ <;> first | exact z2 | (exfalso; omega))
      refine g_iconst X 0 dX7_lineage_20 (by decide) ?_
      refine g_istore_n X (i := 3) [(3, .int 0), (0, .ref (ad 47)), (1, .int x1), (2, .int x2)] dX7_lineage_21 rfl (by decide) rfl ?_
      refine g_iconst X 0 dX7_lineage_22 (by decide) ?_
      refine g_istore X [(4, .int 0), (3, .int 0), (0, .ref (ad 47)), (1, .int x1), (2, .int x2)] dX7_lineage_23 (by decide) rfl ?_
      have lp25 : ∀ n : Nat, ∀ (y4_25 : Int32) (b4_25 : Int), y4_25.toInt = b4_25 → ∀ (y3_25 : Int32) (b3_25 : Int), y3_25.toInt = b3_25 → (0 ≤ b4_25 ∧ b4_25 ≤ (Mq.1 47 52).toInt) → (b3_25 = lng (lnM Mq a1 (upk a2 (Mq.1 47 53).toInt).toNat) (b4_25).toNat) → ((Mq.1 47 52).toInt - b4_25).toNat < n → G Γ Mq 25 [(4, .int y4_25), (3, .int y3_25), (0, .ref (ad 47)), (1, .int x1), (2, .int x2)] [] := by
        intro n
        induction n with
        | zero => intro y4_25 b4_25 e4_25 y3_25 b3_25 e3_25 i1 i2 hm; exact absurd hm (Nat.not_lt_zero _)
        | succ n ih25 =>
          intro y4_25 b4_25 e4_25 y3_25 b3_25 e3_25 i1 i2 hm25
          have hlr := lnM_rng Mq a1 (upk a2 (Mq.1 47 53).toInt).toNat (b4_25).toNat g12.2
          refine g_iload X 0 rfl dX7_lineage_25 ?_
          refine g_aload_n X 2 rfl dX7_lineage_27 ?_
          refine g_geti X f_X7_313 dX7_lineage_28 (x := Mq.1 47 52) rfl ?_
          have bq13 := ig_47_52 Iq0
          refine g_icmp_ge X e4_25 rfl (tgt := 80) dX7_lineage_31 (by decide) (fun cq14 => ?_) (fun cq14 => ?_)
          · refine g_iload_n X 1 rfl dX7_lineage_80 ?_
            exact g_iret X dX7_lineage_81 ⟨_, _, rfl, e3_25, (by first | exact Or.inl ⟨by omega, rfl⟩ | exact Or.inr (Or.inl ⟨by omega, by omega, rfl⟩) | exact Or.inr (Or.inr ⟨by omega, by omega, (by have e : b4_25 = (Mq.1 47 52).toInt := (by omega); rw [i2, e])⟩)), rfl⟩
          · refine g_aload_n X 2 rfl dX7_lineage_34 ?_
            refine g_iload X 0 rfl dX7_lineage_35 ?_
            refine g_iload_n X 3 rfl dX7_lineage_37 ?_
            refine g_aload_n X 2 rfl dX7_lineage_38 ?_
            refine g_iload_n X 4 rfl dX7_lineage_39 ?_
            refine g_callV X m_X7_329 (c_X7_upTo ad Mq x2 t2) rfl (by decide) (Nat.le_of_ble_eq_true rfl) rfl dX7_lineage_40 ?_
            rintro _ _ ⟨rq15, aq16, rfl, tq17, hq18, rfl⟩
            have hup := upk_of hq18
            show G Γ Mq 43 [(4, .int y4_25), (3, .int y3_25), (0, .ref (ad 47)), (1, .int x1), (2, .int x2)] [.int rq15, .int x1, .int y4_25, .ref (ad 47)]
            refine g_callV X m_X7_336 (c_X7_masterOf_E ad Mq y4_25 e4_25 x1 t1 rq15 tq17 Iq0 (by omega) (by omega)) rfl (by decide) (Nat.le_of_ble_eq_true rfl) rfl dX7_lineage_43 ?_
            rintro _ _ ⟨rq19, aq20, rfl, tq21, hq22, rfl⟩
            have hmm := hq22.1
            rw [hup] at hmm
            have hm2 := hq22.2
            show G Γ Mq 46 [(4, .int y4_25), (3, .int y3_25), (0, .ref (ad 47)), (1, .int x1), (2, .int x2)] [.int rq19]
            refine g_istore X [(5, .int rq19), (4, .int y4_25), (3, .int y3_25), (0, .ref (ad 47)), (1, .int x1), (2, .int x2)] dX7_lineage_46 (by decide) rfl ?_
            refine g_iload_n X 2 rfl dX7_lineage_48 ?_
            refine g_iload X 0 rfl dX7_lineage_49 ?_
            refine g_if_ge X tq21 (tgt := 58) dX7_lineage_51 (by decide) (fun cq23 => ?_) (fun cq23 => ?_)
            · refine g_aload_n X 3 rfl dX7_lineage_58 ?_
              refine g_iload X 1 rfl dX7_lineage_59 ?_
              refine g_iload X 0 rfl dX7_lineage_61 ?_
              refine g_iload_n X 4 rfl dX7_lineage_63 ?_
              refine g_aload_n X 3 rfl dX7_lineage_64 ?_
              refine g_iload_n X 5 rfl dX7_lineage_65 ?_
              refine g_callV X m_X7_329 (c_X7_upTo ad Mq x2 t2) rfl (by decide) (Nat.le_of_ble_eq_true rfl) rfl dX7_lineage_66 ?_
              rintro _ _ ⟨rq24, aq25, rfl, tq26, hq27, rfl⟩
              have hup2 := upk_of hq27
              show G Γ Mq 69 [(5, .int rq19), (4, .int y4_25), (3, .int y3_25), (0, .ref (ad 47)), (1, .int x1), (2, .int x2)] [.int rq24, .int x1, .int rq19, .int y4_25, .ref (ad 47), .int y3_25]
              refine g_callV X m_X7_332 (c_X7_unlikeBy_E ad Mq y4_25 e4_25 rq19 tq21 x1 t1 rq24 tq26 Iq0 (by omega)) rfl (by decide) (Nat.le_of_ble_eq_true rfl) rfl dX7_lineage_69 ?_
              rintro _ _ ⟨rq28, aq29, rfl, tq30, hq31, rfl⟩
              have hcc := hq31.1
              rw [hup2] at hcc
              show G Γ Mq 72 [(5, .int rq19), (4, .int y4_25), (3, .int y3_25), (0, .ref (ad 47)), (1, .int x1), (2, .int x2)] [.int rq28, .int y3_25]
              refine g_iadd X dX7_lineage_72 (fun zq32 eq33 => ?_)
              have tq34 : zq32.toInt = b3_25 + aq29 := add_nw eq33 e3_25 tq30 (by omega)
              refine g_istore_n X (i := 3) [(3, .int zq32), (5, .int rq19), (4, .int y4_25), (0, .ref (ad 47)), (1, .int x1), (2, .int x2)] dX7_lineage_73 rfl (by decide) rfl ?_
              refine g_iinc X 2 (fun v => [(4, .int v), (3, .int zq32), (5, .int rq19), (0, .ref (ad 47)), (1, .int x1), (2, .int x2)]) dX7_lineage_74 rfl (by decide) (fun _ => rfl) (fun zq35 eq36 => ?_)
              have tq37 : zq35.toInt = b4_25 + 1 := add_nw eq36 e4_25 (show (Int32.ofInt 1).toInt = 1 by decide) (by omega)
              refine g_goto X (tgt := 25) dX7_lineage_77 (by decide) ?_
              refine g_sub [0, 1, 3, 4, 5] rfl ?_
              exact ih25 zq35 _ tq37 zq32 _ tq34 (by omega) (by first | exact lng_next i2 (lnM_n i1.1 (by omega)) (by omega) | exact lng_next i2 (lnM_y i1.1 (by omega) hmm hcc) (by omega)) (by omega)
            · refine g_iconst X 0 dX7_lineage_54 (by decide) ?_
              refine g_goto X (tgt := 72) dX7_lineage_55 (by decide) ?_
              refine g_iadd X dX7_lineage_72 (fun zq38 eq39 => ?_)
              have tq40 : zq38.toInt = b3_25 + 0 := add_nw eq39 e3_25 (show (0 : Int32).toInt = 0 by decide) (by omega)
              refine g_istore_n X (i := 3) [(3, .int zq38), (5, .int rq19), (4, .int y4_25), (0, .ref (ad 47)), (1, .int x1), (2, .int x2)] dX7_lineage_73 rfl (by decide) rfl ?_
              refine g_iinc X 2 (fun v => [(4, .int v), (3, .int zq38), (5, .int rq19), (0, .ref (ad 47)), (1, .int x1), (2, .int x2)]) dX7_lineage_74 rfl (by decide) (fun _ => rfl) (fun zq41 eq42 => ?_)
              have tq43 : zq41.toInt = b4_25 + 1 := add_nw eq42 e4_25 (show (Int32.ofInt 1).toInt = 1 by decide) (by omega)
              refine g_goto X (tgt := 25) dX7_lineage_77 (by decide) ?_
              refine g_sub [0, 1, 3, 4, 5] rfl ?_
              exact ih25 zq41 _ tq43 zq38 _ tq40 (by omega) (by first | exact lng_next i2 (lnM_n i1.1 (by omega)) (by omega) | exact lng_next i2 (lnM_y i1.1 (by omega) hmm hcc) (by omega)) (by omega)
      refine g_sub [0, 1, 2, 3, 4] rfl ?_
      exact lp25 _ 0 _ (show (0 : Int32).toInt = 0 by decide) 0 _ (show (0 : Int32).toInt = 0 by decide) (by omega) rfl (Nat.lt_succ_self _)
    · have pq44 : ¬ (0 ≤ a1 ∧ a1 ≤ 999) := by first | omega | (rcases hq10 with ⟨z1, z2⟩ | ⟨z1, z2⟩ <;> first | exact z2 | (exfalso; omega))
      refine g_bipush X (-2) dX7_lineage_17 (by decide) ?_
      exact g_iret X dX7_lineage_19 ⟨_, _, rfl, (show ((-2) : Int32).toInt = (-2) by decide), (by first | exact Or.inl ⟨by omega, rfl⟩ | exact Or.inr (Or.inl ⟨by omega, by omega, rfl⟩) | exact Or.inr (Or.inr ⟨by omega, by omega, (by have e : b4_25 = (Mq.1 47 52).toInt := (by omega); rw [i2, e])⟩)), rfl⟩
  · have pq45 : ¬ (-1 ≤ a2 ∧ a2 ≤ ((Mq.1 47 53)).toInt) := by first | omega | (rcases hq4 with ⟨z1, z2⟩ | ⟨z1, z2⟩ <;> first | exact z2 | (exfalso; omega))
    refine g_iconst X (-1) dX7_lineage_8 (by decide) ?_
    exact g_iret X dX7_lineage_9 ⟨_, _, rfl, (show ((-1) : Int32).toInt = (-1) by decide), (by first | exact Or.inl ⟨by omega, rfl⟩ | exact Or.inr (Or.inl ⟨by omega, by omega, rfl⟩) | exact Or.inr (Or.inr ⟨by omega, by omega, (by have e : b4_25 = (Mq.1 47 52).toInt := (by omega); rw [i2, e])⟩)), rfl⟩
end
