section
theorem numM_fr {W : List (Nat × Nat)} {M M' : Mem} (h : 0 ≤ (M.2 47 34).toInt) (fr : Fr W M M') (hw : inW W 47 34 = false) : 0 ≤ (M'.2 47 34).toInt := by
  rw [fr.atL 47 34 hw]; exact h
abbrev W_X7_chooses : List (Nat × Nat) := [(47, 34)]
set_option maxHeartbeats 4000000 in
set_option maxRecDepth 4000 in
theorem c_X7_chooses (ad : Nat → Nat) (Mq : Mem) (x1 : Int32) {a1 : Int} (t1 : x1.toInt = a1) (Iq0 : Iv TM Mq) (h1 : 1 ≤ a1) (cy0 : 0 ≤ (Mq.2 47 34).toInt) : Ctr ad yX7_chooses cX7_chooses 3 (some .int) 0 [.ref (ad 47), .int x1] Mq (fun v M' => ∃ (r : Int32) (a : Int), v = some (.int r) ∧ r.toInt = a ∧ (0 ≤ a ∧ a < a1) ∧ (0 ≤ (M'.2 47 34).toInt) ∧ Iv TM M' ∧ Fr W_X7_chooses Mq M') := by
  refine ctr_of (L := [(0, .ref (ad 47)), (1, .int x1)]) (by decide) (Nat.le_of_ble_eq_true rfl) rfl ?_
  intro Γ X
  have X : gX Γ cX7_chooses RX7 3 (some .int) 0 ad _ := X
  have frq0 : Fr W_X7_chooses Mq Mq := Fr.rf
  have g12 := ig_47_12 Iq0
  have g24 := ig_47_24 Iq0
  have g44 := ig_47_44 Iq0
  have g43 := ig_47_43 Iq0
  have g53 := ig_47_53 Iq0
  have g59 := ig_47_59 Iq0
  refine g_aload_n X 0 rfl dX7_chooses_0 ?_
  refine g_getl X f_X7_237 dX7_chooses_1 (x := Mq.2 47 34) rfl ?_
  refine g_iload_n X 1 rfl dX7_chooses_4 ?_
  refine g_i2l X dX7_chooses_5 (fun zq1 eq2 => ?_)
  have tq3 : zq1.toInt = a1 := i2l_nw eq2 t1
  refine g_lrem X dX7_chooses_6 (ne0L tq3 (by omega)) (fun zq4 eq5 => ?_)
  have hb1 := lrem_bd eq5 rfl tq3 (by omega)
  refine g_l2i X dX7_chooses_7 (fun zq6 eq7 => ?_)
  have hb2 : zq6.toInt = zq4.toInt := l2i_nw eq7 rfl (by have := i_rng x1; omega)
  refine g_istore_n X (i := 2) [(2, .int zq6), (0, .ref (ad 47)), (1, .int x1)] dX7_chooses_8 rfl (by decide) rfl ?_
  refine g_aload_n X 1 rfl dX7_chooses_9 ?_
  refine g_dup X dX7_chooses_10 rfl ?_
  refine g_getl X f_X7_237 dX7_chooses_11 (x := Mq.2 47 34) rfl ?_
  refine g_iload_n X 2 rfl dX7_chooses_14 ?_
  refine g_i2l X dX7_chooses_15 (fun zq8 eq9 => ?_)
  have tq10 : zq8.toInt = a1 := i2l_nw eq9 t1
  refine g_ldiv X dX7_chooses_16 (ne0L tq10 (by omega)) (fun zq11 eq12 => ?_)
  have hb3 := ldiv_bd eq12 rfl tq10 (by omega)
  refine g_putl X p_X7_237 dX7_chooses_17 ?_
  have Iq13 : Iv TM (ul Mq 47 34 zq11) := Iq0.long
  have frq14 : Fr W_X7_chooses Mq (ul Mq 47 34 zq11) := frq0.ul rfl
  have cyq15 : 0 ≤ ((ul Mq 47 34 zq11).2 47 34).toInt := (by rw [ul_eq]; omega)
  refine g_iload_n X 0 rfl dX7_chooses_20 ?_
  exact g_iret X dX7_chooses_21 ⟨_, _, rfl, rfl, (by omega), cyq15, Iq13, frq14⟩
set_option maxHeartbeats 4000000 in
set_option maxRecDepth 4000 in
theorem c_X7_lineOf (ad : Nat → Nat) (Mq : Mem) (x1 : Int32) {a1 : Int} (t1 : x1.toInt = a1) (x2 : Int32) {a2 : Int} (t2 : x2.toInt = a2) (Iq0 : Iv TM Mq) (h2 : 0 ≤ a2 ∧ a2 < cntL Mq a1 ((Mq.1 47 12).toInt).toNat) : Ctr ad yX7_lineOf cX7_lineOf 5 (some .int) 0 [.ref (ad 47), .int x1, .int x2] Mq (fun v M' => ∃ (r : Int32) (a : Int), v = some (.int r) ∧ r.toInt = a ∧ (0 ≤ a ∧ a < 40) ∧ Mq = M') := by
  refine ctr_of (L := [(0, .ref (ad 47)), (1, .int x1), (2, .int x2)]) (by decide) (Nat.le_of_ble_eq_true rfl) rfl ?_
  intro Γ X
  have X : gX Γ cX7_lineOf RX7 5 (some .int) 0 ad _ := X
  have g12 := ig_47_12 Iq0
  have g24 := ig_47_24 Iq0
  have g44 := ig_47_44 Iq0
  have g43 := ig_47_43 Iq0
  have g53 := ig_47_53 Iq0
  have g59 := ig_47_59 Iq0
  refine g_iload_n X 2 rfl dX7_lineOf_0 ?_
  refine g_istore_n X (i := 3) [(3, .int x2), (0, .ref (ad 47)), (1, .int x1), (2, .int x2)] dX7_lineOf_1 rfl (by decide) rfl ?_
  refine g_iconst X 0 dX7_lineOf_2 (by decide) ?_
  refine g_istore X [(4, .int 0), (3, .int x2), (0, .ref (ad 47)), (1, .int x1), (2, .int x2)] dX7_lineOf_3 (by decide) rfl ?_
  have lp5 : ∀ n : Nat, ∀ (y4_5 : Int32) (b4_5 : Int), y4_5.toInt = b4_5 → ∀ (y3_5 : Int32) (b3_5 : Int), y3_5.toInt = b3_5 → (0 ≤ b4_5) → (a2 - b3_5 = cntL Mq a1 (b4_5).toNat) → (0 ≤ b3_5) → (40 - b4_5).toNat < n → G Γ Mq 5 [(4, .int y4_5), (3, .int y3_5), (0, .ref (ad 47)), (1, .int x1), (2, .int x2)] [] := by
    intro n
    induction n with
    | zero => intro y4_5 b4_5 e4_5 y3_5 b3_5 e3_5 i1 i2 i3 hm; exact absurd hm (Nat.not_lt_zero _)
    | succ n ih5 =>
      intro y4_5 b4_5 e4_5 y3_5 b3_5 e3_5 i1 i2 i3 hm5
      have hlt := cntL_lt (show cntL Mq a1 (b4_5).toNat ≤ a2 by omega) h2.2
      have hc1 := cntL_rng Mq a1 ((Mq.1 47 12).toInt).toNat
      have hc2 := cntL_rng Mq a1 (b4_5).toNat
      refine g_aload_n X 2 rfl dX7_lineOf_5 ?_
      refine g_getr X f_X7_126 dX7_lineOf_6 ?_
      refine g_iload X 0 rfl dX7_lineOf_9 ?_
      refine g_zald X la_85 e4_5 dX7_lineOf_11 (by omega) (x := Mq.1 85 b4_5.toNat) rfl ?_
      have bq1 := ig_85 Iq0 b4_5.toNat (by omega)
      refine g_if_eq X rfl (tgt := 30) dX7_lineOf_12 (by decide) (fun cq2 => ?_) (fun cq2 => ?_)
      · refine g_iload_n X 1 rfl dX7_lineOf_30 ?_
        refine g_aload_n X 2 rfl dX7_lineOf_31 ?_
        refine g_getr X f_X7_126 dX7_lineOf_32 ?_
        refine g_iload X 0 rfl dX7_lineOf_35 ?_
        refine g_zald X la_85 e4_5 dX7_lineOf_37 (by omega) (x := Mq.1 85 b4_5.toNat) rfl ?_
        have bq3 := ig_85 Iq0 b4_5.toNat (by omega)
        refine g_if_eq X rfl (tgt := 56) dX7_lineOf_38 (by decide) (fun cq4 => ?_) (fun cq4 => ?_)
        · refine g_iconst X 0 dX7_lineOf_56 (by decide) ?_
          refine g_isub X dX7_lineOf_57 (fun zq5 eq6 => ?_)
          have tq7 : zq5.toInt = b3_5 - 0 := sub_nw eq6 e3_5 (show (0 : Int32).toInt = 0 by decide) (by omega)
          refine g_istore_n X (i := 3) [(3, .int zq5), (4, .int y4_5), (0, .ref (ad 47)), (1, .int x1), (2, .int x2)] dX7_lineOf_58 rfl (by decide) rfl ?_
          refine g_iinc X 1 (fun v => [(4, .int v), (3, .int zq5), (0, .ref (ad 47)), (1, .int x1), (2, .int x2)]) dX7_lineOf_59 rfl (by decide) (fun _ => rfl) (fun zq8 eq9 => ?_)
          have tq10 : zq8.toInt = b4_5 + 1 := add_nw eq9 e4_5 (show (Int32.ofInt 1).toInt = 1 by decide) (by omega)
          refine g_goto X (tgt := 5) dX7_lineOf_62 (by decide) ?_
          refine g_sub [0, 1, 2, 3, 4] rfl ?_
          exact ih5 zq8 _ tq10 zq5 _ tq7 (by omega) (by first | exact (by have := cntL_y i2 i1 (by omega) (by omega); omega) | exact (by have := cntL_n i2 i1 (by omega); omega)) (by omega) (by omega)
        · refine g_aload_n X 2 rfl dX7_lineOf_41 ?_
          refine g_getr X f_X7_31 dX7_lineOf_42 ?_
          refine g_iload X 0 rfl dX7_lineOf_45 ?_
          refine g_iald X la_55 e4_5 dX7_lineOf_47 (by omega) (x := Mq.1 55 b4_5.toNat) rfl ?_
          refine g_iload_n X 3 rfl dX7_lineOf_48 ?_
          refine g_icmp_ne X rfl t1 (tgt := 56) dX7_lineOf_49 (by decide) (fun cq11 => ?_) (fun cq11 => ?_)
          · refine g_iconst X 0 dX7_lineOf_56 (by decide) ?_
            refine g_isub X dX7_lineOf_57 (fun zq12 eq13 => ?_)
            have tq14 : zq12.toInt = b3_5 - 0 := sub_nw eq13 e3_5 (show (0 : Int32).toInt = 0 by decide) (by omega)
            refine g_istore_n X (i := 3) [(3, .int zq12), (4, .int y4_5), (0, .ref (ad 47)), (1, .int x1), (2, .int x2)] dX7_lineOf_58 rfl (by decide) rfl ?_
            refine g_iinc X 1 (fun v => [(4, .int v), (3, .int zq12), (0, .ref (ad 47)), (1, .int x1), (2, .int x2)]) dX7_lineOf_59 rfl (by decide) (fun _ => rfl) (fun zq15 eq16 => ?_)
            have tq17 : zq15.toInt = b4_5 + 1 := add_nw eq16 e4_5 (show (Int32.ofInt 1).toInt = 1 by decide) (by omega)
            refine g_goto X (tgt := 5) dX7_lineOf_62 (by decide) ?_
            refine g_sub [0, 1, 2, 3, 4] rfl ?_
            exact ih5 zq15 _ tq17 zq12 _ tq14 (by omega) (by first | exact (by have := cntL_y i2 i1 (by omega) (by omega); omega) | exact (by have := cntL_n i2 i1 (by omega); omega)) (by omega) (by omega)
          · refine g_iconst X 1 dX7_lineOf_52 (by decide) ?_
            refine g_goto X (tgt := 57) dX7_lineOf_53 (by decide) ?_
            refine g_isub X dX7_lineOf_57 (fun zq18 eq19 => ?_)
            have tq20 : zq18.toInt = b3_5 - 1 := sub_nw eq19 e3_5 (show (1 : Int32).toInt = 1 by decide) (by omega)
            refine g_istore_n X (i := 3) [(3, .int zq18), (4, .int y4_5), (0, .ref (ad 47)), (1, .int x1), (2, .int x2)] dX7_lineOf_58 rfl (by decide) rfl ?_
            refine g_iinc X 1 (fun v => [(4, .int v), (3, .int zq18), (0, .ref (ad 47)), (1, .int x1), (2, .int x2)]) dX7_lineOf_59 rfl (by decide) (fun _ => rfl) (fun zq21 eq22 => ?_)
            have tq23 : zq21.toInt = b4_5 + 1 := add_nw eq22 e4_5 (show (Int32.ofInt 1).toInt = 1 by decide) (by omega)
            refine g_goto X (tgt := 5) dX7_lineOf_62 (by decide) ?_
            refine g_sub [0, 1, 2, 3, 4] rfl ?_
            exact ih5 zq21 _ tq23 zq18 _ tq20 (by omega) (by first | exact (by have := cntL_y i2 i1 (by omega) (by omega); omega) | exact (by have := cntL_n i2 i1 (by omega); omega)) (by omega) (by omega)
      · refine g_aload_n X 2 rfl dX7_lineOf_15 ?_
        refine g_getr X f_X7_31 dX7_lineOf_16 ?_
        refine g_iload X 0 rfl dX7_lineOf_19 ?_
        refine g_iald X la_55 e4_5 dX7_lineOf_21 (by omega) (x := Mq.1 55 b4_5.toNat) rfl ?_
        refine g_iload_n X 3 rfl dX7_lineOf_22 ?_
        refine g_icmp_ne X rfl t1 (tgt := 30) dX7_lineOf_23 (by decide) (fun cq24 => ?_) (fun cq24 => ?_)
        · refine g_iload_n X 1 rfl dX7_lineOf_30 ?_
          refine g_aload_n X 2 rfl dX7_lineOf_31 ?_
          refine g_getr X f_X7_126 dX7_lineOf_32 ?_
          refine g_iload X 0 rfl dX7_lineOf_35 ?_
          refine g_zald X la_85 e4_5 dX7_lineOf_37 (by omega) (x := Mq.1 85 b4_5.toNat) rfl ?_
          have bq25 := ig_85 Iq0 b4_5.toNat (by omega)
          refine g_if_eq X rfl (tgt := 56) dX7_lineOf_38 (by decide) (fun cq26 => ?_) (fun cq26 => ?_)
          · refine g_iconst X 0 dX7_lineOf_56 (by decide) ?_
            refine g_isub X dX7_lineOf_57 (fun zq27 eq28 => ?_)
            have tq29 : zq27.toInt = b3_5 - 0 := sub_nw eq28 e3_5 (show (0 : Int32).toInt = 0 by decide) (by omega)
            refine g_istore_n X (i := 3) [(3, .int zq27), (4, .int y4_5), (0, .ref (ad 47)), (1, .int x1), (2, .int x2)] dX7_lineOf_58 rfl (by decide) rfl ?_
            refine g_iinc X 1 (fun v => [(4, .int v), (3, .int zq27), (0, .ref (ad 47)), (1, .int x1), (2, .int x2)]) dX7_lineOf_59 rfl (by decide) (fun _ => rfl) (fun zq30 eq31 => ?_)
            have tq32 : zq30.toInt = b4_5 + 1 := add_nw eq31 e4_5 (show (Int32.ofInt 1).toInt = 1 by decide) (by omega)
            refine g_goto X (tgt := 5) dX7_lineOf_62 (by decide) ?_
            refine g_sub [0, 1, 2, 3, 4] rfl ?_
            exact ih5 zq30 _ tq32 zq27 _ tq29 (by omega) (by first | exact (by have := cntL_y i2 i1 (by omega) (by omega); omega) | exact (by have := cntL_n i2 i1 (by omega); omega)) (by omega) (by omega)
          · refine g_aload_n X 2 rfl dX7_lineOf_41 ?_
            refine g_getr X f_X7_31 dX7_lineOf_42 ?_
            refine g_iload X 0 rfl dX7_lineOf_45 ?_
            refine g_iald X la_55 e4_5 dX7_lineOf_47 (by omega) (x := Mq.1 55 b4_5.toNat) rfl ?_
            refine g_iload_n X 3 rfl dX7_lineOf_48 ?_
            refine g_icmp_ne X rfl t1 (tgt := 56) dX7_lineOf_49 (by decide) (fun cq33 => ?_) (fun cq33 => ?_)
            · refine g_iconst X 0 dX7_lineOf_56 (by decide) ?_
              refine g_isub X dX7_lineOf_57 (fun zq34 eq35 => ?_)
              have tq36 : zq34.toInt = b3_5 - 0 := sub_nw eq35 e3_5 (show (0 : Int32).toInt = 0 by decide) (by omega)
              refine g_istore_n X (i := 3) [(3, .int zq34), (4, .int y4_5), (0, .ref (ad 47)), (1, .int x1), (2, .int x2)] dX7_lineOf_58 rfl (by decide) rfl ?_
              refine g_iinc X 1 (fun v => [(4, .int v), (3, .int zq34), (0, .ref (ad 47)), (1, .int x1), (2, .int x2)]) dX7_lineOf_59 rfl (by decide) (fun _ => rfl) (fun zq37 eq38 => ?_)
              have tq39 : zq37.toInt = b4_5 + 1 := add_nw eq38 e4_5 (show (Int32.ofInt 1).toInt = 1 by decide) (by omega)
              refine g_goto X (tgt := 5) dX7_lineOf_62 (by decide) ?_
              refine g_sub [0, 1, 2, 3, 4] rfl ?_
              exact ih5 zq37 _ tq39 zq34 _ tq36 (by omega) (by first | exact (by have := cntL_y i2 i1 (by omega) (by omega); omega) | exact (by have := cntL_n i2 i1 (by omega); omega)) (by omega) (by omega)
            · refine g_iconst X 1 dX7_lineOf_52 (by decide) ?_
              refine g_goto X (tgt := 57) dX7_lineOf_53 (by decide) ?_
              refine g_isub X dX7_lineOf_57 (fun zq40 eq41 => ?_)
              have tq42 : zq40.toInt = b3_5 - 1 := sub_nw eq41 e3_5 (show (1 : Int32).toInt = 1 by decide) (by omega)
              refine g_istore_n X (i := 3) [(3, .int zq40), (4, .int y4_5), (0, .ref (ad 47)), (1, .int x1), (2, .int x2)] dX7_lineOf_58 rfl (by decide) rfl ?_
              refine g_iinc X 1 (fun v => [(4, .int v), (3, .int zq40), (0, .ref (ad 47)), (1, .int x1), (2, .int x2)]) dX7_lineOf_59 rfl (by decide) (fun _ => rfl) (fun zq43 eq44 => ?_)
              have tq45 : zq43.toInt = b4_5 + 1 := add_nw eq44 e4_5 (show (Int32.ofInt 1).toInt = 1 by decide) (by omega)
              refine g_goto X (tgt := 5) dX7_lineOf_62 (by decide) ?_
              refine g_sub [0, 1, 2, 3, 4] rfl ?_
              exact ih5 zq43 _ tq45 zq40 _ tq42 (by omega) (by first | exact (by have := cntL_y i2 i1 (by omega) (by omega); omega) | exact (by have := cntL_n i2 i1 (by omega); omega)) (by omega) (by omega)
        · refine g_iload_n X 1 rfl dX7_lineOf_26 ?_
          refine g_if_le X e3_5 (tgt := 65) dX7_lineOf_27 (by decide) (fun cq46 => ?_) (fun cq46 => ?_)
          · refine g_iload X 0 rfl dX7_lineOf_65 ?_
            exact g_iret X dX7_lineOf_67 ⟨_, _, rfl, e4_5, (by omega), rfl⟩
          · refine g_iload_n X 1 rfl dX7_lineOf_30 ?_
            refine g_aload_n X 2 rfl dX7_lineOf_31 ?_
            refine g_getr X f_X7_126 dX7_lineOf_32 ?_
            refine g_iload X 0 rfl dX7_lineOf_35 ?_
            refine g_zald X la_85 e4_5 dX7_lineOf_37 (by omega) (x := Mq.1 85 b4_5.toNat) rfl ?_
            have bq47 := ig_85 Iq0 b4_5.toNat (by omega)
            refine g_if_eq X rfl (tgt := 56) dX7_lineOf_38 (by decide) (fun cq48 => ?_) (fun cq48 => ?_)
            · refine g_iconst X 0 dX7_lineOf_56 (by decide) ?_
              refine g_isub X dX7_lineOf_57 (fun zq49 eq50 => ?_)
              have tq51 : zq49.toInt = b3_5 - 0 := sub_nw eq50 e3_5 (show (0 : Int32).toInt = 0 by decide) (by omega)
              refine g_istore_n X (i := 3) [(3, .int zq49), (4, .int y4_5), (0, .ref (ad 47)), (1, .int x1), (2, .int x2)] dX7_lineOf_58 rfl (by decide) rfl ?_
              refine g_iinc X 1 (fun v => [(4, .int v), (3, .int zq49), (0, .ref (ad 47)), (1, .int x1), (2, .int x2)]) dX7_lineOf_59 rfl (by decide) (fun _ => rfl) (fun zq52 eq53 => ?_)
              have tq54 : zq52.toInt = b4_5 + 1 := add_nw eq53 e4_5 (show (Int32.ofInt 1).toInt = 1 by decide) (by omega)
              refine g_goto X (tgt := 5) dX7_lineOf_62 (by decide) ?_
              refine g_sub [0, 1, 2, 3, 4] rfl ?_
              exact ih5 zq52 _ tq54 zq49 _ tq51 (by omega) (by first | exact (by have := cntL_y i2 i1 (by omega) (by omega); omega) | exact (by have := cntL_n i2 i1 (by omega); omega)) (by omega) (by omega)
            · refine g_aload_n X 2 rfl dX7_lineOf_41 ?_
              refine g_getr X f_X7_31 dX7_lineOf_42 ?_
              refine g_iload X 0 rfl dX7_lineOf_45 ?_
              refine g_iald X la_55 e4_5 dX7_lineOf_47 (by omega) (x := Mq.1 55 b4_5.toNat) rfl ?_
              refine g_iload_n X 3 rfl dX7_lineOf_48 ?_
              refine g_icmp_ne X rfl t1 (tgt := 56) dX7_lineOf_49 (by decide) (fun cq55 => ?_) (fun cq55 => ?_)
              · refine g_iconst X 0 dX7_lineOf_56 (by decide) ?_
                refine g_isub X dX7_lineOf_57 (fun zq56 eq57 => ?_)
                have tq58 : zq56.toInt = b3_5 - 0 := sub_nw eq57 e3_5 (show (0 : Int32).toInt = 0 by decide) (by omega)
                refine g_istore_n X (i := 3) [(3, .int zq56), (4, .int y4_5), (0, .ref (ad 47)), (1, .int x1), (2, .int x2)] dX7_lineOf_58 rfl (by decide) rfl ?_
                refine g_iinc X 1 (fun v => [(4, .int v), (3, .int zq56), (0, .ref (ad 47)), (1, .int x1), (2, .int x2)]) dX7_lineOf_59 rfl (by decide) (fun _ => rfl) (fun zq59 eq60 => ?_)
                have tq61 : zq59.toInt = b4_5 + 1 := add_nw eq60 e4_5 (show (Int32.ofInt 1).toInt = 1 by decide) (by omega)
                refine g_goto X (tgt := 5) dX7_lineOf_62 (by decide) ?_
                refine g_sub [0, 1, 2, 3, 4] rfl ?_
                exact ih5 zq59 _ tq61 zq56 _ tq58 (by omega) (by first | exact (by have := cntL_y i2 i1 (by omega) (by omega); omega) | exact (by have := cntL_n i2 i1 (by omega); omega)) (by omega) (by omega)
              · refine g_iconst X 1 dX7_lineOf_52 (by decide) ?_
                refine g_goto X (tgt := 57) dX7_lineOf_53 (by decide) ?_
                refine g_isub X dX7_lineOf_57 (fun zq62 eq63 => ?_)
                have tq64 : zq62.toInt = b3_5 - 1 := sub_nw eq63 e3_5 (show (1 : Int32).toInt = 1 by decide) (by omega)
                refine g_istore_n X (i := 3) [(3, .int zq62), (4, .int y4_5), (0, .ref (ad 47)), (1, .int x1), (2, .int x2)] dX7_lineOf_58 rfl (by decide) rfl ?_
                refine g_iinc X 1 (fun v => [(4, .int v), (3, .int zq62), (0, .ref (ad 47)), (1, .int x1), (2, .int x2)]) dX7_lineOf_59 rfl (by decide) (fun _ => rfl) (fun zq65 eq66 => ?_)
                have tq67 : zq65.toInt = b4_5 + 1 := add_nw eq66 e4_5 (show (Int32.ofInt 1).toInt = 1 by decide) (by omega)
                refine g_goto X (tgt := 5) dX7_lineOf_62 (by decide) ?_
                refine g_sub [0, 1, 2, 3, 4] rfl ?_
                exact ih5 zq65 _ tq67 zq62 _ tq64 (by omega) (by first | exact (by have := cntL_y i2 i1 (by omega) (by omega); omega) | exact (by have := cntL_n i2 i1 (by omega); omega)) (by omega) (by omega)
  refine g_sub [0, 1, 2, 3, 4] rfl ?_
  exact lp5 _ 0 _ (show (0 : Int32).toInt = 0 by decide) x2 _ t2 (by omega) (show a2 - a2 = 0 by omega) (by omega) (Nat.lt_succ_self _)
set_option maxHeartbeats 4000000 in
set_option maxRecDepth 4000 in
theorem c_X7_behind (ad : Nat → Nat) (Mq : Mem) (x1 : Int32) {a1 : Int} (t1 : x1.toInt = a1) (x2 : Int32) {a2 : Int} (t2 : x2.toInt = a2) (Iq0 : Iv TM Mq) {S0 : List Int} (h1 : 0 ≤ a1 ∧ a1 ≤ 7) (hw : skN (txt Mq a1.toNat) ((Mq.1 62 a1.toNat).toInt).toNat = some []) (h2 : 0 ≤ a2 ∧ a2 < ((Mq.1 62 a1.toNat).toInt)) (hS : skN (txt Mq a1.toNat) a2.toNat = some S0) (hO : (Mq.1 61 (60 * a1 + a2).toNat).toInt = 91 ∨ (Mq.1 61 (60 * a1 + a2).toNat).toInt = 123 ∨ (Mq.1 61 (60 * a1 + a2).toNat).toInt = 40) : Ctr ad yX7_behind cX7_behind 6 (some .int) 0 [.ref (ad 47), .int x1, .int x2] Mq (fun v M' => ∃ (r : Int32) (a : Int), v = some (.int r) ∧ r.toInt = a ∧ (0 ≤ a ∧ a < ((Mq.1 62 a1.toNat).toInt) ∧ ∃ s2, skN (txt Mq a1.toNat) (a.toNat + 1) = some s2 ∧ (s2 = S0 ∨ s2 = 124 :: S0)) ∧ Mq = M') := by
  refine ctr_of (L := [(0, .ref (ad 47)), (1, .int x1), (2, .int x2)]) (by decide) (Nat.le_of_ble_eq_true rfl) rfl ?_
  intro Γ X
  have X : gX Γ cX7_behind RX7 6 (some .int) 0 ad _ := X
  have g12 := ig_47_12 Iq0
  have g24 := ig_47_24 Iq0
  have g44 := ig_47_44 Iq0
  have g43 := ig_47_43 Iq0
  have g53 := ig_47_53 Iq0
  have g59 := ig_47_59 Iq0
  have g62 := ig_62 Iq0 a1.toNat (by omega)
  refine g_iconst X 0 dX7_behind_0 (by decide) ?_
  refine g_istore_n X (i := 3) [(3, .int 0), (0, .ref (ad 47)), (1, .int x1), (2, .int x2)] dX7_behind_1 rfl (by decide) rfl ?_
  refine g_iload_n X 3 rfl dX7_behind_2 ?_
  refine g_istore X [(4, .int x2), (3, .int 0), (0, .ref (ad 47)), (1, .int x1), (2, .int x2)] dX7_behind_3 (by decide) rfl ?_
  have lp5 : ∀ n : Nat, ∀ (y4_5 : Int32) (b4_5 : Int), y4_5.toInt = b4_5 → ∀ (y3_5 : Int32) (b3_5 : Int), y3_5.toInt = b3_5 → (BI (txt Mq a1.toNat) ((Mq.1 62 a1.toNat).toInt).toNat S0 b4_5 b3_5) → ((b4_5 = a2 ∧ b3_5 = 0) ∨ 1 ≤ b3_5) → (((Mq.1 62 a1.toNat).toInt) - b4_5).toNat < n → G Γ Mq 5 [(4, .int y4_5), (3, .int y3_5), (0, .ref (ad 47)), (1, .int x1), (2, .int x2)] [] := by
    intro n
    induction n with
    | zero => intro y4_5 b4_5 e4_5 y3_5 b3_5 e3_5 i1 i2 hm; exact absurd hm (Nat.not_lt_zero _)
    | succ n ih5 =>
      intro y4_5 b4_5 e4_5 y3_5 b3_5 e3_5 i1 i2 hm5
      have hb1 := i1.1
      have hb2 := i1.2.1
      have hbd := BI_d i1
      have htx := txt_at (M := Mq) (x := a1) (k := b4_5) (by omega) (by omega)
      have hO2 : b4_5 = a2 → ((Mq.1 61 (60 * a1 + b4_5).toNat).toInt = 91 ∨ (Mq.1 61 (60 * a1 + b4_5).toNat).toInt = 123 ∨ (Mq.1 61 (60 * a1 + b4_5).toNat).toInt = 40) := fun e => by rw [e]; exact hO
      refine g_aload_n X 2 rfl dX7_behind_5 ?_
      refine g_getr X f_X7_49 dX7_behind_6 ?_
      refine g_bipush X 60 dX7_behind_9 (by decide) ?_
      refine g_iload_n X 3 rfl dX7_behind_11 ?_
      refine g_imul X dX7_behind_12 (fun zq1 eq2 => ?_)
      have tq3 : zq1.toInt = 60 * a1 := mul_nw eq2 (show (60 : Int32).toInt = 60 by decide) t1 (by omega)
      refine g_iload X 0 rfl dX7_behind_13 ?_
      refine g_iadd X dX7_behind_15 (fun zq4 eq5 => ?_)
      have tq6 : zq4.toInt = (60 * a1) + b4_5 := add_nw eq5 tq3 e4_5 (by omega)
      refine g_iald X la_61 tq6 dX7_behind_16 (by omega) (x := Mq.1 61 (((60 * a1) + b4_5).toNat)) rfl ?_
      refine g_istore X [(5, .int (Mq.1 61 (((60 * a1) + b4_5).toNat))), (4, .int y4_5), (3, .int y3_5), (0, .ref (ad 47)), (1, .int x1), (2, .int x2)] dX7_behind_17 (by decide) rfl ?_
      refine g_iload X 0 rfl dX7_behind_19 ?_
      refine g_bipush X 91 dX7_behind_21 (by decide) ?_
      refine g_icmp_eq X rfl (show (91 : Int32).toInt = 91 by decide) (tgt := 40) dX7_behind_23 (by decide) (fun cq7 => ?_) (fun cq7 => ?_)
      · refine g_iinc X 2 (fun v => [(3, .int v), (5, .int (Mq.1 61 (((60 * a1) + b4_5).toNat))), (4, .int y4_5), (0, .ref (ad 47)), (1, .int x1), (2, .int x2)]) dX7_behind_40 rfl (by decide) (fun _ => rfl) (fun zq8 eq9 => ?_)
        have tq10 : zq8.toInt = b3_5 + 1 := add_nw eq9 e3_5 (show (Int32.ofInt 1).toInt = 1 by decide) (by omega)
        refine g_iload X 1 rfl dX7_behind_43 ?_
        refine g_bipush X 124 dX7_behind_45 (by decide) ?_
        refine g_icmp_ne X rfl (show (124 : Int32).toInt = 124 by decide) (tgt := 58) dX7_behind_47 (by decide) (fun cq11 => ?_) (fun cq11 => ?_)
        · refine g_iload X 1 rfl dX7_behind_58 ?_
          refine g_bipush X 93 dX7_behind_60 (by decide) ?_
          refine g_icmp_eq X rfl (show (93 : Int32).toInt = 93 by decide) (tgt := 79) dX7_behind_62 (by decide) (fun cq12 => ?_) (fun cq12 => ?_)
          · refine g_iinc X 0 (fun v => [(3, .int v), (5, .int (Mq.1 61 (((60 * a1) + b4_5).toNat))), (4, .int y4_5), (0, .ref (ad 47)), (1, .int x1), (2, .int x2)]) dX7_behind_79 rfl (by decide) (fun _ => rfl) (fun zq13 eq14 => ?_)
            have tq15 : zq13.toInt = (b3_5 + 1) + (-1) := add_nw eq14 tq10 (show (Int32.ofInt (-1)).toInt = (-1) by decide) (by omega)
            refine g_iload_n X 0 rfl dX7_behind_82 ?_
            refine g_if_ne X tq15 (tgt := 89) dX7_behind_83 (by decide) (fun cq16 => ?_) (fun cq16 => ?_)
            · refine g_iinc X 2 (fun v => [(4, .int v), (3, .int zq13), (5, .int (Mq.1 61 (((60 * a1) + b4_5).toNat))), (0, .ref (ad 47)), (1, .int x1), (2, .int x2)]) dX7_behind_89 rfl (by decide) (fun _ => rfl) (fun zq17 eq18 => ?_)
              have tq19 : zq17.toInt = b4_5 + 1 := add_nw eq18 e4_5 (show (Int32.ofInt 1).toInt = 1 by decide) (by omega)
              refine g_goto X (tgt := 5) dX7_behind_92 (by decide) ?_
              refine g_sub [0, 1, 3, 4, 5] rfl ?_
              exact ih5 zq17 _ tq19 zq13 _ tq15 (BI_next hw i1 (by rw [htx]; unfold dlt; (repeat' split) <;> omega) (by omega)) (by omega) (by omega)
            · refine g_iload X 2 rfl dX7_behind_86 ?_
              exact g_iret X dX7_behind_88 ⟨_, _, rfl, e4_5, ⟨by omega, by omega, (by first | exact ⟨_, (BI_bar hw ((show b3_5 = 1 by omega) ▸ i1) (by rw [htx]; omega)).2, Or.inr rfl⟩ | exact ⟨_, (BI_last hw i1 (by rw [htx]; unfold dlt; (repeat' split) <;> omega) (by omega)).2, Or.inl rfl⟩)⟩, rfl⟩
          · refine g_iload X 1 rfl dX7_behind_65 ?_
            refine g_bipush X 125 dX7_behind_67 (by decide) ?_
            refine g_icmp_eq X rfl (show (125 : Int32).toInt = 125 by decide) (tgt := 79) dX7_behind_69 (by decide) (fun cq20 => ?_) (fun cq20 => ?_)
            · refine g_iinc X 0 (fun v => [(3, .int v), (5, .int (Mq.1 61 (((60 * a1) + b4_5).toNat))), (4, .int y4_5), (0, .ref (ad 47)), (1, .int x1), (2, .int x2)]) dX7_behind_79 rfl (by decide) (fun _ => rfl) (fun zq21 eq22 => ?_)
              have tq23 : zq21.toInt = (b3_5 + 1) + (-1) := add_nw eq22 tq10 (show (Int32.ofInt (-1)).toInt = (-1) by decide) (by omega)
              refine g_iload_n X 0 rfl dX7_behind_82 ?_
              refine g_if_ne X tq23 (tgt := 89) dX7_behind_83 (by decide) (fun cq24 => ?_) (fun cq24 => ?_)
              · refine g_iinc X 2 (fun v => [(4, .int v), (3, .int zq21), (5, .int (Mq.1 61 (((60 * a1) + b4_5).toNat))), (0, .ref (ad 47)), (1, .int x1), (2, .int x2)]) dX7_behind_89 rfl (by decide) (fun _ => rfl) (fun zq25 eq26 => ?_)
                have tq27 : zq25.toInt = b4_5 + 1 := add_nw eq26 e4_5 (show (Int32.ofInt 1).toInt = 1 by decide) (by omega)
                refine g_goto X (tgt := 5) dX7_behind_92 (by decide) ?_
                refine g_sub [0, 1, 3, 4, 5] rfl ?_
                exact ih5 zq25 _ tq27 zq21 _ tq23 (BI_next hw i1 (by rw [htx]; unfold dlt; (repeat' split) <;> omega) (by omega)) (by omega) (by omega)
              · refine g_iload X 2 rfl dX7_behind_86 ?_
                exact g_iret X dX7_behind_88 ⟨_, _, rfl, e4_5, ⟨by omega, by omega, (by first | exact ⟨_, (BI_bar hw ((show b3_5 = 1 by omega) ▸ i1) (by rw [htx]; omega)).2, Or.inr rfl⟩ | exact ⟨_, (BI_last hw i1 (by rw [htx]; unfold dlt; (repeat' split) <;> omega) (by omega)).2, Or.inl rfl⟩)⟩, rfl⟩
            · refine g_iload X 1 rfl dX7_behind_72 ?_
              refine g_bipush X 41 dX7_behind_74 (by decide) ?_
              refine g_icmp_ne X rfl (show (41 : Int32).toInt = 41 by decide) (tgt := 89) dX7_behind_76 (by decide) (fun cq28 => ?_) (fun cq28 => ?_)
              · refine g_iinc X 2 (fun v => [(4, .int v), (3, .int zq8), (5, .int (Mq.1 61 (((60 * a1) + b4_5).toNat))), (0, .ref (ad 47)), (1, .int x1), (2, .int x2)]) dX7_behind_89 rfl (by decide) (fun _ => rfl) (fun zq29 eq30 => ?_)
                have tq31 : zq29.toInt = b4_5 + 1 := add_nw eq30 e4_5 (show (Int32.ofInt 1).toInt = 1 by decide) (by omega)
                refine g_goto X (tgt := 5) dX7_behind_92 (by decide) ?_
                refine g_sub [0, 1, 3, 4, 5] rfl ?_
                exact ih5 zq29 _ tq31 zq8 _ tq10 (BI_next hw i1 (by rw [htx]; unfold dlt; (repeat' split) <;> omega) (by omega)) (by omega) (by omega)
              · refine g_iinc X 0 (fun v => [(3, .int v), (5, .int (Mq.1 61 (((60 * a1) + b4_5).toNat))), (4, .int y4_5), (0, .ref (ad 47)), (1, .int x1), (2, .int x2)]) dX7_behind_79 rfl (by decide) (fun _ => rfl) (fun zq32 eq33 => ?_)
                have tq34 : zq32.toInt = (b3_5 + 1) + (-1) := add_nw eq33 tq10 (show (Int32.ofInt (-1)).toInt = (-1) by decide) (by omega)
                refine g_iload_n X 0 rfl dX7_behind_82 ?_
                refine g_if_ne X tq34 (tgt := 89) dX7_behind_83 (by decide) (fun cq35 => ?_) (fun cq35 => ?_)
                · refine g_iinc X 2 (fun v => [(4, .int v), (3, .int zq32), (5, .int (Mq.1 61 (((60 * a1) + b4_5).toNat))), (0, .ref (ad 47)), (1, .int x1), (2, .int x2)]) dX7_behind_89 rfl (by decide) (fun _ => rfl) (fun zq36 eq37 => ?_)
                  have tq38 : zq36.toInt = b4_5 + 1 := add_nw eq37 e4_5 (show (Int32.ofInt 1).toInt = 1 by decide) (by omega)
                  refine g_goto X (tgt := 5) dX7_behind_92 (by decide) ?_
                  refine g_sub [0, 1, 3, 4, 5] rfl ?_
                  exact ih5 zq36 _ tq38 zq32 _ tq34 (BI_next hw i1 (by rw [htx]; unfold dlt; (repeat' split) <;> omega) (by omega)) (by omega) (by omega)
                · refine g_iload X 2 rfl dX7_behind_86 ?_
                  exact g_iret X dX7_behind_88 ⟨_, _, rfl, e4_5, ⟨by omega, by omega, (by first | exact ⟨_, (BI_bar hw ((show b3_5 = 1 by omega) ▸ i1) (by rw [htx]; omega)).2, Or.inr rfl⟩ | exact ⟨_, (BI_last hw i1 (by rw [htx]; unfold dlt; (repeat' split) <;> omega) (by omega)).2, Or.inl rfl⟩)⟩, rfl⟩
        · refine g_iload_n X 0 rfl dX7_behind_50 ?_
          refine g_iconst X 1 dX7_behind_51 (by decide) ?_
          refine g_icmp_ne X tq10 (show (1 : Int32).toInt = 1 by decide) (tgt := 58) dX7_behind_52 (by decide) (fun cq39 => ?_) (fun cq39 => ?_)
          · refine g_iload X 1 rfl dX7_behind_58 ?_
            refine g_bipush X 93 dX7_behind_60 (by decide) ?_
            refine g_icmp_eq X rfl (show (93 : Int32).toInt = 93 by decide) (tgt := 79) dX7_behind_62 (by decide) (fun cq40 => ?_) (fun cq40 => ?_)
            · refine g_iinc X 0 (fun v => [(3, .int v), (5, .int (Mq.1 61 (((60 * a1) + b4_5).toNat))), (4, .int y4_5), (0, .ref (ad 47)), (1, .int x1), (2, .int x2)]) dX7_behind_79 rfl (by decide) (fun _ => rfl) (fun zq41 eq42 => ?_)
              have tq43 : zq41.toInt = (b3_5 + 1) + (-1) := add_nw eq42 tq10 (show (Int32.ofInt (-1)).toInt = (-1) by decide) (by omega)
              refine g_iload_n X 0 rfl dX7_behind_82 ?_
              refine g_if_ne X tq43 (tgt := 89) dX7_behind_83 (by decide) (fun cq44 => ?_) (fun cq44 => ?_)
              · refine g_iinc X 2 (fun v => [(4, .int v), (3, .int zq41), (5, .int (Mq.1 61 (((60 * a1) + b4_5).toNat))), (0, .ref (ad 47)), (1, .int x1), (2, .int x2)]) dX7_behind_89 rfl (by decide) (fun _ => rfl) (fun zq45 eq46 => ?_)
                have tq47 : zq45.toInt = b4_5 + 1 := add_nw eq46 e4_5 (show (Int32.ofInt 1).toInt = 1 by decide) (by omega)
                refine g_goto X (tgt := 5) dX7_behind_92 (by decide) ?_
                refine g_sub [0, 1, 3, 4, 5] rfl ?_
                exact ih5 zq45 _ tq47 zq41 _ tq43 (BI_next hw i1 (by rw [htx]; unfold dlt; (repeat' split) <;> omega) (by omega)) (by omega) (by omega)
              · refine g_iload X 2 rfl dX7_behind_86 ?_
                exact g_iret X dX7_behind_88 ⟨_, _, rfl, e4_5, ⟨by omega, by omega, (by first | exact ⟨_, (BI_bar hw ((show b3_5 = 1 by omega) ▸ i1) (by rw [htx]; omega)).2, Or.inr rfl⟩ | exact ⟨_, (BI_last hw i1 (by rw [htx]; unfold dlt; (repeat' split) <;> omega) (by omega)).2, Or.inl rfl⟩)⟩, rfl⟩
            · refine g_iload X 1 rfl dX7_behind_65 ?_
              refine g_bipush X 125 dX7_behind_67 (by decide) ?_
              refine g_icmp_eq X rfl (show (125 : Int32).toInt = 125 by decide) (tgt := 79) dX7_behind_69 (by decide) (fun cq48 => ?_) (fun cq48 => ?_)
              · refine g_iinc X 0 (fun v => [(3, .int v), (5, .int (Mq.1 61 (((60 * a1) + b4_5).toNat))), (4, .int y4_5), (0, .ref (ad 47)), (1, .int x1), (2, .int x2)]) dX7_behind_79 rfl (by decide) (fun _ => rfl) (fun zq49 eq50 => ?_)
                have tq51 : zq49.toInt = (b3_5 + 1) + (-1) := add_nw eq50 tq10 (show (Int32.ofInt (-1)).toInt = (-1) by decide) (by omega)
                refine g_iload_n X 0 rfl dX7_behind_82 ?_
                refine g_if_ne X tq51 (tgt := 89) dX7_behind_83 (by decide) (fun cq52 => ?_) (fun cq52 => ?_)
                · refine g_iinc X 2 (fun v => [(4, .int v), (3, .int zq49), (5, .int (Mq.1 61 (((60 * a1) + b4_5).toNat))), (0, .ref (ad 47)), (1, .int x1), (2, .int x2)]) dX7_behind_89 rfl (by decide) (fun _ => rfl) (fun zq53 eq54 => ?_)
                  have tq55 : zq53.toInt = b4_5 + 1 := add_nw eq54 e4_5 (show (Int32.ofInt 1).toInt = 1 by decide) (by omega)
                  refine g_goto X (tgt := 5) dX7_behind_92 (by decide) ?_
                  refine g_sub [0, 1, 3, 4, 5] rfl ?_
                  exact ih5 zq53 _ tq55 zq49 _ tq51 (BI_next hw i1 (by rw [htx]; unfold dlt; (repeat' split) <;> omega) (by omega)) (by omega) (by omega)
                · refine g_iload X 2 rfl dX7_behind_86 ?_
                  exact g_iret X dX7_behind_88 ⟨_, _, rfl, e4_5, ⟨by omega, by omega, (by first | exact ⟨_, (BI_bar hw ((show b3_5 = 1 by omega) ▸ i1) (by rw [htx]; omega)).2, Or.inr rfl⟩ | exact ⟨_, (BI_last hw i1 (by rw [htx]; unfold dlt; (repeat' split) <;> omega) (by omega)).2, Or.inl rfl⟩)⟩, rfl⟩
              · refine g_iload X 1 rfl dX7_behind_72 ?_
                refine g_bipush X 41 dX7_behind_74 (by decide) ?_
                refine g_icmp_ne X rfl (show (41 : Int32).toInt = 41 by decide) (tgt := 89) dX7_behind_76 (by decide) (fun cq56 => ?_) (fun cq56 => ?_)
                · refine g_iinc X 2 (fun v => [(4, .int v), (3, .int zq8), (5, .int (Mq.1 61 (((60 * a1) + b4_5).toNat))), (0, .ref (ad 47)), (1, .int x1), (2, .int x2)]) dX7_behind_89 rfl (by decide) (fun _ => rfl) (fun zq57 eq58 => ?_)
                  have tq59 : zq57.toInt = b4_5 + 1 := add_nw eq58 e4_5 (show (Int32.ofInt 1).toInt = 1 by decide) (by omega)
                  refine g_goto X (tgt := 5) dX7_behind_92 (by decide) ?_
                  refine g_sub [0, 1, 3, 4, 5] rfl ?_
                  exact ih5 zq57 _ tq59 zq8 _ tq10 (BI_next hw i1 (by rw [htx]; unfold dlt; (repeat' split) <;> omega) (by omega)) (by omega) (by omega)
                · refine g_iinc X 0 (fun v => [(3, .int v), (5, .int (Mq.1 61 (((60 * a1) + b4_5).toNat))), (4, .int y4_5), (0, .ref (ad 47)), (1, .int x1), (2, .int x2)]) dX7_behind_79 rfl (by decide) (fun _ => rfl) (fun zq60 eq61 => ?_)
                  have tq62 : zq60.toInt = (b3_5 + 1) + (-1) := add_nw eq61 tq10 (show (Int32.ofInt (-1)).toInt = (-1) by decide) (by omega)
                  refine g_iload_n X 0 rfl dX7_behind_82 ?_
                  refine g_if_ne X tq62 (tgt := 89) dX7_behind_83 (by decide) (fun cq63 => ?_) (fun cq63 => ?_)
                  · refine g_iinc X 2 (fun v => [(4, .int v), (3, .int zq60), (5, .int (Mq.1 61 (((60 * a1) + b4_5).toNat))), (0, .ref (ad 47)), (1, .int x1), (2, .int x2)]) dX7_behind_89 rfl (by decide) (fun _ => rfl) (fun zq64 eq65 => ?_)
                    have tq66 : zq64.toInt = b4_5 + 1 := add_nw eq65 e4_5 (show (Int32.ofInt 1).toInt = 1 by decide) (by omega)
                    refine g_goto X (tgt := 5) dX7_behind_92 (by decide) ?_
                    refine g_sub [0, 1, 3, 4, 5] rfl ?_
                    exact ih5 zq64 _ tq66 zq60 _ tq62 (BI_next hw i1 (by rw [htx]; unfold dlt; (repeat' split) <;> omega) (by omega)) (by omega) (by omega)
                  · refine g_iload X 2 rfl dX7_behind_86 ?_
                    exact g_iret X dX7_behind_88 ⟨_, _, rfl, e4_5, ⟨by omega, by omega, (by first | exact ⟨_, (BI_bar hw ((show b3_5 = 1 by omega) ▸ i1) (by rw [htx]; omega)).2, Or.inr rfl⟩ | exact ⟨_, (BI_last hw i1 (by rw [htx]; unfold dlt; (repeat' split) <;> omega) (by omega)).2, Or.inl rfl⟩)⟩, rfl⟩
          · refine g_iload X 2 rfl dX7_behind_55 ?_
            exact g_iret X dX7_behind_57 ⟨_, _, rfl, e4_5, ⟨by omega, by omega, (by first | exact ⟨_, (BI_bar hw ((show b3_5 = 1 by omega) ▸ i1) (by rw [htx]; omega)).2, Or.inr rfl⟩ | exact ⟨_, (BI_last hw i1 (by rw [htx]; unfold dlt; (repeat' split) <;> omega) (by omega)).2, Or.inl rfl⟩)⟩, rfl⟩
      · refine g_iload X 0 rfl dX7_behind_26 ?_
        refine g_bipush X 123 dX7_behind_28 (by decide) ?_
        refine g_icmp_eq X rfl (show (123 : Int32).toInt = 123 by decide) (tgt := 40) dX7_behind_30 (by decide) (fun cq67 => ?_) (fun cq67 => ?_)
        · refine g_iinc X 2 (fun v => [(3, .int v), (5, .int (Mq.1 61 (((60 * a1) + b4_5).toNat))), (4, .int y4_5), (0, .ref (ad 47)), (1, .int x1), (2, .int x2)]) dX7_behind_40 rfl (by decide) (fun _ => rfl) (fun zq68 eq69 => ?_)
          have tq70 : zq68.toInt = b3_5 + 1 := add_nw eq69 e3_5 (show (Int32.ofInt 1).toInt = 1 by decide) (by omega)
          refine g_iload X 1 rfl dX7_behind_43 ?_
          refine g_bipush X 124 dX7_behind_45 (by decide) ?_
          refine g_icmp_ne X rfl (show (124 : Int32).toInt = 124 by decide) (tgt := 58) dX7_behind_47 (by decide) (fun cq71 => ?_) (fun cq71 => ?_)
          · refine g_iload X 1 rfl dX7_behind_58 ?_
            refine g_bipush X 93 dX7_behind_60 (by decide) ?_
            refine g_icmp_eq X rfl (show (93 : Int32).toInt = 93 by decide) (tgt := 79) dX7_behind_62 (by decide) (fun cq72 => ?_) (fun cq72 => ?_)
            · refine g_iinc X 0 (fun v => [(3, .int v), (5, .int (Mq.1 61 (((60 * a1) + b4_5).toNat))), (4, .int y4_5), (0, .ref (ad 47)), (1, .int x1), (2, .int x2)]) dX7_behind_79 rfl (by decide) (fun _ => rfl) (fun zq73 eq74 => ?_)
              have tq75 : zq73.toInt = (b3_5 + 1) + (-1) := add_nw eq74 tq70 (show (Int32.ofInt (-1)).toInt = (-1) by decide) (by omega)
              refine g_iload_n X 0 rfl dX7_behind_82 ?_
              refine g_if_ne X tq75 (tgt := 89) dX7_behind_83 (by decide) (fun cq76 => ?_) (fun cq76 => ?_)
              · refine g_iinc X 2 (fun v => [(4, .int v), (3, .int zq73), (5, .int (Mq.1 61 (((60 * a1) + b4_5).toNat))), (0, .ref (ad 47)), (1, .int x1), (2, .int x2)]) dX7_behind_89 rfl (by decide) (fun _ => rfl) (fun zq77 eq78 => ?_)
                have tq79 : zq77.toInt = b4_5 + 1 := add_nw eq78 e4_5 (show (Int32.ofInt 1).toInt = 1 by decide) (by omega)
                refine g_goto X (tgt := 5) dX7_behind_92 (by decide) ?_
                refine g_sub [0, 1, 3, 4, 5] rfl ?_
                exact ih5 zq77 _ tq79 zq73 _ tq75 (BI_next hw i1 (by rw [htx]; unfold dlt; (repeat' split) <;> omega) (by omega)) (by omega) (by omega)
              · refine g_iload X 2 rfl dX7_behind_86 ?_
                exact g_iret X dX7_behind_88 ⟨_, _, rfl, e4_5, ⟨by omega, by omega, (by first | exact ⟨_, (BI_bar hw ((show b3_5 = 1 by omega) ▸ i1) (by rw [htx]; omega)).2, Or.inr rfl⟩ | exact ⟨_, (BI_last hw i1 (by rw [htx]; unfold dlt; (repeat' split) <;> omega) (by omega)).2, Or.inl rfl⟩)⟩, rfl⟩
            · refine g_iload X 1 rfl dX7_behind_65 ?_
              refine g_bipush X 125 dX7_behind_67 (by decide) ?_
              refine g_icmp_eq X rfl (show (125 : Int32).toInt = 125 by decide) (tgt := 79) dX7_behind_69 (by decide) (fun cq80 => ?_) (fun cq80 => ?_)
              · refine g_iinc X 0 (fun v => [(3, .int v), (5, .int (Mq.1 61 (((60 * a1) + b4_5).toNat))), (4, .int y4_5), (0, .ref (ad 47)), (1, .int x1), (2, .int x2)]) dX7_behind_79 rfl (by decide) (fun _ => rfl) (fun zq81 eq82 => ?_)
                have tq83 : zq81.toInt = (b3_5 + 1) + (-1) := add_nw eq82 tq70 (show (Int32.ofInt (-1)).toInt = (-1) by decide) (by omega)
                refine g_iload_n X 0 rfl dX7_behind_82 ?_
                refine g_if_ne X tq83 (tgt := 89) dX7_behind_83 (by decide) (fun cq84 => ?_) (fun cq84 => ?_)
                · refine g_iinc X 2 (fun v => [(4, .int v), (3, .int zq81), (5, .int (Mq.1 61 (((60 * a1) + b4_5).toNat))), (0, .ref (ad 47)), (1, .int x1), (2, .int x2)]) dX7_behind_89 rfl (by decide) (fun _ => rfl) (fun zq85 eq86 => ?_)
                  have tq87 : zq85.toInt = b4_5 + 1 := add_nw eq86 e4_5 (show (Int32.ofInt 1).toInt = 1 by decide) (by omega)
                  refine g_goto X (tgt := 5) dX7_behind_92 (by decide) ?_
                  refine g_sub [0, 1, 3, 4, 5] rfl ?_
                  exact ih5 zq85 _ tq87 zq81 _ tq83 (BI_next hw i1 (by rw [htx]; unfold dlt; (repeat' split) <;> omega) (by omega)) (by omega) (by omega)
                · refine g_iload X 2 rfl dX7_behind_86 ?_
                  exact g_iret X dX7_behind_88 ⟨_, _, rfl, e4_5, ⟨by omega, by omega, (by first | exact ⟨_, (BI_bar hw ((show b3_5 = 1 by omega) ▸ i1) (by rw [htx]; omega)).2, Or.inr rfl⟩ | exact ⟨_, (BI_last hw i1 (by rw [htx]; unfold dlt; (repeat' split) <;> omega) (by omega)).2, Or.inl rfl⟩)⟩, rfl⟩
              · refine g_iload X 1 rfl dX7_behind_72 ?_
                refine g_bipush X 41 dX7_behind_74 (by decide) ?_
                refine g_icmp_ne X rfl (show (41 : Int32).toInt = 41 by decide) (tgt := 89) dX7_behind_76 (by decide) (fun cq88 => ?_) (fun cq88 => ?_)
                · refine g_iinc X 2 (fun v => [(4, .int v), (3, .int zq68), (5, .int (Mq.1 61 (((60 * a1) + b4_5).toNat))), (0, .ref (ad 47)), (1, .int x1), (2, .int x2)]) dX7_behind_89 rfl (by decide) (fun _ => rfl) (fun zq89 eq90 => ?_)
                  have tq91 : zq89.toInt = b4_5 + 1 := add_nw eq90 e4_5 (show (Int32.ofInt 1).toInt = 1 by decide) (by omega)
                  refine g_goto X (tgt := 5) dX7_behind_92 (by decide) ?_
                  refine g_sub [0, 1, 3, 4, 5] rfl ?_
                  exact ih5 zq89 _ tq91 zq68 _ tq70 (BI_next hw i1 (by rw [htx]; unfold dlt; (repeat' split) <;> omega) (by omega)) (by omega) (by omega)
                · refine g_iinc X 0 (fun v => [(3, .int v), (5, .int (Mq.1 61 (((60 * a1) + b4_5).toNat))), (4, .int y4_5), (0, .ref (ad 47)), (1, .int x1), (2, .int x2)]) dX7_behind_79 rfl (by decide) (fun _ => rfl) (fun zq92 eq93 => ?_)
                  have tq94 : zq92.toInt = (b3_5 + 1) + (-1) := add_nw eq93 tq70 (show (Int32.ofInt (-1)).toInt = (-1) by decide) (by omega)
                  refine g_iload_n X 0 rfl dX7_behind_82 ?_
                  refine g_if_ne X tq94 (tgt := 89) dX7_behind_83 (by decide) (fun cq95 => ?_) (fun cq95 => ?_)
                  · refine g_iinc X 2 (fun v => [(4, .int v), (3, .int zq92), (5, .int (Mq.1 61 (((60 * a1) + b4_5).toNat))), (0, .ref (ad 47)), (1, .int x1), (2, .int x2)]) dX7_behind_89 rfl (by decide) (fun _ => rfl) (fun zq96 eq97 => ?_)
                    have tq98 : zq96.toInt = b4_5 + 1 := add_nw eq97 e4_5 (show (Int32.ofInt 1).toInt = 1 by decide) (by omega)
                    refine g_goto X (tgt := 5) dX7_behind_92 (by decide) ?_
                    refine g_sub [0, 1, 3, 4, 5] rfl ?_
                    exact ih5 zq96 _ tq98 zq92 _ tq94 (BI_next hw i1 (by rw [htx]; unfold dlt; (repeat' split) <;> omega) (by omega)) (by omega) (by omega)
                  · refine g_iload X 2 rfl dX7_behind_86 ?_
                    exact g_iret X dX7_behind_88 ⟨_, _, rfl, e4_5, ⟨by omega, by omega, (by first | exact ⟨_, (BI_bar hw ((show b3_5 = 1 by omega) ▸ i1) (by rw [htx]; omega)).2, Or.inr rfl⟩ | exact ⟨_, (BI_last hw i1 (by rw [htx]; unfold dlt; (repeat' split) <;> omega) (by omega)).2, Or.inl rfl⟩)⟩, rfl⟩
          · refine g_iload_n X 0 rfl dX7_behind_50 ?_
            refine g_iconst X 1 dX7_behind_51 (by decide) ?_
            refine g_icmp_ne X tq70 (show (1 : Int32).toInt = 1 by decide) (tgt := 58) dX7_behind_52 (by decide) (fun cq99 => ?_) (fun cq99 => ?_)
            · refine g_iload X 1 rfl dX7_behind_58 ?_
              refine g_bipush X 93 dX7_behind_60 (by decide) ?_
              refine g_icmp_eq X rfl (show (93 : Int32).toInt = 93 by decide) (tgt := 79) dX7_behind_62 (by decide) (fun cq100 => ?_) (fun cq100 => ?_)
              · refine g_iinc X 0 (fun v => [(3, .int v), (5, .int (Mq.1 61 (((60 * a1) + b4_5).toNat))), (4, .int y4_5), (0, .ref (ad 47)), (1, .int x1), (2, .int x2)]) dX7_behind_79 rfl (by decide) (fun _ => rfl) (fun zq101 eq102 => ?_)
                have tq103 : zq101.toInt = (b3_5 + 1) + (-1) := add_nw eq102 tq70 (show (Int32.ofInt (-1)).toInt = (-1) by decide) (by omega)
                refine g_iload_n X 0 rfl dX7_behind_82 ?_
                refine g_if_ne X tq103 (tgt := 89) dX7_behind_83 (by decide) (fun cq104 => ?_) (fun cq104 => ?_)
                · refine g_iinc X 2 (fun v => [(4, .int v), (3, .int zq101), (5, .int (Mq.1 61 (((60 * a1) + b4_5).toNat))), (0, .ref (ad 47)), (1, .int x1), (2, .int x2)]) dX7_behind_89 rfl (by decide) (fun _ => rfl) (fun zq105 eq106 => ?_)
                  have tq107 : zq105.toInt = b4_5 + 1 := add_nw eq106 e4_5 (show (Int32.ofInt 1).toInt = 1 by decide) (by omega)
                  refine g_goto X (tgt := 5) dX7_behind_92 (by decide) ?_
                  refine g_sub [0, 1, 3, 4, 5] rfl ?_
                  exact ih5 zq105 _ tq107 zq101 _ tq103 (BI_next hw i1 (by rw [htx]; unfold dlt; (repeat' split) <;> omega) (by omega)) (by omega) (by omega)
                · refine g_iload X 2 rfl dX7_behind_86 ?_
                  exact g_iret X dX7_behind_88 ⟨_, _, rfl, e4_5, ⟨by omega, by omega, (by first | exact ⟨_, (BI_bar hw ((show b3_5 = 1 by omega) ▸ i1) (by rw [htx]; omega)).2, Or.inr rfl⟩ | exact ⟨_, (BI_last hw i1 (by rw [htx]; unfold dlt; (repeat' split) <;> omega) (by omega)).2, Or.inl rfl⟩)⟩, rfl⟩
              · refine g_iload X 1 rfl dX7_behind_65 ?_
                refine g_bipush X 125 dX7_behind_67 (by decide) ?_
                refine g_icmp_eq X rfl (show (125 : Int32).toInt = 125 by decide) (tgt := 79) dX7_behind_69 (by decide) (fun cq108 => ?_) (fun cq108 => ?_)
                · refine g_iinc X 0 (fun v => [(3, .int v), (5, .int (Mq.1 61 (((60 * a1) + b4_5).toNat))), (4, .int y4_5), (0, .ref (ad 47)), (1, .int x1), (2, .int x2)]) dX7_behind_79 rfl (by decide) (fun _ => rfl) (fun zq109 eq110 => ?_)
                  have tq111 : zq109.toInt = (b3_5 + 1) + (-1) := add_nw eq110 tq70 (show (Int32.ofInt (-1)).toInt = (-1) by decide) (by omega)
                  refine g_iload_n X 0 rfl dX7_behind_82 ?_
                  refine g_if_ne X tq111 (tgt := 89) dX7_behind_83 (by decide) (fun cq112 => ?_) (fun cq112 => ?_)
                  · refine g_iinc X 2 (fun v => [(4, .int v), (3, .int zq109), (5, .int (Mq.1 61 (((60 * a1) + b4_5).toNat))), (0, .ref (ad 47)), (1, .int x1), (2, .int x2)]) dX7_behind_89 rfl (by decide) (fun _ => rfl) (fun zq113 eq114 => ?_)
                    have tq115 : zq113.toInt = b4_5 + 1 := add_nw eq114 e4_5 (show (Int32.ofInt 1).toInt = 1 by decide) (by omega)
                    refine g_goto X (tgt := 5) dX7_behind_92 (by decide) ?_
                    refine g_sub [0, 1, 3, 4, 5] rfl ?_
                    exact ih5 zq113 _ tq115 zq109 _ tq111 (BI_next hw i1 (by rw [htx]; unfold dlt; (repeat' split) <;> omega) (by omega)) (by omega) (by omega)
                  · refine g_iload X 2 rfl dX7_behind_86 ?_
                    exact g_iret X dX7_behind_88 ⟨_, _, rfl, e4_5, ⟨by omega, by omega, (by first | exact ⟨_, (BI_bar hw ((show b3_5 = 1 by omega) ▸ i1) (by rw [htx]; omega)).2, Or.inr rfl⟩ | exact ⟨_, (BI_last hw i1 (by rw [htx]; unfold dlt; (repeat' split) <;> omega) (by omega)).2, Or.inl rfl⟩)⟩, rfl⟩
                · refine g_iload X 1 rfl dX7_behind_72 ?_
                  refine g_bipush X 41 dX7_behind_74 (by decide) ?_
                  refine g_icmp_ne X rfl (show (41 : Int32).toInt = 41 by decide) (tgt := 89) dX7_behind_76 (by decide) (fun cq116 => ?_) (fun cq116 => ?_)
                  · refine g_iinc X 2 (fun v => [(4, .int v), (3, .int zq68), (5, .int (Mq.1 61 (((60 * a1) + b4_5).toNat))), (0, .ref (ad 47)), (1, .int x1), (2, .int x2)]) dX7_behind_89 rfl (by decide) (fun _ => rfl) (fun zq117 eq118 => ?_)
                    have tq119 : zq117.toInt = b4_5 + 1 := add_nw eq118 e4_5 (show (Int32.ofInt 1).toInt = 1 by decide) (by omega)
                    refine g_goto X (tgt := 5) dX7_behind_92 (by decide) ?_
                    refine g_sub [0, 1, 3, 4, 5] rfl ?_
                    exact ih5 zq117 _ tq119 zq68 _ tq70 (BI_next hw i1 (by rw [htx]; unfold dlt; (repeat' split) <;> omega) (by omega)) (by omega) (by omega)
                  · refine g_iinc X 0 (fun v => [(3, .int v), (5, .int (Mq.1 61 (((60 * a1) + b4_5).toNat))), (4, .int y4_5), (0, .ref (ad 47)), (1, .int x1), (2, .int x2)]) dX7_behind_79 rfl (by decide) (fun _ => rfl) (fun zq120 eq121 => ?_)
                    have tq122 : zq120.toInt = (b3_5 + 1) + (-1) := add_nw eq121 tq70 (show (Int32.ofInt (-1)).toInt = (-1) by decide) (by omega)
                    refine g_iload_n X 0 rfl dX7_behind_82 ?_
                    refine g_if_ne X tq122 (tgt := 89) dX7_behind_83 (by decide) (fun cq123 => ?_) (fun cq123 => ?_)
                    · refine g_iinc X 2 (fun v => [(4, .int v), (3, .int zq120), (5, .int (Mq.1 61 (((60 * a1) + b4_5).toNat))), (0, .ref (ad 47)), (1, .int x1), (2, .int x2)]) dX7_behind_89 rfl (by decide) (fun _ => rfl) (fun zq124 eq125 => ?_)
                      have tq126 : zq124.toInt = b4_5 + 1 := add_nw eq125 e4_5 (show (Int32.ofInt 1).toInt = 1 by decide) (by omega)
                      refine g_goto X (tgt := 5) dX7_behind_92 (by decide) ?_
                      refine g_sub [0, 1, 3, 4, 5] rfl ?_
                      exact ih5 zq124 _ tq126 zq120 _ tq122 (BI_next hw i1 (by rw [htx]; unfold dlt; (repeat' split) <;> omega) (by omega)) (by omega) (by omega)
                    · refine g_iload X 2 rfl dX7_behind_86 ?_
                      exact g_iret X dX7_behind_88 ⟨_, _, rfl, e4_5, ⟨by omega, by omega, (by first | exact ⟨_, (BI_bar hw ((show b3_5 = 1 by omega) ▸ i1) (by rw [htx]; omega)).2, Or.inr rfl⟩ | exact ⟨_, (BI_last hw i1 (by rw [htx]; unfold dlt; (repeat' split) <;> omega) (by omega)).2, Or.inl rfl⟩)⟩, rfl⟩
            · refine g_iload X 2 rfl dX7_behind_55 ?_
              exact g_iret X dX7_behind_57 ⟨_, _, rfl, e4_5, ⟨by omega, by omega, (by first | exact ⟨_, (BI_bar hw ((show b3_5 = 1 by omega) ▸ i1) (by rw [htx]; omega)).2, Or.inr rfl⟩ | exact ⟨_, (BI_last hw i1 (by rw [htx]; unfold dlt; (repeat' split) <;> omega) (by omega)).2, Or.inl rfl⟩)⟩, rfl⟩
        · refine g_iload X 0 rfl dX7_behind_33 ?_
          refine g_bipush X 40 dX7_behind_35 (by decide) ?_
          refine g_icmp_ne X rfl (show (40 : Int32).toInt = 40 by decide) (tgt := 43) dX7_behind_37 (by decide) (fun cq127 => ?_) (fun cq127 => ?_)
          · refine g_iload X 0 rfl dX7_behind_43 ?_
            refine g_bipush X 124 dX7_behind_45 (by decide) ?_
            refine g_icmp_ne X rfl (show (124 : Int32).toInt = 124 by decide) (tgt := 58) dX7_behind_47 (by decide) (fun cq128 => ?_) (fun cq128 => ?_)
            · refine g_iload X 0 rfl dX7_behind_58 ?_
              refine g_bipush X 93 dX7_behind_60 (by decide) ?_
              refine g_icmp_eq X rfl (show (93 : Int32).toInt = 93 by decide) (tgt := 79) dX7_behind_62 (by decide) (fun cq129 => ?_) (fun cq129 => ?_)
              · refine g_iinc X 2 (fun v => [(3, .int v), (5, .int (Mq.1 61 (((60 * a1) + b4_5).toNat))), (4, .int y4_5), (0, .ref (ad 47)), (1, .int x1), (2, .int x2)]) dX7_behind_79 rfl (by decide) (fun _ => rfl) (fun zq130 eq131 => ?_)
                have tq132 : zq130.toInt = b3_5 + (-1) := add_nw eq131 e3_5 (show (Int32.ofInt (-1)).toInt = (-1) by decide) (by omega)
                refine g_iload_n X 0 rfl dX7_behind_82 ?_
                refine g_if_ne X tq132 (tgt := 89) dX7_behind_83 (by decide) (fun cq133 => ?_) (fun cq133 => ?_)
                · refine g_iinc X 2 (fun v => [(4, .int v), (3, .int zq130), (5, .int (Mq.1 61 (((60 * a1) + b4_5).toNat))), (0, .ref (ad 47)), (1, .int x1), (2, .int x2)]) dX7_behind_89 rfl (by decide) (fun _ => rfl) (fun zq134 eq135 => ?_)
                  have tq136 : zq134.toInt = b4_5 + 1 := add_nw eq135 e4_5 (show (Int32.ofInt 1).toInt = 1 by decide) (by omega)
                  refine g_goto X (tgt := 5) dX7_behind_92 (by decide) ?_
                  refine g_sub [0, 1, 3, 4, 5] rfl ?_
                  exact ih5 zq134 _ tq136 zq130 _ tq132 (BI_next hw i1 (by rw [htx]; unfold dlt; (repeat' split) <;> omega) (by omega)) (by omega) (by omega)
                · refine g_iload X 2 rfl dX7_behind_86 ?_
                  exact g_iret X dX7_behind_88 ⟨_, _, rfl, e4_5, ⟨by omega, by omega, (by first | exact ⟨_, (BI_bar hw ((show b3_5 = 1 by omega) ▸ i1) (by rw [htx]; omega)).2, Or.inr rfl⟩ | exact ⟨_, (BI_last hw i1 (by rw [htx]; unfold dlt; (repeat' split) <;> omega) (by omega)).2, Or.inl rfl⟩)⟩, rfl⟩
              · refine g_iload X 0 rfl dX7_behind_65 ?_
                refine g_bipush X 125 dX7_behind_67 (by decide) ?_
                refine g_icmp_eq X rfl (show (125 : Int32).toInt = 125 by decide) (tgt := 79) dX7_behind_69 (by decide) (fun cq137 => ?_) (fun cq137 => ?_)
                · refine g_iinc X 2 (fun v => [(3, .int v), (5, .int (Mq.1 61 (((60 * a1) + b4_5).toNat))), (4, .int y4_5), (0, .ref (ad 47)), (1, .int x1), (2, .int x2)]) dX7_behind_79 rfl (by decide) (fun _ => rfl) (fun zq138 eq139 => ?_)
                  have tq140 : zq138.toInt = b3_5 + (-1) := add_nw eq139 e3_5 (show (Int32.ofInt (-1)).toInt = (-1) by decide) (by omega)
                  refine g_iload_n X 0 rfl dX7_behind_82 ?_
                  refine g_if_ne X tq140 (tgt := 89) dX7_behind_83 (by decide) (fun cq141 => ?_) (fun cq141 => ?_)
                  · refine g_iinc X 2 (fun v => [(4, .int v), (3, .int zq138), (5, .int (Mq.1 61 (((60 * a1) + b4_5).toNat))), (0, .ref (ad 47)), (1, .int x1), (2, .int x2)]) dX7_behind_89 rfl (by decide) (fun _ => rfl) (fun zq142 eq143 => ?_)
                    have tq144 : zq142.toInt = b4_5 + 1 := add_nw eq143 e4_5 (show (Int32.ofInt 1).toInt = 1 by decide) (by omega)
                    refine g_goto X (tgt := 5) dX7_behind_92 (by decide) ?_
                    refine g_sub [0, 1, 3, 4, 5] rfl ?_
                    exact ih5 zq142 _ tq144 zq138 _ tq140 (BI_next hw i1 (by rw [htx]; unfold dlt; (repeat' split) <;> omega) (by omega)) (by omega) (by omega)
                  · refine g_iload X 2 rfl dX7_behind_86 ?_
                    exact g_iret X dX7_behind_88 ⟨_, _, rfl, e4_5, ⟨by omega, by omega, (by first | exact ⟨_, (BI_bar hw ((show b3_5 = 1 by omega) ▸ i1) (by rw [htx]; omega)).2, Or.inr rfl⟩ | exact ⟨_, (BI_last hw i1 (by rw [htx]; unfold dlt; (repeat' split) <;> omega) (by omega)).2, Or.inl rfl⟩)⟩, rfl⟩
                · refine g_iload X 0 rfl dX7_behind_72 ?_
                  refine g_bipush X 41 dX7_behind_74 (by decide) ?_
                  refine g_icmp_ne X rfl (show (41 : Int32).toInt = 41 by decide) (tgt := 89) dX7_behind_76 (by decide) (fun cq145 => ?_) (fun cq145 => ?_)
                  · refine g_iinc X 1 (fun v => [(4, .int v), (5, .int (Mq.1 61 (((60 * a1) + b4_5).toNat))), (3, .int y3_5), (0, .ref (ad 47)), (1, .int x1), (2, .int x2)]) dX7_behind_89 rfl (by decide) (fun _ => rfl) (fun zq146 eq147 => ?_)
                    have tq148 : zq146.toInt = b4_5 + 1 := add_nw eq147 e4_5 (show (Int32.ofInt 1).toInt = 1 by decide) (by omega)
                    refine g_goto X (tgt := 5) dX7_behind_92 (by decide) ?_
                    refine g_sub [0, 2, 3, 4, 5] rfl ?_
                    exact ih5 zq146 _ tq148 y3_5 _ e3_5 (BI_next hw i1 (by rw [htx]; unfold dlt; (repeat' split) <;> omega) (by omega)) (by omega) (by omega)
                  · refine g_iinc X 2 (fun v => [(3, .int v), (5, .int (Mq.1 61 (((60 * a1) + b4_5).toNat))), (4, .int y4_5), (0, .ref (ad 47)), (1, .int x1), (2, .int x2)]) dX7_behind_79 rfl (by decide) (fun _ => rfl) (fun zq149 eq150 => ?_)
                    have tq151 : zq149.toInt = b3_5 + (-1) := add_nw eq150 e3_5 (show (Int32.ofInt (-1)).toInt = (-1) by decide) (by omega)
                    refine g_iload_n X 0 rfl dX7_behind_82 ?_
                    refine g_if_ne X tq151 (tgt := 89) dX7_behind_83 (by decide) (fun cq152 => ?_) (fun cq152 => ?_)
                    · refine g_iinc X 2 (fun v => [(4, .int v), (3, .int zq149), (5, .int (Mq.1 61 (((60 * a1) + b4_5).toNat))), (0, .ref (ad 47)), (1, .int x1), (2, .int x2)]) dX7_behind_89 rfl (by decide) (fun _ => rfl) (fun zq153 eq154 => ?_)
                      have tq155 : zq153.toInt = b4_5 + 1 := add_nw eq154 e4_5 (show (Int32.ofInt 1).toInt = 1 by decide) (by omega)
                      refine g_goto X (tgt := 5) dX7_behind_92 (by decide) ?_
                      refine g_sub [0, 1, 3, 4, 5] rfl ?_
                      exact ih5 zq153 _ tq155 zq149 _ tq151 (BI_next hw i1 (by rw [htx]; unfold dlt; (repeat' split) <;> omega) (by omega)) (by omega) (by omega)
                    · refine g_iload X 2 rfl dX7_behind_86 ?_
                      exact g_iret X dX7_behind_88 ⟨_, _, rfl, e4_5, ⟨by omega, by omega, (by first | exact ⟨_, (BI_bar hw ((show b3_5 = 1 by omega) ▸ i1) (by rw [htx]; omega)).2, Or.inr rfl⟩ | exact ⟨_, (BI_last hw i1 (by rw [htx]; unfold dlt; (repeat' split) <;> omega) (by omega)).2, Or.inl rfl⟩)⟩, rfl⟩
            · refine g_iload_n X 2 rfl dX7_behind_50 ?_
              refine g_iconst X 1 dX7_behind_51 (by decide) ?_
              refine g_icmp_ne X e3_5 (show (1 : Int32).toInt = 1 by decide) (tgt := 58) dX7_behind_52 (by decide) (fun cq156 => ?_) (fun cq156 => ?_)
              · refine g_iload X 0 rfl dX7_behind_58 ?_
                refine g_bipush X 93 dX7_behind_60 (by decide) ?_
                refine g_icmp_eq X rfl (show (93 : Int32).toInt = 93 by decide) (tgt := 79) dX7_behind_62 (by decide) (fun cq157 => ?_) (fun cq157 => ?_)
                · refine g_iinc X 2 (fun v => [(3, .int v), (5, .int (Mq.1 61 (((60 * a1) + b4_5).toNat))), (4, .int y4_5), (0, .ref (ad 47)), (1, .int x1), (2, .int x2)]) dX7_behind_79 rfl (by decide) (fun _ => rfl) (fun zq158 eq159 => ?_)
                  have tq160 : zq158.toInt = b3_5 + (-1) := add_nw eq159 e3_5 (show (Int32.ofInt (-1)).toInt = (-1) by decide) (by omega)
                  refine g_iload_n X 0 rfl dX7_behind_82 ?_
                  refine g_if_ne X tq160 (tgt := 89) dX7_behind_83 (by decide) (fun cq161 => ?_) (fun cq161 => ?_)
                  · refine g_iinc X 2 (fun v => [(4, .int v), (3, .int zq158), (5, .int (Mq.1 61 (((60 * a1) + b4_5).toNat))), (0, .ref (ad 47)), (1, .int x1), (2, .int x2)]) dX7_behind_89 rfl (by decide) (fun _ => rfl) (fun zq162 eq163 => ?_)
                    have tq164 : zq162.toInt = b4_5 + 1 := add_nw eq163 e4_5 (show (Int32.ofInt 1).toInt = 1 by decide) (by omega)
                    refine g_goto X (tgt := 5) dX7_behind_92 (by decide) ?_
                    refine g_sub [0, 1, 3, 4, 5] rfl ?_
                    exact ih5 zq162 _ tq164 zq158 _ tq160 (BI_next hw i1 (by rw [htx]; unfold dlt; (repeat' split) <;> omega) (by omega)) (by omega) (by omega)
                  · refine g_iload X 2 rfl dX7_behind_86 ?_
                    exact g_iret X dX7_behind_88 ⟨_, _, rfl, e4_5, ⟨by omega, by omega, (by first | exact ⟨_, (BI_bar hw ((show b3_5 = 1 by omega) ▸ i1) (by rw [htx]; omega)).2, Or.inr rfl⟩ | exact ⟨_, (BI_last hw i1 (by rw [htx]; unfold dlt; (repeat' split) <;> omega) (by omega)).2, Or.inl rfl⟩)⟩, rfl⟩
                · refine g_iload X 0 rfl dX7_behind_65 ?_
                  refine g_bipush X 125 dX7_behind_67 (by decide) ?_
                  refine g_icmp_eq X rfl (show (125 : Int32).toInt = 125 by decide) (tgt := 79) dX7_behind_69 (by decide) (fun cq165 => ?_) (fun cq165 => ?_)
                  · refine g_iinc X 2 (fun v => [(3, .int v), (5, .int (Mq.1 61 (((60 * a1) + b4_5).toNat))), (4, .int y4_5), (0, .ref (ad 47)), (1, .int x1), (2, .int x2)]) dX7_behind_79 rfl (by decide) (fun _ => rfl) (fun zq166 eq167 => ?_)
                    have tq168 : zq166.toInt = b3_5 + (-1) := add_nw eq167 e3_5 (show (Int32.ofInt (-1)).toInt = (-1) by decide) (by omega)
                    refine g_iload_n X 0 rfl dX7_behind_82 ?_
                    refine g_if_ne X tq168 (tgt := 89) dX7_behind_83 (by decide) (fun cq169 => ?_) (fun cq169 => ?_)
                    · refine g_iinc X 2 (fun v => [(4, .int v), (3, .int zq166), (5, .int (Mq.1 61 (((60 * a1) + b4_5).toNat))), (0, .ref (ad 47)), (1, .int x1), (2, .int x2)]) dX7_behind_89 rfl (by decide) (fun _ => rfl) (fun zq170 eq171 => ?_)
                      have tq172 : zq170.toInt = b4_5 + 1 := add_nw eq171 e4_5 (show (Int32.ofInt 1).toInt = 1 by decide) (by omega)
                      refine g_goto X (tgt := 5) dX7_behind_92 (by decide) ?_
                      refine g_sub [0, 1, 3, 4, 5] rfl ?_
                      exact ih5 zq170 _ tq172 zq166 _ tq168 (BI_next hw i1 (by rw [htx]; unfold dlt; (repeat' split) <;> omega) (by omega)) (by omega) (by omega)
                    · refine g_iload X 2 rfl dX7_behind_86 ?_
                      exact g_iret X dX7_behind_88 ⟨_, _, rfl, e4_5, ⟨by omega, by omega, (by first | exact ⟨_, (BI_bar hw ((show b3_5 = 1 by omega) ▸ i1) (by rw [htx]; omega)).2, Or.inr rfl⟩ | exact ⟨_, (BI_last hw i1 (by rw [htx]; unfold dlt; (repeat' split) <;> omega) (by omega)).2, Or.inl rfl⟩)⟩, rfl⟩
                  · refine g_iload X 0 rfl dX7_behind_72 ?_
                    refine g_bipush X 41 dX7_behind_74 (by decide) ?_
                    refine g_icmp_ne X rfl (show (41 : Int32).toInt = 41 by decide) (tgt := 89) dX7_behind_76 (by decide) (fun cq173 => ?_) (fun cq173 => ?_)
                    · refine g_iinc X 1 (fun v => [(4, .int v), (5, .int (Mq.1 61 (((60 * a1) + b4_5).toNat))), (3, .int y3_5), (0, .ref (ad 47)), (1, .int x1), (2, .int x2)]) dX7_behind_89 rfl (by decide) (fun _ => rfl) (fun zq174 eq175 => ?_)
                      have tq176 : zq174.toInt = b4_5 + 1 := add_nw eq175 e4_5 (show (Int32.ofInt 1).toInt = 1 by decide) (by omega)
                      refine g_goto X (tgt := 5) dX7_behind_92 (by decide) ?_
                      refine g_sub [0, 2, 3, 4, 5] rfl ?_
                      exact ih5 zq174 _ tq176 y3_5 _ e3_5 (BI_next hw i1 (by rw [htx]; unfold dlt; (repeat' split) <;> omega) (by omega)) (by omega) (by omega)
                    · refine g_iinc X 2 (fun v => [(3, .int v), (5, .int (Mq.1 61 (((60 * a1) + b4_5).toNat))), (4, .int y4_5), (0, .ref (ad 47)), (1, .int x1), (2, .int x2)]) dX7_behind_79 rfl (by decide) (fun _ => rfl) (fun zq177 eq178 => ?_)
                      have tq179 : zq177.toInt = b3_5 + (-1) := add_nw eq178 e3_5 (show (Int32.ofInt (-1)).toInt = (-1) by decide) (by omega)
                      refine g_iload_n X 0 rfl dX7_behind_82 ?_
                      refine g_if_ne X tq179 (tgt := 89) dX7_behind_83 (by decide) (fun cq180 => ?_) (fun cq180 => ?_)
                      · refine g_iinc X 2 (fun v => [(4, .int v), (3, .int zq177), (5, .int (Mq.1 61 (((60 * a1) + b4_5).toNat))), (0, .ref (ad 47)), (1, .int x1), (2, .int x2)]) dX7_behind_89 rfl (by decide) (fun _ => rfl) (fun zq181 eq182 => ?_)
                        have tq183 : zq181.toInt = b4_5 + 1 := add_nw eq182 e4_5 (show (Int32.ofInt 1).toInt = 1 by decide) (by omega)
                        refine g_goto X (tgt := 5) dX7_behind_92 (by decide) ?_
                        refine g_sub [0, 1, 3, 4, 5] rfl ?_
                        exact ih5 zq181 _ tq183 zq177 _ tq179 (BI_next hw i1 (by rw [htx]; unfold dlt; (repeat' split) <;> omega) (by omega)) (by omega) (by omega)
                      · refine g_iload X 2 rfl dX7_behind_86 ?_
                        exact g_iret X dX7_behind_88 ⟨_, _, rfl, e4_5, ⟨by omega, by omega, (by first | exact ⟨_, (BI_bar hw ((show b3_5 = 1 by omega) ▸ i1) (by rw [htx]; omega)).2, Or.inr rfl⟩ | exact ⟨_, (BI_last hw i1 (by rw [htx]; unfold dlt; (repeat' split) <;> omega) (by omega)).2, Or.inl rfl⟩)⟩, rfl⟩
              · refine g_iload X 1 rfl dX7_behind_55 ?_
                exact g_iret X dX7_behind_57 ⟨_, _, rfl, e4_5, ⟨by omega, by omega, (by first | exact ⟨_, (BI_bar hw ((show b3_5 = 1 by omega) ▸ i1) (by rw [htx]; omega)).2, Or.inr rfl⟩ | exact ⟨_, (BI_last hw i1 (by rw [htx]; unfold dlt; (repeat' split) <;> omega) (by omega)).2, Or.inl rfl⟩)⟩, rfl⟩
          · refine g_iinc X 2 (fun v => [(3, .int v), (5, .int (Mq.1 61 (((60 * a1) + b4_5).toNat))), (4, .int y4_5), (0, .ref (ad 47)), (1, .int x1), (2, .int x2)]) dX7_behind_40 rfl (by decide) (fun _ => rfl) (fun zq184 eq185 => ?_)
            have tq186 : zq184.toInt = b3_5 + 1 := add_nw eq185 e3_5 (show (Int32.ofInt 1).toInt = 1 by decide) (by omega)
            refine g_iload X 1 rfl dX7_behind_43 ?_
            refine g_bipush X 124 dX7_behind_45 (by decide) ?_
            refine g_icmp_ne X rfl (show (124 : Int32).toInt = 124 by decide) (tgt := 58) dX7_behind_47 (by decide) (fun cq187 => ?_) (fun cq187 => ?_)
            · refine g_iload X 1 rfl dX7_behind_58 ?_
              refine g_bipush X 93 dX7_behind_60 (by decide) ?_
              refine g_icmp_eq X rfl (show (93 : Int32).toInt = 93 by decide) (tgt := 79) dX7_behind_62 (by decide) (fun cq188 => ?_) (fun cq188 => ?_)
              · refine g_iinc X 0 (fun v => [(3, .int v), (5, .int (Mq.1 61 (((60 * a1) + b4_5).toNat))), (4, .int y4_5), (0, .ref (ad 47)), (1, .int x1), (2, .int x2)]) dX7_behind_79 rfl (by decide) (fun _ => rfl) (fun zq189 eq190 => ?_)
                have tq191 : zq189.toInt = (b3_5 + 1) + (-1) := add_nw eq190 tq186 (show (Int32.ofInt (-1)).toInt = (-1) by decide) (by omega)
                refine g_iload_n X 0 rfl dX7_behind_82 ?_
                refine g_if_ne X tq191 (tgt := 89) dX7_behind_83 (by decide) (fun cq192 => ?_) (fun cq192 => ?_)
                · refine g_iinc X 2 (fun v => [(4, .int v), (3, .int zq189), (5, .int (Mq.1 61 (((60 * a1) + b4_5).toNat))), (0, .ref (ad 47)), (1, .int x1), (2, .int x2)]) dX7_behind_89 rfl (by decide) (fun _ => rfl) (fun zq193 eq194 => ?_)
                  have tq195 : zq193.toInt = b4_5 + 1 := add_nw eq194 e4_5 (show (Int32.ofInt 1).toInt = 1 by decide) (by omega)
                  refine g_goto X (tgt := 5) dX7_behind_92 (by decide) ?_
                  refine g_sub [0, 1, 3, 4, 5] rfl ?_
                  exact ih5 zq193 _ tq195 zq189 _ tq191 (BI_next hw i1 (by rw [htx]; unfold dlt; (repeat' split) <;> omega) (by omega)) (by omega) (by omega)
                · refine g_iload X 2 rfl dX7_behind_86 ?_
                  exact g_iret X dX7_behind_88 ⟨_, _, rfl, e4_5, ⟨by omega, by omega, (by first | exact ⟨_, (BI_bar hw ((show b3_5 = 1 by omega) ▸ i1) (by rw [htx]; omega)).2, Or.inr rfl⟩ | exact ⟨_, (BI_last hw i1 (by rw [htx]; unfold dlt; (repeat' split) <;> omega) (by omega)).2, Or.inl rfl⟩)⟩, rfl⟩
              · refine g_iload X 1 rfl dX7_behind_65 ?_
                refine g_bipush X 125 dX7_behind_67 (by decide) ?_
                refine g_icmp_eq X rfl (show (125 : Int32).toInt = 125 by decide) (tgt := 79) dX7_behind_69 (by decide) (fun cq196 => ?_) (fun cq196 => ?_)
                · refine g_iinc X 0 (fun v => [(3, .int v), (5, .int (Mq.1 61 (((60 * a1) + b4_5).toNat))), (4, .int y4_5), (0, .ref (ad 47)), (1, .int x1), (2, .int x2)]) dX7_behind_79 rfl (by decide) (fun _ => rfl) (fun zq197 eq198 => ?_)
                  have tq199 : zq197.toInt = (b3_5 + 1) + (-1) := add_nw eq198 tq186 (show (Int32.ofInt (-1)).toInt = (-1) by decide) (by omega)
                  refine g_iload_n X 0 rfl dX7_behind_82 ?_
                  refine g_if_ne X tq199 (tgt := 89) dX7_behind_83 (by decide) (fun cq200 => ?_) (fun cq200 => ?_)
                  · refine g_iinc X 2 (fun v => [(4, .int v), (3, .int zq197), (5, .int (Mq.1 61 (((60 * a1) + b4_5).toNat))), (0, .ref (ad 47)), (1, .int x1), (2, .int x2)]) dX7_behind_89 rfl (by decide) (fun _ => rfl) (fun zq201 eq202 => ?_)
                    have tq203 : zq201.toInt = b4_5 + 1 := add_nw eq202 e4_5 (show (Int32.ofInt 1).toInt = 1 by decide) (by omega)
                    refine g_goto X (tgt := 5) dX7_behind_92 (by decide) ?_
                    refine g_sub [0, 1, 3, 4, 5] rfl ?_
                    exact ih5 zq201 _ tq203 zq197 _ tq199 (BI_next hw i1 (by rw [htx]; unfold dlt; (repeat' split) <;> omega) (by omega)) (by omega) (by omega)
                  · refine g_iload X 2 rfl dX7_behind_86 ?_
                    exact g_iret X dX7_behind_88 ⟨_, _, rfl, e4_5, ⟨by omega, by omega, (by first | exact ⟨_, (BI_bar hw ((show b3_5 = 1 by omega) ▸ i1) (by rw [htx]; omega)).2, Or.inr rfl⟩ | exact ⟨_, (BI_last hw i1 (by rw [htx]; unfold dlt; (repeat' split) <;> omega) (by omega)).2, Or.inl rfl⟩)⟩, rfl⟩
                · refine g_iload X 1 rfl dX7_behind_72 ?_
                  refine g_bipush X 41 dX7_behind_74 (by decide) ?_
                  refine g_icmp_ne X rfl (show (41 : Int32).toInt = 41 by decide) (tgt := 89) dX7_behind_76 (by decide) (fun cq204 => ?_) (fun cq204 => ?_)
                  · refine g_iinc X 2 (fun v => [(4, .int v), (3, .int zq184), (5, .int (Mq.1 61 (((60 * a1) + b4_5).toNat))), (0, .ref (ad 47)), (1, .int x1), (2, .int x2)]) dX7_behind_89 rfl (by decide) (fun _ => rfl) (fun zq205 eq206 => ?_)
                    have tq207 : zq205.toInt = b4_5 + 1 := add_nw eq206 e4_5 (show (Int32.ofInt 1).toInt = 1 by decide) (by omega)
                    refine g_goto X (tgt := 5) dX7_behind_92 (by decide) ?_
                    refine g_sub [0, 1, 3, 4, 5] rfl ?_
                    exact ih5 zq205 _ tq207 zq184 _ tq186 (BI_next hw i1 (by rw [htx]; unfold dlt; (repeat' split) <;> omega) (by omega)) (by omega) (by omega)
                  · refine g_iinc X 0 (fun v => [(3, .int v), (5, .int (Mq.1 61 (((60 * a1) + b4_5).toNat))), (4, .int y4_5), (0, .ref (ad 47)), (1, .int x1), (2, .int x2)]) dX7_behind_79 rfl (by decide) (fun _ => rfl) (fun zq208 eq209 => ?_)
                    have tq210 : zq208.toInt = (b3_5 + 1) + (-1) := add_nw eq209 tq186 (show (Int32.ofInt (-1)).toInt = (-1) by decide) (by omega)
                    refine g_iload_n X 0 rfl dX7_behind_82 ?_
                    refine g_if_ne X tq210 (tgt := 89) dX7_behind_83 (by decide) (fun cq211 => ?_) (fun cq211 => ?_)
                    · refine g_iinc X 2 (fun v => [(4, .int v), (3, .int zq208), (5, .int (Mq.1 61 (((60 * a1) + b4_5).toNat))), (0, .ref (ad 47)), (1, .int x1), (2, .int x2)]) dX7_behind_89 rfl (by decide) (fun _ => rfl) (fun zq212 eq213 => ?_)
                      have tq214 : zq212.toInt = b4_5 + 1 := add_nw eq213 e4_5 (show (Int32.ofInt 1).toInt = 1 by decide) (by omega)
                      refine g_goto X (tgt := 5) dX7_behind_92 (by decide) ?_
                      refine g_sub [0, 1, 3, 4, 5] rfl ?_
                      exact ih5 zq212 _ tq214 zq208 _ tq210 (BI_next hw i1 (by rw [htx]; unfold dlt; (repeat' split) <;> omega) (by omega)) (by omega) (by omega)
                    · refine g_iload X 2 rfl dX7_behind_86 ?_
                      exact g_iret X dX7_behind_88 ⟨_, _, rfl, e4_5, ⟨by omega, by omega, (by first | exact ⟨_, (BI_bar hw ((show b3_5 = 1 by omega) ▸ i1) (by rw [htx]; omega)).2, Or.inr rfl⟩ | exact ⟨_, (BI_last hw i1 (by rw [htx]; unfold dlt; (repeat' split) <;> omega) (by omega)).2, Or.inl rfl⟩)⟩, rfl⟩
            · refine g_iload_n X 0 rfl dX7_behind_50 ?_
              refine g_iconst X 1 dX7_behind_51 (by decide) ?_
              refine g_icmp_ne X tq186 (show (1 : Int32).toInt = 1 by decide) (tgt := 58) dX7_behind_52 (by decide) (fun cq215 => ?_) (fun cq215 => ?_)
              · refine g_iload X 1 rfl dX7_behind_58 ?_
                refine g_bipush X 93 dX7_behind_60 (by decide) ?_
                refine g_icmp_eq X rfl (show (93 : Int32).toInt = 93 by decide) (tgt := 79) dX7_behind_62 (by decide) (fun cq216 => ?_) (fun cq216 => ?_)
                · refine g_iinc X 0 (fun v => [(3, .int v), (5, .int (Mq.1 61 (((60 * a1) + b4_5).toNat))), (4, .int y4_5), (0, .ref (ad 47)), (1, .int x1), (2, .int x2)]) dX7_behind_79 rfl (by decide) (fun _ => rfl) (fun zq217 eq218 => ?_)
                  have tq219 : zq217.toInt = (b3_5 + 1) + (-1) := add_nw eq218 tq186 (show (Int32.ofInt (-1)).toInt = (-1) by decide) (by omega)
                  refine g_iload_n X 0 rfl dX7_behind_82 ?_
                  refine g_if_ne X tq219 (tgt := 89) dX7_behind_83 (by decide) (fun cq220 => ?_) (fun cq220 => ?_)
                  · refine g_iinc X 2 (fun v => [(4, .int v), (3, .int zq217), (5, .int (Mq.1 61 (((60 * a1) + b4_5).toNat))), (0, .ref (ad 47)), (1, .int x1), (2, .int x2)]) dX7_behind_89 rfl (by decide) (fun _ => rfl) (fun zq221 eq222 => ?_)
                    have tq223 : zq221.toInt = b4_5 + 1 := add_nw eq222 e4_5 (show (Int32.ofInt 1).toInt = 1 by decide) (by omega)
                    refine g_goto X (tgt := 5) dX7_behind_92 (by decide) ?_
                    refine g_sub [0, 1, 3, 4, 5] rfl ?_
                    exact ih5 zq221 _ tq223 zq217 _ tq219 (BI_next hw i1 (by rw [htx]; unfold dlt; (repeat' split) <;> omega) (by omega)) (by omega) (by omega)
                  · refine g_iload X 2 rfl dX7_behind_86 ?_
                    exact g_iret X dX7_behind_88 ⟨_, _, rfl, e4_5, ⟨by omega, by omega, (by first | exact ⟨_, (BI_bar hw ((show b3_5 = 1 by omega) ▸ i1) (by rw [htx]; omega)).2, Or.inr rfl⟩ | exact ⟨_, (BI_last hw i1 (by rw [htx]; unfold dlt; (repeat' split) <;> omega) (by omega)).2, Or.inl rfl⟩)⟩, rfl⟩
                · refine g_iload X 1 rfl dX7_behind_65 ?_
                  refine g_bipush X 125 dX7_behind_67 (by decide) ?_
                  refine g_icmp_eq X rfl (show (125 : Int32).toInt = 125 by decide) (tgt := 79) dX7_behind_69 (by decide) (fun cq224 => ?_) (fun cq224 => ?_)
                  · refine g_iinc X 0 (fun v => [(3, .int v), (5, .int (Mq.1 61 (((60 * a1) + b4_5).toNat))), (4, .int y4_5), (0, .ref (ad 47)), (1, .int x1), (2, .int x2)]) dX7_behind_79 rfl (by decide) (fun _ => rfl) (fun zq225 eq226 => ?_)
                    have tq227 : zq225.toInt = (b3_5 + 1) + (-1) := add_nw eq226 tq186 (show (Int32.ofInt (-1)).toInt = (-1) by decide) (by omega)
                    refine g_iload_n X 0 rfl dX7_behind_82 ?_
                    refine g_if_ne X tq227 (tgt := 89) dX7_behind_83 (by decide) (fun cq228 => ?_) (fun cq228 => ?_)
                    · refine g_iinc X 2 (fun v => [(4, .int v), (3, .int zq225), (5, .int (Mq.1 61 (((60 * a1) + b4_5).toNat))), (0, .ref (ad 47)), (1, .int x1), (2, .int x2)]) dX7_behind_89 rfl (by decide) (fun _ => rfl) (fun zq229 eq230 => ?_)
                      have tq231 : zq229.toInt = b4_5 + 1 := add_nw eq230 e4_5 (show (Int32.ofInt 1).toInt = 1 by decide) (by omega)
                      refine g_goto X (tgt := 5) dX7_behind_92 (by decide) ?_
                      refine g_sub [0, 1, 3, 4, 5] rfl ?_
                      exact ih5 zq229 _ tq231 zq225 _ tq227 (BI_next hw i1 (by rw [htx]; unfold dlt; (repeat' split) <;> omega) (by omega)) (by omega) (by omega)
                    · refine g_iload X 2 rfl dX7_behind_86 ?_
                      exact g_iret X dX7_behind_88 ⟨_, _, rfl, e4_5, ⟨by omega, by omega, (by first | exact ⟨_, (BI_bar hw ((show b3_5 = 1 by omega) ▸ i1) (by rw [htx]; omega)).2, Or.inr rfl⟩ | exact ⟨_, (BI_last hw i1 (by rw [htx]; unfold dlt; (repeat' split) <;> omega) (by omega)).2, Or.inl rfl⟩)⟩, rfl⟩
                  · refine g_iload X 1 rfl dX7_behind_72 ?_
                    refine g_bipush X 41 dX7_behind_74 (by decide) ?_
                    refine g_icmp_ne X rfl (show (41 : Int32).toInt = 41 by decide) (tgt := 89) dX7_behind_76 (by decide) (fun cq232 => ?_) (fun cq232 => ?_)
                    · refine g_iinc X 2 (fun v => [(4, .int v), (3, .int zq184), (5, .int (Mq.1 61 (((60 * a1) + b4_5).toNat))), (0, .ref (ad 47)), (1, .int x1), (2, .int x2)]) dX7_behind_89 rfl (by decide) (fun _ => rfl) (fun zq233 eq234 => ?_)
                      have tq235 : zq233.toInt = b4_5 + 1 := add_nw eq234 e4_5 (show (Int32.ofInt 1).toInt = 1 by decide) (by omega)
                      refine g_goto X (tgt := 5) dX7_behind_92 (by decide) ?_
                      refine g_sub [0, 1, 3, 4, 5] rfl ?_
                      exact ih5 zq233 _ tq235 zq184 _ tq186 (BI_next hw i1 (by rw [htx]; unfold dlt; (repeat' split) <;> omega) (by omega)) (by omega) (by omega)
                    · refine g_iinc X 0 (fun v => [(3, .int v), (5, .int (Mq.1 61 (((60 * a1) + b4_5).toNat))), (4, .int y4_5), (0, .ref (ad 47)), (1, .int x1), (2, .int x2)]) dX7_behind_79 rfl (by decide) (fun _ => rfl) (fun zq236 eq237 => ?_)
                      have tq238 : zq236.toInt = (b3_5 + 1) + (-1) := add_nw eq237 tq186 (show (Int32.ofInt (-1)).toInt = (-1) by decide) (by omega)
                      refine g_iload_n X 0 rfl dX7_behind_82 ?_
                      refine g_if_ne X tq238 (tgt := 89) dX7_behind_83 (by decide) (fun cq239 => ?_) (fun cq239 => ?_)
                      · refine g_iinc X 2 (fun v => [(4, .int v), (3, .int zq236), (5, .int (Mq.1 61 (((60 * a1) + b4_5).toNat))), (0, .ref (ad 47)), (1, .int x1), (2, .int x2)]) dX7_behind_89 rfl (by decide) (fun _ => rfl) (fun zq240 eq241 => ?_)
                        have tq242 : zq240.toInt = b4_5 + 1 := add_nw eq241 e4_5 (show (Int32.ofInt 1).toInt = 1 by decide) (by omega)
                        refine g_goto X (tgt := 5) dX7_behind_92 (by decide) ?_
                        refine g_sub [0, 1, 3, 4, 5] rfl ?_
                        exact ih5 zq240 _ tq242 zq236 _ tq238 (BI_next hw i1 (by rw [htx]; unfold dlt; (repeat' split) <;> omega) (by omega)) (by omega) (by omega)
                      · refine g_iload X 2 rfl dX7_behind_86 ?_
                        exact g_iret X dX7_behind_88 ⟨_, _, rfl, e4_5, ⟨by omega, by omega, (by first | exact ⟨_, (BI_bar hw ((show b3_5 = 1 by omega) ▸ i1) (by rw [htx]; omega)).2, Or.inr rfl⟩ | exact ⟨_, (BI_last hw i1 (by rw [htx]; unfold dlt; (repeat' split) <;> omega) (by omega)).2, Or.inl rfl⟩)⟩, rfl⟩
              · refine g_iload X 2 rfl dX7_behind_55 ?_
                exact g_iret X dX7_behind_57 ⟨_, _, rfl, e4_5, ⟨by omega, by omega, (by first | exact ⟨_, (BI_bar hw ((show b3_5 = 1 by omega) ▸ i1) (by rw [htx]; omega)).2, Or.inr rfl⟩ | exact ⟨_, (BI_last hw i1 (by rw [htx]; unfold dlt; (repeat' split) <;> omega) (by omega)).2, Or.inl rfl⟩)⟩, rfl⟩
  refine g_sub [0, 1, 2, 3, 4] rfl ?_
  exact lp5 _ x2 _ t2 0 _ (show (0 : Int32).toInt = 0 by decide) ⟨h2.1, by omega, [], hS, rfl⟩ (by omega) (Nat.lt_succ_self _)
set_option maxHeartbeats 4000000 in
set_option maxRecDepth 4000 in
theorem c_X7_endFrom (ad : Nat → Nat) (Mq : Mem) (x1 : Int32) {a1 : Int} (t1 : x1.toInt = a1) (x2 : Int32) {a2 : Int} (t2 : x2.toInt = a2) (Iq0 : Iv TM Mq) {S0 : List Int} (h1 : 0 ≤ a1 ∧ a1 ≤ 7) (hw : skN (txt Mq a1.toNat) ((Mq.1 62 a1.toNat).toInt).toNat = some []) (h2 : 0 ≤ a2 ∧ a2 < ((Mq.1 62 a1.toNat).toInt)) (hS : skN (txt Mq a1.toNat) (a2.toNat + 1) = some (124 :: S0)) : Ctr ad yX7_endFrom cX7_endFrom 6 (some .int) 0 [.ref (ad 47), .int x1, .int x2] Mq (fun v M' => ∃ (r : Int32) (a : Int), v = some (.int r) ∧ r.toInt = a ∧ (0 ≤ a ∧ a2 < a ∧ a < ((Mq.1 62 a1.toNat).toInt) ∧ skN (txt Mq a1.toNat) (a.toNat + 1) = some S0) ∧ Mq = M') := by
  refine ctr_of (L := [(0, .ref (ad 47)), (1, .int x1), (2, .int x2)]) (by decide) (Nat.le_of_ble_eq_true rfl) rfl ?_
  intro Γ X
  have X : gX Γ cX7_endFrom RX7 6 (some .int) 0 ad _ := X
  have g12 := ig_47_12 Iq0
  have g24 := ig_47_24 Iq0
  have g44 := ig_47_44 Iq0
  have g43 := ig_47_43 Iq0
  have g53 := ig_47_53 Iq0
  have g59 := ig_47_59 Iq0
  have g62 := ig_62 Iq0 a1.toNat (by omega)
  have hB0 : BI (txt Mq a1.toNat) ((Mq.1 62 a1.toNat).toInt).toNat S0 (a2 + 1) 1 := BI_of hw h2.1 (by omega) hS
  refine g_iconst X 1 dX7_endFrom_0 (by decide) ?_
  refine g_istore_n X (i := 3) [(3, .int 1), (0, .ref (ad 47)), (1, .int x1), (2, .int x2)] dX7_endFrom_1 rfl (by decide) rfl ?_
  refine g_iload_n X 3 rfl dX7_endFrom_2 ?_
  refine g_iconst X 1 dX7_endFrom_3 (by decide) ?_
  refine g_iadd X dX7_endFrom_4 (fun zq1 eq2 => ?_)
  have tq3 : zq1.toInt = a2 + 1 := add_nw eq2 t2 (show (1 : Int32).toInt = 1 by decide) (by omega)
  refine g_istore X [(4, .int zq1), (3, .int 1), (0, .ref (ad 47)), (1, .int x1), (2, .int x2)] dX7_endFrom_5 (by decide) rfl ?_
  have lp7 : ∀ n : Nat, ∀ (y4_7 : Int32) (b4_7 : Int), y4_7.toInt = b4_7 → ∀ (y3_7 : Int32) (b3_7 : Int), y3_7.toInt = b3_7 → (BI (txt Mq a1.toNat) ((Mq.1 62 a1.toNat).toInt).toNat S0 b4_7 b3_7) → (1 ≤ b3_7 ∧ a2 < b4_7) → (((Mq.1 62 a1.toNat).toInt) - b4_7).toNat < n → G Γ Mq 7 [(4, .int y4_7), (3, .int y3_7), (0, .ref (ad 47)), (1, .int x1), (2, .int x2)] [] := by
    intro n
    induction n with
    | zero => intro y4_7 b4_7 e4_7 y3_7 b3_7 e3_7 i1 i2 hm; exact absurd hm (Nat.not_lt_zero _)
    | succ n ih7 =>
      intro y4_7 b4_7 e4_7 y3_7 b3_7 e3_7 i1 i2 hm7
      have hb1 := i1.1
      have hb2 := i1.2.1
      have hbd := BI_d i1
      have htx := txt_at (M := Mq) (x := a1) (k := b4_7) (by omega) (by omega)
      refine g_aload_n X 2 rfl dX7_endFrom_7 ?_
      refine g_getr X f_X7_49 dX7_endFrom_8 ?_
      refine g_bipush X 60 dX7_endFrom_11 (by decide) ?_
      refine g_iload_n X 3 rfl dX7_endFrom_13 ?_
      refine g_imul X dX7_endFrom_14 (fun zq4 eq5 => ?_)
      have tq6 : zq4.toInt = 60 * a1 := mul_nw eq5 (show (60 : Int32).toInt = 60 by decide) t1 (by omega)
      refine g_iload X 0 rfl dX7_endFrom_15 ?_
      refine g_iadd X dX7_endFrom_17 (fun zq7 eq8 => ?_)
      have tq9 : zq7.toInt = (60 * a1) + b4_7 := add_nw eq8 tq6 e4_7 (by omega)
      refine g_iald X la_61 tq9 dX7_endFrom_18 (by omega) (x := Mq.1 61 (((60 * a1) + b4_7).toNat)) rfl ?_
      refine g_istore X [(5, .int (Mq.1 61 (((60 * a1) + b4_7).toNat))), (4, .int y4_7), (3, .int y3_7), (0, .ref (ad 47)), (1, .int x1), (2, .int x2)] dX7_endFrom_19 (by decide) rfl ?_
      refine g_iload X 0 rfl dX7_endFrom_21 ?_
      refine g_bipush X 91 dX7_endFrom_23 (by decide) ?_
      refine g_icmp_eq X rfl (show (91 : Int32).toInt = 91 by decide) (tgt := 42) dX7_endFrom_25 (by decide) (fun cq10 => ?_) (fun cq10 => ?_)
      · refine g_iinc X 2 (fun v => [(3, .int v), (5, .int (Mq.1 61 (((60 * a1) + b4_7).toNat))), (4, .int y4_7), (0, .ref (ad 47)), (1, .int x1), (2, .int x2)]) dX7_endFrom_42 rfl (by decide) (fun _ => rfl) (fun zq11 eq12 => ?_)
        have tq13 : zq11.toInt = b3_7 + 1 := add_nw eq12 e3_7 (show (Int32.ofInt 1).toInt = 1 by decide) (by omega)
        refine g_iload X 1 rfl dX7_endFrom_45 ?_
        refine g_bipush X 93 dX7_endFrom_47 (by decide) ?_
        refine g_icmp_eq X rfl (show (93 : Int32).toInt = 93 by decide) (tgt := 66) dX7_endFrom_49 (by decide) (fun cq14 => ?_) (fun cq14 => ?_)
        · refine g_iinc X 0 (fun v => [(3, .int v), (5, .int (Mq.1 61 (((60 * a1) + b4_7).toNat))), (4, .int y4_7), (0, .ref (ad 47)), (1, .int x1), (2, .int x2)]) dX7_endFrom_66 rfl (by decide) (fun _ => rfl) (fun zq15 eq16 => ?_)
          have tq17 : zq15.toInt = (b3_7 + 1) + (-1) := add_nw eq16 tq13 (show (Int32.ofInt (-1)).toInt = (-1) by decide) (by omega)
          refine g_iload_n X 0 rfl dX7_endFrom_69 ?_
          refine g_if_ne X tq17 (tgt := 76) dX7_endFrom_70 (by decide) (fun cq18 => ?_) (fun cq18 => ?_)
          · refine g_iinc X 2 (fun v => [(4, .int v), (3, .int zq15), (5, .int (Mq.1 61 (((60 * a1) + b4_7).toNat))), (0, .ref (ad 47)), (1, .int x1), (2, .int x2)]) dX7_endFrom_76 rfl (by decide) (fun _ => rfl) (fun zq19 eq20 => ?_)
            have tq21 : zq19.toInt = b4_7 + 1 := add_nw eq20 e4_7 (show (Int32.ofInt 1).toInt = 1 by decide) (by omega)
            refine g_goto X (tgt := 7) dX7_endFrom_79 (by decide) ?_
            refine g_sub [0, 1, 3, 4, 5] rfl ?_
            exact ih7 zq19 _ tq21 zq15 _ tq17 (BI_next hw i1 (by rw [htx]; unfold dlt; (repeat' split) <;> omega) (by omega)) (by omega) (by omega)
          · refine g_iload X 2 rfl dX7_endFrom_73 ?_
            exact g_iret X dX7_endFrom_75 ⟨_, _, rfl, e4_7, ⟨by omega, by omega, by omega, (BI_last hw i1 (by rw [htx]; unfold dlt; (repeat' split) <;> omega) (by omega)).2⟩, rfl⟩
        · refine g_iload X 1 rfl dX7_endFrom_52 ?_
          refine g_bipush X 125 dX7_endFrom_54 (by decide) ?_
          refine g_icmp_eq X rfl (show (125 : Int32).toInt = 125 by decide) (tgt := 66) dX7_endFrom_56 (by decide) (fun cq22 => ?_) (fun cq22 => ?_)
          · refine g_iinc X 0 (fun v => [(3, .int v), (5, .int (Mq.1 61 (((60 * a1) + b4_7).toNat))), (4, .int y4_7), (0, .ref (ad 47)), (1, .int x1), (2, .int x2)]) dX7_endFrom_66 rfl (by decide) (fun _ => rfl) (fun zq23 eq24 => ?_)
            have tq25 : zq23.toInt = (b3_7 + 1) + (-1) := add_nw eq24 tq13 (show (Int32.ofInt (-1)).toInt = (-1) by decide) (by omega)
            refine g_iload_n X 0 rfl dX7_endFrom_69 ?_
            refine g_if_ne X tq25 (tgt := 76) dX7_endFrom_70 (by decide) (fun cq26 => ?_) (fun cq26 => ?_)
            · refine g_iinc X 2 (fun v => [(4, .int v), (3, .int zq23), (5, .int (Mq.1 61 (((60 * a1) + b4_7).toNat))), (0, .ref (ad 47)), (1, .int x1), (2, .int x2)]) dX7_endFrom_76 rfl (by decide) (fun _ => rfl) (fun zq27 eq28 => ?_)
              have tq29 : zq27.toInt = b4_7 + 1 := add_nw eq28 e4_7 (show (Int32.ofInt 1).toInt = 1 by decide) (by omega)
              refine g_goto X (tgt := 7) dX7_endFrom_79 (by decide) ?_
              refine g_sub [0, 1, 3, 4, 5] rfl ?_
              exact ih7 zq27 _ tq29 zq23 _ tq25 (BI_next hw i1 (by rw [htx]; unfold dlt; (repeat' split) <;> omega) (by omega)) (by omega) (by omega)
            · refine g_iload X 2 rfl dX7_endFrom_73 ?_
              exact g_iret X dX7_endFrom_75 ⟨_, _, rfl, e4_7, ⟨by omega, by omega, by omega, (BI_last hw i1 (by rw [htx]; unfold dlt; (repeat' split) <;> omega) (by omega)).2⟩, rfl⟩
          · refine g_iload X 1 rfl dX7_endFrom_59 ?_
            refine g_bipush X 41 dX7_endFrom_61 (by decide) ?_
            refine g_icmp_ne X rfl (show (41 : Int32).toInt = 41 by decide) (tgt := 69) dX7_endFrom_63 (by decide) (fun cq30 => ?_) (fun cq30 => ?_)
            · refine g_iload_n X 0 rfl dX7_endFrom_69 ?_
              refine g_if_ne X tq13 (tgt := 76) dX7_endFrom_70 (by decide) (fun cq31 => ?_) (fun cq31 => ?_)
              · refine g_iinc X 2 (fun v => [(4, .int v), (3, .int zq11), (5, .int (Mq.1 61 (((60 * a1) + b4_7).toNat))), (0, .ref (ad 47)), (1, .int x1), (2, .int x2)]) dX7_endFrom_76 rfl (by decide) (fun _ => rfl) (fun zq32 eq33 => ?_)
                have tq34 : zq32.toInt = b4_7 + 1 := add_nw eq33 e4_7 (show (Int32.ofInt 1).toInt = 1 by decide) (by omega)
                refine g_goto X (tgt := 7) dX7_endFrom_79 (by decide) ?_
                refine g_sub [0, 1, 3, 4, 5] rfl ?_
                exact ih7 zq32 _ tq34 zq11 _ tq13 (BI_next hw i1 (by rw [htx]; unfold dlt; (repeat' split) <;> omega) (by omega)) (by omega) (by omega)
              · refine g_iload X 2 rfl dX7_endFrom_73 ?_
                exact g_iret X dX7_endFrom_75 ⟨_, _, rfl, e4_7, ⟨by omega, by omega, by omega, (BI_last hw i1 (by rw [htx]; unfold dlt; (repeat' split) <;> omega) (by omega)).2⟩, rfl⟩
            · refine g_iinc X 0 (fun v => [(3, .int v), (5, .int (Mq.1 61 (((60 * a1) + b4_7).toNat))), (4, .int y4_7), (0, .ref (ad 47)), (1, .int x1), (2, .int x2)]) dX7_endFrom_66 rfl (by decide) (fun _ => rfl) (fun zq35 eq36 => ?_)
              have tq37 : zq35.toInt = (b3_7 + 1) + (-1) := add_nw eq36 tq13 (show (Int32.ofInt (-1)).toInt = (-1) by decide) (by omega)
              refine g_iload_n X 0 rfl dX7_endFrom_69 ?_
              refine g_if_ne X tq37 (tgt := 76) dX7_endFrom_70 (by decide) (fun cq38 => ?_) (fun cq38 => ?_)
              · refine g_iinc X 2 (fun v => [(4, .int v), (3, .int zq35), (5, .int (Mq.1 61 (((60 * a1) + b4_7).toNat))), (0, .ref (ad 47)), (1, .int x1), (2, .int x2)]) dX7_endFrom_76 rfl (by decide) (fun _ => rfl) (fun zq39 eq40 => ?_)
                have tq41 : zq39.toInt = b4_7 + 1 := add_nw eq40 e4_7 (show (Int32.ofInt 1).toInt = 1 by decide) (by omega)
                refine g_goto X (tgt := 7) dX7_endFrom_79 (by decide) ?_
                refine g_sub [0, 1, 3, 4, 5] rfl ?_
                exact ih7 zq39 _ tq41 zq35 _ tq37 (BI_next hw i1 (by rw [htx]; unfold dlt; (repeat' split) <;> omega) (by omega)) (by omega) (by omega)
              · refine g_iload X 2 rfl dX7_endFrom_73 ?_
                exact g_iret X dX7_endFrom_75 ⟨_, _, rfl, e4_7, ⟨by omega, by omega, by omega, (BI_last hw i1 (by rw [htx]; unfold dlt; (repeat' split) <;> omega) (by omega)).2⟩, rfl⟩
      · refine g_iload X 0 rfl dX7_endFrom_28 ?_
        refine g_bipush X 123 dX7_endFrom_30 (by decide) ?_
        refine g_icmp_eq X rfl (show (123 : Int32).toInt = 123 by decide) (tgt := 42) dX7_endFrom_32 (by decide) (fun cq42 => ?_) (fun cq42 => ?_)
        · refine g_iinc X 2 (fun v => [(3, .int v), (5, .int (Mq.1 61 (((60 * a1) + b4_7).toNat))), (4, .int y4_7), (0, .ref (ad 47)), (1, .int x1), (2, .int x2)]) dX7_endFrom_42 rfl (by decide) (fun _ => rfl) (fun zq43 eq44 => ?_)
          have tq45 : zq43.toInt = b3_7 + 1 := add_nw eq44 e3_7 (show (Int32.ofInt 1).toInt = 1 by decide) (by omega)
          refine g_iload X 1 rfl dX7_endFrom_45 ?_
          refine g_bipush X 93 dX7_endFrom_47 (by decide) ?_
          refine g_icmp_eq X rfl (show (93 : Int32).toInt = 93 by decide) (tgt := 66) dX7_endFrom_49 (by decide) (fun cq46 => ?_) (fun cq46 => ?_)
          · refine g_iinc X 0 (fun v => [(3, .int v), (5, .int (Mq.1 61 (((60 * a1) + b4_7).toNat))), (4, .int y4_7), (0, .ref (ad 47)), (1, .int x1), (2, .int x2)]) dX7_endFrom_66 rfl (by decide) (fun _ => rfl) (fun zq47 eq48 => ?_)
            have tq49 : zq47.toInt = (b3_7 + 1) + (-1) := add_nw eq48 tq45 (show (Int32.ofInt (-1)).toInt = (-1) by decide) (by omega)
            refine g_iload_n X 0 rfl dX7_endFrom_69 ?_
            refine g_if_ne X tq49 (tgt := 76) dX7_endFrom_70 (by decide) (fun cq50 => ?_) (fun cq50 => ?_)
            · refine g_iinc X 2 (fun v => [(4, .int v), (3, .int zq47), (5, .int (Mq.1 61 (((60 * a1) + b4_7).toNat))), (0, .ref (ad 47)), (1, .int x1), (2, .int x2)]) dX7_endFrom_76 rfl (by decide) (fun _ => rfl) (fun zq51 eq52 => ?_)
              have tq53 : zq51.toInt = b4_7 + 1 := add_nw eq52 e4_7 (show (Int32.ofInt 1).toInt = 1 by decide) (by omega)
              refine g_goto X (tgt := 7) dX7_endFrom_79 (by decide) ?_
              refine g_sub [0, 1, 3, 4, 5] rfl ?_
              exact ih7 zq51 _ tq53 zq47 _ tq49 (BI_next hw i1 (by rw [htx]; unfold dlt; (repeat' split) <;> omega) (by omega)) (by omega) (by omega)
            · refine g_iload X 2 rfl dX7_endFrom_73 ?_
              exact g_iret X dX7_endFrom_75 ⟨_, _, rfl, e4_7, ⟨by omega, by omega, by omega, (BI_last hw i1 (by rw [htx]; unfold dlt; (repeat' split) <;> omega) (by omega)).2⟩, rfl⟩
          · refine g_iload X 1 rfl dX7_endFrom_52 ?_
            refine g_bipush X 125 dX7_endFrom_54 (by decide) ?_
            refine g_icmp_eq X rfl (show (125 : Int32).toInt = 125 by decide) (tgt := 66) dX7_endFrom_56 (by decide) (fun cq54 => ?_) (fun cq54 => ?_)
            · refine g_iinc X 0 (fun v => [(3, .int v), (5, .int (Mq.1 61 (((60 * a1) + b4_7).toNat))), (4, .int y4_7), (0, .ref (ad 47)), (1, .int x1), (2, .int x2)]) dX7_endFrom_66 rfl (by decide) (fun _ => rfl) (fun zq55 eq56 => ?_)
              have tq57 : zq55.toInt = (b3_7 + 1) + (-1) := add_nw eq56 tq45 (show (Int32.ofInt (-1)).toInt = (-1) by decide) (by omega)
              refine g_iload_n X 0 rfl dX7_endFrom_69 ?_
              refine g_if_ne X tq57 (tgt := 76) dX7_endFrom_70 (by decide) (fun cq58 => ?_) (fun cq58 => ?_)
              · refine g_iinc X 2 (fun v => [(4, .int v), (3, .int zq55), (5, .int (Mq.1 61 (((60 * a1) + b4_7).toNat))), (0, .ref (ad 47)), (1, .int x1), (2, .int x2)]) dX7_endFrom_76 rfl (by decide) (fun _ => rfl) (fun zq59 eq60 => ?_)
                have tq61 : zq59.toInt = b4_7 + 1 := add_nw eq60 e4_7 (show (Int32.ofInt 1).toInt = 1 by decide) (by omega)
                refine g_goto X (tgt := 7) dX7_endFrom_79 (by decide) ?_
                refine g_sub [0, 1, 3, 4, 5] rfl ?_
                exact ih7 zq59 _ tq61 zq55 _ tq57 (BI_next hw i1 (by rw [htx]; unfold dlt; (repeat' split) <;> omega) (by omega)) (by omega) (by omega)
              · refine g_iload X 2 rfl dX7_endFrom_73 ?_
                exact g_iret X dX7_endFrom_75 ⟨_, _, rfl, e4_7, ⟨by omega, by omega, by omega, (BI_last hw i1 (by rw [htx]; unfold dlt; (repeat' split) <;> omega) (by omega)).2⟩, rfl⟩
            · refine g_iload X 1 rfl dX7_endFrom_59 ?_
              refine g_bipush X 41 dX7_endFrom_61 (by decide) ?_
              refine g_icmp_ne X rfl (show (41 : Int32).toInt = 41 by decide) (tgt := 69) dX7_endFrom_63 (by decide) (fun cq62 => ?_) (fun cq62 => ?_)
              · refine g_iload_n X 0 rfl dX7_endFrom_69 ?_
                refine g_if_ne X tq45 (tgt := 76) dX7_endFrom_70 (by decide) (fun cq63 => ?_) (fun cq63 => ?_)
                · refine g_iinc X 2 (fun v => [(4, .int v), (3, .int zq43), (5, .int (Mq.1 61 (((60 * a1) + b4_7).toNat))), (0, .ref (ad 47)), (1, .int x1), (2, .int x2)]) dX7_endFrom_76 rfl (by decide) (fun _ => rfl) (fun zq64 eq65 => ?_)
                  have tq66 : zq64.toInt = b4_7 + 1 := add_nw eq65 e4_7 (show (Int32.ofInt 1).toInt = 1 by decide) (by omega)
                  refine g_goto X (tgt := 7) dX7_endFrom_79 (by decide) ?_
                  refine g_sub [0, 1, 3, 4, 5] rfl ?_
                  exact ih7 zq64 _ tq66 zq43 _ tq45 (BI_next hw i1 (by rw [htx]; unfold dlt; (repeat' split) <;> omega) (by omega)) (by omega) (by omega)
                · refine g_iload X 2 rfl dX7_endFrom_73 ?_
                  exact g_iret X dX7_endFrom_75 ⟨_, _, rfl, e4_7, ⟨by omega, by omega, by omega, (BI_last hw i1 (by rw [htx]; unfold dlt; (repeat' split) <;> omega) (by omega)).2⟩, rfl⟩
              · refine g_iinc X 0 (fun v => [(3, .int v), (5, .int (Mq.1 61 (((60 * a1) + b4_7).toNat))), (4, .int y4_7), (0, .ref (ad 47)), (1, .int x1), (2, .int x2)]) dX7_endFrom_66 rfl (by decide) (fun _ => rfl) (fun zq67 eq68 => ?_)
                have tq69 : zq67.toInt = (b3_7 + 1) + (-1) := add_nw eq68 tq45 (show (Int32.ofInt (-1)).toInt = (-1) by decide) (by omega)
                refine g_iload_n X 0 rfl dX7_endFrom_69 ?_
                refine g_if_ne X tq69 (tgt := 76) dX7_endFrom_70 (by decide) (fun cq70 => ?_) (fun cq70 => ?_)
                · refine g_iinc X 2 (fun v => [(4, .int v), (3, .int zq67), (5, .int (Mq.1 61 (((60 * a1) + b4_7).toNat))), (0, .ref (ad 47)), (1, .int x1), (2, .int x2)]) dX7_endFrom_76 rfl (by decide) (fun _ => rfl) (fun zq71 eq72 => ?_)
                  have tq73 : zq71.toInt = b4_7 + 1 := add_nw eq72 e4_7 (show (Int32.ofInt 1).toInt = 1 by decide) (by omega)
                  refine g_goto X (tgt := 7) dX7_endFrom_79 (by decide) ?_
                  refine g_sub [0, 1, 3, 4, 5] rfl ?_
                  exact ih7 zq71 _ tq73 zq67 _ tq69 (BI_next hw i1 (by rw [htx]; unfold dlt; (repeat' split) <;> omega) (by omega)) (by omega) (by omega)
                · refine g_iload X 2 rfl dX7_endFrom_73 ?_
                  exact g_iret X dX7_endFrom_75 ⟨_, _, rfl, e4_7, ⟨by omega, by omega, by omega, (BI_last hw i1 (by rw [htx]; unfold dlt; (repeat' split) <;> omega) (by omega)).2⟩, rfl⟩
        · refine g_iload X 0 rfl dX7_endFrom_35 ?_
          refine g_bipush X 40 dX7_endFrom_37 (by decide) ?_
          refine g_icmp_ne X rfl (show (40 : Int32).toInt = 40 by decide) (tgt := 45) dX7_endFrom_39 (by decide) (fun cq74 => ?_) (fun cq74 => ?_)
          · refine g_iload X 0 rfl dX7_endFrom_45 ?_
            refine g_bipush X 93 dX7_endFrom_47 (by decide) ?_
            refine g_icmp_eq X rfl (show (93 : Int32).toInt = 93 by decide) (tgt := 66) dX7_endFrom_49 (by decide) (fun cq75 => ?_) (fun cq75 => ?_)
            · refine g_iinc X 2 (fun v => [(3, .int v), (5, .int (Mq.1 61 (((60 * a1) + b4_7).toNat))), (4, .int y4_7), (0, .ref (ad 47)), (1, .int x1), (2, .int x2)]) dX7_endFrom_66 rfl (by decide) (fun _ => rfl) (fun zq76 eq77 => ?_)
              have tq78 : zq76.toInt = b3_7 + (-1) := add_nw eq77 e3_7 (show (Int32.ofInt (-1)).toInt = (-1) by decide) (by omega)
              refine g_iload_n X 0 rfl dX7_endFrom_69 ?_
              refine g_if_ne X tq78 (tgt := 76) dX7_endFrom_70 (by decide) (fun cq79 => ?_) (fun cq79 => ?_)
              · refine g_iinc X 2 (fun v => [(4, .int v), (3, .int zq76), (5, .int (Mq.1 61 (((60 * a1) + b4_7).toNat))), (0, .ref (ad 47)), (1, .int x1), (2, .int x2)]) dX7_endFrom_76 rfl (by decide) (fun _ => rfl) (fun zq80 eq81 => ?_)
                have tq82 : zq80.toInt = b4_7 + 1 := add_nw eq81 e4_7 (show (Int32.ofInt 1).toInt = 1 by decide) (by omega)
                refine g_goto X (tgt := 7) dX7_endFrom_79 (by decide) ?_
                refine g_sub [0, 1, 3, 4, 5] rfl ?_
                exact ih7 zq80 _ tq82 zq76 _ tq78 (BI_next hw i1 (by rw [htx]; unfold dlt; (repeat' split) <;> omega) (by omega)) (by omega) (by omega)
              · refine g_iload X 2 rfl dX7_endFrom_73 ?_
                exact g_iret X dX7_endFrom_75 ⟨_, _, rfl, e4_7, ⟨by omega, by omega, by omega, (BI_last hw i1 (by rw [htx]; unfold dlt; (repeat' split) <;> omega) (by omega)).2⟩, rfl⟩
            · refine g_iload X 0 rfl dX7_endFrom_52 ?_
              refine g_bipush X 125 dX7_endFrom_54 (by decide) ?_
              refine g_icmp_eq X rfl (show (125 : Int32).toInt = 125 by decide) (tgt := 66) dX7_endFrom_56 (by decide) (fun cq83 => ?_) (fun cq83 => ?_)
              · refine g_iinc X 2 (fun v => [(3, .int v), (5, .int (Mq.1 61 (((60 * a1) + b4_7).toNat))), (4, .int y4_7), (0, .ref (ad 47)), (1, .int x1), (2, .int x2)]) dX7_endFrom_66 rfl (by decide) (fun _ => rfl) (fun zq84 eq85 => ?_)
                have tq86 : zq84.toInt = b3_7 + (-1) := add_nw eq85 e3_7 (show (Int32.ofInt (-1)).toInt = (-1) by decide) (by omega)
                refine g_iload_n X 0 rfl dX7_endFrom_69 ?_
                refine g_if_ne X tq86 (tgt := 76) dX7_endFrom_70 (by decide) (fun cq87 => ?_) (fun cq87 => ?_)
                · refine g_iinc X 2 (fun v => [(4, .int v), (3, .int zq84), (5, .int (Mq.1 61 (((60 * a1) + b4_7).toNat))), (0, .ref (ad 47)), (1, .int x1), (2, .int x2)]) dX7_endFrom_76 rfl (by decide) (fun _ => rfl) (fun zq88 eq89 => ?_)
                  have tq90 : zq88.toInt = b4_7 + 1 := add_nw eq89 e4_7 (show (Int32.ofInt 1).toInt = 1 by decide) (by omega)
                  refine g_goto X (tgt := 7) dX7_endFrom_79 (by decide) ?_
                  refine g_sub [0, 1, 3, 4, 5] rfl ?_
                  exact ih7 zq88 _ tq90 zq84 _ tq86 (BI_next hw i1 (by rw [htx]; unfold dlt; (repeat' split) <;> omega) (by omega)) (by omega) (by omega)
                · refine g_iload X 2 rfl dX7_endFrom_73 ?_
                  exact g_iret X dX7_endFrom_75 ⟨_, _, rfl, e4_7, ⟨by omega, by omega, by omega, (BI_last hw i1 (by rw [htx]; unfold dlt; (repeat' split) <;> omega) (by omega)).2⟩, rfl⟩
              · refine g_iload X 0 rfl dX7_endFrom_59 ?_
                refine g_bipush X 41 dX7_endFrom_61 (by decide) ?_
                refine g_icmp_ne X rfl (show (41 : Int32).toInt = 41 by decide) (tgt := 69) dX7_endFrom_63 (by decide) (fun cq91 => ?_) (fun cq91 => ?_)
                · refine g_iload_n X 2 rfl dX7_endFrom_69 ?_
                  refine g_if_ne X e3_7 (tgt := 76) dX7_endFrom_70 (by decide) (fun cq92 => ?_) (fun cq92 => ?_)
                  · refine g_iinc X 1 (fun v => [(4, .int v), (5, .int (Mq.1 61 (((60 * a1) + b4_7).toNat))), (3, .int y3_7), (0, .ref (ad 47)), (1, .int x1), (2, .int x2)]) dX7_endFrom_76 rfl (by decide) (fun _ => rfl) (fun zq93 eq94 => ?_)
                    have tq95 : zq93.toInt = b4_7 + 1 := add_nw eq94 e4_7 (show (Int32.ofInt 1).toInt = 1 by decide) (by omega)
                    refine g_goto X (tgt := 7) dX7_endFrom_79 (by decide) ?_
                    refine g_sub [0, 2, 3, 4, 5] rfl ?_
                    exact ih7 zq93 _ tq95 y3_7 _ e3_7 (BI_next hw i1 (by rw [htx]; unfold dlt; (repeat' split) <;> omega) (by omega)) (by omega) (by omega)
                  · refine g_iload X 1 rfl dX7_endFrom_73 ?_
                    exact g_iret X dX7_endFrom_75 ⟨_, _, rfl, e4_7, ⟨by omega, by omega, by omega, (BI_last hw i1 (by rw [htx]; unfold dlt; (repeat' split) <;> omega) (by omega)).2⟩, rfl⟩
                · refine g_iinc X 2 (fun v => [(3, .int v), (5, .int (Mq.1 61 (((60 * a1) + b4_7).toNat))), (4, .int y4_7), (0, .ref (ad 47)), (1, .int x1), (2, .int x2)]) dX7_endFrom_66 rfl (by decide) (fun _ => rfl) (fun zq96 eq97 => ?_)
                  have tq98 : zq96.toInt = b3_7 + (-1) := add_nw eq97 e3_7 (show (Int32.ofInt (-1)).toInt = (-1) by decide) (by omega)
                  refine g_iload_n X 0 rfl dX7_endFrom_69 ?_
                  refine g_if_ne X tq98 (tgt := 76) dX7_endFrom_70 (by decide) (fun cq99 => ?_) (fun cq99 => ?_)
                  · refine g_iinc X 2 (fun v => [(4, .int v), (3, .int zq96), (5, .int (Mq.1 61 (((60 * a1) + b4_7).toNat))), (0, .ref (ad 47)), (1, .int x1), (2, .int x2)]) dX7_endFrom_76 rfl (by decide) (fun _ => rfl) (fun zq100 eq101 => ?_)
                    have tq102 : zq100.toInt = b4_7 + 1 := add_nw eq101 e4_7 (show (Int32.ofInt 1).toInt = 1 by decide) (by omega)
                    refine g_goto X (tgt := 7) dX7_endFrom_79 (by decide) ?_
                    refine g_sub [0, 1, 3, 4, 5] rfl ?_
                    exact ih7 zq100 _ tq102 zq96 _ tq98 (BI_next hw i1 (by rw [htx]; unfold dlt; (repeat' split) <;> omega) (by omega)) (by omega) (by omega)
                  · refine g_iload X 2 rfl dX7_endFrom_73 ?_
                    exact g_iret X dX7_endFrom_75 ⟨_, _, rfl, e4_7, ⟨by omega, by omega, by omega, (BI_last hw i1 (by rw [htx]; unfold dlt; (repeat' split) <;> omega) (by omega)).2⟩, rfl⟩
          · refine g_iinc X 2 (fun v => [(3, .int v), (5, .int (Mq.1 61 (((60 * a1) + b4_7).toNat))), (4, .int y4_7), (0, .ref (ad 47)), (1, .int x1), (2, .int x2)]) dX7_endFrom_42 rfl (by decide) (fun _ => rfl) (fun zq103 eq104 => ?_)
            have tq105 : zq103.toInt = b3_7 + 1 := add_nw eq104 e3_7 (show (Int32.ofInt 1).toInt = 1 by decide) (by omega)
            refine g_iload X 1 rfl dX7_endFrom_45 ?_
            refine g_bipush X 93 dX7_endFrom_47 (by decide) ?_
            refine g_icmp_eq X rfl (show (93 : Int32).toInt = 93 by decide) (tgt := 66) dX7_endFrom_49 (by decide) (fun cq106 => ?_) (fun cq106 => ?_)
            · refine g_iinc X 0 (fun v => [(3, .int v), (5, .int (Mq.1 61 (((60 * a1) + b4_7).toNat))), (4, .int y4_7), (0, .ref (ad 47)), (1, .int x1), (2, .int x2)]) dX7_endFrom_66 rfl (by decide) (fun _ => rfl) (fun zq107 eq108 => ?_)
              have tq109 : zq107.toInt = (b3_7 + 1) + (-1) := add_nw eq108 tq105 (show (Int32.ofInt (-1)).toInt = (-1) by decide) (by omega)
              refine g_iload_n X 0 rfl dX7_endFrom_69 ?_
              refine g_if_ne X tq109 (tgt := 76) dX7_endFrom_70 (by decide) (fun cq110 => ?_) (fun cq110 => ?_)
              · refine g_iinc X 2 (fun v => [(4, .int v), (3, .int zq107), (5, .int (Mq.1 61 (((60 * a1) + b4_7).toNat))), (0, .ref (ad 47)), (1, .int x1), (2, .int x2)]) dX7_endFrom_76 rfl (by decide) (fun _ => rfl) (fun zq111 eq112 => ?_)
                have tq113 : zq111.toInt = b4_7 + 1 := add_nw eq112 e4_7 (show (Int32.ofInt 1).toInt = 1 by decide) (by omega)
                refine g_goto X (tgt := 7) dX7_endFrom_79 (by decide) ?_
                refine g_sub [0, 1, 3, 4, 5] rfl ?_
                exact ih7 zq111 _ tq113 zq107 _ tq109 (BI_next hw i1 (by rw [htx]; unfold dlt; (repeat' split) <;> omega) (by omega)) (by omega) (by omega)
              · refine g_iload X 2 rfl dX7_endFrom_73 ?_
                exact g_iret X dX7_endFrom_75 ⟨_, _, rfl, e4_7, ⟨by omega, by omega, by omega, (BI_last hw i1 (by rw [htx]; unfold dlt; (repeat' split) <;> omega) (by omega)).2⟩, rfl⟩
            · refine g_iload X 1 rfl dX7_endFrom_52 ?_
              refine g_bipush X 125 dX7_endFrom_54 (by decide) ?_
              refine g_icmp_eq X rfl (show (125 : Int32).toInt = 125 by decide) (tgt := 66) dX7_endFrom_56 (by decide) (fun cq114 => ?_) (fun cq114 => ?_)
              · refine g_iinc X 0 (fun v => [(3, .int v), (5, .int (Mq.1 61 (((60 * a1) + b4_7).toNat))), (4, .int y4_7), (0, .ref (ad 47)), (1, .int x1), (2, .int x2)]) dX7_endFrom_66 rfl (by decide) (fun _ => rfl) (fun zq115 eq116 => ?_)
                have tq117 : zq115.toInt = (b3_7 + 1) + (-1) := add_nw eq116 tq105 (show (Int32.ofInt (-1)).toInt = (-1) by decide) (by omega)
                refine g_iload_n X 0 rfl dX7_endFrom_69 ?_
                refine g_if_ne X tq117 (tgt := 76) dX7_endFrom_70 (by decide) (fun cq118 => ?_) (fun cq118 => ?_)
                · refine g_iinc X 2 (fun v => [(4, .int v), (3, .int zq115), (5, .int (Mq.1 61 (((60 * a1) + b4_7).toNat))), (0, .ref (ad 47)), (1, .int x1), (2, .int x2)]) dX7_endFrom_76 rfl (by decide) (fun _ => rfl) (fun zq119 eq120 => ?_)
                  have tq121 : zq119.toInt = b4_7 + 1 := add_nw eq120 e4_7 (show (Int32.ofInt 1).toInt = 1 by decide) (by omega)
                  refine g_goto X (tgt := 7) dX7_endFrom_79 (by decide) ?_
                  refine g_sub [0, 1, 3, 4, 5] rfl ?_
                  exact ih7 zq119 _ tq121 zq115 _ tq117 (BI_next hw i1 (by rw [htx]; unfold dlt; (repeat' split) <;> omega) (by omega)) (by omega) (by omega)
                · refine g_iload X 2 rfl dX7_endFrom_73 ?_
                  exact g_iret X dX7_endFrom_75 ⟨_, _, rfl, e4_7, ⟨by omega, by omega, by omega, (BI_last hw i1 (by rw [htx]; unfold dlt; (repeat' split) <;> omega) (by omega)).2⟩, rfl⟩
              · refine g_iload X 1 rfl dX7_endFrom_59 ?_
                refine g_bipush X 41 dX7_endFrom_61 (by decide) ?_
                refine g_icmp_ne X rfl (show (41 : Int32).toInt = 41 by decide) (tgt := 69) dX7_endFrom_63 (by decide) (fun cq122 => ?_) (fun cq122 => ?_)
                · refine g_iload_n X 0 rfl dX7_endFrom_69 ?_
                  refine g_if_ne X tq105 (tgt := 76) dX7_endFrom_70 (by decide) (fun cq123 => ?_) (fun cq123 => ?_)
                  · refine g_iinc X 2 (fun v => [(4, .int v), (3, .int zq103), (5, .int (Mq.1 61 (((60 * a1) + b4_7).toNat))), (0, .ref (ad 47)), (1, .int x1), (2, .int x2)]) dX7_endFrom_76 rfl (by decide) (fun _ => rfl) (fun zq124 eq125 => ?_)
                    have tq126 : zq124.toInt = b4_7 + 1 := add_nw eq125 e4_7 (show (Int32.ofInt 1).toInt = 1 by decide) (by omega)
                    refine g_goto X (tgt := 7) dX7_endFrom_79 (by decide) ?_
                    refine g_sub [0, 1, 3, 4, 5] rfl ?_
                    exact ih7 zq124 _ tq126 zq103 _ tq105 (BI_next hw i1 (by rw [htx]; unfold dlt; (repeat' split) <;> omega) (by omega)) (by omega) (by omega)
                  · refine g_iload X 2 rfl dX7_endFrom_73 ?_
                    exact g_iret X dX7_endFrom_75 ⟨_, _, rfl, e4_7, ⟨by omega, by omega, by omega, (BI_last hw i1 (by rw [htx]; unfold dlt; (repeat' split) <;> omega) (by omega)).2⟩, rfl⟩
                · refine g_iinc X 0 (fun v => [(3, .int v), (5, .int (Mq.1 61 (((60 * a1) + b4_7).toNat))), (4, .int y4_7), (0, .ref (ad 47)), (1, .int x1), (2, .int x2)]) dX7_endFrom_66 rfl (by decide) (fun _ => rfl) (fun zq127 eq128 => ?_)
                  have tq129 : zq127.toInt = (b3_7 + 1) + (-1) := add_nw eq128 tq105 (show (Int32.ofInt (-1)).toInt = (-1) by decide) (by omega)
                  refine g_iload_n X 0 rfl dX7_endFrom_69 ?_
                  refine g_if_ne X tq129 (tgt := 76) dX7_endFrom_70 (by decide) (fun cq130 => ?_) (fun cq130 => ?_)
                  · refine g_iinc X 2 (fun v => [(4, .int v), (3, .int zq127), (5, .int (Mq.1 61 (((60 * a1) + b4_7).toNat))), (0, .ref (ad 47)), (1, .int x1), (2, .int x2)]) dX7_endFrom_76 rfl (by decide) (fun _ => rfl) (fun zq131 eq132 => ?_)
                    have tq133 : zq131.toInt = b4_7 + 1 := add_nw eq132 e4_7 (show (Int32.ofInt 1).toInt = 1 by decide) (by omega)
                    refine g_goto X (tgt := 7) dX7_endFrom_79 (by decide) ?_
                    refine g_sub [0, 1, 3, 4, 5] rfl ?_
                    exact ih7 zq131 _ tq133 zq127 _ tq129 (BI_next hw i1 (by rw [htx]; unfold dlt; (repeat' split) <;> omega) (by omega)) (by omega) (by omega)
                  · refine g_iload X 2 rfl dX7_endFrom_73 ?_
                    exact g_iret X dX7_endFrom_75 ⟨_, _, rfl, e4_7, ⟨by omega, by omega, by omega, (BI_last hw i1 (by rw [htx]; unfold dlt; (repeat' split) <;> omega) (by omega)).2⟩, rfl⟩
  refine g_sub [0, 1, 2, 3, 4] rfl ?_
  exact lp7 _ zq1 _ tq3 1 _ (show (1 : Int32).toInt = 1 by decide) hB0 (by omega) (Nat.lt_succ_self _)
abbrev W_X7_findTable : List (Nat × Nat) := [(71, 99), (72, 99), (73, 99), (74, 99), (75, 99), (76, 99)]
set_option maxHeartbeats 4000000 in
set_option maxRecDepth 4000 in
theorem c_X7_findTable (ad : Nat → Nat) (Mq : Mem) (x1 : Int32) {a1 : Int} (t1 : x1.toInt = a1) (Iq0 : Iv TM Mq) (h1 : 0 ≤ a1 ∧ a1 ≤ 7) (hw : skN (txt Mq a1.toNat) ((Mq.1 62 a1.toNat).toInt).toNat = some []) : Ctr ad yX7_findTable cX7_findTable 6 none 4 [.ref (ad 47), .int x1] Mq (fun v M' => v = none ∧ (True) ∧ Iv TM M' ∧ Fr W_X7_findTable Mq M') := by
  refine ctr_of (L := [(0, .ref (ad 47)), (1, .int x1)]) (by decide) (Nat.le_of_ble_eq_true rfl) rfl ?_
  intro Γ X
  have X : gX Γ cX7_findTable RX7 6 none 4 ad _ := X
  have frq0 : Fr W_X7_findTable Mq Mq := Fr.rf
  have g12 := ig_47_12 Iq0
  have g24 := ig_47_24 Iq0
  have g44 := ig_47_44 Iq0
  have g43 := ig_47_43 Iq0
  have g53 := ig_47_53 Iq0
  have g59 := ig_47_59 Iq0
  have g62 := ig_62 Iq0 a1.toNat (by omega)
  refine g_iconst X 0 dX7_findTable_0 (by decide) ?_
  refine g_istore_n X (i := 2) [(2, .int 0), (0, .ref (ad 47)), (1, .int x1)] dX7_findTable_1 rfl (by decide) rfl ?_
  refine g_aload_n X 1 rfl dX7_findTable_2 ?_
  refine g_callV X m_X7_292 (c_X7_begins ad Mq Iq0) rfl (by decide) (Nat.le_of_ble_eq_true rfl) rfl dX7_findTable_3 ?_
  rintro _ Mq5 ⟨rfl, hq4, Iq6, frq7⟩
  have frq8 : Fr W_X7_findTable Mq Mq5 := frq0.trans frq7 rfl
  show G Γ Mq5 6 [(2, .int 0), (0, .ref (ad 47)), (1, .int x1)] []
  refine g_iconst X 0 dX7_findTable_6 (by decide) ?_
  refine g_istore_n X (i := 3) [(3, .int 0), (2, .int 0), (0, .ref (ad 47)), (1, .int x1)] dX7_findTable_7 rfl (by decide) rfl ?_
  have lp8 : ∀ n : Nat, ∀ (y3_8 : Int32) (b3_8 : Int), y3_8.toInt = b3_8 → ∀ (y2_8 : Int32) (b2_8 : Int), y2_8.toInt = b2_8 → ∀ (M_8 : Mem), (0 ≤ b3_8 ∧ b3_8 ≤ ((Mq.1 62 a1.toNat).toInt)) → (TI (txt Mq a1.toNat) b3_8 b2_8) → (Iv TM M_8) → (Fr W_X7_findTable Mq M_8) → (((Mq.1 62 a1.toNat).toInt) - b3_8).toNat < n → G Γ M_8 8 [(3, .int y3_8), (2, .int y2_8), (0, .ref (ad 47)), (1, .int x1)] [] := by
    intro n
    induction n with
    | zero => intro y3_8 b3_8 e3_8 y2_8 b2_8 e2_8 M_8 i1 i2 I_8 fr_8 hm; exact absurd hm (Nat.not_lt_zero _)
    | succ n ih8 =>
      intro y3_8 b3_8 e3_8 y2_8 b2_8 e2_8 M_8 i1 i2 I_8 fr_8 hm8
      have q62 : (M_8.1 62 a1.toNat).toInt = ((Mq.1 62 a1.toNat).toInt) := congrArg Int32.toInt (fr_8.at 62 a1.toNat rfl)
      have hln := TI_len hw i2 i1.1 (by omega)
      have hch := fun z => TI_ch hw i2 i1.1 z
      have htx : txt Mq a1.toNat (b3_8).toNat = (M_8.1 61 (60 * a1 + b3_8).toNat).toInt := (txt_at (by omega) (by omega)).trans (congrArg Int32.toInt (fr_8.at 61 _ rfl).symm)
      rw [htx] at hch
      refine g_iload_n X 0 rfl dX7_findTable_8 ?_
      refine g_aload_n X 2 rfl dX7_findTable_9 ?_
      refine g_getr X f_X7_52 dX7_findTable_10 ?_
      refine g_iload_n X 3 rfl dX7_findTable_13 ?_
      refine g_iald X la_62 t1 dX7_findTable_14 (by omega) (x := M_8.1 62 a1.toNat) rfl ?_
      have bq9 := ig_62 I_8 a1.toNat (by omega)
      refine g_icmp_ge X e3_8 rfl (tgt := 300) dX7_findTable_15 (by decide) (fun cq10 => ?_) (fun cq10 => ?_)
      · refine g_iconst X 0 dX7_findTable_300 (by decide) ?_
        refine g_istore_n X (i := 3) [(3, .int 0), (2, .int y2_8), (0, .ref (ad 47)), (1, .int x1)] dX7_findTable_301 rfl (by decide) rfl ?_
        have lp302 : ∀ n : Nat, ∀ (y3_302 : Int32) (b3_302 : Int), y3_302.toInt = b3_302 → ∀ (M_302 : Mem), (0 ≤ b3_302 ∧ b3_302 ≤ 625) → (Iv TM M_302) → (Fr W_X7_findTable Mq M_302) → (625 - b3_302).toNat < n → G Γ M_302 302 [(3, .int y3_302), (2, .int y2_8), (0, .ref (ad 47)), (1, .int x1)] [] := by
          intro n
          induction n with
          | zero => intro y3_302 b3_302 e3_302 M_302 j4 I_302 fr_302 hm; exact absurd hm (Nat.not_lt_zero _)
          | succ n ih302 =>
            intro y3_302 b3_302 e3_302 M_302 j4 I_302 fr_302 hm302
            refine g_iload_n X 0 rfl dX7_findTable_302 ?_
            refine g_sipush X 625 dX7_findTable_303 (by decide) ?_
            refine g_icmp_ge X e3_302 (show (625 : Int32).toInt = 625 by decide) (tgt := 333) dX7_findTable_306 (by decide) (fun cq11 => ?_) (fun cq11 => ?_)
            · exact g_vret X dX7_findTable_333 ⟨rfl, trivial, I_302, fr_302⟩
            · refine g_aload_n X 2 rfl dX7_findTable_309 ?_
              refine g_getr X f_X7_83 dX7_findTable_310 ?_
              refine g_sipush X 625 dX7_findTable_313 (by decide) ?_
              refine g_iload_n X 3 rfl dX7_findTable_316 ?_
              refine g_imul X dX7_findTable_317 (fun zq12 eq13 => ?_)
              have tq14 : zq12.toInt = 625 * a1 := mul_nw eq13 (show (625 : Int32).toInt = 625 by decide) t1 (by omega)
              refine g_iload_n X 0 rfl dX7_findTable_318 ?_
              refine g_iadd X dX7_findTable_319 (fun zq15 eq16 => ?_)
              have tq17 : zq15.toInt = (625 * a1) + b3_302 := add_nw eq16 tq14 e3_302 (by omega)
              refine g_aload_n X 2 rfl dX7_findTable_320 ?_
              refine g_getr X f_X7_98 dX7_findTable_321 ?_
              refine g_iload_n X 0 rfl dX7_findTable_324 ?_
              refine g_iald X la_76 e3_302 dX7_findTable_325 (by omega) (x := M_302.1 76 b3_302.toNat) rfl ?_
              refine g_iast X la_71 tq17 dX7_findTable_326 (by omega) ?_
              have Iq18 : Iv TM (ui M_302 71 (((625 * a1) + b3_302).toNat) (M_302.1 76 b3_302.toNat)) := I_302.otherA rfl
              have frq19 : Fr W_X7_findTable Mq (ui M_302 71 (((625 * a1) + b3_302).toNat) (M_302.1 76 b3_302.toNat)) := fr_302.ui rfl
              refine g_iinc X 0 (fun v => [(3, .int v), (2, .int y2_8), (0, .ref (ad 47)), (1, .int x1)]) dX7_findTable_327 rfl (by decide) (fun _ => rfl) (fun zq20 eq21 => ?_)
              have tq22 : zq20.toInt = b3_302 + 1 := add_nw eq21 e3_302 (show (Int32.ofInt 1).toInt = 1 by decide) (by omega)
              refine g_goto X (tgt := 302) dX7_findTable_330 (by decide) ?_
              refine g_sub [0, 1, 2, 3] rfl ?_
              exact ih302 zq20 _ tq22 (ui M_302 71 (((625 * a1) + b3_302).toNat) (M_302.1 76 b3_302.toNat)) (by omega) Iq18 frq19 (by omega)
        refine g_sub [0, 1, 2, 3] rfl ?_
        exact lp302 _ 0 _ (show (0 : Int32).toInt = 0 by decide) M_8 (by omega) I_8 fr_8 (Nat.lt_succ_self _)
      · refine g_aload_n X 2 rfl dX7_findTable_18 ?_
        refine g_getr X f_X7_49 dX7_findTable_19 ?_
        refine g_bipush X 60 dX7_findTable_22 (by decide) ?_
        refine g_iload_n X 3 rfl dX7_findTable_24 ?_
        refine g_imul X dX7_findTable_25 (fun zq23 eq24 => ?_)
        have tq25 : zq23.toInt = 60 * a1 := mul_nw eq24 (show (60 : Int32).toInt = 60 by decide) t1 (by omega)
        refine g_iload_n X 0 rfl dX7_findTable_26 ?_
        refine g_iadd X dX7_findTable_27 (fun zq26 eq27 => ?_)
        have tq28 : zq26.toInt = (60 * a1) + b3_8 := add_nw eq27 tq25 e3_8 (by omega)
        refine g_iald X la_61 tq28 dX7_findTable_28 (by omega) (x := M_8.1 61 (((60 * a1) + b3_8).toNat)) rfl ?_
        refine g_istore X [(4, .int (M_8.1 61 (((60 * a1) + b3_8).toNat))), (3, .int y3_8), (2, .int y2_8), (0, .ref (ad 47)), (1, .int x1)] dX7_findTable_29 (by decide) rfl ?_
        refine g_iload X 0 rfl dX7_findTable_31 ?_
        refine g_callS X m_X7_214 (c_X7_isSlot ad M_8 (M_8.1 61 (((60 * a1) + b3_8).toNat)) rfl) rfl (by decide) (Nat.le_of_ble_eq_true rfl) rfl dX7_findTable_33 ?_
        rintro _ _ ⟨rq29, aq30, rfl, tq31, hq32, rfl⟩
        show G Γ M_8 36 [(4, .int (M_8.1 61 (((60 * a1) + b3_8).toNat))), (3, .int y3_8), (2, .int y2_8), (0, .ref (ad 47)), (1, .int x1)] [.int rq29]
        refine g_if_eq X tq31 (tgt := 51) dX7_findTable_36 (by decide) (fun cq33 => ?_) (fun cq33 => ?_)
        · have pq34 : ¬ (97 ≤ ((M_8.1 61 (((60 * a1) + b3_8).toNat)).toInt) ∧ ((M_8.1 61 (((60 * a1) + b3_8).toNat)).toInt) ≤ 104) := by omega
          clear hq32 cq33 tq31
          refine g_iload X 0 rfl dX7_findTable_51 ?_
          refine g_callS X m_X7_217 (c_X7_isScene ad M_8 (M_8.1 61 (((60 * a1) + b3_8).toNat)) rfl) rfl (by decide) (Nat.le_of_ble_eq_true rfl) rfl dX7_findTable_53 ?_
          rintro _ _ ⟨rq35, aq36, rfl, tq37, hq38, rfl⟩
          show G Γ M_8 56 [(4, .int (M_8.1 61 (((60 * a1) + b3_8).toNat))), (3, .int y3_8), (2, .int y2_8), (0, .ref (ad 47)), (1, .int x1)] [.int rq35]
          refine g_if_eq X tq37 (tgt := 79) dX7_findTable_56 (by decide) (fun cq39 => ?_) (fun cq39 => ?_)
          · have pq40 : ¬ (65 ≤ ((M_8.1 61 (((60 * a1) + b3_8).toNat)).toInt) ∧ ((M_8.1 61 (((60 * a1) + b3_8).toNat)).toInt) ≤ 72) := by omega
            clear hq38 cq39 tq37
            refine g_iload X 0 rfl dX7_findTable_79 ?_
            refine g_bipush X 91 dX7_findTable_81 (by decide) ?_
            refine g_icmp_eq X rfl (show (91 : Int32).toInt = 91 by decide) (tgt := 100) dX7_findTable_83 (by decide) (fun cq41 => ?_) (fun cq41 => ?_)
            · refine g_iconst X 0 dX7_findTable_100 (by decide) ?_
              refine g_istore X [(5, .int 0), (4, .int (M_8.1 61 (((60 * a1) + b3_8).toNat))), (3, .int y3_8), (2, .int y2_8), (0, .ref (ad 47)), (1, .int x1)] dX7_findTable_101 (by decide) rfl ?_
              have lp103 : ∀ n : Nat, ∀ (y5_103 : Int32) (b5_103 : Int), y5_103.toInt = b5_103 → ∀ (M_103 : Mem), (0 ≤ b5_103 ∧ b5_103 ≤ 625) → (Iv TM M_103) → (Fr W_X7_findTable Mq M_103) → (625 - b5_103).toNat < n → G Γ M_103 103 [(5, .int y5_103), (4, .int (M_8.1 61 (((60 * a1) + b3_8).toNat))), (3, .int y3_8), (2, .int y2_8), (0, .ref (ad 47)), (1, .int x1)] [] := by
                intro n
                induction n with
                | zero => intro y5_103 b5_103 e5_103 M_103 j1 I_103 fr_103 hm; exact absurd hm (Nat.not_lt_zero _)
                | succ n ih103 =>
                  intro y5_103 b5_103 e5_103 M_103 j1 I_103 fr_103 hm103
                  refine g_iload X 0 rfl dX7_findTable_103 ?_
                  refine g_sipush X 625 dX7_findTable_105 (by decide) ?_
                  refine g_icmp_ge X e5_103 (show (625 : Int32).toInt = 625 by decide) (tgt := 137) dX7_findTable_108 (by decide) (fun cq42 => ?_) (fun cq42 => ?_)
                  · refine g_iinc X 3 (fun v => [(2, .int v), (5, .int y5_103), (4, .int (M_8.1 61 (((60 * a1) + b3_8).toNat))), (3, .int y3_8), (0, .ref (ad 47)), (1, .int x1)]) dX7_findTable_137 rfl (by decide) (fun _ => rfl) (fun zq43 eq44 => ?_)
                    have tq45 : zq43.toInt = b2_8 + 1 := add_nw eq44 e2_8 (show (Int32.ofInt 1).toInt = 1 by decide) (by omega)
                    refine g_aload_n X 4 rfl dX7_findTable_140 ?_
                    refine g_callV X m_X7_292 (c_X7_begins ad M_103 I_103) rfl (by decide) (Nat.le_of_ble_eq_true rfl) rfl dX7_findTable_141 ?_
                    rintro _ Mq50 ⟨rfl, hq49, Iq51, frq52⟩
                    have frq53 : Fr W_X7_findTable Mq Mq50 := fr_103.trans frq52 rfl
                    show G Γ Mq50 144 [(2, .int zq43), (5, .int y5_103), (4, .int (M_8.1 61 (((60 * a1) + b3_8).toNat))), (3, .int y3_8), (0, .ref (ad 47)), (1, .int x1)] []
                    refine g_goto X (tgt := 294) dX7_findTable_144 (by decide) ?_
                    refine g_iinc X 3 (fun v => [(3, .int v), (2, .int zq43), (5, .int y5_103), (4, .int (M_8.1 61 (((60 * a1) + b3_8).toNat))), (0, .ref (ad 47)), (1, .int x1)]) dX7_findTable_294 rfl (by decide) (fun _ => rfl) (fun zq54 eq55 => ?_)
                    have tq56 : zq54.toInt = b3_8 + 1 := add_nw eq55 e3_8 (show (Int32.ofInt 1).toInt = 1 by decide) (by omega)
                    refine g_goto X (tgt := 8) dX7_findTable_297 (by decide) ?_
                    refine g_sub [0, 1, 4, 5] rfl ?_
                    exact ih8 zq54 _ tq56 zq43 _ tq45 Mq50 (by omega) (TI_next hw i2 i1.1 (by omega) (by rw [htx]; unfold dlt; (repeat' split) <;> omega)) Iq51 frq53 (by omega)
                  · refine g_aload_n X 4 rfl dX7_findTable_111 ?_
                    refine g_getr X f_X7_86 dX7_findTable_112 ?_
                    refine g_sipush X 625 dX7_findTable_115 (by decide) ?_
                    refine g_iload_n X 3 rfl dX7_findTable_118 ?_
                    refine g_imul X dX7_findTable_119 (fun zq57 eq58 => ?_)
                    have tq59 : zq57.toInt = 625 * b2_8 := mul_nw eq58 (show (625 : Int32).toInt = 625 by decide) e2_8 (by omega)
                    refine g_iload X 0 rfl dX7_findTable_120 ?_
                    refine g_iadd X dX7_findTable_122 (fun zq60 eq61 => ?_)
                    have tq62 : zq60.toInt = (625 * b2_8) + b5_103 := add_nw eq61 tq59 e5_103 (by omega)
                    refine g_aload_n X 4 rfl dX7_findTable_123 ?_
                    refine g_getr X f_X7_98 dX7_findTable_124 ?_
                    refine g_iload X 0 rfl dX7_findTable_127 ?_
                    refine g_iald X la_76 e5_103 dX7_findTable_129 (by omega) (x := M_103.1 76 b5_103.toNat) rfl ?_
                    refine g_iast X la_72 tq62 dX7_findTable_130 (by omega) ?_
                    have Iq63 : Iv TM (ui M_103 72 (((625 * b2_8) + b5_103).toNat) (M_103.1 76 b5_103.toNat)) := I_103.otherA rfl
                    have frq64 : Fr W_X7_findTable Mq (ui M_103 72 (((625 * b2_8) + b5_103).toNat) (M_103.1 76 b5_103.toNat)) := fr_103.ui rfl
                    refine g_iinc X 0 (fun v => [(5, .int v), (4, .int (M_8.1 61 (((60 * a1) + b3_8).toNat))), (3, .int y3_8), (2, .int y2_8), (0, .ref (ad 47)), (1, .int x1)]) dX7_findTable_131 rfl (by decide) (fun _ => rfl) (fun zq65 eq66 => ?_)
                    have tq67 : zq65.toInt = b5_103 + 1 := add_nw eq66 e5_103 (show (Int32.ofInt 1).toInt = 1 by decide) (by omega)
                    refine g_goto X (tgt := 103) dX7_findTable_134 (by decide) ?_
                    refine g_sub [0, 1, 2, 3, 4, 5] rfl ?_
                    exact ih103 zq65 _ tq67 (ui M_103 72 (((625 * b2_8) + b5_103).toNat) (M_103.1 76 b5_103.toNat)) (by omega) Iq63 frq64 (by omega)
              refine g_sub [0, 1, 2, 3, 4, 5] rfl ?_
              exact lp103 _ 0 _ (show (0 : Int32).toInt = 0 by decide) M_8 (by omega) I_8 fr_8 (Nat.lt_succ_self _)
            · refine g_iload X 0 rfl dX7_findTable_86 ?_
              refine g_bipush X 123 dX7_findTable_88 (by decide) ?_
              refine g_icmp_eq X rfl (show (123 : Int32).toInt = 123 by decide) (tgt := 100) dX7_findTable_90 (by decide) (fun cq68 => ?_) (fun cq68 => ?_)
              · refine g_iconst X 0 dX7_findTable_100 (by decide) ?_
                refine g_istore X [(5, .int 0), (4, .int (M_8.1 61 (((60 * a1) + b3_8).toNat))), (3, .int y3_8), (2, .int y2_8), (0, .ref (ad 47)), (1, .int x1)] dX7_findTable_101 (by decide) rfl ?_
                have lp103 : ∀ n : Nat, ∀ (y5_103 : Int32) (b5_103 : Int), y5_103.toInt = b5_103 → ∀ (M_103 : Mem), (0 ≤ b5_103 ∧ b5_103 ≤ 625) → (Iv TM M_103) → (Fr W_X7_findTable Mq M_103) → (625 - b5_103).toNat < n → G Γ M_103 103 [(5, .int y5_103), (4, .int (M_8.1 61 (((60 * a1) + b3_8).toNat))), (3, .int y3_8), (2, .int y2_8), (0, .ref (ad 47)), (1, .int x1)] [] := by
                  intro n
                  induction n with
                  | zero => intro y5_103 b5_103 e5_103 M_103 j1 I_103 fr_103 hm; exact absurd hm (Nat.not_lt_zero _)
                  | succ n ih103 =>
                    intro y5_103 b5_103 e5_103 M_103 j1 I_103 fr_103 hm103
                    refine g_iload X 0 rfl dX7_findTable_103 ?_
                    refine g_sipush X 625 dX7_findTable_105 (by decide) ?_
                    refine g_icmp_ge X e5_103 (show (625 : Int32).toInt = 625 by decide) (tgt := 137) dX7_findTable_108 (by decide) (fun cq69 => ?_) (fun cq69 => ?_)
                    · refine g_iinc X 3 (fun v => [(2, .int v), (5, .int y5_103), (4, .int (M_8.1 61 (((60 * a1) + b3_8).toNat))), (3, .int y3_8), (0, .ref (ad 47)), (1, .int x1)]) dX7_findTable_137 rfl (by decide) (fun _ => rfl) (fun zq70 eq71 => ?_)
                      have tq72 : zq70.toInt = b2_8 + 1 := add_nw eq71 e2_8 (show (Int32.ofInt 1).toInt = 1 by decide) (by omega)
                      refine g_aload_n X 4 rfl dX7_findTable_140 ?_
                      refine g_callV X m_X7_292 (c_X7_begins ad M_103 I_103) rfl (by decide) (Nat.le_of_ble_eq_true rfl) rfl dX7_findTable_141 ?_
                      rintro _ Mq77 ⟨rfl, hq76, Iq78, frq79⟩
                      have frq80 : Fr W_X7_findTable Mq Mq77 := fr_103.trans frq79 rfl
                      show G Γ Mq77 144 [(2, .int zq70), (5, .int y5_103), (4, .int (M_8.1 61 (((60 * a1) + b3_8).toNat))), (3, .int y3_8), (0, .ref (ad 47)), (1, .int x1)] []
                      refine g_goto X (tgt := 294) dX7_findTable_144 (by decide) ?_
                      refine g_iinc X 3 (fun v => [(3, .int v), (2, .int zq70), (5, .int y5_103), (4, .int (M_8.1 61 (((60 * a1) + b3_8).toNat))), (0, .ref (ad 47)), (1, .int x1)]) dX7_findTable_294 rfl (by decide) (fun _ => rfl) (fun zq81 eq82 => ?_)
                      have tq83 : zq81.toInt = b3_8 + 1 := add_nw eq82 e3_8 (show (Int32.ofInt 1).toInt = 1 by decide) (by omega)
                      refine g_goto X (tgt := 8) dX7_findTable_297 (by decide) ?_
                      refine g_sub [0, 1, 4, 5] rfl ?_
                      exact ih8 zq81 _ tq83 zq70 _ tq72 Mq77 (by omega) (TI_next hw i2 i1.1 (by omega) (by rw [htx]; unfold dlt; (repeat' split) <;> omega)) Iq78 frq80 (by omega)
                    · refine g_aload_n X 4 rfl dX7_findTable_111 ?_
                      refine g_getr X f_X7_86 dX7_findTable_112 ?_
                      refine g_sipush X 625 dX7_findTable_115 (by decide) ?_
                      refine g_iload_n X 3 rfl dX7_findTable_118 ?_
                      refine g_imul X dX7_findTable_119 (fun zq84 eq85 => ?_)
                      have tq86 : zq84.toInt = 625 * b2_8 := mul_nw eq85 (show (625 : Int32).toInt = 625 by decide) e2_8 (by omega)
                      refine g_iload X 0 rfl dX7_findTable_120 ?_
                      refine g_iadd X dX7_findTable_122 (fun zq87 eq88 => ?_)
                      have tq89 : zq87.toInt = (625 * b2_8) + b5_103 := add_nw eq88 tq86 e5_103 (by omega)
                      refine g_aload_n X 4 rfl dX7_findTable_123 ?_
                      refine g_getr X f_X7_98 dX7_findTable_124 ?_
                      refine g_iload X 0 rfl dX7_findTable_127 ?_
                      refine g_iald X la_76 e5_103 dX7_findTable_129 (by omega) (x := M_103.1 76 b5_103.toNat) rfl ?_
                      refine g_iast X la_72 tq89 dX7_findTable_130 (by omega) ?_
                      have Iq90 : Iv TM (ui M_103 72 (((625 * b2_8) + b5_103).toNat) (M_103.1 76 b5_103.toNat)) := I_103.otherA rfl
                      have frq91 : Fr W_X7_findTable Mq (ui M_103 72 (((625 * b2_8) + b5_103).toNat) (M_103.1 76 b5_103.toNat)) := fr_103.ui rfl
                      refine g_iinc X 0 (fun v => [(5, .int v), (4, .int (M_8.1 61 (((60 * a1) + b3_8).toNat))), (3, .int y3_8), (2, .int y2_8), (0, .ref (ad 47)), (1, .int x1)]) dX7_findTable_131 rfl (by decide) (fun _ => rfl) (fun zq92 eq93 => ?_)
                      have tq94 : zq92.toInt = b5_103 + 1 := add_nw eq93 e5_103 (show (Int32.ofInt 1).toInt = 1 by decide) (by omega)
                      refine g_goto X (tgt := 103) dX7_findTable_134 (by decide) ?_
                      refine g_sub [0, 1, 2, 3, 4, 5] rfl ?_
                      exact ih103 zq92 _ tq94 (ui M_103 72 (((625 * b2_8) + b5_103).toNat) (M_103.1 76 b5_103.toNat)) (by omega) Iq90 frq91 (by omega)
                refine g_sub [0, 1, 2, 3, 4, 5] rfl ?_
                exact lp103 _ 0 _ (show (0 : Int32).toInt = 0 by decide) M_8 (by omega) I_8 fr_8 (Nat.lt_succ_self _)
              · refine g_iload X 0 rfl dX7_findTable_93 ?_
                refine g_bipush X 40 dX7_findTable_95 (by decide) ?_
                refine g_icmp_ne X rfl (show (40 : Int32).toInt = 40 by decide) (tgt := 147) dX7_findTable_97 (by decide) (fun cq95 => ?_) (fun cq95 => ?_)
                · refine g_iload X 0 rfl dX7_findTable_147 ?_
                  refine g_bipush X 124 dX7_findTable_149 (by decide) ?_
                  refine g_icmp_ne X rfl (show (124 : Int32).toInt = 124 by decide) (tgt := 200) dX7_findTable_151 (by decide) (fun cq96 => ?_) (fun cq96 => ?_)
                  · refine g_iinc X 2 (fun v => [(2, .int v), (4, .int (M_8.1 61 (((60 * a1) + b3_8).toNat))), (3, .int y3_8), (0, .ref (ad 47)), (1, .int x1)]) dX7_findTable_200 rfl (by decide) (fun _ => rfl) (fun zq97 eq98 => ?_)
                    have tq99 : zq97.toInt = b2_8 + (-1) := add_nw eq98 e2_8 (show (Int32.ofInt (-1)).toInt = (-1) by decide) (by omega)
                    refine g_iload X 1 rfl dX7_findTable_203 ?_
                    refine g_bipush X 41 dX7_findTable_205 (by decide) ?_
                    refine g_icmp_eq X rfl (show (41 : Int32).toInt = 41 by decide) (tgt := 233) dX7_findTable_207 (by decide) (fun cq100 => ?_) (fun cq100 => ?_)
                    · refine g_iconst X 0 dX7_findTable_233 (by decide) ?_
                      refine g_istore X [(5, .int 0), (2, .int zq97), (4, .int (M_8.1 61 (((60 * a1) + b3_8).toNat))), (3, .int y3_8), (0, .ref (ad 47)), (1, .int x1)] dX7_findTable_234 (by decide) rfl ?_
                      have lp236 : ∀ n : Nat, ∀ (y5_236 : Int32) (b5_236 : Int), y5_236.toInt = b5_236 → ∀ (M_236 : Mem), (0 ≤ b5_236 ∧ b5_236 ≤ 625) → (Iv TM M_236) → (Fr W_X7_findTable Mq M_236) → (625 - b5_236).toNat < n → G Γ M_236 236 [(5, .int y5_236), (2, .int zq97), (4, .int (M_8.1 61 (((60 * a1) + b3_8).toNat))), (3, .int y3_8), (0, .ref (ad 47)), (1, .int x1)] [] := by
                        intro n
                        induction n with
                        | zero => intro y5_236 b5_236 e5_236 M_236 j3 I_236 fr_236 hm; exact absurd hm (Nat.not_lt_zero _)
                        | succ n ih236 =>
                          intro y5_236 b5_236 e5_236 M_236 j3 I_236 fr_236 hm236
                          refine g_iload X 0 rfl dX7_findTable_236 ?_
                          refine g_sipush X 625 dX7_findTable_238 (by decide) ?_
                          refine g_icmp_ge X e5_236 (show (625 : Int32).toInt = 625 by decide) (tgt := 289) dX7_findTable_241 (by decide) (fun cq101 => ?_) (fun cq101 => ?_)
                          · refine g_aload_n X 4 rfl dX7_findTable_289 ?_
                            refine g_iload_n X 1 rfl dX7_findTable_290 ?_
                            refine g_callV X m_X7_299 (c_X7_goesBehind ad M_236 zq97 tq99 I_236 (by omega)) rfl (by decide) (Nat.le_of_ble_eq_true rfl) rfl dX7_findTable_291 ?_
                            rintro _ Mq106 ⟨rfl, hq105, Iq107, frq108⟩
                            have frq109 : Fr W_X7_findTable Mq Mq106 := fr_236.trans frq108 rfl
                            show G Γ Mq106 294 [(5, .int y5_236), (2, .int zq97), (4, .int (M_8.1 61 (((60 * a1) + b3_8).toNat))), (3, .int y3_8), (0, .ref (ad 47)), (1, .int x1)] []
                            refine g_iinc X 3 (fun v => [(3, .int v), (5, .int y5_236), (2, .int zq97), (4, .int (M_8.1 61 (((60 * a1) + b3_8).toNat))), (0, .ref (ad 47)), (1, .int x1)]) dX7_findTable_294 rfl (by decide) (fun _ => rfl) (fun zq110 eq111 => ?_)
                            have tq112 : zq110.toInt = b3_8 + 1 := add_nw eq111 e3_8 (show (Int32.ofInt 1).toInt = 1 by decide) (by omega)
                            refine g_goto X (tgt := 8) dX7_findTable_297 (by decide) ?_
                            refine g_sub [0, 2, 4, 5] rfl ?_
                            exact ih8 zq110 _ tq112 zq97 _ tq99 Mq106 (by omega) (TI_next hw i2 i1.1 (by omega) (by rw [htx]; unfold dlt; (repeat' split) <;> omega)) Iq107 frq109 (by omega)
                          · refine g_aload_n X 4 rfl dX7_findTable_244 ?_
                            refine g_getr X f_X7_89 dX7_findTable_245 ?_
                            refine g_sipush X 625 dX7_findTable_248 (by decide) ?_
                            refine g_iload_n X 1 rfl dX7_findTable_251 ?_
                            refine g_imul X dX7_findTable_252 (fun zq113 eq114 => ?_)
                            have tq115 : zq113.toInt = 625 * (b2_8 + (-1)) := mul_nw eq114 (show (625 : Int32).toInt = 625 by decide) tq99 (by omega)
                            refine g_iload X 0 rfl dX7_findTable_253 ?_
                            refine g_iadd X dX7_findTable_255 (fun zq116 eq117 => ?_)
                            have tq118 : zq116.toInt = (625 * (b2_8 + (-1))) + b5_236 := add_nw eq117 tq115 e5_236 (by omega)
                            refine g_aload_n X 4 rfl dX7_findTable_256 ?_
                            refine g_getr X f_X7_89 dX7_findTable_257 ?_
                            refine g_sipush X 625 dX7_findTable_260 (by decide) ?_
                            refine g_iload_n X 1 rfl dX7_findTable_263 ?_
                            refine g_imul X dX7_findTable_264 (fun zq119 eq120 => ?_)
                            have tq121 : zq119.toInt = 625 * (b2_8 + (-1)) := mul_nw eq120 (show (625 : Int32).toInt = 625 by decide) tq99 (by omega)
                            refine g_iload X 0 rfl dX7_findTable_265 ?_
                            refine g_iadd X dX7_findTable_267 (fun zq122 eq123 => ?_)
                            have tq124 : zq122.toInt = (625 * (b2_8 + (-1))) + b5_236 := add_nw eq123 tq121 e5_236 (by omega)
                            refine g_iald X la_73 tq124 dX7_findTable_268 (by omega) (x := M_236.1 73 (((625 * (b2_8 + (-1))) + b5_236).toNat)) rfl ?_
                            refine g_i2l X dX7_findTable_269 (fun zq125 eq126 => ?_)
                            have tq127 : zq125.toInt = (M_236.1 73 (((625 * (b2_8 + (-1))) + b5_236).toNat)).toInt := i2l_nw eq126 rfl
                            refine g_aload_n X 4 rfl dX7_findTable_270 ?_
                            refine g_getr X f_X7_98 dX7_findTable_271 ?_
                            refine g_iload X 0 rfl dX7_findTable_274 ?_
                            refine g_iald X la_76 e5_236 dX7_findTable_276 (by omega) (x := M_236.1 76 b5_236.toNat) rfl ?_
                            refine g_i2l X dX7_findTable_277 (fun zq128 eq129 => ?_)
                            have tq130 : zq128.toInt = (M_236.1 76 b5_236.toNat).toInt := i2l_nw eq129 rfl
                            refine g_ladd X dX7_findTable_278 (fun zq131 eq132 => ?_)
                            refine g_callS X m_X7_285 (c_X7_least ad M_236 zq131 rfl) rfl (by decide) (Nat.le_of_ble_eq_true rfl) rfl dX7_findTable_279 ?_
                            rintro _ _ ⟨rq133, aq134, rfl, tq135, hq136, rfl⟩
                            show G Γ M_236 282 [(5, .int y5_236), (2, .int zq97), (4, .int (M_8.1 61 (((60 * a1) + b3_8).toNat))), (3, .int y3_8), (0, .ref (ad 47)), (1, .int x1)] [.int rq133, .int zq116, .ref (ad 73)]
                            refine g_iast X la_73 tq118 dX7_findTable_282 (by omega) ?_
                            have Iq137 : Iv TM (ui M_236 73 (((625 * (b2_8 + (-1))) + b5_236).toNat) rq133) := I_236.otherA rfl
                            have frq138 : Fr W_X7_findTable Mq (ui M_236 73 (((625 * (b2_8 + (-1))) + b5_236).toNat) rq133) := fr_236.ui rfl
                            refine g_iinc X 0 (fun v => [(5, .int v), (2, .int zq97), (4, .int (M_8.1 61 (((60 * a1) + b3_8).toNat))), (3, .int y3_8), (0, .ref (ad 47)), (1, .int x1)]) dX7_findTable_283 rfl (by decide) (fun _ => rfl) (fun zq139 eq140 => ?_)
                            have tq141 : zq139.toInt = b5_236 + 1 := add_nw eq140 e5_236 (show (Int32.ofInt 1).toInt = 1 by decide) (by omega)
                            refine g_goto X (tgt := 236) dX7_findTable_286 (by decide) ?_
                            refine g_sub [0, 1, 2, 3, 4, 5] rfl ?_
                            exact ih236 zq139 _ tq141 (ui M_236 73 (((625 * (b2_8 + (-1))) + b5_236).toNat) rq133) (by omega) Iq137 frq138 (by omega)
                      refine g_sub [0, 1, 2, 3, 4, 5] rfl ?_
                      exact lp236 _ 0 _ (show (0 : Int32).toInt = 0 by decide) M_8 (by omega) I_8 fr_8 (Nat.lt_succ_self _)
                    · refine g_aload_n X 3 rfl dX7_findTable_210 ?_
                      refine g_iload X 1 rfl dX7_findTable_211 ?_
                      refine g_bipush X 93 dX7_findTable_213 (by decide) ?_
                      refine g_icmp_ne X rfl (show (93 : Int32).toInt = 93 by decide) (tgt := 222) dX7_findTable_215 (by decide) (fun cq142 => ?_) (fun cq142 => ?_)
                      · refine g_aload_n X 3 rfl dX7_findTable_222 ?_
                        refine g_geti X f_X7_61 dX7_findTable_223 (x := M_8.1 47 24) rfl ?_
                        have bq143 := ig_47_24 I_8
                        refine g_iload_n X 0 rfl dX7_findTable_226 ?_
                        refine g_callV X m_X7_306 (c_X7_closes ad M_8 (M_8.1 47 24) rfl zq97 tq99 I_8 (by omega) (by omega)) rfl (by decide) (Nat.le_of_ble_eq_true rfl) rfl dX7_findTable_227 ?_
                        rintro _ Mq148 ⟨rfl, hq147, Iq149, frq150⟩
                        have frq151 : Fr W_X7_findTable Mq Mq148 := fr_8.trans frq150 rfl
                        show G Γ Mq148 230 [(2, .int zq97), (4, .int (M_8.1 61 (((60 * a1) + b3_8).toNat))), (3, .int y3_8), (0, .ref (ad 47)), (1, .int x1)] []
                        refine g_goto X (tgt := 294) dX7_findTable_230 (by decide) ?_
                        refine g_iinc X 2 (fun v => [(3, .int v), (2, .int zq97), (4, .int (M_8.1 61 (((60 * a1) + b3_8).toNat))), (0, .ref (ad 47)), (1, .int x1)]) dX7_findTable_294 rfl (by decide) (fun _ => rfl) (fun zq152 eq153 => ?_)
                        have tq154 : zq152.toInt = b3_8 + 1 := add_nw eq153 e3_8 (show (Int32.ofInt 1).toInt = 1 by decide) (by omega)
                        refine g_goto X (tgt := 8) dX7_findTable_297 (by decide) ?_
                        refine g_sub [0, 1, 3, 4] rfl ?_
                        exact ih8 zq152 _ tq154 zq97 _ tq99 Mq148 (by omega) (TI_next hw i2 i1.1 (by omega) (by rw [htx]; unfold dlt; (repeat' split) <;> omega)) Iq149 frq151 (by omega)
                      · refine g_iconst X 1 dX7_findTable_218 (by decide) ?_
                        refine g_goto X (tgt := 226) dX7_findTable_219 (by decide) ?_
                        refine g_iload_n X 0 rfl dX7_findTable_226 ?_
                        refine g_callV X m_X7_306 (c_X7_closes ad M_8 1 (show (1 : Int32).toInt = 1 by decide) zq97 tq99 I_8 (by omega) (by omega)) rfl (by decide) (Nat.le_of_ble_eq_true rfl) rfl dX7_findTable_227 ?_
                        rintro _ Mq159 ⟨rfl, hq158, Iq160, frq161⟩
                        have frq162 : Fr W_X7_findTable Mq Mq159 := fr_8.trans frq161 rfl
                        show G Γ Mq159 230 [(2, .int zq97), (4, .int (M_8.1 61 (((60 * a1) + b3_8).toNat))), (3, .int y3_8), (0, .ref (ad 47)), (1, .int x1)] []
                        refine g_goto X (tgt := 294) dX7_findTable_230 (by decide) ?_
                        refine g_iinc X 2 (fun v => [(3, .int v), (2, .int zq97), (4, .int (M_8.1 61 (((60 * a1) + b3_8).toNat))), (0, .ref (ad 47)), (1, .int x1)]) dX7_findTable_294 rfl (by decide) (fun _ => rfl) (fun zq163 eq164 => ?_)
                        have tq165 : zq163.toInt = b3_8 + 1 := add_nw eq164 e3_8 (show (Int32.ofInt 1).toInt = 1 by decide) (by omega)
                        refine g_goto X (tgt := 8) dX7_findTable_297 (by decide) ?_
                        refine g_sub [0, 1, 3, 4] rfl ?_
                        exact ih8 zq163 _ tq165 zq97 _ tq99 Mq159 (by omega) (TI_next hw i2 i1.1 (by omega) (by rw [htx]; unfold dlt; (repeat' split) <;> omega)) Iq160 frq162 (by omega)
                  · refine g_iconst X 0 dX7_findTable_154 (by decide) ?_
                    refine g_istore X [(5, .int 0), (4, .int (M_8.1 61 (((60 * a1) + b3_8).toNat))), (3, .int y3_8), (2, .int y2_8), (0, .ref (ad 47)), (1, .int x1)] dX7_findTable_155 (by decide) rfl ?_
                    have lp157 : ∀ n : Nat, ∀ (y5_157 : Int32) (b5_157 : Int), y5_157.toInt = b5_157 → ∀ (M_157 : Mem), (0 ≤ b5_157 ∧ b5_157 ≤ 625) → (Iv TM M_157) → (Fr W_X7_findTable Mq M_157) → (625 - b5_157).toNat < n → G Γ M_157 157 [(5, .int y5_157), (4, .int (M_8.1 61 (((60 * a1) + b3_8).toNat))), (3, .int y3_8), (2, .int y2_8), (0, .ref (ad 47)), (1, .int x1)] [] := by
                      intro n
                      induction n with
                      | zero => intro y5_157 b5_157 e5_157 M_157 j2 I_157 fr_157 hm; exact absurd hm (Nat.not_lt_zero _)
                      | succ n ih157 =>
                        intro y5_157 b5_157 e5_157 M_157 j2 I_157 fr_157 hm157
                        refine g_iload X 0 rfl dX7_findTable_157 ?_
                        refine g_sipush X 625 dX7_findTable_159 (by decide) ?_
                        refine g_icmp_ge X e5_157 (show (625 : Int32).toInt = 625 by decide) (tgt := 193) dX7_findTable_162 (by decide) (fun cq166 => ?_) (fun cq166 => ?_)
                        · refine g_aload_n X 4 rfl dX7_findTable_193 ?_
                          refine g_callV X m_X7_292 (c_X7_begins ad M_157 I_157) rfl (by decide) (Nat.le_of_ble_eq_true rfl) rfl dX7_findTable_194 ?_
                          rintro _ Mq171 ⟨rfl, hq170, Iq172, frq173⟩
                          have frq174 : Fr W_X7_findTable Mq Mq171 := fr_157.trans frq173 rfl
                          show G Γ Mq171 197 [(5, .int y5_157), (4, .int (M_8.1 61 (((60 * a1) + b3_8).toNat))), (3, .int y3_8), (2, .int y2_8), (0, .ref (ad 47)), (1, .int x1)] []
                          refine g_goto X (tgt := 294) dX7_findTable_197 (by decide) ?_
                          refine g_iinc X 2 (fun v => [(3, .int v), (5, .int y5_157), (4, .int (M_8.1 61 (((60 * a1) + b3_8).toNat))), (2, .int y2_8), (0, .ref (ad 47)), (1, .int x1)]) dX7_findTable_294 rfl (by decide) (fun _ => rfl) (fun zq175 eq176 => ?_)
                          have tq177 : zq175.toInt = b3_8 + 1 := add_nw eq176 e3_8 (show (Int32.ofInt 1).toInt = 1 by decide) (by omega)
                          refine g_goto X (tgt := 8) dX7_findTable_297 (by decide) ?_
                          refine g_sub [0, 3, 4, 5] rfl ?_
                          exact ih8 zq175 _ tq177 y2_8 _ e2_8 Mq171 (by omega) (TI_next hw i2 i1.1 (by omega) (by rw [htx]; unfold dlt; (repeat' split) <;> omega)) Iq172 frq174 (by omega)
                        · refine g_aload_n X 4 rfl dX7_findTable_165 ?_
                          refine g_getr X f_X7_89 dX7_findTable_166 ?_
                          refine g_sipush X 625 dX7_findTable_169 (by decide) ?_
                          refine g_iload_n X 3 rfl dX7_findTable_172 ?_
                          refine g_iconst X 1 dX7_findTable_173 (by decide) ?_
                          refine g_isub X dX7_findTable_174 (fun zq178 eq179 => ?_)
                          have tq180 : zq178.toInt = b2_8 - 1 := sub_nw eq179 e2_8 (show (1 : Int32).toInt = 1 by decide) (by omega)
                          refine g_imul X dX7_findTable_175 (fun zq181 eq182 => ?_)
                          have tq183 : zq181.toInt = 625 * (b2_8 - 1) := mul_nw eq182 (show (625 : Int32).toInt = 625 by decide) tq180 (by omega)
                          refine g_iload X 0 rfl dX7_findTable_176 ?_
                          refine g_iadd X dX7_findTable_178 (fun zq184 eq185 => ?_)
                          have tq186 : zq184.toInt = (625 * (b2_8 - 1)) + b5_157 := add_nw eq185 tq183 e5_157 (by omega)
                          refine g_aload_n X 4 rfl dX7_findTable_179 ?_
                          refine g_getr X f_X7_98 dX7_findTable_180 ?_
                          refine g_iload X 0 rfl dX7_findTable_183 ?_
                          refine g_iald X la_76 e5_157 dX7_findTable_185 (by omega) (x := M_157.1 76 b5_157.toNat) rfl ?_
                          refine g_iast X la_73 tq186 dX7_findTable_186 (by omega) ?_
                          have Iq187 : Iv TM (ui M_157 73 (((625 * (b2_8 - 1)) + b5_157).toNat) (M_157.1 76 b5_157.toNat)) := I_157.otherA rfl
                          have frq188 : Fr W_X7_findTable Mq (ui M_157 73 (((625 * (b2_8 - 1)) + b5_157).toNat) (M_157.1 76 b5_157.toNat)) := fr_157.ui rfl
                          refine g_iinc X 0 (fun v => [(5, .int v), (4, .int (M_8.1 61 (((60 * a1) + b3_8).toNat))), (3, .int y3_8), (2, .int y2_8), (0, .ref (ad 47)), (1, .int x1)]) dX7_findTable_187 rfl (by decide) (fun _ => rfl) (fun zq189 eq190 => ?_)
                          have tq191 : zq189.toInt = b5_157 + 1 := add_nw eq190 e5_157 (show (Int32.ofInt 1).toInt = 1 by decide) (by omega)
                          refine g_goto X (tgt := 157) dX7_findTable_190 (by decide) ?_
                          refine g_sub [0, 1, 2, 3, 4, 5] rfl ?_
                          exact ih157 zq189 _ tq191 (ui M_157 73 (((625 * (b2_8 - 1)) + b5_157).toNat) (M_157.1 76 b5_157.toNat)) (by omega) Iq187 frq188 (by omega)
                    refine g_sub [0, 1, 2, 3, 4, 5] rfl ?_
                    exact lp157 _ 0 _ (show (0 : Int32).toInt = 0 by decide) M_8 (by omega) I_8 fr_8 (Nat.lt_succ_self _)
                · refine g_iconst X 0 dX7_findTable_100 (by decide) ?_
                  refine g_istore X [(5, .int 0), (4, .int (M_8.1 61 (((60 * a1) + b3_8).toNat))), (3, .int y3_8), (2, .int y2_8), (0, .ref (ad 47)), (1, .int x1)] dX7_findTable_101 (by decide) rfl ?_
                  have lp103 : ∀ n : Nat, ∀ (y5_103 : Int32) (b5_103 : Int), y5_103.toInt = b5_103 → ∀ (M_103 : Mem), (0 ≤ b5_103 ∧ b5_103 ≤ 625) → (Iv TM M_103) → (Fr W_X7_findTable Mq M_103) → (625 - b5_103).toNat < n → G Γ M_103 103 [(5, .int y5_103), (4, .int (M_8.1 61 (((60 * a1) + b3_8).toNat))), (3, .int y3_8), (2, .int y2_8), (0, .ref (ad 47)), (1, .int x1)] [] := by
                    intro n
                    induction n with
                    | zero => intro y5_103 b5_103 e5_103 M_103 j1 I_103 fr_103 hm; exact absurd hm (Nat.not_lt_zero _)
                    | succ n ih103 =>
                      intro y5_103 b5_103 e5_103 M_103 j1 I_103 fr_103 hm103
                      refine g_iload X 0 rfl dX7_findTable_103 ?_
                      refine g_sipush X 625 dX7_findTable_105 (by decide) ?_
                      refine g_icmp_ge X e5_103 (show (625 : Int32).toInt = 625 by decide) (tgt := 137) dX7_findTable_108 (by decide) (fun cq192 => ?_) (fun cq192 => ?_)
                      · refine g_iinc X 3 (fun v => [(2, .int v), (5, .int y5_103), (4, .int (M_8.1 61 (((60 * a1) + b3_8).toNat))), (3, .int y3_8), (0, .ref (ad 47)), (1, .int x1)]) dX7_findTable_137 rfl (by decide) (fun _ => rfl) (fun zq193 eq194 => ?_)
                        have tq195 : zq193.toInt = b2_8 + 1 := add_nw eq194 e2_8 (show (Int32.ofInt 1).toInt = 1 by decide) (by omega)
                        refine g_aload_n X 4 rfl dX7_findTable_140 ?_
                        refine g_callV X m_X7_292 (c_X7_begins ad M_103 I_103) rfl (by decide) (Nat.le_of_ble_eq_true rfl) rfl dX7_findTable_141 ?_
                        rintro _ Mq200 ⟨rfl, hq199, Iq201, frq202⟩
                        have frq203 : Fr W_X7_findTable Mq Mq200 := fr_103.trans frq202 rfl
                        show G Γ Mq200 144 [(2, .int zq193), (5, .int y5_103), (4, .int (M_8.1 61 (((60 * a1) + b3_8).toNat))), (3, .int y3_8), (0, .ref (ad 47)), (1, .int x1)] []
                        refine g_goto X (tgt := 294) dX7_findTable_144 (by decide) ?_
                        refine g_iinc X 3 (fun v => [(3, .int v), (2, .int zq193), (5, .int y5_103), (4, .int (M_8.1 61 (((60 * a1) + b3_8).toNat))), (0, .ref (ad 47)), (1, .int x1)]) dX7_findTable_294 rfl (by decide) (fun _ => rfl) (fun zq204 eq205 => ?_)
                        have tq206 : zq204.toInt = b3_8 + 1 := add_nw eq205 e3_8 (show (Int32.ofInt 1).toInt = 1 by decide) (by omega)
                        refine g_goto X (tgt := 8) dX7_findTable_297 (by decide) ?_
                        refine g_sub [0, 1, 4, 5] rfl ?_
                        exact ih8 zq204 _ tq206 zq193 _ tq195 Mq200 (by omega) (TI_next hw i2 i1.1 (by omega) (by rw [htx]; unfold dlt; (repeat' split) <;> omega)) Iq201 frq203 (by omega)
                      · refine g_aload_n X 4 rfl dX7_findTable_111 ?_
                        refine g_getr X f_X7_86 dX7_findTable_112 ?_
                        refine g_sipush X 625 dX7_findTable_115 (by decide) ?_
                        refine g_iload_n X 3 rfl dX7_findTable_118 ?_
                        refine g_imul X dX7_findTable_119 (fun zq207 eq208 => ?_)
                        have tq209 : zq207.toInt = 625 * b2_8 := mul_nw eq208 (show (625 : Int32).toInt = 625 by decide) e2_8 (by omega)
                        refine g_iload X 0 rfl dX7_findTable_120 ?_
                        refine g_iadd X dX7_findTable_122 (fun zq210 eq211 => ?_)
                        have tq212 : zq210.toInt = (625 * b2_8) + b5_103 := add_nw eq211 tq209 e5_103 (by omega)
                        refine g_aload_n X 4 rfl dX7_findTable_123 ?_
                        refine g_getr X f_X7_98 dX7_findTable_124 ?_
                        refine g_iload X 0 rfl dX7_findTable_127 ?_
                        refine g_iald X la_76 e5_103 dX7_findTable_129 (by omega) (x := M_103.1 76 b5_103.toNat) rfl ?_
                        refine g_iast X la_72 tq212 dX7_findTable_130 (by omega) ?_
                        have Iq213 : Iv TM (ui M_103 72 (((625 * b2_8) + b5_103).toNat) (M_103.1 76 b5_103.toNat)) := I_103.otherA rfl
                        have frq214 : Fr W_X7_findTable Mq (ui M_103 72 (((625 * b2_8) + b5_103).toNat) (M_103.1 76 b5_103.toNat)) := fr_103.ui rfl
                        refine g_iinc X 0 (fun v => [(5, .int v), (4, .int (M_8.1 61 (((60 * a1) + b3_8).toNat))), (3, .int y3_8), (2, .int y2_8), (0, .ref (ad 47)), (1, .int x1)]) dX7_findTable_131 rfl (by decide) (fun _ => rfl) (fun zq215 eq216 => ?_)
                        have tq217 : zq215.toInt = b5_103 + 1 := add_nw eq216 e5_103 (show (Int32.ofInt 1).toInt = 1 by decide) (by omega)
                        refine g_goto X (tgt := 103) dX7_findTable_134 (by decide) ?_
                        refine g_sub [0, 1, 2, 3, 4, 5] rfl ?_
                        exact ih103 zq215 _ tq217 (ui M_103 72 (((625 * b2_8) + b5_103).toNat) (M_103.1 76 b5_103.toNat)) (by omega) Iq213 frq214 (by omega)
                  refine g_sub [0, 1, 2, 3, 4, 5] rfl ?_
                  exact lp103 _ 0 _ (show (0 : Int32).toInt = 0 by decide) M_8 (by omega) I_8 fr_8 (Nat.lt_succ_self _)
          · have pq218 : (65 ≤ ((M_8.1 61 (((60 * a1) + b3_8).toNat)).toInt) ∧ ((M_8.1 61 (((60 * a1) + b3_8).toNat)).toInt) ≤ 72) := by omega
            clear hq38 cq39 tq37
            refine g_aload_n X 3 rfl dX7_findTable_59 ?_
            refine g_aload_n X 3 rfl dX7_findTable_60 ?_
            refine g_getr X f_X7_83 dX7_findTable_61 ?_
            refine g_sipush X 625 dX7_findTable_64 (by decide) ?_
            refine g_iload X 0 rfl dX7_findTable_67 ?_
            refine g_bipush X 65 dX7_findTable_69 (by decide) ?_
            refine g_isub X dX7_findTable_71 (fun zq219 eq220 => ?_)
            have tq221 : zq219.toInt = ((M_8.1 61 (((60 * a1) + b3_8).toNat)).toInt) - 65 := sub_nw eq220 rfl (show (65 : Int32).toInt = 65 by decide) (by omega)
            refine g_imul X dX7_findTable_72 (fun zq222 eq223 => ?_)
            have tq224 : zq222.toInt = 625 * (((M_8.1 61 (((60 * a1) + b3_8).toNat)).toInt) - 65) := mul_nw eq223 (show (625 : Int32).toInt = 625 by decide) tq221 (by omega)
            refine g_callV X m_X7_295 (c_X7_times_71 ad M_8 zq222 tq224 I_8 (by omega)) rfl (by decide) (Nat.le_of_ble_eq_true rfl) rfl dX7_findTable_73 ?_
            rintro _ Mq229 ⟨rfl, hq228, Iq230, frq231⟩
            have frq232 : Fr W_X7_findTable Mq Mq229 := fr_8.trans frq231 rfl
            show G Γ Mq229 76 [(4, .int (M_8.1 61 (((60 * a1) + b3_8).toNat))), (3, .int y3_8), (2, .int y2_8), (0, .ref (ad 47)), (1, .int x1)] []
            refine g_goto X (tgt := 294) dX7_findTable_76 (by decide) ?_
            refine g_iinc X 1 (fun v => [(3, .int v), (4, .int (M_8.1 61 (((60 * a1) + b3_8).toNat))), (2, .int y2_8), (0, .ref (ad 47)), (1, .int x1)]) dX7_findTable_294 rfl (by decide) (fun _ => rfl) (fun zq233 eq234 => ?_)
            have tq235 : zq233.toInt = b3_8 + 1 := add_nw eq234 e3_8 (show (Int32.ofInt 1).toInt = 1 by decide) (by omega)
            refine g_goto X (tgt := 8) dX7_findTable_297 (by decide) ?_
            refine g_sub [0, 2, 3, 4] rfl ?_
            exact ih8 zq233 _ tq235 y2_8 _ e2_8 Mq229 (by omega) (TI_next hw i2 i1.1 (by omega) (by rw [htx]; unfold dlt; (repeat' split) <;> omega)) Iq230 frq232 (by omega)
        · have pq236 : (97 ≤ ((M_8.1 61 (((60 * a1) + b3_8).toNat)).toInt) ∧ ((M_8.1 61 (((60 * a1) + b3_8).toNat)).toInt) ≤ 104) := by omega
          clear hq32 cq33 tq31
          refine g_aload_n X 3 rfl dX7_findTable_39 ?_
          refine g_iload X 0 rfl dX7_findTable_40 ?_
          refine g_bipush X 97 dX7_findTable_42 (by decide) ?_
          refine g_isub X dX7_findTable_44 (fun zq237 eq238 => ?_)
          have tq239 : zq237.toInt = ((M_8.1 61 (((60 * a1) + b3_8).toNat)).toInt) - 97 := sub_nw eq238 rfl (show (97 : Int32).toInt = 97 by decide) (by omega)
          refine g_callV X m_X7_303 (c_X7_takesSlot ad M_8 zq237 tq239 I_8) rfl (by decide) (Nat.le_of_ble_eq_true rfl) rfl dX7_findTable_45 ?_
          rintro _ Mq244 ⟨rfl, hq243, Iq245, frq246⟩
          have frq247 : Fr W_X7_findTable Mq Mq244 := fr_8.trans frq246 rfl
          show G Γ Mq244 48 [(4, .int (M_8.1 61 (((60 * a1) + b3_8).toNat))), (3, .int y3_8), (2, .int y2_8), (0, .ref (ad 47)), (1, .int x1)] []
          refine g_goto X (tgt := 294) dX7_findTable_48 (by decide) ?_
          refine g_iinc X 1 (fun v => [(3, .int v), (4, .int (M_8.1 61 (((60 * a1) + b3_8).toNat))), (2, .int y2_8), (0, .ref (ad 47)), (1, .int x1)]) dX7_findTable_294 rfl (by decide) (fun _ => rfl) (fun zq248 eq249 => ?_)
          have tq250 : zq248.toInt = b3_8 + 1 := add_nw eq249 e3_8 (show (Int32.ofInt 1).toInt = 1 by decide) (by omega)
          refine g_goto X (tgt := 8) dX7_findTable_297 (by decide) ?_
          refine g_sub [0, 2, 3, 4] rfl ?_
          exact ih8 zq248 _ tq250 y2_8 _ e2_8 Mq244 (by omega) (TI_next hw i2 i1.1 (by omega) (by rw [htx]; unfold dlt; (repeat' split) <;> omega)) Iq245 frq247 (by omega)
  refine g_sub [0, 1, 2, 3] rfl ?_
  exact lp8 _ 0 _ (show (0 : Int32).toInt = 0 by decide) 0 _ (show (0 : Int32).toInt = 0 by decide) Mq5 (by omega) TI_0 Iq6 frq8 (Nat.lt_succ_self _)
end
