section
abbrev W_X7_mends_E : List (Nat × Nat) := [(53, 99), (54, 99)]
set_option maxHeartbeats 4000000 in
set_option maxRecDepth 4000 in
theorem c_X7_mends_E (ad : Nat → Nat) (Mq : Mem) (x1 : Int32) {a1 : Int} (t1 : x1.toInt = a1) (Iq0 : Iv TM Mq) (h1 : 0 ≤ a1 ∧ a1 < 40) (hv : VAL Mq) : Ctr ad yX7_mends cX7_mends 8 (some .boolean) 3 [.ref (ad 47), .int x1] Mq (fun v M' => ∃ (r : Int32) (a : Int), v = some (.int r) ∧ r.toInt = a ∧ (a = 0 ∨ a = 1) ∧ (MDS (fun h => FM Mq h ((Mq.1 56 a1.toNat).toInt).toNat) (fun h => SM Mq h ((Mq.1 56 a1.toNat).toInt).toNat) ((Mq.1 47 11).toInt).toNat a1.toNat (Mq.1 53) (Mq.1 54) a (M'.1 53) (M'.1 54)) ∧ Iv TM M' ∧ Fr W_X7_mends_E Mq M') := by
  refine ctr_of (L := [(0, .ref (ad 47)), (1, .int x1)]) (by decide) (Nat.le_of_ble_eq_true rfl) rfl ?_
  intro Γ X
  have X : gX Γ cX7_mends RX7 8 (some .boolean) 3 ad _ := X
  have frq0 : Fr W_X7_mends_E Mq Mq := Fr.rf
  have g11 := ig_47_11 Iq0
  have g12 := ig_47_12 Iq0
  have g14 := ig_47_14 Iq0
  have g32 := ig_47_32 Iq0
  have g43 := ig_47_43 Iq0
  have g44 := ig_47_44 Iq0
  have g52 := ig_47_52 Iq0
  have g53 := ig_47_53 Iq0
  have g59 := ig_47_59 Iq0
  refine g_iconst X 3 dX7_mends_0 (by decide) ?_
  refine g_istore_n X (i := 2) [(2, .int 3), (0, .ref (ad 47)), (1, .int x1)] dX7_mends_1 rfl (by decide) rfl ?_
  refine g_iconst X 0 dX7_mends_2 (by decide) ?_
  refine g_istore_n X (i := 3) [(3, .int 0), (2, .int 3), (0, .ref (ad 47)), (1, .int x1)] dX7_mends_3 rfl (by decide) rfl ?_
  refine g_iconst X 0 dX7_mends_4 (by decide) ?_
  refine g_istore X [(4, .int 0), (3, .int 0), (2, .int 3), (0, .ref (ad 47)), (1, .int x1)] dX7_mends_5 (by decide) rfl ?_
  refine g_iconst X 0 dX7_mends_7 (by decide) ?_
  refine g_istore X [(5, .int 0), (4, .int 0), (3, .int 0), (2, .int 3), (0, .ref (ad 47)), (1, .int x1)] dX7_mends_8 (by decide) rfl ?_
  have lp10 : ∀ n : Nat, ∀ (y5_10 : Int32) (b5_10 : Int), y5_10.toInt = b5_10 → ∀ (y4_10 : Int32) (b4_10 : Int), y4_10.toInt = b4_10 → ∀ (y3_10 : Int32) (b3_10 : Int), y3_10.toInt = b3_10 → ∀ (y2_10 : Int32) (b2_10 : Int), y2_10.toInt = b2_10 → (0 ≤ b5_10 ∧ b5_10 ≤ (Mq.1 47 11).toInt) → (0 ≤ b3_10 ∧ b3_10 < 40 ∧ 0 ≤ b4_10 ∧ b4_10 < 40) → (MI (fun h => FM Mq h ((Mq.1 56 a1.toNat).toInt).toNat = true) (fun h => SM Mq h ((Mq.1 56 a1.toNat).toInt).toNat = true) (Mq.1 53 a1.toNat).toInt (Mq.1 54 a1.toNat).toInt b2_10 b3_10 b4_10 (PO b5_10 (Mq.1 47 11).toInt)) → ((Mq.1 47 11).toInt - b5_10).toNat < n → G Γ Mq 10 [(5, .int y5_10), (4, .int y4_10), (3, .int y3_10), (2, .int y2_10), (0, .ref (ad 47)), (1, .int x1)] [] := by
    intro n
    induction n with
    | zero => intro y5_10 b5_10 e5_10 y4_10 b4_10 e4_10 y3_10 b3_10 e3_10 y2_10 b2_10 e2_10 i1 i2 i3 hm; exact absurd hm (Nat.not_lt_zero _)
    | succ n ih10 =>
      intro y5_10 b5_10 e5_10 y4_10 b4_10 e4_10 y3_10 b3_10 e3_10 y2_10 b2_10 e2_10 i1 i2 i3 hm10
      refine g_iload X 0 rfl dX7_mends_10 ?_
      refine g_aload_n X 4 rfl dX7_mends_12 ?_
      refine g_geti X f_X7_144 dX7_mends_13 (x := Mq.1 47 11) rfl ?_
      have bq1 := ig_47_11 Iq0
      refine g_icmp_ge X e5_10 rfl (tgt := 114) dX7_mends_16 (by decide) (fun cq2 => ?_) (fun cq2 => ?_)
      · refine g_iload_n X 3 rfl dX7_mends_114 ?_
        refine g_iconst X 3 dX7_mends_115 (by decide) ?_
        refine g_icmp_ne X e2_10 (show (3 : Int32).toInt = 3 by decide) (tgt := 121) dX7_mends_116 (by decide) (fun cq3 => ?_) (fun cq3 => ?_)
        · refine g_aload_n X 4 rfl dX7_mends_121 ?_
          refine g_getr X f_X7_25 dX7_mends_122 ?_
          refine g_iload_n X 5 rfl dX7_mends_125 ?_
          refine g_iload_n X 2 rfl dX7_mends_126 ?_
          refine g_iast X la_53 t1 dX7_mends_127 (by omega) ?_
          have Iq4 : Iv TM (ui Mq 53 a1.toNat y3_10) := Iq0.putA 0 39 e3_10 (by omega) rfl
          have frq5 : Fr W_X7_mends_E Mq (ui Mq 53 a1.toNat y3_10) := frq0.ui rfl
          refine g_aload_n X 4 rfl dX7_mends_128 ?_
          refine g_getr X f_X7_28 dX7_mends_129 ?_
          refine g_iload_n X 5 rfl dX7_mends_132 ?_
          refine g_iload X 1 rfl dX7_mends_133 ?_
          refine g_iast X la_54 t1 dX7_mends_135 (by omega) ?_
          have Iq6 : Iv TM (ui (ui Mq 53 a1.toNat y3_10) 54 a1.toNat y4_10) := Iq4.putA 0 39 e4_10 (by omega) rfl
          have frq7 : Fr W_X7_mends_E Mq (ui (ui Mq 53 a1.toNat y3_10) 54 a1.toNat y4_10) := frq5.ui rfl
          refine g_iconst X 1 dX7_mends_136 (by decide) ?_
          exact g_zret X (b01 (show (1 : Int32).toInt = 1 by decide) (by omega)) dX7_mends_137 ⟨_, _, rfl, (show (1 : Int32).toInt = 1 by decide), (by omega), (⟨_, _, _, MI_cong i3 (PO_end (by omega)), Or.inr ⟨by omega, rfl, fun j q => ⟨by simp [ui, q], by simp [ui, q]⟩, by simp [ui]; omega, by simp [ui]; omega⟩⟩), Iq6, frq7⟩
        · refine g_iconst X 0 dX7_mends_119 (by decide) ?_
          exact g_zret X (b01 (show (0 : Int32).toInt = 0 by decide) (by omega)) dX7_mends_120 ⟨_, _, rfl, (show (0 : Int32).toInt = 0 by decide), (by omega), (⟨_, _, _, MI_cong i3 (PO_end (by omega)), Or.inl ⟨by omega, rfl, rfl, rfl⟩⟩), Iq0, frq0⟩
      · refine g_iconst X 0 dX7_mends_19 (by decide) ?_
        refine g_istore X [(6, .int 0), (5, .int y5_10), (4, .int y4_10), (3, .int y3_10), (2, .int y2_10), (0, .ref (ad 47)), (1, .int x1)] dX7_mends_20 (by decide) rfl ?_
        have lp22 : ∀ n : Nat, ∀ (y6_22 : Int32) (b6_22 : Int), y6_22.toInt = b6_22 → ∀ (y4_22 : Int32) (b4_22 : Int), y4_22.toInt = b4_22 → ∀ (y3_22 : Int32) (b3_22 : Int), y3_22.toInt = b3_22 → ∀ (y2_22 : Int32) (b2_22 : Int), y2_22.toInt = b2_22 → (0 ≤ b6_22 ∧ b6_22 ≤ (Mq.1 47 11).toInt) → (0 ≤ b3_22 ∧ b3_22 < 40 ∧ 0 ≤ b4_22 ∧ b4_22 < 40) → (MI (fun h => FM Mq h ((Mq.1 56 a1.toNat).toInt).toNat = true) (fun h => SM Mq h ((Mq.1 56 a1.toNat).toInt).toNat = true) (Mq.1 53 a1.toNat).toInt (Mq.1 54 a1.toNat).toInt b2_22 b3_22 b4_22 (PQ b5_10 (Mq.1 47 11).toInt b6_22)) → ((Mq.1 47 11).toInt - b6_22).toNat < n → G Γ Mq 22 [(6, .int y6_22), (5, .int y5_10), (4, .int y4_22), (3, .int y3_22), (2, .int y2_22), (0, .ref (ad 47)), (1, .int x1)] [] := by
          intro n
          induction n with
          | zero => intro y6_22 b6_22 e6_22 y4_22 b4_22 e4_22 y3_22 b3_22 e3_22 y2_22 b2_22 e2_22 j1 j2 j3 hm; exact absurd hm (Nat.not_lt_zero _)
          | succ n ih22 =>
            intro y6_22 b6_22 e6_22 y4_22 b4_22 e4_22 y3_22 b3_22 e3_22 y2_22 b2_22 e2_22 j1 j2 j3 hm22
            refine g_iload X 0 rfl dX7_mends_22 ?_
            refine g_aload_n X 5 rfl dX7_mends_24 ?_
            refine g_geti X f_X7_144 dX7_mends_25 (x := Mq.1 47 11) rfl ?_
            have bq8 := ig_47_11 Iq0
            refine g_icmp_ge X e6_22 rfl (tgt := 108) dX7_mends_28 (by decide) (fun cq9 => ?_) (fun cq9 => ?_)
            · refine g_iinc X 1 (fun v => [(5, .int v), (6, .int y6_22), (4, .int y4_22), (3, .int y3_22), (2, .int y2_22), (0, .ref (ad 47)), (1, .int x1)]) dX7_mends_108 rfl (by decide) (fun _ => rfl) (fun zq10 eq11 => ?_)
              have tq12 : zq10.toInt = b5_10 + 1 := add_nw eq11 e5_10 (show (Int32.ofInt 1).toInt = 1 by decide) (by omega)
              refine g_goto X (tgt := 10) dX7_mends_111 (by decide) ?_
              refine g_sub [0, 2, 3, 4, 5, 6] rfl ?_
              exact ih10 zq10 _ tq12 y4_22 _ e4_22 y3_22 _ e3_22 y2_22 _ e2_22 (by omega) (by omega) (MI_cong j3 (PQ_PO (by omega))) (by omega)
            · refine g_iload X 1 rfl dX7_mends_31 ?_
              refine g_aload_n X 5 rfl dX7_mends_33 ?_
              refine g_getr X f_X7_25 dX7_mends_34 ?_
              refine g_iload_n X 6 rfl dX7_mends_37 ?_
              refine g_iald X la_53 t1 dX7_mends_38 (by omega) (x := Mq.1 53 a1.toNat) rfl ?_
              have bq13 := ig_53 Iq0 a1.toNat (by omega)
              refine g_icmp_ne X e5_10 rfl (tgt := 46) dX7_mends_39 (by decide) (fun cq14 => ?_) (fun cq14 => ?_)
              · refine g_iconst X 1 dX7_mends_46 (by decide) ?_
                refine g_iload X 0 rfl dX7_mends_47 ?_
                refine g_aload_n X 5 rfl dX7_mends_49 ?_
                refine g_getr X f_X7_28 dX7_mends_50 ?_
                refine g_iload_n X 6 rfl dX7_mends_53 ?_
                refine g_iald X la_54 t1 dX7_mends_54 (by omega) (x := Mq.1 54 a1.toNat) rfl ?_
                have bq15 := ig_54 Iq0 a1.toNat (by omega)
                refine g_icmp_ne X e6_22 rfl (tgt := 62) dX7_mends_55 (by decide) (fun cq16 => ?_) (fun cq16 => ?_)
                · refine g_iconst X 1 dX7_mends_62 (by decide) ?_
                  refine g_iadd X dX7_mends_63 (fun zq17 eq18 => ?_)
                  have tq19 : zq17.toInt = 1 + 1 := add_nw eq18 (show (1 : Int32).toInt = 1 by decide) (show (1 : Int32).toInt = 1 by decide) (by omega)
                  refine g_istore X [(7, .int zq17), (6, .int y6_22), (5, .int y5_10), (4, .int y4_22), (3, .int y3_22), (2, .int y2_22), (0, .ref (ad 47)), (1, .int x1)] dX7_mends_64 (by decide) rfl ?_
                  have ho : oth (Mq.1 53 a1.toNat).toInt (Mq.1 54 a1.toNat).toInt b5_10 b6_22 = (1 + 1) := by unfold oth; (repeat' split) <;> omega
                  refine g_iload X 0 rfl dX7_mends_66 ?_
                  refine g_iload_n X 5 rfl dX7_mends_68 ?_
                  refine g_icmp_ge X tq19 e2_22 (tgt := 102) dX7_mends_69 (by decide) (fun cq20 => ?_) (fun cq20 => ?_)
                  · refine g_iinc X 1 (fun v => [(6, .int v), (7, .int zq17), (5, .int y5_10), (4, .int y4_22), (3, .int y3_22), (2, .int y2_22), (0, .ref (ad 47)), (1, .int x1)]) dX7_mends_102 rfl (by decide) (fun _ => rfl) (fun zq21 eq22 => ?_)
                    have tq23 : zq21.toInt = b6_22 + 1 := add_nw eq22 e6_22 (show (Int32.ofInt 1).toInt = 1 by decide) (by omega)
                    refine g_goto X (tgt := 22) dX7_mends_105 (by decide) ?_
                    refine g_sub [0, 2, 3, 4, 5, 6, 7] rfl ?_
                    exact ih22 zq21 _ tq23 y4_22 _ e4_22 y3_22 _ e3_22 y2_22 _ e2_22 (by omega) (by omega) (by first | exact MI_skip j3 i1.1 j1.1 (PQ_step i1.1 j1.1) PQ_lt (Or.inl (by omega)) | exact MI_skip j3 i1.1 j1.1 (PQ_step i1.1 j1.1) PQ_lt (Or.inr (bb0 hsc (by omega))) | (have w := MI_take j3 i1.1 j1.1 (PQ_step i1.1 j1.1) (by omega) (bb1 hsc (by omega)).1 (bb1 hsc (by omega)).2; rw [ho] at w; exact w)) (by omega)
                  · refine g_aload_n X 6 rfl dX7_mends_72 ?_
                    refine g_iload X 2 rfl dX7_mends_73 ?_
                    refine g_iload X 1 rfl dX7_mends_75 ?_
                    refine g_aload_n X 6 rfl dX7_mends_77 ?_
                    refine g_getr X f_X7_34 dX7_mends_78 ?_
                    refine g_iload_n X 7 rfl dX7_mends_81 ?_
                    refine g_iald X la_56 t1 dX7_mends_82 (by omega) (x := Mq.1 56 a1.toNat) rfl ?_
                    have bq24 := ig_56 Iq0 a1.toNat (by omega)
                    refine g_callV X m_X7_189 (c_X7_scans_E ad Mq y5_10 e5_10 y6_22 e6_22 (Mq.1 56 a1.toNat) rfl (by omega) (by omega) (by omega)) rfl (by decide) (Nat.le_of_ble_eq_true rfl) rfl dX7_mends_83 ?_
                    rintro _ _ ⟨rq25, aq26, rfl, tq27, hq28, rfl⟩
                    have hsc : (aq26 = 1 ∧ (FM Mq (b5_10).toNat ((Mq.1 56 a1.toNat).toInt).toNat = true ∧ SM Mq (b6_22).toNat ((Mq.1 56 a1.toNat).toInt).toNat = true)) ∨ (aq26 = 0 ∧ ¬ (FM Mq (b5_10).toNat ((Mq.1 56 a1.toNat).toInt).toNat = true ∧ SM Mq (b6_22).toNat ((Mq.1 56 a1.toNat).toInt).toNat = true)) := by have z : (aq26 = 1 ∧ (scM Mq (b5_10).toNat (b6_22).toNat ((Mq.1 56 a1.toNat).toInt).toNat = true)) ∨ (aq26 = 0 ∧ ¬ (scM Mq (b5_10).toNat (b6_22).toNat ((Mq.1 56 a1.toNat).toInt).toNat = true)) := hq28; rw [scM_eq hv (by omega) (by omega), Bool.and_eq_true] at z; exact z
                    show G Γ Mq 86 [(7, .int zq17), (6, .int y6_22), (5, .int y5_10), (4, .int y4_22), (3, .int y3_22), (2, .int y2_22), (0, .ref (ad 47)), (1, .int x1)] [.int rq25]
                    refine g_if_ne X tq27 (tgt := 92) dX7_mends_86 (by decide) (fun cq29 => ?_) (fun cq29 => ?_)
                    · have pq30 : (scb (loF (Mq.1 48 b5_10.toNat) (Mq.1 50 b5_10.toNat) (Mq.1 51 ((Mq.1 56 a1.toNat).toInt).toNat)) (hvF (Mq.1 49 b5_10.toNat) (Mq.1 50 b5_10.toNat) (Mq.1 52 ((Mq.1 56 a1.toNat).toInt).toNat) (Mq.1 51 ((Mq.1 56 a1.toNat).toInt).toNat)) (loF (Mq.1 48 b6_22.toNat) (Mq.1 50 b6_22.toNat) (Mq.1 51 ((Mq.1 56 a1.toNat).toInt).toNat)) (hvF (Mq.1 49 b6_22.toNat) (Mq.1 50 b6_22.toNat) (Mq.1 52 ((Mq.1 56 a1.toNat).toInt).toNat) (Mq.1 51 ((Mq.1 56 a1.toNat).toInt).toNat)) (Mq.1 58) = true) := by first | omega | (rcases hq28 with ⟨z1, z2⟩ | ⟨z1, z2⟩ <;> first | exact z2 | (exfalso; omega))
                      refine g_iload X 0 rfl dX7_mends_92 ?_
                      refine g_istore_n X (i := 2) [(2, .int zq17), (7, .int zq17), (6, .int y6_22), (5, .int y5_10), (4, .int y4_22), (3, .int y3_22), (0, .ref (ad 47)), (1, .int x1)] dX7_mends_94 rfl (by decide) rfl ?_
                      refine g_iload X 3 rfl dX7_mends_95 ?_
                      refine g_istore_n X (i := 3) [(3, .int y5_10), (2, .int zq17), (7, .int zq17), (6, .int y6_22), (5, .int y5_10), (4, .int y4_22), (0, .ref (ad 47)), (1, .int x1)] dX7_mends_97 rfl (by decide) rfl ?_
                      refine g_iload X 3 rfl dX7_mends_98 ?_
                      refine g_istore X [(4, .int y6_22), (3, .int y5_10), (2, .int zq17), (7, .int zq17), (6, .int y6_22), (5, .int y5_10), (0, .ref (ad 47)), (1, .int x1)] dX7_mends_100 (by decide) rfl ?_
                      refine g_iinc X 4 (fun v => [(6, .int v), (4, .int y6_22), (3, .int y5_10), (2, .int zq17), (7, .int zq17), (5, .int y5_10), (0, .ref (ad 47)), (1, .int x1)]) dX7_mends_102 rfl (by decide) (fun _ => rfl) (fun zq31 eq32 => ?_)
                      have tq33 : zq31.toInt = b6_22 + 1 := add_nw eq32 e6_22 (show (Int32.ofInt 1).toInt = 1 by decide) (by omega)
                      refine g_goto X (tgt := 22) dX7_mends_105 (by decide) ?_
                      refine g_sub [0, 5, 1, 2, 3, 6, 7] rfl ?_
                      exact ih22 zq31 _ tq33 y6_22 _ e6_22 y5_10 _ e5_10 zq17 _ tq19 (by omega) (by omega) (by first | exact MI_skip j3 i1.1 j1.1 (PQ_step i1.1 j1.1) PQ_lt (Or.inl (by omega)) | exact MI_skip j3 i1.1 j1.1 (PQ_step i1.1 j1.1) PQ_lt (Or.inr (bb0 hsc (by omega))) | (have w := MI_take j3 i1.1 j1.1 (PQ_step i1.1 j1.1) (by omega) (bb1 hsc (by omega)).1 (bb1 hsc (by omega)).2; rw [ho] at w; exact w)) (by omega)
                    · have pq34 : ¬ (scb (loF (Mq.1 48 b5_10.toNat) (Mq.1 50 b5_10.toNat) (Mq.1 51 ((Mq.1 56 a1.toNat).toInt).toNat)) (hvF (Mq.1 49 b5_10.toNat) (Mq.1 50 b5_10.toNat) (Mq.1 52 ((Mq.1 56 a1.toNat).toInt).toNat) (Mq.1 51 ((Mq.1 56 a1.toNat).toInt).toNat)) (loF (Mq.1 48 b6_22.toNat) (Mq.1 50 b6_22.toNat) (Mq.1 51 ((Mq.1 56 a1.toNat).toInt).toNat)) (hvF (Mq.1 49 b6_22.toNat) (Mq.1 50 b6_22.toNat) (Mq.1 52 ((Mq.1 56 a1.toNat).toInt).toNat) (Mq.1 51 ((Mq.1 56 a1.toNat).toInt).toNat)) (Mq.1 58) = true) := by first | omega | (rcases hq28 with ⟨z1, z2⟩ | ⟨z1, z2⟩ <;> first | exact z2 | (exfalso; omega))
                      refine g_goto X (tgt := 102) dX7_mends_89 (by decide) ?_
                      refine g_iinc X 1 (fun v => [(6, .int v), (7, .int zq17), (5, .int y5_10), (4, .int y4_22), (3, .int y3_22), (2, .int y2_22), (0, .ref (ad 47)), (1, .int x1)]) dX7_mends_102 rfl (by decide) (fun _ => rfl) (fun zq35 eq36 => ?_)
                      have tq37 : zq35.toInt = b6_22 + 1 := add_nw eq36 e6_22 (show (Int32.ofInt 1).toInt = 1 by decide) (by omega)
                      refine g_goto X (tgt := 22) dX7_mends_105 (by decide) ?_
                      refine g_sub [0, 2, 3, 4, 5, 6, 7] rfl ?_
                      exact ih22 zq35 _ tq37 y4_22 _ e4_22 y3_22 _ e3_22 y2_22 _ e2_22 (by omega) (by omega) (by first | exact MI_skip j3 i1.1 j1.1 (PQ_step i1.1 j1.1) PQ_lt (Or.inl (by omega)) | exact MI_skip j3 i1.1 j1.1 (PQ_step i1.1 j1.1) PQ_lt (Or.inr (bb0 hsc (by omega))) | (have w := MI_take j3 i1.1 j1.1 (PQ_step i1.1 j1.1) (by omega) (bb1 hsc (by omega)).1 (bb1 hsc (by omega)).2; rw [ho] at w; exact w)) (by omega)
                · refine g_iconst X 0 dX7_mends_58 (by decide) ?_
                  refine g_goto X (tgt := 63) dX7_mends_59 (by decide) ?_
                  refine g_iadd X dX7_mends_63 (fun zq38 eq39 => ?_)
                  have tq40 : zq38.toInt = 1 + 0 := add_nw eq39 (show (1 : Int32).toInt = 1 by decide) (show (0 : Int32).toInt = 0 by decide) (by omega)
                  refine g_istore X [(7, .int zq38), (6, .int y6_22), (5, .int y5_10), (4, .int y4_22), (3, .int y3_22), (2, .int y2_22), (0, .ref (ad 47)), (1, .int x1)] dX7_mends_64 (by decide) rfl ?_
                  have ho : oth (Mq.1 53 a1.toNat).toInt (Mq.1 54 a1.toNat).toInt b5_10 b6_22 = (1 + 0) := by unfold oth; (repeat' split) <;> omega
                  refine g_iload X 0 rfl dX7_mends_66 ?_
                  refine g_iload_n X 5 rfl dX7_mends_68 ?_
                  refine g_icmp_ge X tq40 e2_22 (tgt := 102) dX7_mends_69 (by decide) (fun cq41 => ?_) (fun cq41 => ?_)
                  · refine g_iinc X 1 (fun v => [(6, .int v), (7, .int zq38), (5, .int y5_10), (4, .int y4_22), (3, .int y3_22), (2, .int y2_22), (0, .ref (ad 47)), (1, .int x1)]) dX7_mends_102 rfl (by decide) (fun _ => rfl) (fun zq42 eq43 => ?_)
                    have tq44 : zq42.toInt = b6_22 + 1 := add_nw eq43 e6_22 (show (Int32.ofInt 1).toInt = 1 by decide) (by omega)
                    refine g_goto X (tgt := 22) dX7_mends_105 (by decide) ?_
                    refine g_sub [0, 2, 3, 4, 5, 6, 7] rfl ?_
                    exact ih22 zq42 _ tq44 y4_22 _ e4_22 y3_22 _ e3_22 y2_22 _ e2_22 (by omega) (by omega) (by first | exact MI_skip j3 i1.1 j1.1 (PQ_step i1.1 j1.1) PQ_lt (Or.inl (by omega)) | exact MI_skip j3 i1.1 j1.1 (PQ_step i1.1 j1.1) PQ_lt (Or.inr (bb0 hsc (by omega))) | (have w := MI_take j3 i1.1 j1.1 (PQ_step i1.1 j1.1) (by omega) (bb1 hsc (by omega)).1 (bb1 hsc (by omega)).2; rw [ho] at w; exact w)) (by omega)
                  · refine g_aload_n X 6 rfl dX7_mends_72 ?_
                    refine g_iload X 2 rfl dX7_mends_73 ?_
                    refine g_iload X 1 rfl dX7_mends_75 ?_
                    refine g_aload_n X 6 rfl dX7_mends_77 ?_
                    refine g_getr X f_X7_34 dX7_mends_78 ?_
                    refine g_iload_n X 7 rfl dX7_mends_81 ?_
                    refine g_iald X la_56 t1 dX7_mends_82 (by omega) (x := Mq.1 56 a1.toNat) rfl ?_
                    have bq45 := ig_56 Iq0 a1.toNat (by omega)
                    refine g_callV X m_X7_189 (c_X7_scans_E ad Mq y5_10 e5_10 y6_22 e6_22 (Mq.1 56 a1.toNat) rfl (by omega) (by omega) (by omega)) rfl (by decide) (Nat.le_of_ble_eq_true rfl) rfl dX7_mends_83 ?_
                    rintro _ _ ⟨rq46, aq47, rfl, tq48, hq49, rfl⟩
                    have hsc : (aq47 = 1 ∧ (FM Mq (b5_10).toNat ((Mq.1 56 a1.toNat).toInt).toNat = true ∧ SM Mq (b6_22).toNat ((Mq.1 56 a1.toNat).toInt).toNat = true)) ∨ (aq47 = 0 ∧ ¬ (FM Mq (b5_10).toNat ((Mq.1 56 a1.toNat).toInt).toNat = true ∧ SM Mq (b6_22).toNat ((Mq.1 56 a1.toNat).toInt).toNat = true)) := by have z : (aq47 = 1 ∧ (scM Mq (b5_10).toNat (b6_22).toNat ((Mq.1 56 a1.toNat).toInt).toNat = true)) ∨ (aq47 = 0 ∧ ¬ (scM Mq (b5_10).toNat (b6_22).toNat ((Mq.1 56 a1.toNat).toInt).toNat = true)) := hq49; rw [scM_eq hv (by omega) (by omega), Bool.and_eq_true] at z; exact z
                    show G Γ Mq 86 [(7, .int zq38), (6, .int y6_22), (5, .int y5_10), (4, .int y4_22), (3, .int y3_22), (2, .int y2_22), (0, .ref (ad 47)), (1, .int x1)] [.int rq46]
                    refine g_if_ne X tq48 (tgt := 92) dX7_mends_86 (by decide) (fun cq50 => ?_) (fun cq50 => ?_)
                    · have pq51 : (scb (loF (Mq.1 48 b5_10.toNat) (Mq.1 50 b5_10.toNat) (Mq.1 51 ((Mq.1 56 a1.toNat).toInt).toNat)) (hvF (Mq.1 49 b5_10.toNat) (Mq.1 50 b5_10.toNat) (Mq.1 52 ((Mq.1 56 a1.toNat).toInt).toNat) (Mq.1 51 ((Mq.1 56 a1.toNat).toInt).toNat)) (loF (Mq.1 48 b6_22.toNat) (Mq.1 50 b6_22.toNat) (Mq.1 51 ((Mq.1 56 a1.toNat).toInt).toNat)) (hvF (Mq.1 49 b6_22.toNat) (Mq.1 50 b6_22.toNat) (Mq.1 52 ((Mq.1 56 a1.toNat).toInt).toNat) (Mq.1 51 ((Mq.1 56 a1.toNat).toInt).toNat)) (Mq.1 58) = true) := by first | omega | (rcases hq49 with ⟨z1, z2⟩ | ⟨z1, z2⟩ <;> first | exact z2 | (exfalso; omega))
                      refine g_iload X 0 rfl dX7_mends_92 ?_
                      refine g_istore_n X (i := 2) [(2, .int zq38), (7, .int zq38), (6, .int y6_22), (5, .int y5_10), (4, .int y4_22), (3, .int y3_22), (0, .ref (ad 47)), (1, .int x1)] dX7_mends_94 rfl (by decide) rfl ?_
                      refine g_iload X 3 rfl dX7_mends_95 ?_
                      refine g_istore_n X (i := 3) [(3, .int y5_10), (2, .int zq38), (7, .int zq38), (6, .int y6_22), (5, .int y5_10), (4, .int y4_22), (0, .ref (ad 47)), (1, .int x1)] dX7_mends_97 rfl (by decide) rfl ?_
                      refine g_iload X 3 rfl dX7_mends_98 ?_
                      refine g_istore X [(4, .int y6_22), (3, .int y5_10), (2, .int zq38), (7, .int zq38), (6, .int y6_22), (5, .int y5_10), (0, .ref (ad 47)), (1, .int x1)] dX7_mends_100 (by decide) rfl ?_
                      refine g_iinc X 4 (fun v => [(6, .int v), (4, .int y6_22), (3, .int y5_10), (2, .int zq38), (7, .int zq38), (5, .int y5_10), (0, .ref (ad 47)), (1, .int x1)]) dX7_mends_102 rfl (by decide) (fun _ => rfl) (fun zq52 eq53 => ?_)
                      have tq54 : zq52.toInt = b6_22 + 1 := add_nw eq53 e6_22 (show (Int32.ofInt 1).toInt = 1 by decide) (by omega)
                      refine g_goto X (tgt := 22) dX7_mends_105 (by decide) ?_
                      refine g_sub [0, 5, 1, 2, 3, 6, 7] rfl ?_
                      exact ih22 zq52 _ tq54 y6_22 _ e6_22 y5_10 _ e5_10 zq38 _ tq40 (by omega) (by omega) (by first | exact MI_skip j3 i1.1 j1.1 (PQ_step i1.1 j1.1) PQ_lt (Or.inl (by omega)) | exact MI_skip j3 i1.1 j1.1 (PQ_step i1.1 j1.1) PQ_lt (Or.inr (bb0 hsc (by omega))) | (have w := MI_take j3 i1.1 j1.1 (PQ_step i1.1 j1.1) (by omega) (bb1 hsc (by omega)).1 (bb1 hsc (by omega)).2; rw [ho] at w; exact w)) (by omega)
                    · have pq55 : ¬ (scb (loF (Mq.1 48 b5_10.toNat) (Mq.1 50 b5_10.toNat) (Mq.1 51 ((Mq.1 56 a1.toNat).toInt).toNat)) (hvF (Mq.1 49 b5_10.toNat) (Mq.1 50 b5_10.toNat) (Mq.1 52 ((Mq.1 56 a1.toNat).toInt).toNat) (Mq.1 51 ((Mq.1 56 a1.toNat).toInt).toNat)) (loF (Mq.1 48 b6_22.toNat) (Mq.1 50 b6_22.toNat) (Mq.1 51 ((Mq.1 56 a1.toNat).toInt).toNat)) (hvF (Mq.1 49 b6_22.toNat) (Mq.1 50 b6_22.toNat) (Mq.1 52 ((Mq.1 56 a1.toNat).toInt).toNat) (Mq.1 51 ((Mq.1 56 a1.toNat).toInt).toNat)) (Mq.1 58) = true) := by first | omega | (rcases hq49 with ⟨z1, z2⟩ | ⟨z1, z2⟩ <;> first | exact z2 | (exfalso; omega))
                      refine g_goto X (tgt := 102) dX7_mends_89 (by decide) ?_
                      refine g_iinc X 1 (fun v => [(6, .int v), (7, .int zq38), (5, .int y5_10), (4, .int y4_22), (3, .int y3_22), (2, .int y2_22), (0, .ref (ad 47)), (1, .int x1)]) dX7_mends_102 rfl (by decide) (fun _ => rfl) (fun zq56 eq57 => ?_)
                      have tq58 : zq56.toInt = b6_22 + 1 := add_nw eq57 e6_22 (show (Int32.ofInt 1).toInt = 1 by decide) (by omega)
                      refine g_goto X (tgt := 22) dX7_mends_105 (by decide) ?_
                      refine g_sub [0, 2, 3, 4, 5, 6, 7] rfl ?_
                      exact ih22 zq56 _ tq58 y4_22 _ e4_22 y3_22 _ e3_22 y2_22 _ e2_22 (by omega) (by omega) (by first | exact MI_skip j3 i1.1 j1.1 (PQ_step i1.1 j1.1) PQ_lt (Or.inl (by omega)) | exact MI_skip j3 i1.1 j1.1 (PQ_step i1.1 j1.1) PQ_lt (Or.inr (bb0 hsc (by omega))) | (have w := MI_take j3 i1.1 j1.1 (PQ_step i1.1 j1.1) (by omega) (bb1 hsc (by omega)).1 (bb1 hsc (by omega)).2; rw [ho] at w; exact w)) (by omega)
              · refine g_iconst X 0 dX7_mends_42 (by decide) ?_
                refine g_goto X (tgt := 47) dX7_mends_43 (by decide) ?_
                refine g_iload X 0 rfl dX7_mends_47 ?_
                refine g_aload_n X 5 rfl dX7_mends_49 ?_
                refine g_getr X f_X7_28 dX7_mends_50 ?_
                refine g_iload_n X 6 rfl dX7_mends_53 ?_
                refine g_iald X la_54 t1 dX7_mends_54 (by omega) (x := Mq.1 54 a1.toNat) rfl ?_
                have bq59 := ig_54 Iq0 a1.toNat (by omega)
                refine g_icmp_ne X e6_22 rfl (tgt := 62) dX7_mends_55 (by decide) (fun cq60 => ?_) (fun cq60 => ?_)
                · refine g_iconst X 1 dX7_mends_62 (by decide) ?_
                  refine g_iadd X dX7_mends_63 (fun zq61 eq62 => ?_)
                  have tq63 : zq61.toInt = 0 + 1 := add_nw eq62 (show (0 : Int32).toInt = 0 by decide) (show (1 : Int32).toInt = 1 by decide) (by omega)
                  refine g_istore X [(7, .int zq61), (6, .int y6_22), (5, .int y5_10), (4, .int y4_22), (3, .int y3_22), (2, .int y2_22), (0, .ref (ad 47)), (1, .int x1)] dX7_mends_64 (by decide) rfl ?_
                  have ho : oth (Mq.1 53 a1.toNat).toInt (Mq.1 54 a1.toNat).toInt b5_10 b6_22 = (0 + 1) := by unfold oth; (repeat' split) <;> omega
                  refine g_iload X 0 rfl dX7_mends_66 ?_
                  refine g_iload_n X 5 rfl dX7_mends_68 ?_
                  refine g_icmp_ge X tq63 e2_22 (tgt := 102) dX7_mends_69 (by decide) (fun cq64 => ?_) (fun cq64 => ?_)
                  · refine g_iinc X 1 (fun v => [(6, .int v), (7, .int zq61), (5, .int y5_10), (4, .int y4_22), (3, .int y3_22), (2, .int y2_22), (0, .ref (ad 47)), (1, .int x1)]) dX7_mends_102 rfl (by decide) (fun _ => rfl) (fun zq65 eq66 => ?_)
                    have tq67 : zq65.toInt = b6_22 + 1 := add_nw eq66 e6_22 (show (Int32.ofInt 1).toInt = 1 by decide) (by omega)
                    refine g_goto X (tgt := 22) dX7_mends_105 (by decide) ?_
                    refine g_sub [0, 2, 3, 4, 5, 6, 7] rfl ?_
                    exact ih22 zq65 _ tq67 y4_22 _ e4_22 y3_22 _ e3_22 y2_22 _ e2_22 (by omega) (by omega) (by first | exact MI_skip j3 i1.1 j1.1 (PQ_step i1.1 j1.1) PQ_lt (Or.inl (by omega)) | exact MI_skip j3 i1.1 j1.1 (PQ_step i1.1 j1.1) PQ_lt (Or.inr (bb0 hsc (by omega))) | (have w := MI_take j3 i1.1 j1.1 (PQ_step i1.1 j1.1) (by omega) (bb1 hsc (by omega)).1 (bb1 hsc (by omega)).2; rw [ho] at w; exact w)) (by omega)
                  · refine g_aload_n X 6 rfl dX7_mends_72 ?_
                    refine g_iload X 2 rfl dX7_mends_73 ?_
                    refine g_iload X 1 rfl dX7_mends_75 ?_
                    refine g_aload_n X 6 rfl dX7_mends_77 ?_
                    refine g_getr X f_X7_34 dX7_mends_78 ?_
                    refine g_iload_n X 7 rfl dX7_mends_81 ?_
                    refine g_iald X la_56 t1 dX7_mends_82 (by omega) (x := Mq.1 56 a1.toNat) rfl ?_
                    have bq68 := ig_56 Iq0 a1.toNat (by omega)
                    refine g_callV X m_X7_189 (c_X7_scans_E ad Mq y5_10 e5_10 y6_22 e6_22 (Mq.1 56 a1.toNat) rfl (by omega) (by omega) (by omega)) rfl (by decide) (Nat.le_of_ble_eq_true rfl) rfl dX7_mends_83 ?_
                    rintro _ _ ⟨rq69, aq70, rfl, tq71, hq72, rfl⟩
                    have hsc : (aq70 = 1 ∧ (FM Mq (b5_10).toNat ((Mq.1 56 a1.toNat).toInt).toNat = true ∧ SM Mq (b6_22).toNat ((Mq.1 56 a1.toNat).toInt).toNat = true)) ∨ (aq70 = 0 ∧ ¬ (FM Mq (b5_10).toNat ((Mq.1 56 a1.toNat).toInt).toNat = true ∧ SM Mq (b6_22).toNat ((Mq.1 56 a1.toNat).toInt).toNat = true)) := by have z : (aq70 = 1 ∧ (scM Mq (b5_10).toNat (b6_22).toNat ((Mq.1 56 a1.toNat).toInt).toNat = true)) ∨ (aq70 = 0 ∧ ¬ (scM Mq (b5_10).toNat (b6_22).toNat ((Mq.1 56 a1.toNat).toInt).toNat = true)) := hq72; rw [scM_eq hv (by omega) (by omega), Bool.and_eq_true] at z; exact z
                    show G Γ Mq 86 [(7, .int zq61), (6, .int y6_22), (5, .int y5_10), (4, .int y4_22), (3, .int y3_22), (2, .int y2_22), (0, .ref (ad 47)), (1, .int x1)] [.int rq69]
                    refine g_if_ne X tq71 (tgt := 92) dX7_mends_86 (by decide) (fun cq73 => ?_) (fun cq73 => ?_)
                    · have pq74 : (scb (loF (Mq.1 48 b5_10.toNat) (Mq.1 50 b5_10.toNat) (Mq.1 51 ((Mq.1 56 a1.toNat).toInt).toNat)) (hvF (Mq.1 49 b5_10.toNat) (Mq.1 50 b5_10.toNat) (Mq.1 52 ((Mq.1 56 a1.toNat).toInt).toNat) (Mq.1 51 ((Mq.1 56 a1.toNat).toInt).toNat)) (loF (Mq.1 48 b6_22.toNat) (Mq.1 50 b6_22.toNat) (Mq.1 51 ((Mq.1 56 a1.toNat).toInt).toNat)) (hvF (Mq.1 49 b6_22.toNat) (Mq.1 50 b6_22.toNat) (Mq.1 52 ((Mq.1 56 a1.toNat).toInt).toNat) (Mq.1 51 ((Mq.1 56 a1.toNat).toInt).toNat)) (Mq.1 58) = true) := by first | omega | (rcases hq72 with ⟨z1, z2⟩ | ⟨z1, z2⟩ <;> first | exact z2 | (exfalso; omega))
                      refine g_iload X 0 rfl dX7_mends_92 ?_
                      refine g_istore_n X (i := 2) [(2, .int zq61), (7, .int zq61), (6, .int y6_22), (5, .int y5_10), (4, .int y4_22), (3, .int y3_22), (0, .ref (ad 47)), (1, .int x1)] dX7_mends_94 rfl (by decide) rfl ?_
                      refine g_iload X 3 rfl dX7_mends_95 ?_
                      refine g_istore_n X (i := 3) [(3, .int y5_10), (2, .int zq61), (7, .int zq61), (6, .int y6_22), (5, .int y5_10), (4, .int y4_22), (0, .ref (ad 47)), (1, .int x1)] dX7_mends_97 rfl (by decide) rfl ?_
                      refine g_iload X 3 rfl dX7_mends_98 ?_
                      refine g_istore X [(4, .int y6_22), (3, .int y5_10), (2, .int zq61), (7, .int zq61), (6, .int y6_22), (5, .int y5_10), (0, .ref (ad 47)), (1, .int x1)] dX7_mends_100 (by decide) rfl ?_
                      refine g_iinc X 4 (fun v => [(6, .int v), (4, .int y6_22), (3, .int y5_10), (2, .int zq61), (7, .int zq61), (5, .int y5_10), (0, .ref (ad 47)), (1, .int x1)]) dX7_mends_102 rfl (by decide) (fun _ => rfl) (fun zq75 eq76 => ?_)
                      have tq77 : zq75.toInt = b6_22 + 1 := add_nw eq76 e6_22 (show (Int32.ofInt 1).toInt = 1 by decide) (by omega)
                      refine g_goto X (tgt := 22) dX7_mends_105 (by decide) ?_
                      refine g_sub [0, 5, 1, 2, 3, 6, 7] rfl ?_
                      exact ih22 zq75 _ tq77 y6_22 _ e6_22 y5_10 _ e5_10 zq61 _ tq63 (by omega) (by omega) (by first | exact MI_skip j3 i1.1 j1.1 (PQ_step i1.1 j1.1) PQ_lt (Or.inl (by omega)) | exact MI_skip j3 i1.1 j1.1 (PQ_step i1.1 j1.1) PQ_lt (Or.inr (bb0 hsc (by omega))) | (have w := MI_take j3 i1.1 j1.1 (PQ_step i1.1 j1.1) (by omega) (bb1 hsc (by omega)).1 (bb1 hsc (by omega)).2; rw [ho] at w; exact w)) (by omega)
                    · have pq78 : ¬ (scb (loF (Mq.1 48 b5_10.toNat) (Mq.1 50 b5_10.toNat) (Mq.1 51 ((Mq.1 56 a1.toNat).toInt).toNat)) (hvF (Mq.1 49 b5_10.toNat) (Mq.1 50 b5_10.toNat) (Mq.1 52 ((Mq.1 56 a1.toNat).toInt).toNat) (Mq.1 51 ((Mq.1 56 a1.toNat).toInt).toNat)) (loF (Mq.1 48 b6_22.toNat) (Mq.1 50 b6_22.toNat) (Mq.1 51 ((Mq.1 56 a1.toNat).toInt).toNat)) (hvF (Mq.1 49 b6_22.toNat) (Mq.1 50 b6_22.toNat) (Mq.1 52 ((Mq.1 56 a1.toNat).toInt).toNat) (Mq.1 51 ((Mq.1 56 a1.toNat).toInt).toNat)) (Mq.1 58) = true) := by first | omega | (rcases hq72 with ⟨z1, z2⟩ | ⟨z1, z2⟩ <;> first | exact z2 | (exfalso; omega))
                      refine g_goto X (tgt := 102) dX7_mends_89 (by decide) ?_
                      refine g_iinc X 1 (fun v => [(6, .int v), (7, .int zq61), (5, .int y5_10), (4, .int y4_22), (3, .int y3_22), (2, .int y2_22), (0, .ref (ad 47)), (1, .int x1)]) dX7_mends_102 rfl (by decide) (fun _ => rfl) (fun zq79 eq80 => ?_)
                      have tq81 : zq79.toInt = b6_22 + 1 := add_nw eq80 e6_22 (show (Int32.ofInt 1).toInt = 1 by decide) (by omega)
                      refine g_goto X (tgt := 22) dX7_mends_105 (by decide) ?_
                      refine g_sub [0, 2, 3, 4, 5, 6, 7] rfl ?_
                      exact ih22 zq79 _ tq81 y4_22 _ e4_22 y3_22 _ e3_22 y2_22 _ e2_22 (by omega) (by omega) (by first | exact MI_skip j3 i1.1 j1.1 (PQ_step i1.1 j1.1) PQ_lt (Or.inl (by omega)) | exact MI_skip j3 i1.1 j1.1 (PQ_step i1.1 j1.1) PQ_lt (Or.inr (bb0 hsc (by omega))) | (have w := MI_take j3 i1.1 j1.1 (PQ_step i1.1 j1.1) (by omega) (bb1 hsc (by omega)).1 (bb1 hsc (by omega)).2; rw [ho] at w; exact w)) (by omega)
                · refine g_iconst X 0 dX7_mends_58 (by decide) ?_
                  refine g_goto X (tgt := 63) dX7_mends_59 (by decide) ?_
                  refine g_iadd X dX7_mends_63 (fun zq82 eq83 => ?_)
                  have tq84 : zq82.toInt = 0 + 0 := add_nw eq83 (show (0 : Int32).toInt = 0 by decide) (show (0 : Int32).toInt = 0 by decide) (by omega)
                  refine g_istore X [(7, .int zq82), (6, .int y6_22), (5, .int y5_10), (4, .int y4_22), (3, .int y3_22), (2, .int y2_22), (0, .ref (ad 47)), (1, .int x1)] dX7_mends_64 (by decide) rfl ?_
                  have ho : oth (Mq.1 53 a1.toNat).toInt (Mq.1 54 a1.toNat).toInt b5_10 b6_22 = (0 + 0) := by unfold oth; (repeat' split) <;> omega
                  refine g_iload X 0 rfl dX7_mends_66 ?_
                  refine g_iload_n X 5 rfl dX7_mends_68 ?_
                  refine g_icmp_ge X tq84 e2_22 (tgt := 102) dX7_mends_69 (by decide) (fun cq85 => ?_) (fun cq85 => ?_)
                  · refine g_iinc X 1 (fun v => [(6, .int v), (7, .int zq82), (5, .int y5_10), (4, .int y4_22), (3, .int y3_22), (2, .int y2_22), (0, .ref (ad 47)), (1, .int x1)]) dX7_mends_102 rfl (by decide) (fun _ => rfl) (fun zq86 eq87 => ?_)
                    have tq88 : zq86.toInt = b6_22 + 1 := add_nw eq87 e6_22 (show (Int32.ofInt 1).toInt = 1 by decide) (by omega)
                    refine g_goto X (tgt := 22) dX7_mends_105 (by decide) ?_
                    refine g_sub [0, 2, 3, 4, 5, 6, 7] rfl ?_
                    exact ih22 zq86 _ tq88 y4_22 _ e4_22 y3_22 _ e3_22 y2_22 _ e2_22 (by omega) (by omega) (by first | exact MI_skip j3 i1.1 j1.1 (PQ_step i1.1 j1.1) PQ_lt (Or.inl (by omega)) | exact MI_skip j3 i1.1 j1.1 (PQ_step i1.1 j1.1) PQ_lt (Or.inr (bb0 hsc (by omega))) | (have w := MI_take j3 i1.1 j1.1 (PQ_step i1.1 j1.1) (by omega) (bb1 hsc (by omega)).1 (bb1 hsc (by omega)).2; rw [ho] at w; exact w)) (by omega)
                  · refine g_aload_n X 6 rfl dX7_mends_72 ?_
                    refine g_iload X 2 rfl dX7_mends_73 ?_
                    refine g_iload X 1 rfl dX7_mends_75 ?_
                    refine g_aload_n X 6 rfl dX7_mends_77 ?_
                    refine g_getr X f_X7_34 dX7_mends_78 ?_
                    refine g_iload_n X 7 rfl dX7_mends_81 ?_
                    refine g_iald X la_56 t1 dX7_mends_82 (by omega) (x := Mq.1 56 a1.toNat) rfl ?_
                    have bq89 := ig_56 Iq0 a1.toNat (by omega)
                    refine g_callV X m_X7_189 (c_X7_scans_E ad Mq y5_10 e5_10 y6_22 e6_22 (Mq.1 56 a1.toNat) rfl (by omega) (by omega) (by omega)) rfl (by decide) (Nat.le_of_ble_eq_true rfl) rfl dX7_mends_83 ?_
                    rintro _ _ ⟨rq90, aq91, rfl, tq92, hq93, rfl⟩
                    have hsc : (aq91 = 1 ∧ (FM Mq (b5_10).toNat ((Mq.1 56 a1.toNat).toInt).toNat = true ∧ SM Mq (b6_22).toNat ((Mq.1 56 a1.toNat).toInt).toNat = true)) ∨ (aq91 = 0 ∧ ¬ (FM Mq (b5_10).toNat ((Mq.1 56 a1.toNat).toInt).toNat = true ∧ SM Mq (b6_22).toNat ((Mq.1 56 a1.toNat).toInt).toNat = true)) := by have z : (aq91 = 1 ∧ (scM Mq (b5_10).toNat (b6_22).toNat ((Mq.1 56 a1.toNat).toInt).toNat = true)) ∨ (aq91 = 0 ∧ ¬ (scM Mq (b5_10).toNat (b6_22).toNat ((Mq.1 56 a1.toNat).toInt).toNat = true)) := hq93; rw [scM_eq hv (by omega) (by omega), Bool.and_eq_true] at z; exact z
                    show G Γ Mq 86 [(7, .int zq82), (6, .int y6_22), (5, .int y5_10), (4, .int y4_22), (3, .int y3_22), (2, .int y2_22), (0, .ref (ad 47)), (1, .int x1)] [.int rq90]
                    refine g_if_ne X tq92 (tgt := 92) dX7_mends_86 (by decide) (fun cq94 => ?_) (fun cq94 => ?_)
                    · have pq95 : (scb (loF (Mq.1 48 b5_10.toNat) (Mq.1 50 b5_10.toNat) (Mq.1 51 ((Mq.1 56 a1.toNat).toInt).toNat)) (hvF (Mq.1 49 b5_10.toNat) (Mq.1 50 b5_10.toNat) (Mq.1 52 ((Mq.1 56 a1.toNat).toInt).toNat) (Mq.1 51 ((Mq.1 56 a1.toNat).toInt).toNat)) (loF (Mq.1 48 b6_22.toNat) (Mq.1 50 b6_22.toNat) (Mq.1 51 ((Mq.1 56 a1.toNat).toInt).toNat)) (hvF (Mq.1 49 b6_22.toNat) (Mq.1 50 b6_22.toNat) (Mq.1 52 ((Mq.1 56 a1.toNat).toInt).toNat) (Mq.1 51 ((Mq.1 56 a1.toNat).toInt).toNat)) (Mq.1 58) = true) := by first | omega | (rcases hq93 with ⟨z1, z2⟩ | ⟨z1, z2⟩ <;> first | exact z2 | (exfalso; omega))
                      refine g_iload X 0 rfl dX7_mends_92 ?_
                      refine g_istore_n X (i := 2) [(2, .int zq82), (7, .int zq82), (6, .int y6_22), (5, .int y5_10), (4, .int y4_22), (3, .int y3_22), (0, .ref (ad 47)), (1, .int x1)] dX7_mends_94 rfl (by decide) rfl ?_
                      refine g_iload X 3 rfl dX7_mends_95 ?_
                      refine g_istore_n X (i := 3) [(3, .int y5_10), (2, .int zq82), (7, .int zq82), (6, .int y6_22), (5, .int y5_10), (4, .int y4_22), (0, .ref (ad 47)), (1, .int x1)] dX7_mends_97 rfl (by decide) rfl ?_
                      refine g_iload X 3 rfl dX7_mends_98 ?_
                      refine g_istore X [(4, .int y6_22), (3, .int y5_10), (2, .int zq82), (7, .int zq82), (6, .int y6_22), (5, .int y5_10), (0, .ref (ad 47)), (1, .int x1)] dX7_mends_100 (by decide) rfl ?_
                      refine g_iinc X 4 (fun v => [(6, .int v), (4, .int y6_22), (3, .int y5_10), (2, .int zq82), (7, .int zq82), (5, .int y5_10), (0, .ref (ad 47)), (1, .int x1)]) dX7_mends_102 rfl (by decide) (fun _ => rfl) (fun zq96 eq97 => ?_)
                      have tq98 : zq96.toInt = b6_22 + 1 := add_nw eq97 e6_22 (show (Int32.ofInt 1).toInt = 1 by decide) (by omega)
                      refine g_goto X (tgt := 22) dX7_mends_105 (by decide) ?_
                      refine g_sub [0, 5, 1, 2, 3, 6, 7] rfl ?_
                      exact ih22 zq96 _ tq98 y6_22 _ e6_22 y5_10 _ e5_10 zq82 _ tq84 (by omega) (by omega) (by first | exact MI_skip j3 i1.1 j1.1 (PQ_step i1.1 j1.1) PQ_lt (Or.inl (by omega)) | exact MI_skip j3 i1.1 j1.1 (PQ_step i1.1 j1.1) PQ_lt (Or.inr (bb0 hsc (by omega))) | (have w := MI_take j3 i1.1 j1.1 (PQ_step i1.1 j1.1) (by omega) (bb1 hsc (by omega)).1 (bb1 hsc (by omega)).2; rw [ho] at w; exact w)) (by omega)
                    · have pq99 : ¬ (scb (loF (Mq.1 48 b5_10.toNat) (Mq.1 50 b5_10.toNat) (Mq.1 51 ((Mq.1 56 a1.toNat).toInt).toNat)) (hvF (Mq.1 49 b5_10.toNat) (Mq.1 50 b5_10.toNat) (Mq.1 52 ((Mq.1 56 a1.toNat).toInt).toNat) (Mq.1 51 ((Mq.1 56 a1.toNat).toInt).toNat)) (loF (Mq.1 48 b6_22.toNat) (Mq.1 50 b6_22.toNat) (Mq.1 51 ((Mq.1 56 a1.toNat).toInt).toNat)) (hvF (Mq.1 49 b6_22.toNat) (Mq.1 50 b6_22.toNat) (Mq.1 52 ((Mq.1 56 a1.toNat).toInt).toNat) (Mq.1 51 ((Mq.1 56 a1.toNat).toInt).toNat)) (Mq.1 58) = true) := by first | omega | (rcases hq93 with ⟨z1, z2⟩ | ⟨z1, z2⟩ <;> first | exact z2 | (exfalso; omega))
                      refine g_goto X (tgt := 102) dX7_mends_89 (by decide) ?_
                      refine g_iinc X 1 (fun v => [(6, .int v), (7, .int zq82), (5, .int y5_10), (4, .int y4_22), (3, .int y3_22), (2, .int y2_22), (0, .ref (ad 47)), (1, .int x1)]) dX7_mends_102 rfl (by decide) (fun _ => rfl) (fun zq100 eq101 => ?_)
                      have tq102 : zq100.toInt = b6_22 + 1 := add_nw eq101 e6_22 (show (Int32.ofInt 1).toInt = 1 by decide) (by omega)
                      refine g_goto X (tgt := 22) dX7_mends_105 (by decide) ?_
                      refine g_sub [0, 2, 3, 4, 5, 6, 7] rfl ?_
                      exact ih22 zq100 _ tq102 y4_22 _ e4_22 y3_22 _ e3_22 y2_22 _ e2_22 (by omega) (by omega) (by first | exact MI_skip j3 i1.1 j1.1 (PQ_step i1.1 j1.1) PQ_lt (Or.inl (by omega)) | exact MI_skip j3 i1.1 j1.1 (PQ_step i1.1 j1.1) PQ_lt (Or.inr (bb0 hsc (by omega))) | (have w := MI_take j3 i1.1 j1.1 (PQ_step i1.1 j1.1) (by omega) (bb1 hsc (by omega)).1 (bb1 hsc (by omega)).2; rw [ho] at w; exact w)) (by omega)
        refine g_sub [0, 1, 2, 3, 4, 5, 6] rfl ?_
        exact lp22 _ 0 _ (show (0 : Int32).toInt = 0 by decide) y4_10 _ e4_10 y3_10 _ e3_10 y2_10 _ e2_10 (by omega) (by omega) (MI_cong i3 PO_PQ) (Nat.lt_succ_self _)
  refine g_sub [0, 1, 2, 3, 4, 5] rfl ?_
  exact lp10 _ 0 _ (show (0 : Int32).toInt = 0 by decide) 0 _ (show (0 : Int32).toInt = 0 by decide) 0 _ (show (0 : Int32).toInt = 0 by decide) 3 _ (show (3 : Int32).toInt = 3 by decide) (by omega) (by omega) MI_0 (Nat.lt_succ_self _)
abbrev W_X7_swap_E : List (Nat × Nat) := [(47, 14), (53, 99), (54, 99), (56, 99), (59, 99)]
set_option maxHeartbeats 4000000 in
set_option maxRecDepth 4000 in
theorem c_X7_swap_E (ad : Nat → Nat) (Mq : Mem) (x1 : Int32) {a1 : Int} (t1 : x1.toInt = a1) (x2 : Int32) {a2 : Int} (t2 : x2.toInt = a2) (Iq0 : Iv TM Mq) (hv : VAL Mq) (hln : VLN Mq) : Ctr ad yX7_swap cX7_swap 5 (some .int) 4 [.ref (ad 47), .int x1, .int x2] Mq (fun v M' => ∃ (r : Int32) (a : Int), v = some (.int r) ∧ r.toInt = a ∧ (((¬ (0 ≤ a1 ∧ a1 ≤ 9 ∧ 0 ≤ a2 ∧ a2 ≤ 9)) ∧ (a = -1)) ∨ (¬ (¬ (0 ≤ a1 ∧ a1 ≤ 9 ∧ 0 ≤ a2 ∧ a2 ≤ 9)) ∧ (a1 = a2) ∧ (a = -2)) ∨ (¬ (¬ (0 ≤ a1 ∧ a1 ≤ 9 ∧ 0 ≤ a2 ∧ a2 ≤ 9)) ∧ ¬ (a1 = a2) ∧ (True))) ∧ (((¬ (0 ≤ a1 ∧ a1 ≤ 9 ∧ 0 ≤ a2 ∧ a2 ≤ 9) ∨ a1 = a2) → M' = Mq) ∧ (¬ (¬ (0 ≤ a1 ∧ a1 ≤ 9 ∧ 0 ≤ a2 ∧ a2 ≤ 9) ∨ a1 = a2) → SWP (fun h => FM Mq h a2.toNat) (fun h => SM Mq h a2.toNat) ((Mq.1 47 11).toInt).toNat ((Mq.1 47 12).toInt).toNat a1 a2 (Mq.1 56) (Mq.1 53) (Mq.1 54) (M'.1 56) (M'.1 53) (M'.1 54) (M'.1 47 14).toInt (M'.1 59) a)) ∧ Iv TM M' ∧ Fr W_X7_swap_E Mq M') := by
  refine ctr_of (L := [(0, .ref (ad 47)), (1, .int x1), (2, .int x2)]) (by decide) (Nat.le_of_ble_eq_true rfl) rfl ?_
  intro Γ X
  have X : gX Γ cX7_swap RX7 5 (some .int) 4 ad _ := X
  have frq0 : Fr W_X7_swap_E Mq Mq := Fr.rf
  have g11 := ig_47_11 Iq0
  have g12 := ig_47_12 Iq0
  have g14 := ig_47_14 Iq0
  have g32 := ig_47_32 Iq0
  have g43 := ig_47_43 Iq0
  have g44 := ig_47_44 Iq0
  have g52 := ig_47_52 Iq0
  have g53 := ig_47_53 Iq0
  have g59 := ig_47_59 Iq0
  obtain ⟨lf, hlf⟩ := lst_ex (fun h => FM Mq h a2.toNat = true) ((Mq.1 47 11).toInt).toNat
  obtain ⟨ls, hls⟩ := lst_ex (fun h => SM Mq h a2.toNat = true) ((Mq.1 47 11).toInt).toNat
  refine g_iload_n X 1 rfl dX7_swap_0 ?_
  refine g_callS X m_X7_158 (c_X7_isName ad Mq x1 t1) rfl (by decide) (Nat.le_of_ble_eq_true rfl) rfl dX7_swap_1 ?_
  rintro _ _ ⟨rq1, aq2, rfl, tq3, hq4, rfl⟩
  show G Γ Mq 4 [(0, .ref (ad 47)), (1, .int x1), (2, .int x2)] [.int rq1]
  refine g_if_eq X tq3 (tgt := 14) dX7_swap_4 (by decide) (fun cq5 => ?_) (fun cq5 => ?_)
  · have pq6 : ¬ (0 ≤ a1 ∧ a1 ≤ 9) := by first | omega | (rcases hq4 with ⟨z1, z2⟩ | ⟨z1, z2⟩ <;> first | exact z2 | (exfalso; omega))
    refine g_iconst X (-1) dX7_swap_14 (by decide) ?_
    exact g_iret X dX7_swap_15 ⟨_, _, rfl, (show ((-1) : Int32).toInt = (-1) by decide), (by first | exact Or.inl ⟨by omega, rfl⟩ | exact Or.inr (Or.inl ⟨by omega, by omega, rfl⟩) | exact Or.inr (Or.inr ⟨by omega, by omega, trivial⟩)), (⟨fun h => rfl, fun h => absurd (by omega) h⟩), Iq0, frq0⟩
  · have pq7 : (0 ≤ a1 ∧ a1 ≤ 9) := by first | omega | (rcases hq4 with ⟨z1, z2⟩ | ⟨z1, z2⟩ <;> first | exact z2 | (exfalso; omega))
    refine g_iload_n X 2 rfl dX7_swap_7 ?_
    refine g_callS X m_X7_158 (c_X7_isName ad Mq x2 t2) rfl (by decide) (Nat.le_of_ble_eq_true rfl) rfl dX7_swap_8 ?_
    rintro _ _ ⟨rq8, aq9, rfl, tq10, hq11, rfl⟩
    show G Γ Mq 11 [(0, .ref (ad 47)), (1, .int x1), (2, .int x2)] [.int rq8]
    refine g_if_ne X tq10 (tgt := 16) dX7_swap_11 (by decide) (fun cq12 => ?_) (fun cq12 => ?_)
    · have pq13 : (0 ≤ a2 ∧ a2 ≤ 9) := by first | omega | (rcases hq11 with ⟨z1, z2⟩ | ⟨z1, z2⟩ <;> first | exact z2 | (exfalso; omega))
      refine g_iload_n X 1 rfl dX7_swap_16 ?_
      refine g_iload_n X 2 rfl dX7_swap_17 ?_
      refine g_icmp_ne X t1 t2 (tgt := 24) dX7_swap_18 (by decide) (fun cq14 => ?_) (fun cq14 => ?_)
      · refine g_aload_n X 0 rfl dX7_swap_24 ?_
        refine g_iconst X 0 dX7_swap_25 (by decide) ?_
        refine g_puti X p_X7_193 dX7_swap_26 ?_
        have ltq15 : (0 : Int32).toInt = 0 := by decide
        have Iq16 : Iv TM (ui Mq 47 14 0) := Iq0.put 0 40 (show (0 : Int32).toInt = 0 by decide) (by omega) rfl
        have frq17 : Fr W_X7_swap_E Mq (ui Mq 47 14 0) := frq0.ui rfl
        refine g_iconst X 0 dX7_swap_29 (by decide) ?_
        refine g_istore_n X (i := 3) [(3, .int 0), (0, .ref (ad 47)), (1, .int x1), (2, .int x2)] dX7_swap_30 rfl (by decide) rfl ?_
        refine g_iconst X 0 dX7_swap_31 (by decide) ?_
        refine g_istore X [(4, .int 0), (3, .int 0), (0, .ref (ad 47)), (1, .int x1), (2, .int x2)] dX7_swap_32 (by decide) rfl ?_
        have lp34 : ∀ n : Nat, ∀ (y4_34 : Int32) (b4_34 : Int), y4_34.toInt = b4_34 → ∀ (y3_34 : Int32) (b3_34 : Int), y3_34.toInt = b3_34 → ∀ (M_34 : Mem), (0 ≤ b4_34 ∧ b4_34 ≤ (Mq.1 47 12).toInt) → (SW (fun h => FM Mq h a2.toNat) (fun h => SM Mq h a2.toNat) lf ls a1 a2 (Mq.1 56) (Mq.1 53) (Mq.1 54) (M_34.1 56) (M_34.1 53) (M_34.1 54) (b4_34).toNat) → (BR (brk (swN (fun h => FM Mq h a2.toNat) (fun h => SM Mq h a2.toNat) a1 (Mq.1 56) (Mq.1 53) (Mq.1 54)) lf ls) (M_34.1 47 14).toInt (M_34.1 59) (b4_34).toNat) → (b3_34 = (ctb (men (swN (fun h => FM Mq h a2.toNat) (fun h => SM Mq h a2.toNat) a1 (Mq.1 56) (Mq.1 53) (Mq.1 54)) lf ls) (b4_34).toNat : Nat)) → (Iv TM M_34) → (Fr W_X7_swap_E Mq M_34) → ((Mq.1 47 12).toInt - b4_34).toNat < n → G Γ M_34 34 [(4, .int y4_34), (3, .int y3_34), (0, .ref (ad 47)), (1, .int x1), (2, .int x2)] [] := by
          intro n
          induction n with
          | zero => intro y4_34 b4_34 e4_34 y3_34 b3_34 e3_34 M_34 i1 i2 i3 i4 I_34 fr_34 hm; exact absurd hm (Nat.not_lt_zero _)
          | succ n ih34 =>
            intro y4_34 b4_34 e4_34 y3_34 b3_34 e3_34 M_34 i1 i2 i3 i4 I_34 fr_34 hm34
            have q1 : (M_34.1 47 12).toInt = (Mq.1 47 12).toInt := congrArg Int32.toInt (fr_34.at 47 12 rfl)
            have i31 := i3.1
            have hcl := ctb_le (brk (swN (fun h => FM Mq h a2.toNat) (fun h => SM Mq h a2.toNat) a1 (Mq.1 56) (Mq.1 53) (Mq.1 54)) lf ls) (b4_34).toNat
            have hcm := ctb_le (men (swN (fun h => FM Mq h a2.toNat) (fun h => SM Mq h a2.toNat) a1 (Mq.1 56) (Mq.1 53) (Mq.1 54)) lf ls) (b4_34).toNat
            refine g_iload X 0 rfl dX7_swap_34 ?_
            refine g_aload_n X 2 rfl dX7_swap_36 ?_
            refine g_geti X f_X7_147 dX7_swap_37 (x := M_34.1 47 12) rfl ?_
            have bq18 := ig_47_12 I_34
            refine g_icmp_ge X e4_34 rfl (tgt := 132) dX7_swap_40 (by decide) (fun cq19 => ?_) (fun cq19 => ?_)
            · refine g_iload_n X 1 rfl dX7_swap_132 ?_
              exact g_iret X dX7_swap_133 ⟨_, _, rfl, e3_34, (by first | exact Or.inl ⟨by omega, rfl⟩ | exact Or.inr (Or.inl ⟨by omega, by omega, rfl⟩) | exact Or.inr (Or.inr ⟨by omega, by omega, trivial⟩)), (⟨fun h => absurd h (by omega), fun h => by have e : b4_34.toNat = ((Mq.1 47 12).toInt).toNat := (by omega); rw [e] at i2 i3 i4; exact ⟨_, _, hlf, hls, i4, i2, i3⟩⟩), I_34, fr_34⟩
            · refine g_aload_n X 2 rfl dX7_swap_43 ?_
              refine g_getr X f_X7_34 dX7_swap_44 ?_
              refine g_iload X 0 rfl dX7_swap_47 ?_
              refine g_iald X la_56 e4_34 dX7_swap_49 (by omega) (x := M_34.1 56 b4_34.toNat) rfl ?_
              have bq20 := ig_56 I_34 b4_34.toNat (by omega)
              refine g_iload_n X 3 rfl dX7_swap_50 ?_
              refine g_icmp_eq X rfl t1 (tgt := 57) dX7_swap_51 (by decide) (fun cq21 => ?_) (fun cq21 => ?_)
              · refine g_aload_n X 2 rfl dX7_swap_57 ?_
                refine g_getr X f_X7_34 dX7_swap_58 ?_
                refine g_iload X 0 rfl dX7_swap_61 ?_
                refine g_iload_n X 4 rfl dX7_swap_63 ?_
                refine g_iast X la_56 e4_34 dX7_swap_64 (by omega) ?_
                have Iq22 : Iv TM (ui M_34 56 b4_34.toNat x2) := I_34.putA 0 9 t2 (by omega) rfl
                have frq23 : Fr W_X7_swap_E Mq (ui M_34 56 b4_34.toNat x2) := fr_34.ui rfl
                refine g_aload_n X 2 rfl dX7_swap_65 ?_
                refine g_aload_n X 2 rfl dX7_swap_66 ?_
                refine g_getr X f_X7_25 dX7_swap_67 ?_
                refine g_iload X 0 rfl dX7_swap_70 ?_
                refine g_iald X la_53 e4_34 dX7_swap_72 (by omega) (x := M_34.1 53 b4_34.toNat) rfl ?_
                have bq24 := ig_53 I_34 b4_34.toNat (by omega)
                refine g_aload_n X 2 rfl dX7_swap_73 ?_
                refine g_getr X f_X7_28 dX7_swap_74 ?_
                refine g_iload X 0 rfl dX7_swap_77 ?_
                refine g_iald X la_54 e4_34 dX7_swap_79 (by omega) (x := M_34.1 54 b4_34.toNat) rfl ?_
                have bq25 := ig_54 I_34 b4_34.toNat (by omega)
                refine g_iload_n X 4 rfl dX7_swap_80 ?_
                refine g_callV X m_X7_189 (c_X7_scans_E ad (ui M_34 56 b4_34.toNat x2) (M_34.1 53 b4_34.toNat) rfl (M_34.1 54 b4_34.toNat) rfl x2 t2 (by omega) (by omega) (by omega)) rfl (by decide) (Nat.le_of_ble_eq_true rfl) rfl dX7_swap_81 ?_
                rintro _ _ ⟨rq26, aq27, rfl, tq28, hq29, rfl⟩
                have hq30 : (aq27 = 1 ∧ (scb (loF ((ui M_34 56 b4_34.toNat (M_34.1 54 b4_34.toNat)).1 48 ((M_34.1 53 b4_34.toNat).toInt).toNat) ((ui M_34 56 b4_34.toNat (M_34.1 54 b4_34.toNat)).1 50 ((M_34.1 53 b4_34.toNat).toInt).toNat) ((ui M_34 56 b4_34.toNat (M_34.1 54 b4_34.toNat)).1 51 a2.toNat)) (hvF ((ui M_34 56 b4_34.toNat (M_34.1 54 b4_34.toNat)).1 49 ((M_34.1 53 b4_34.toNat).toInt).toNat) ((ui M_34 56 b4_34.toNat (M_34.1 54 b4_34.toNat)).1 50 ((M_34.1 53 b4_34.toNat).toInt).toNat) ((ui M_34 56 b4_34.toNat (M_34.1 54 b4_34.toNat)).1 52 a2.toNat) ((ui M_34 56 b4_34.toNat (M_34.1 54 b4_34.toNat)).1 51 a2.toNat)) (loF ((ui M_34 56 b4_34.toNat (M_34.1 54 b4_34.toNat)).1 48 ((M_34.1 54 b4_34.toNat).toInt).toNat) ((ui M_34 56 b4_34.toNat (M_34.1 54 b4_34.toNat)).1 50 ((M_34.1 54 b4_34.toNat).toInt).toNat) ((ui M_34 56 b4_34.toNat (M_34.1 54 b4_34.toNat)).1 51 a2.toNat)) (hvF ((ui M_34 56 b4_34.toNat (M_34.1 54 b4_34.toNat)).1 49 ((M_34.1 54 b4_34.toNat).toInt).toNat) ((ui M_34 56 b4_34.toNat (M_34.1 54 b4_34.toNat)).1 50 ((M_34.1 54 b4_34.toNat).toInt).toNat) ((ui M_34 56 b4_34.toNat (M_34.1 54 b4_34.toNat)).1 52 a2.toNat) ((ui M_34 56 b4_34.toNat (M_34.1 54 b4_34.toNat)).1 51 a2.toNat)) ((ui M_34 56 b4_34.toNat (M_34.1 54 b4_34.toNat)).1 58) = true)) ∨ (aq27 = 0 ∧ ¬ (scb (loF ((ui M_34 56 b4_34.toNat (M_34.1 54 b4_34.toNat)).1 48 ((M_34.1 53 b4_34.toNat).toInt).toNat) ((ui M_34 56 b4_34.toNat (M_34.1 54 b4_34.toNat)).1 50 ((M_34.1 53 b4_34.toNat).toInt).toNat) ((ui M_34 56 b4_34.toNat (M_34.1 54 b4_34.toNat)).1 51 a2.toNat)) (hvF ((ui M_34 56 b4_34.toNat (M_34.1 54 b4_34.toNat)).1 49 ((M_34.1 53 b4_34.toNat).toInt).toNat) ((ui M_34 56 b4_34.toNat (M_34.1 54 b4_34.toNat)).1 50 ((M_34.1 53 b4_34.toNat).toInt).toNat) ((ui M_34 56 b4_34.toNat (M_34.1 54 b4_34.toNat)).1 52 a2.toNat) ((ui M_34 56 b4_34.toNat (M_34.1 54 b4_34.toNat)).1 51 a2.toNat)) (loF ((ui M_34 56 b4_34.toNat (M_34.1 54 b4_34.toNat)).1 48 ((M_34.1 54 b4_34.toNat).toInt).toNat) ((ui M_34 56 b4_34.toNat (M_34.1 54 b4_34.toNat)).1 50 ((M_34.1 54 b4_34.toNat).toInt).toNat) ((ui M_34 56 b4_34.toNat (M_34.1 54 b4_34.toNat)).1 51 a2.toNat)) (hvF ((ui M_34 56 b4_34.toNat (M_34.1 54 b4_34.toNat)).1 49 ((M_34.1 54 b4_34.toNat).toInt).toNat) ((ui M_34 56 b4_34.toNat (M_34.1 54 b4_34.toNat)).1 50 ((M_34.1 54 b4_34.toNat).toInt).toNat) ((ui M_34 56 b4_34.toNat (M_34.1 54 b4_34.toNat)).1 52 a2.toNat) ((ui M_34 56 b4_34.toNat (M_34.1 54 b4_34.toNat)).1 51 a2.toNat)) ((ui M_34 56 b4_34.toNat (M_34.1 54 b4_34.toNat)).1 58) = true)) := hq29
                clear hq29
                have fm := FM_fr frq23 (by decide)
                have h11 := (frq23).at 47 11 rfl
                have hvo := VAL_fr hv frq23 (by decide) rfl
                have hz := SW_at i2 (show b4_34.toNat < 40 by omega)
                have hl0 := hln b4_34.toNat (by omega)
                have hl1 : (M_34.1 53 b4_34.toNat).toInt < (Mq.1 47 11).toInt := by rw [hz.2.1]; exact hl0.1
                have hl2 : (M_34.1 54 b4_34.toNat).toInt < (Mq.1 47 11).toInt := by rw [hz.2.2]; exact hl0.2
                have hsc : (aq27 = 1 ∧ (FM Mq ((M_34.1 53 b4_34.toNat).toInt).toNat a2.toNat && SM Mq ((M_34.1 54 b4_34.toNat).toInt).toNat a2.toNat) = true) ∨ (aq27 = 0 ∧ ¬ ((FM Mq ((M_34.1 53 b4_34.toNat).toInt).toNat a2.toNat && SM Mq ((M_34.1 54 b4_34.toNat).toInt).toNat a2.toNat) = true)) := by have z : (aq27 = 1 ∧ scM (ui M_34 56 b4_34.toNat x2) ((M_34.1 53 b4_34.toNat).toInt).toNat ((M_34.1 54 b4_34.toNat).toInt).toNat a2.toNat = true) ∨ (aq27 = 0 ∧ ¬ (scM (ui M_34 56 b4_34.toNat x2) ((M_34.1 53 b4_34.toNat).toInt).toNat ((M_34.1 54 b4_34.toNat).toInt).toNat a2.toNat = true)) := hq30; rw [scM_eq hvo (by rw [h11]; omega) (by omega), fm.1, fm.2] at z; exact z
                show G Γ (ui M_34 56 b4_34.toNat x2) 84 [(4, .int y4_34), (3, .int y3_34), (0, .ref (ad 47)), (1, .int x1), (2, .int x2)] [.int rq26]
                refine g_if_eq X tq28 (tgt := 90) dX7_swap_84 (by decide) (fun cq31 => ?_) (fun cq31 => ?_)
                · have pq32 : ¬ (scb (loF ((ui M_34 56 b4_34.toNat (M_34.1 54 b4_34.toNat)).1 48 ((M_34.1 53 b4_34.toNat).toInt).toNat) ((ui M_34 56 b4_34.toNat (M_34.1 54 b4_34.toNat)).1 50 ((M_34.1 53 b4_34.toNat).toInt).toNat) ((ui M_34 56 b4_34.toNat (M_34.1 54 b4_34.toNat)).1 51 a2.toNat)) (hvF ((ui M_34 56 b4_34.toNat (M_34.1 54 b4_34.toNat)).1 49 ((M_34.1 53 b4_34.toNat).toInt).toNat) ((ui M_34 56 b4_34.toNat (M_34.1 54 b4_34.toNat)).1 50 ((M_34.1 53 b4_34.toNat).toInt).toNat) ((ui M_34 56 b4_34.toNat (M_34.1 54 b4_34.toNat)).1 52 a2.toNat) ((ui M_34 56 b4_34.toNat (M_34.1 54 b4_34.toNat)).1 51 a2.toNat)) (loF ((ui M_34 56 b4_34.toNat (M_34.1 54 b4_34.toNat)).1 48 ((M_34.1 54 b4_34.toNat).toInt).toNat) ((ui M_34 56 b4_34.toNat (M_34.1 54 b4_34.toNat)).1 50 ((M_34.1 54 b4_34.toNat).toInt).toNat) ((ui M_34 56 b4_34.toNat (M_34.1 54 b4_34.toNat)).1 51 a2.toNat)) (hvF ((ui M_34 56 b4_34.toNat (M_34.1 54 b4_34.toNat)).1 49 ((M_34.1 54 b4_34.toNat).toInt).toNat) ((ui M_34 56 b4_34.toNat (M_34.1 54 b4_34.toNat)).1 50 ((M_34.1 54 b4_34.toNat).toInt).toNat) ((ui M_34 56 b4_34.toNat (M_34.1 54 b4_34.toNat)).1 52 a2.toNat) ((ui M_34 56 b4_34.toNat (M_34.1 54 b4_34.toNat)).1 51 a2.toNat)) ((ui M_34 56 b4_34.toNat (M_34.1 54 b4_34.toNat)).1 58) = true) := by first | omega | (rcases hq30 with ⟨z1, z2⟩ | ⟨z1, z2⟩ <;> first | exact z2 | (exfalso; omega))
                  refine g_aload_n X 2 rfl dX7_swap_90 ?_
                  refine g_iload X 0 rfl dX7_swap_91 ?_
                  refine g_callV X m_X7_196 (c_X7_mends_E ad (ui M_34 56 b4_34.toNat x2) y4_34 e4_34 Iq22 (by omega) hvo) rfl (by decide) (Nat.le_of_ble_eq_true rfl) rfl dX7_swap_93 ?_
                  rintro _ Mq38 ⟨rq33, aq34, rfl, tq35, hq36, hq37, Iq39, frq40⟩
                  have frq41 : Fr W_X7_swap_E Mq Mq38 := frq23.trans frq40 rfl
                  have hmd := hq37
                  rw [ui_eq, t2, fm.1, fm.2, h11, ui_cell (k := 56) (a := 53) (by decide), ui_cell (k := 56) (a := 54) (by decide)] at hmd
                  have hend := MDS_end hmd hlf hls ⟨by omega, by omega⟩ ⟨by omega, by omega⟩ (bb0 hsc (by omega))
                  have m56 : Mq38.1 56 = (ui M_34 56 b4_34.toNat x2).1 56 := row_fr frq40 (by decide)
                  have m59 : Mq38.1 59 = M_34.1 59 := (row_fr frq40 (by decide)).trans (ui_cell (by decide))
                  have m14 : (Mq38.1 47 14).toInt = (M_34.1 47 14).toInt := congrArg Int32.toInt (frq40.at 47 14 rfl)
                  show G Γ Mq38 96 [(4, .int y4_34), (3, .int y3_34), (0, .ref (ad 47)), (1, .int x1), (2, .int x2)] [.int rq33]
                  refine g_if_eq X tq35 (tgt := 105) dX7_swap_96 (by decide) (fun cq42 => ?_) (fun cq42 => ?_)
                  · refine g_aload_n X 2 rfl dX7_swap_105 ?_
                    refine g_getr X f_X7_43 dX7_swap_106 ?_
                    refine g_aload_n X 2 rfl dX7_swap_109 ?_
                    refine g_geti X f_X7_193 dX7_swap_110 (x := Mq38.1 47 14) rfl ?_
                    have bq43 := ig_47_14 Iq39
                    refine g_iload X 0 rfl dX7_swap_113 ?_
                    refine g_iast X la_59 rfl dX7_swap_115 (by omega) ?_
                    have Iq44 : Iv TM (ui Mq38 59 (((Mq38.1 47 14).toInt).toNat) y4_34) := Iq39.otherA rfl
                    have frq45 : Fr W_X7_swap_E Mq (ui Mq38 59 (((Mq38.1 47 14).toInt).toNat) y4_34) := frq41.ui rfl
                    refine g_aload_n X 2 rfl dX7_swap_116 ?_
                    refine g_dup X dX7_swap_117 rfl ?_
                    refine g_geti X f_X7_193 dX7_swap_118 (x := Mq38.1 47 14) rfl ?_
                    have bq46 := ig_47_14 Iq39
                    refine g_iconst X 1 dX7_swap_121 (by decide) ?_
                    refine g_iadd X dX7_swap_122 (fun zq47 eq48 => ?_)
                    have tq49 : zq47.toInt = ((Mq38.1 47 14).toInt) + 1 := add_nw eq48 rfl (show (1 : Int32).toInt = 1 by decide) (by omega)
                    refine g_puti X p_X7_193 dX7_swap_123 ?_
                    have Iq50 : Iv TM (ui (ui Mq38 59 (((Mq38.1 47 14).toInt).toNat) y4_34) 47 14 zq47) := Iq44.put 0 40 tq49 (by omega) rfl
                    have frq51 : Fr W_X7_swap_E Mq (ui (ui Mq38 59 (((Mq38.1 47 14).toInt).toNat) y4_34) 47 14 zq47) := frq45.ui rfl
                    refine g_iinc X 0 (fun v => [(4, .int v), (3, .int y3_34), (0, .ref (ad 47)), (1, .int x1), (2, .int x2)]) dX7_swap_126 rfl (by decide) (fun _ => rfl) (fun zq52 eq53 => ?_)
                    have tq54 : zq52.toInt = b4_34 + 1 := add_nw eq53 e4_34 (show (Int32.ofInt 1).toInt = 1 by decide) (by omega)
                    refine g_goto X (tgt := 34) dX7_swap_129 (by decide) ?_
                    refine g_sub [0, 1, 2, 3, 4] rfl ?_
                    have hnew : (SW (fun h => FM Mq h a2.toNat) (fun h => SM Mq h a2.toNat) lf ls a1 a2 (Mq.1 56) (Mq.1 53) (Mq.1 54) ((ui (ui Mq38 59 (((Mq38.1 47 14).toInt).toNat) y4_34) 47 14 zq47).1 56) ((ui (ui Mq38 59 (((Mq38.1 47 14).toInt).toNat) y4_34) 47 14 zq47).1 53) ((ui (ui Mq38 59 (((Mq38.1 47 14).toInt).toNat) y4_34) 47 14 zq47).1 54) (b4_34 + 1).toNat) ∧ (BR (brk (swN (fun h => FM Mq h a2.toNat) (fun h => SM Mq h a2.toNat) a1 (Mq.1 56) (Mq.1 53) (Mq.1 54)) lf ls) ((ui (ui Mq38 59 (((Mq38.1 47 14).toInt).toNat) y4_34) 47 14 zq47).1 47 14).toInt ((ui (ui Mq38 59 (((Mq38.1 47 14).toInt).toNat) y4_34) 47 14 zq47).1 59) (b4_34 + 1).toNat) ∧ (b3_34 = (ctb (men (swN (fun h => FM Mq h a2.toNat) (fun h => SM Mq h a2.toNat) a1 (Mq.1 56) (Mq.1 53) (Mq.1 54)) lf ls) (b4_34 + 1).toNat : Nat)) := by first | (have w := SW_other i2 (show b4_34.toNat < 40 by omega) (by first | assumption | omega) (show (b4_34 + 1).toNat = b4_34.toNat + 1 by omega); exact ⟨w.1, BR_n i3 (brk_n w.2).1 (show (b4_34 + 1).toNat = b4_34.toNat + 1 by omega), by have z := ctb_n i4 i1.1 (brk_n w.2).2 (show (b4_34 + 1).toNat = b4_34.toNat + 1 by omega); omega⟩) | (have w := SW_scan (H2 := (ui M_34 56 b4_34.toNat x2).1 56) i2 (show b4_34.toNat < 40 by omega) (by first | assumption | omega) (bb1 hsc (by omega)) (fun j q => ui_nj q) (by rw [ui_eq]; exact t2) (show (b4_34 + 1).toNat = b4_34.toNat + 1 by omega); rw [ui_cell (k := 56) (a := 53) (by decide), ui_cell (k := 56) (a := 54) (by decide), ui_cell (k := 56) (a := 59) (by decide)]; exact ⟨w.1, BR_n i3 (brk_n w.2).1 (show (b4_34 + 1).toNat = b4_34.toNat + 1 by omega), by have z := ctb_n i4 i1.1 (brk_n w.2).2 (show (b4_34 + 1).toNat = b4_34.toNat + 1 by omega); omega⟩) | (obtain ⟨_, hbd, q7, q8⟩ := hend.resolve_right (fun z => by have z1 := z.1; omega); have w := SW_brk (H2 := (ui M_34 56 b4_34.toNat x2).1 56) i2 (show b4_34.toNat < 40 by omega) (by first | assumption | omega) (bb0 hsc (by omega)) (fun j q => ui_nj q) (by rw [ui_eq]; exact t2) hbd (show (b4_34 + 1).toNat = b4_34.toNat + 1 by omega); rw [ui_cell (k := 47) (a := 56) (by decide), ui_cell (k := 47) (a := 53) (by decide), ui_cell (k := 47) (a := 54) (by decide), ui_cell (k := 47) (a := 59) (by decide), ui_cell (k := 59) (a := 56) (by decide), ui_cell (k := 59) (a := 53) (by decide), ui_cell (k := 59) (a := 54) (by decide), m56, q7, q8]; exact ⟨w.1, BR_y i3 (brk_b w.2 hbd).1 (by rw [ui_eq]; omega) (fun j q => by rw [ui_nj (by rw [m14]; exact q)]; exact congrFun m59 j) (by rw [← m14, ui_eq]; omega) (show (b4_34 + 1).toNat = b4_34.toNat + 1 by omega), by have z := ctb_n i4 i1.1 (brk_b w.2 hbd).2 (show (b4_34 + 1).toNat = b4_34.toNat + 1 by omega); omega⟩) | (obtain ⟨_, hok, hj, hA, hB⟩ := hend.resolve_left (fun z => by have z1 := z.1; omega); have w := SW_men (H2 := (ui M_34 56 b4_34.toNat x2).1 56) (A2 := (ui (ui Mq38 59 (((Mq38.1 47 14).toInt).toNat) y4_34) 47 14 zq47).1 53) (B2 := (ui (ui Mq38 59 (((Mq38.1 47 14).toInt).toNat) y4_34) 47 14 zq47).1 54) i2 (show b4_34.toNat < 40 by omega) (by first | assumption | omega) (bb0 hsc (by omega)) (fun j q => ⟨ui_nj q, (hj j q).1, (hj j q).2⟩) (by rw [ui_eq]; exact t2) hok hA hB (show (b4_34 + 1).toNat = b4_34.toNat + 1 by omega); rw [m56, m59, m14]; exact ⟨w.1, BR_n i3 (brk_m w.2 hok).1 (show (b4_34 + 1).toNat = b4_34.toNat + 1 by omega), ctb_y i4 i1.1 (brk_m w.2 hok).2 (show (b4_34 + 1).toNat = b4_34.toNat + 1 by omega)⟩)
                    exact ih34 zq52 _ tq54 y3_34 _ e3_34 (ui (ui Mq38 59 (((Mq38.1 47 14).toInt).toNat) y4_34) 47 14 zq47) (by omega) hnew.1 hnew.2.1 hnew.2.2 Iq50 frq51 (by omega)
                  · refine g_iinc X 1 (fun v => [(3, .int v), (4, .int y4_34), (0, .ref (ad 47)), (1, .int x1), (2, .int x2)]) dX7_swap_99 rfl (by decide) (fun _ => rfl) (fun zq55 eq56 => ?_)
                    have tq57 : zq55.toInt = b3_34 + 1 := add_nw eq56 e3_34 (show (Int32.ofInt 1).toInt = 1 by decide) (by omega)
                    refine g_goto X (tgt := 126) dX7_swap_102 (by decide) ?_
                    refine g_iinc X 1 (fun v => [(4, .int v), (3, .int zq55), (0, .ref (ad 47)), (1, .int x1), (2, .int x2)]) dX7_swap_126 rfl (by decide) (fun _ => rfl) (fun zq58 eq59 => ?_)
                    have tq60 : zq58.toInt = b4_34 + 1 := add_nw eq59 e4_34 (show (Int32.ofInt 1).toInt = 1 by decide) (by omega)
                    refine g_goto X (tgt := 34) dX7_swap_129 (by decide) ?_
                    refine g_sub [0, 1, 2, 3, 4] rfl ?_
                    have hnew : (SW (fun h => FM Mq h a2.toNat) (fun h => SM Mq h a2.toNat) lf ls a1 a2 (Mq.1 56) (Mq.1 53) (Mq.1 54) (Mq38.1 56) (Mq38.1 53) (Mq38.1 54) (b4_34 + 1).toNat) ∧ (BR (brk (swN (fun h => FM Mq h a2.toNat) (fun h => SM Mq h a2.toNat) a1 (Mq.1 56) (Mq.1 53) (Mq.1 54)) lf ls) (Mq38.1 47 14).toInt (Mq38.1 59) (b4_34 + 1).toNat) ∧ ((b3_34 + 1) = (ctb (men (swN (fun h => FM Mq h a2.toNat) (fun h => SM Mq h a2.toNat) a1 (Mq.1 56) (Mq.1 53) (Mq.1 54)) lf ls) (b4_34 + 1).toNat : Nat)) := by first | (have w := SW_other i2 (show b4_34.toNat < 40 by omega) (by first | assumption | omega) (show (b4_34 + 1).toNat = b4_34.toNat + 1 by omega); exact ⟨w.1, BR_n i3 (brk_n w.2).1 (show (b4_34 + 1).toNat = b4_34.toNat + 1 by omega), by have z := ctb_n i4 i1.1 (brk_n w.2).2 (show (b4_34 + 1).toNat = b4_34.toNat + 1 by omega); omega⟩) | (have w := SW_scan (H2 := (ui M_34 56 b4_34.toNat x2).1 56) i2 (show b4_34.toNat < 40 by omega) (by first | assumption | omega) (bb1 hsc (by omega)) (fun j q => ui_nj q) (by rw [ui_eq]; exact t2) (show (b4_34 + 1).toNat = b4_34.toNat + 1 by omega); rw [ui_cell (k := 56) (a := 53) (by decide), ui_cell (k := 56) (a := 54) (by decide), ui_cell (k := 56) (a := 59) (by decide)]; exact ⟨w.1, BR_n i3 (brk_n w.2).1 (show (b4_34 + 1).toNat = b4_34.toNat + 1 by omega), by have z := ctb_n i4 i1.1 (brk_n w.2).2 (show (b4_34 + 1).toNat = b4_34.toNat + 1 by omega); omega⟩) | (obtain ⟨_, hbd, q7, q8⟩ := hend.resolve_right (fun z => by have z1 := z.1; omega); have w := SW_brk (H2 := (ui M_34 56 b4_34.toNat x2).1 56) i2 (show b4_34.toNat < 40 by omega) (by first | assumption | omega) (bb0 hsc (by omega)) (fun j q => ui_nj q) (by rw [ui_eq]; exact t2) hbd (show (b4_34 + 1).toNat = b4_34.toNat + 1 by omega); rw [ui_cell (k := 47) (a := 56) (by decide), ui_cell (k := 47) (a := 53) (by decide), ui_cell (k := 47) (a := 54) (by decide), ui_cell (k := 47) (a := 59) (by decide), ui_cell (k := 59) (a := 56) (by decide), ui_cell (k := 59) (a := 53) (by decide), ui_cell (k := 59) (a := 54) (by decide), m56, q7, q8]; exact ⟨w.1, BR_y i3 (brk_b w.2 hbd).1 (by rw [ui_eq]; omega) (fun j q => by rw [ui_nj (by rw [m14]; exact q)]; exact congrFun m59 j) (by rw [← m14, ui_eq]; omega) (show (b4_34 + 1).toNat = b4_34.toNat + 1 by omega), by have z := ctb_n i4 i1.1 (brk_b w.2 hbd).2 (show (b4_34 + 1).toNat = b4_34.toNat + 1 by omega); omega⟩) | (obtain ⟨_, hok, hj, hA, hB⟩ := hend.resolve_left (fun z => by have z1 := z.1; omega); have w := SW_men (H2 := (ui M_34 56 b4_34.toNat x2).1 56) (A2 := Mq38.1 53) (B2 := Mq38.1 54) i2 (show b4_34.toNat < 40 by omega) (by first | assumption | omega) (bb0 hsc (by omega)) (fun j q => ⟨ui_nj q, (hj j q).1, (hj j q).2⟩) (by rw [ui_eq]; exact t2) hok hA hB (show (b4_34 + 1).toNat = b4_34.toNat + 1 by omega); rw [m56, m59, m14]; exact ⟨w.1, BR_n i3 (brk_m w.2 hok).1 (show (b4_34 + 1).toNat = b4_34.toNat + 1 by omega), ctb_y i4 i1.1 (brk_m w.2 hok).2 (show (b4_34 + 1).toNat = b4_34.toNat + 1 by omega)⟩)
                    exact ih34 zq58 _ tq60 zq55 _ tq57 Mq38 (by omega) hnew.1 hnew.2.1 hnew.2.2 Iq39 frq41 (by omega)
                · have pq61 : (scb (loF ((ui M_34 56 b4_34.toNat (M_34.1 54 b4_34.toNat)).1 48 ((M_34.1 53 b4_34.toNat).toInt).toNat) ((ui M_34 56 b4_34.toNat (M_34.1 54 b4_34.toNat)).1 50 ((M_34.1 53 b4_34.toNat).toInt).toNat) ((ui M_34 56 b4_34.toNat (M_34.1 54 b4_34.toNat)).1 51 a2.toNat)) (hvF ((ui M_34 56 b4_34.toNat (M_34.1 54 b4_34.toNat)).1 49 ((M_34.1 53 b4_34.toNat).toInt).toNat) ((ui M_34 56 b4_34.toNat (M_34.1 54 b4_34.toNat)).1 50 ((M_34.1 53 b4_34.toNat).toInt).toNat) ((ui M_34 56 b4_34.toNat (M_34.1 54 b4_34.toNat)).1 52 a2.toNat) ((ui M_34 56 b4_34.toNat (M_34.1 54 b4_34.toNat)).1 51 a2.toNat)) (loF ((ui M_34 56 b4_34.toNat (M_34.1 54 b4_34.toNat)).1 48 ((M_34.1 54 b4_34.toNat).toInt).toNat) ((ui M_34 56 b4_34.toNat (M_34.1 54 b4_34.toNat)).1 50 ((M_34.1 54 b4_34.toNat).toInt).toNat) ((ui M_34 56 b4_34.toNat (M_34.1 54 b4_34.toNat)).1 51 a2.toNat)) (hvF ((ui M_34 56 b4_34.toNat (M_34.1 54 b4_34.toNat)).1 49 ((M_34.1 54 b4_34.toNat).toInt).toNat) ((ui M_34 56 b4_34.toNat (M_34.1 54 b4_34.toNat)).1 50 ((M_34.1 54 b4_34.toNat).toInt).toNat) ((ui M_34 56 b4_34.toNat (M_34.1 54 b4_34.toNat)).1 52 a2.toNat) ((ui M_34 56 b4_34.toNat (M_34.1 54 b4_34.toNat)).1 51 a2.toNat)) ((ui M_34 56 b4_34.toNat (M_34.1 54 b4_34.toNat)).1 58) = true) := by first | omega | (rcases hq30 with ⟨z1, z2⟩ | ⟨z1, z2⟩ <;> first | exact z2 | (exfalso; omega))
                  refine g_goto X (tgt := 126) dX7_swap_87 (by decide) ?_
                  refine g_iinc X 0 (fun v => [(4, .int v), (3, .int y3_34), (0, .ref (ad 47)), (1, .int x1), (2, .int x2)]) dX7_swap_126 rfl (by decide) (fun _ => rfl) (fun zq62 eq63 => ?_)
                  have tq64 : zq62.toInt = b4_34 + 1 := add_nw eq63 e4_34 (show (Int32.ofInt 1).toInt = 1 by decide) (by omega)
                  refine g_goto X (tgt := 34) dX7_swap_129 (by decide) ?_
                  refine g_sub [0, 1, 2, 3, 4] rfl ?_
                  have hnew : (SW (fun h => FM Mq h a2.toNat) (fun h => SM Mq h a2.toNat) lf ls a1 a2 (Mq.1 56) (Mq.1 53) (Mq.1 54) ((ui M_34 56 b4_34.toNat x2).1 56) ((ui M_34 56 b4_34.toNat x2).1 53) ((ui M_34 56 b4_34.toNat x2).1 54) (b4_34 + 1).toNat) ∧ (BR (brk (swN (fun h => FM Mq h a2.toNat) (fun h => SM Mq h a2.toNat) a1 (Mq.1 56) (Mq.1 53) (Mq.1 54)) lf ls) ((ui M_34 56 b4_34.toNat x2).1 47 14).toInt ((ui M_34 56 b4_34.toNat x2).1 59) (b4_34 + 1).toNat) ∧ (b3_34 = (ctb (men (swN (fun h => FM Mq h a2.toNat) (fun h => SM Mq h a2.toNat) a1 (Mq.1 56) (Mq.1 53) (Mq.1 54)) lf ls) (b4_34 + 1).toNat : Nat)) := by first | (have w := SW_other i2 (show b4_34.toNat < 40 by omega) (by first | assumption | omega) (show (b4_34 + 1).toNat = b4_34.toNat + 1 by omega); exact ⟨w.1, BR_n i3 (brk_n w.2).1 (show (b4_34 + 1).toNat = b4_34.toNat + 1 by omega), by have z := ctb_n i4 i1.1 (brk_n w.2).2 (show (b4_34 + 1).toNat = b4_34.toNat + 1 by omega); omega⟩) | (have w := SW_scan (H2 := (ui M_34 56 b4_34.toNat x2).1 56) i2 (show b4_34.toNat < 40 by omega) (by first | assumption | omega) (bb1 hsc (by omega)) (fun j q => ui_nj q) (by rw [ui_eq]; exact t2) (show (b4_34 + 1).toNat = b4_34.toNat + 1 by omega); rw [ui_cell (k := 56) (a := 53) (by decide), ui_cell (k := 56) (a := 54) (by decide), ui_cell (k := 56) (a := 59) (by decide)]; exact ⟨w.1, BR_n i3 (brk_n w.2).1 (show (b4_34 + 1).toNat = b4_34.toNat + 1 by omega), by have z := ctb_n i4 i1.1 (brk_n w.2).2 (show (b4_34 + 1).toNat = b4_34.toNat + 1 by omega); omega⟩) | (obtain ⟨_, hbd, q7, q8⟩ := hend.resolve_right (fun z => by have z1 := z.1; omega); have w := SW_brk (H2 := (ui M_34 56 b4_34.toNat x2).1 56) i2 (show b4_34.toNat < 40 by omega) (by first | assumption | omega) (bb0 hsc (by omega)) (fun j q => ui_nj q) (by rw [ui_eq]; exact t2) hbd (show (b4_34 + 1).toNat = b4_34.toNat + 1 by omega); rw [ui_cell (k := 47) (a := 56) (by decide), ui_cell (k := 47) (a := 53) (by decide), ui_cell (k := 47) (a := 54) (by decide), ui_cell (k := 47) (a := 59) (by decide), ui_cell (k := 59) (a := 56) (by decide), ui_cell (k := 59) (a := 53) (by decide), ui_cell (k := 59) (a := 54) (by decide), m56, q7, q8]; exact ⟨w.1, BR_y i3 (brk_b w.2 hbd).1 (by rw [ui_eq]; omega) (fun j q => by rw [ui_nj (by rw [m14]; exact q)]; exact congrFun m59 j) (by rw [← m14, ui_eq]; omega) (show (b4_34 + 1).toNat = b4_34.toNat + 1 by omega), by have z := ctb_n i4 i1.1 (brk_b w.2 hbd).2 (show (b4_34 + 1).toNat = b4_34.toNat + 1 by omega); omega⟩) | (obtain ⟨_, hok, hj, hA, hB⟩ := hend.resolve_left (fun z => by have z1 := z.1; omega); have w := SW_men (H2 := (ui M_34 56 b4_34.toNat x2).1 56) (A2 := (ui M_34 56 b4_34.toNat x2).1 53) (B2 := (ui M_34 56 b4_34.toNat x2).1 54) i2 (show b4_34.toNat < 40 by omega) (by first | assumption | omega) (bb0 hsc (by omega)) (fun j q => ⟨ui_nj q, (hj j q).1, (hj j q).2⟩) (by rw [ui_eq]; exact t2) hok hA hB (show (b4_34 + 1).toNat = b4_34.toNat + 1 by omega); rw [m56, m59, m14]; exact ⟨w.1, BR_n i3 (brk_m w.2 hok).1 (show (b4_34 + 1).toNat = b4_34.toNat + 1 by omega), ctb_y i4 i1.1 (brk_m w.2 hok).2 (show (b4_34 + 1).toNat = b4_34.toNat + 1 by omega)⟩)
                  exact ih34 zq62 _ tq64 y3_34 _ e3_34 (ui M_34 56 b4_34.toNat x2) (by omega) hnew.1 hnew.2.1 hnew.2.2 Iq22 frq23 (by omega)
              · refine g_goto X (tgt := 126) dX7_swap_54 (by decide) ?_
                refine g_iinc X 0 (fun v => [(4, .int v), (3, .int y3_34), (0, .ref (ad 47)), (1, .int x1), (2, .int x2)]) dX7_swap_126 rfl (by decide) (fun _ => rfl) (fun zq65 eq66 => ?_)
                have tq67 : zq65.toInt = b4_34 + 1 := add_nw eq66 e4_34 (show (Int32.ofInt 1).toInt = 1 by decide) (by omega)
                refine g_goto X (tgt := 34) dX7_swap_129 (by decide) ?_
                refine g_sub [0, 1, 2, 3, 4] rfl ?_
                have hnew : (SW (fun h => FM Mq h a2.toNat) (fun h => SM Mq h a2.toNat) lf ls a1 a2 (Mq.1 56) (Mq.1 53) (Mq.1 54) (M_34.1 56) (M_34.1 53) (M_34.1 54) (b4_34 + 1).toNat) ∧ (BR (brk (swN (fun h => FM Mq h a2.toNat) (fun h => SM Mq h a2.toNat) a1 (Mq.1 56) (Mq.1 53) (Mq.1 54)) lf ls) (M_34.1 47 14).toInt (M_34.1 59) (b4_34 + 1).toNat) ∧ (b3_34 = (ctb (men (swN (fun h => FM Mq h a2.toNat) (fun h => SM Mq h a2.toNat) a1 (Mq.1 56) (Mq.1 53) (Mq.1 54)) lf ls) (b4_34 + 1).toNat : Nat)) := by first | (have w := SW_other i2 (show b4_34.toNat < 40 by omega) (by first | assumption | omega) (show (b4_34 + 1).toNat = b4_34.toNat + 1 by omega); exact ⟨w.1, BR_n i3 (brk_n w.2).1 (show (b4_34 + 1).toNat = b4_34.toNat + 1 by omega), by have z := ctb_n i4 i1.1 (brk_n w.2).2 (show (b4_34 + 1).toNat = b4_34.toNat + 1 by omega); omega⟩) | (have w := SW_scan (H2 := (ui M_34 56 b4_34.toNat x2).1 56) i2 (show b4_34.toNat < 40 by omega) (by first | assumption | omega) (bb1 hsc (by omega)) (fun j q => ui_nj q) (by rw [ui_eq]; exact t2) (show (b4_34 + 1).toNat = b4_34.toNat + 1 by omega); rw [ui_cell (k := 56) (a := 53) (by decide), ui_cell (k := 56) (a := 54) (by decide), ui_cell (k := 56) (a := 59) (by decide)]; exact ⟨w.1, BR_n i3 (brk_n w.2).1 (show (b4_34 + 1).toNat = b4_34.toNat + 1 by omega), by have z := ctb_n i4 i1.1 (brk_n w.2).2 (show (b4_34 + 1).toNat = b4_34.toNat + 1 by omega); omega⟩) | (obtain ⟨_, hbd, q7, q8⟩ := hend.resolve_right (fun z => by have z1 := z.1; omega); have w := SW_brk (H2 := (ui M_34 56 b4_34.toNat x2).1 56) i2 (show b4_34.toNat < 40 by omega) (by first | assumption | omega) (bb0 hsc (by omega)) (fun j q => ui_nj q) (by rw [ui_eq]; exact t2) hbd (show (b4_34 + 1).toNat = b4_34.toNat + 1 by omega); rw [ui_cell (k := 47) (a := 56) (by decide), ui_cell (k := 47) (a := 53) (by decide), ui_cell (k := 47) (a := 54) (by decide), ui_cell (k := 47) (a := 59) (by decide), ui_cell (k := 59) (a := 56) (by decide), ui_cell (k := 59) (a := 53) (by decide), ui_cell (k := 59) (a := 54) (by decide), m56, q7, q8]; exact ⟨w.1, BR_y i3 (brk_b w.2 hbd).1 (by rw [ui_eq]; omega) (fun j q => by rw [ui_nj (by rw [m14]; exact q)]; exact congrFun m59 j) (by rw [← m14, ui_eq]; omega) (show (b4_34 + 1).toNat = b4_34.toNat + 1 by omega), by have z := ctb_n i4 i1.1 (brk_b w.2 hbd).2 (show (b4_34 + 1).toNat = b4_34.toNat + 1 by omega); omega⟩) | (obtain ⟨_, hok, hj, hA, hB⟩ := hend.resolve_left (fun z => by have z1 := z.1; omega); have w := SW_men (H2 := (ui M_34 56 b4_34.toNat x2).1 56) (A2 := M_34.1 53) (B2 := M_34.1 54) i2 (show b4_34.toNat < 40 by omega) (by first | assumption | omega) (bb0 hsc (by omega)) (fun j q => ⟨ui_nj q, (hj j q).1, (hj j q).2⟩) (by rw [ui_eq]; exact t2) hok hA hB (show (b4_34 + 1).toNat = b4_34.toNat + 1 by omega); rw [m56, m59, m14]; exact ⟨w.1, BR_n i3 (brk_m w.2 hok).1 (show (b4_34 + 1).toNat = b4_34.toNat + 1 by omega), ctb_y i4 i1.1 (brk_m w.2 hok).2 (show (b4_34 + 1).toNat = b4_34.toNat + 1 by omega)⟩)
                exact ih34 zq65 _ tq67 y3_34 _ e3_34 M_34 (by omega) hnew.1 hnew.2.1 hnew.2.2 I_34 fr_34 (by omega)
        refine g_sub [0, 1, 2, 3, 4] rfl ?_
        exact lp34 _ 0 _ (show (0 : Int32).toInt = 0 by decide) 0 _ (show (0 : Int32).toInt = 0 by decide) (ui Mq 47 14 0) (by omega) (by rw [ui_cell (k := 47) (a := 56) (by decide), ui_cell (k := 47) (a := 53) (by decide), ui_cell (k := 47) (a := 54) (by decide)]; exact SW_0) (by rw [ui_eq, show ((0 : Int32)).toInt = 0 by decide]; exact BR_0) rfl Iq16 frq17 (Nat.lt_succ_self _)
      · refine g_bipush X (-2) dX7_swap_21 (by decide) ?_
        exact g_iret X dX7_swap_23 ⟨_, _, rfl, (show ((-2) : Int32).toInt = (-2) by decide), (by first | exact Or.inl ⟨by omega, rfl⟩ | exact Or.inr (Or.inl ⟨by omega, by omega, rfl⟩) | exact Or.inr (Or.inr ⟨by omega, by omega, trivial⟩)), (⟨fun h => rfl, fun h => absurd (by omega) h⟩), Iq0, frq0⟩
    · have pq68 : ¬ (0 ≤ a2 ∧ a2 ≤ 9) := by first | omega | (rcases hq11 with ⟨z1, z2⟩ | ⟨z1, z2⟩ <;> first | exact z2 | (exfalso; omega))
      refine g_iconst X (-1) dX7_swap_14 (by decide) ?_
      exact g_iret X dX7_swap_15 ⟨_, _, rfl, (show ((-1) : Int32).toInt = (-1) by decide), (by first | exact Or.inl ⟨by omega, rfl⟩ | exact Or.inr (Or.inl ⟨by omega, by omega, rfl⟩) | exact Or.inr (Or.inr ⟨by omega, by omega, trivial⟩)), (⟨fun h => rfl, fun h => absurd (by omega) h⟩), Iq0, frq0⟩
set_option maxHeartbeats 4000000 in
set_option maxRecDepth 4000 in
theorem c_X7_broken_E (ad : Nat → Nat) (Mq : Mem) (x1 : Int32) {a1 : Int} (t1 : x1.toInt = a1) (Iq0 : Iv TM Mq) : Ctr ad yX7_broken cX7_broken 2 (some .int) 1 [.ref (ad 47), .int x1] Mq (fun v M' => ∃ (r : Int32) (a : Int), v = some (.int r) ∧ r.toInt = a ∧ ((a1 = -1 ∧ a = (Mq.1 47 14).toInt) ∨ (a1 ≠ -1 ∧ (0 ≤ a1 ∧ a1 < (Mq.1 47 14).toInt ∧ a1 < 40) ∧ a = (Mq.1 59 a1.toNat).toInt) ∨ (a1 ≠ -1 ∧ ¬ (0 ≤ a1 ∧ a1 < (Mq.1 47 14).toInt ∧ a1 < 40) ∧ a = -1)) ∧ Mq = M') := by
  refine ctr_of (L := [(0, .ref (ad 47)), (1, .int x1)]) (by decide) (Nat.le_of_ble_eq_true rfl) rfl ?_
  intro Γ X
  have X : gX Γ cX7_broken RX7 2 (some .int) 1 ad _ := X
  have g11 := ig_47_11 Iq0
  have g12 := ig_47_12 Iq0
  have g14 := ig_47_14 Iq0
  have g32 := ig_47_32 Iq0
  have g43 := ig_47_43 Iq0
  have g44 := ig_47_44 Iq0
  have g52 := ig_47_52 Iq0
  have g53 := ig_47_53 Iq0
  have g59 := ig_47_59 Iq0
  refine g_iload_n X 1 rfl dX7_broken_0 ?_
  refine g_iconst X (-1) dX7_broken_1 (by decide) ?_
  refine g_icmp_ne X t1 (show ((-1) : Int32).toInt = (-1) by decide) (tgt := 12) dX7_broken_2 (by decide) (fun cq1 => ?_) (fun cq1 => ?_)
  · refine g_iload_n X 1 rfl dX7_broken_12 ?_
    refine g_i2l X dX7_broken_13 (fun zq2 eq3 => ?_)
    have tq4 : zq2.toInt = a1 := i2l_nw eq3 t1
    refine g_lconst X 0 dX7_broken_14 (by decide) ?_
    refine g_aload_n X 0 rfl dX7_broken_15 ?_
    refine g_geti X f_X7_193 dX7_broken_16 (x := Mq.1 47 14) rfl ?_
    have bq5 := ig_47_14 Iq0
    refine g_iconst X 1 dX7_broken_19 (by decide) ?_
    refine g_isub X dX7_broken_20 (fun zq6 eq7 => ?_)
    have tq8 : zq6.toInt = ((Mq.1 47 14).toInt) - 1 := sub_nw eq7 rfl (show (1 : Int32).toInt = 1 by decide) (by omega)
    refine g_i2l X dX7_broken_21 (fun zq9 eq10 => ?_)
    have tq11 : zq9.toInt = ((Mq.1 47 14).toInt) - 1 := i2l_nw eq10 tq8
    refine g_callS X m_X7_152 (c_X7_isIn ad Mq zq2 tq4 0 (show (0 : Int64).toInt = 0 by decide) zq9 tq11) rfl (by decide) (Nat.le_of_ble_eq_true rfl) rfl dX7_broken_22 ?_
    rintro _ _ ⟨rq12, aq13, rfl, tq14, hq15, rfl⟩
    show G Γ Mq 25 [(0, .ref (ad 47)), (1, .int x1)] [.int rq12]
    refine g_if_eq X tq14 (tgt := 37) dX7_broken_25 (by decide) (fun cq16 => ?_) (fun cq16 => ?_)
    · have pq17 : ¬ (0 ≤ a1 ∧ a1 ≤ (((Mq.1 47 14).toInt) - 1)) := by first | omega | (rcases hq15 with ⟨z1, z2⟩ | ⟨z1, z2⟩ <;> first | exact z2 | (exfalso; omega))
      refine g_iconst X (-1) dX7_broken_37 (by decide) ?_
      exact g_iret X dX7_broken_38 ⟨_, _, rfl, (show ((-1) : Int32).toInt = (-1) by decide), (by omega), rfl⟩
    · have pq18 : (0 ≤ a1 ∧ a1 ≤ (((Mq.1 47 14).toInt) - 1)) := by first | omega | (rcases hq15 with ⟨z1, z2⟩ | ⟨z1, z2⟩ <;> first | exact z2 | (exfalso; omega))
      refine g_aload_n X 0 rfl dX7_broken_28 ?_
      refine g_getr X f_X7_43 dX7_broken_29 ?_
      refine g_iload_n X 1 rfl dX7_broken_32 ?_
      refine g_iald X la_59 t1 dX7_broken_33 (by omega) (x := Mq.1 59 a1.toNat) rfl ?_
      refine g_goto X (tgt := 38) dX7_broken_34 (by decide) ?_
      exact g_iret X dX7_broken_38 ⟨_, _, rfl, rfl, (by omega), rfl⟩
  · refine g_aload_n X 0 rfl dX7_broken_5 ?_
    refine g_geti X f_X7_193 dX7_broken_6 (x := Mq.1 47 14) rfl ?_
    have bq19 := ig_47_14 Iq0
    refine g_goto X (tgt := 38) dX7_broken_9 (by decide) ?_
    exact g_iret X dX7_broken_38 ⟨_, _, rfl, rfl, (by omega), rfl⟩
set_option maxHeartbeats 4000000 in
set_option maxRecDepth 4000 in
theorem c_X7_told_E (ad : Nat → Nat) (Mq : Mem) (x1 : Int32) {a1 : Int} (t1 : x1.toInt = a1) (x2 : Int32) {a2 : Int} (t2 : x2.toInt = a2) (Iq0 : Iv TM Mq) : Ctr ad yX7_told cX7_told 3 (some .int) 3 [.ref (ad 47), .int x1, .int x2] Mq (fun v M' => ∃ (r : Int32) (a : Int), v = some (.int r) ∧ r.toInt = a ∧ (((¬ (0 ≤ a1 ∧ a1 < (Mq.1 47 12).toInt)) → (a = -1)) ∧ ((0 ≤ a1 ∧ a1 < (Mq.1 47 12).toInt) → a2 = 0 → (r = Mq.1 53 a1.toNat)) ∧ ((0 ≤ a1 ∧ a1 < (Mq.1 47 12).toInt) → a2 = 1 → (r = Mq.1 54 a1.toNat)) ∧ ((0 ≤ a1 ∧ a1 < (Mq.1 47 12).toInt) → a2 = 2 → (r = Mq.1 55 a1.toNat)) ∧ ((0 ≤ a1 ∧ a1 < (Mq.1 47 12).toInt) → a2 = 3 → (r = Mq.1 56 a1.toNat)) ∧ ((0 ≤ a1 ∧ a1 < (Mq.1 47 12).toInt) → a2 = 4 → (r = Mq.1 57 a1.toNat)) ∧ ((0 ≤ a1 ∧ a1 < (Mq.1 47 12).toInt) → a2 = 5 → ((a = 1 ∧ (scM Mq ((Mq.1 53 a1.toNat).toInt).toNat ((Mq.1 54 a1.toNat).toInt).toNat ((Mq.1 56 a1.toNat).toInt).toNat = true)) ∨ (a = 0 ∧ ¬ (scM Mq ((Mq.1 53 a1.toNat).toInt).toNat ((Mq.1 54 a1.toNat).toInt).toNat ((Mq.1 56 a1.toNat).toInt).toNat = true)))) ∧ ((0 ≤ a1 ∧ a1 < (Mq.1 47 12).toInt) → a2 = 6 → (r = (loF (Mq.1 48 ((Mq.1 53 a1.toNat).toInt).toNat) (Mq.1 50 ((Mq.1 53 a1.toNat).toInt).toNat) (Mq.1 51 ((Mq.1 56 a1.toNat).toInt).toNat)) + (loF (Mq.1 48 ((Mq.1 54 a1.toNat).toInt).toNat) (Mq.1 50 ((Mq.1 54 a1.toNat).toInt).toNat) (Mq.1 51 ((Mq.1 56 a1.toNat).toInt).toNat)))) ∧ ((0 ≤ a1 ∧ a1 < (Mq.1 47 12).toInt) → a2 = 7 → (r = (hvF (Mq.1 49 ((Mq.1 53 a1.toNat).toInt).toNat) (Mq.1 50 ((Mq.1 53 a1.toNat).toInt).toNat) (Mq.1 52 ((Mq.1 56 a1.toNat).toInt).toNat) (Mq.1 51 ((Mq.1 56 a1.toNat).toInt).toNat)) ||| ((hvF (Mq.1 49 ((Mq.1 54 a1.toNat).toInt).toNat) (Mq.1 50 ((Mq.1 54 a1.toNat).toInt).toNat) (Mq.1 52 ((Mq.1 56 a1.toNat).toInt).toNat) (Mq.1 51 ((Mq.1 56 a1.toNat).toInt).toNat)) <<< ((loF (Mq.1 48 ((Mq.1 53 a1.toNat).toInt).toNat) (Mq.1 50 ((Mq.1 53 a1.toNat).toInt).toNat) (Mq.1 51 ((Mq.1 56 a1.toNat).toInt).toNat)) &&& 31)))) ∧ ((0 ≤ a1 ∧ a1 < (Mq.1 47 12).toInt) → ¬ (0 ≤ a2 ∧ a2 ≤ 7) → a = -1)) ∧ Mq = M') := by
  refine ctr_of (L := [(0, .ref (ad 47)), (1, .int x1), (2, .int x2)]) (by decide) (Nat.le_of_ble_eq_true rfl) rfl ?_
  intro Γ X
  have X : gX Γ cX7_told RX7 3 (some .int) 3 ad _ := X
  have g11 := ig_47_11 Iq0
  have g12 := ig_47_12 Iq0
  have g14 := ig_47_14 Iq0
  have g32 := ig_47_32 Iq0
  have g43 := ig_47_43 Iq0
  have g44 := ig_47_44 Iq0
  have g52 := ig_47_52 Iq0
  have g53 := ig_47_53 Iq0
  have g59 := ig_47_59 Iq0
  refine g_aload_n X 0 rfl dX7_told_0 ?_
  refine g_iload_n X 1 rfl dX7_told_1 ?_
  refine g_callV X m_X7_186 (c_X7_isLine ad Mq x1 t1) rfl (by decide) (Nat.le_of_ble_eq_true rfl) rfl dX7_told_2 ?_
  rintro _ _ ⟨rq1, aq2, rfl, tq3, hq4, rfl⟩
  show G Γ Mq 5 [(0, .ref (ad 47)), (1, .int x1), (2, .int x2)] [.int rq1]
  refine g_if_ne X tq3 (tgt := 10) dX7_told_5 (by decide) (fun cq5 => ?_) (fun cq5 => ?_)
  · have pq6 : (0 ≤ a1 ∧ a1 < ((Mq.1 47 12)).toInt) := by first | omega | (rcases hq4 with ⟨z1, z2⟩ | ⟨z1, z2⟩ <;> first | exact z2 | (exfalso; omega))
    refine g_iload_n X 2 rfl dX7_told_10 ?_
    rcases (show (a2 < 0 ∨ 7 < a2) ∨ a2 = 0 ∨ a2 = 1 ∨ a2 = 2 ∨ a2 = 3 ∨ a2 = 4 ∨ a2 = 5 ∨ a2 = 6 ∨ a2 = 7 by omega) with cq7 | cq7 | cq7 | cq7 | cq7 | cq7 | cq7 | cq7 | cq7
    · refine g_tabOut X dX7_told_11 t2 cq7 (tgt := 179) (by decide) ?_
      refine g_iconst X (-1) dX7_told_179 (by decide) ?_
      exact g_iret X dX7_told_180 ⟨_, _, rfl, (show ((-1) : Int32).toInt = (-1) by decide), ⟨fun h => by first | rfl | exact absurd h (by omega), fun h h0 => by first | rfl | exact hres | (exfalso; omega) | omega, fun h h1 => by first | rfl | exact hres | (exfalso; omega) | omega, fun h h2 => by first | rfl | exact hres | (exfalso; omega) | omega, fun h h3 => by first | rfl | exact hres | (exfalso; omega) | omega, fun h h4 => by first | rfl | exact hres | (exfalso; omega) | omega, fun h h5 => by first | rfl | exact hres | (exfalso; omega) | omega, fun h h6 => by first | rfl | exact hres | (exfalso; omega) | omega, fun h h7 => by first | rfl | exact hres | (exfalso; omega) | omega, fun h h8 => by first | rfl | exact hres | (exfalso; omega) | omega⟩, rfl⟩
    · refine g_tabIn X dX7_told_11 (a := 0) (t2.trans cq7) (by decide) (by decide) rfl (tgt := 56) (by decide) ?_
      refine g_aload_n X 0 rfl dX7_told_56 ?_
      refine g_getr X f_X7_25 dX7_told_57 ?_
      refine g_iload_n X 1 rfl dX7_told_60 ?_
      refine g_iald X la_53 t1 dX7_told_61 (by omega) (x := Mq.1 53 a1.toNat) rfl ?_
      have bq8 := ig_53 Iq0 a1.toNat (by omega)
      exact g_iret X dX7_told_62 ⟨_, _, rfl, rfl, ⟨fun h => by first | rfl | exact absurd h (by omega), fun h h0 => by first | rfl | exact hres | (exfalso; omega) | omega, fun h h1 => by first | rfl | exact hres | (exfalso; omega) | omega, fun h h2 => by first | rfl | exact hres | (exfalso; omega) | omega, fun h h3 => by first | rfl | exact hres | (exfalso; omega) | omega, fun h h4 => by first | rfl | exact hres | (exfalso; omega) | omega, fun h h5 => by first | rfl | exact hres | (exfalso; omega) | omega, fun h h6 => by first | rfl | exact hres | (exfalso; omega) | omega, fun h h7 => by first | rfl | exact hres | (exfalso; omega) | omega, fun h h8 => by first | rfl | exact hres | (exfalso; omega) | omega⟩, rfl⟩
    · refine g_tabIn X dX7_told_11 (a := 1) (t2.trans cq7) (by decide) (by decide) rfl (tgt := 63) (by decide) ?_
      refine g_aload_n X 0 rfl dX7_told_63 ?_
      refine g_getr X f_X7_28 dX7_told_64 ?_
      refine g_iload_n X 1 rfl dX7_told_67 ?_
      refine g_iald X la_54 t1 dX7_told_68 (by omega) (x := Mq.1 54 a1.toNat) rfl ?_
      have bq9 := ig_54 Iq0 a1.toNat (by omega)
      exact g_iret X dX7_told_69 ⟨_, _, rfl, rfl, ⟨fun h => by first | rfl | exact absurd h (by omega), fun h h0 => by first | rfl | exact hres | (exfalso; omega) | omega, fun h h1 => by first | rfl | exact hres | (exfalso; omega) | omega, fun h h2 => by first | rfl | exact hres | (exfalso; omega) | omega, fun h h3 => by first | rfl | exact hres | (exfalso; omega) | omega, fun h h4 => by first | rfl | exact hres | (exfalso; omega) | omega, fun h h5 => by first | rfl | exact hres | (exfalso; omega) | omega, fun h h6 => by first | rfl | exact hres | (exfalso; omega) | omega, fun h h7 => by first | rfl | exact hres | (exfalso; omega) | omega, fun h h8 => by first | rfl | exact hres | (exfalso; omega) | omega⟩, rfl⟩
    · refine g_tabIn X dX7_told_11 (a := 2) (t2.trans cq7) (by decide) (by decide) rfl (tgt := 70) (by decide) ?_
      refine g_aload_n X 0 rfl dX7_told_70 ?_
      refine g_getr X f_X7_31 dX7_told_71 ?_
      refine g_iload_n X 1 rfl dX7_told_74 ?_
      refine g_iald X la_55 t1 dX7_told_75 (by omega) (x := Mq.1 55 a1.toNat) rfl ?_
      exact g_iret X dX7_told_76 ⟨_, _, rfl, rfl, ⟨fun h => by first | rfl | exact absurd h (by omega), fun h h0 => by first | rfl | exact hres | (exfalso; omega) | omega, fun h h1 => by first | rfl | exact hres | (exfalso; omega) | omega, fun h h2 => by first | rfl | exact hres | (exfalso; omega) | omega, fun h h3 => by first | rfl | exact hres | (exfalso; omega) | omega, fun h h4 => by first | rfl | exact hres | (exfalso; omega) | omega, fun h h5 => by first | rfl | exact hres | (exfalso; omega) | omega, fun h h6 => by first | rfl | exact hres | (exfalso; omega) | omega, fun h h7 => by first | rfl | exact hres | (exfalso; omega) | omega, fun h h8 => by first | rfl | exact hres | (exfalso; omega) | omega⟩, rfl⟩
    · refine g_tabIn X dX7_told_11 (a := 3) (t2.trans cq7) (by decide) (by decide) rfl (tgt := 77) (by decide) ?_
      refine g_aload_n X 0 rfl dX7_told_77 ?_
      refine g_getr X f_X7_34 dX7_told_78 ?_
      refine g_iload_n X 1 rfl dX7_told_81 ?_
      refine g_iald X la_56 t1 dX7_told_82 (by omega) (x := Mq.1 56 a1.toNat) rfl ?_
      have bq10 := ig_56 Iq0 a1.toNat (by omega)
      exact g_iret X dX7_told_83 ⟨_, _, rfl, rfl, ⟨fun h => by first | rfl | exact absurd h (by omega), fun h h0 => by first | rfl | exact hres | (exfalso; omega) | omega, fun h h1 => by first | rfl | exact hres | (exfalso; omega) | omega, fun h h2 => by first | rfl | exact hres | (exfalso; omega) | omega, fun h h3 => by first | rfl | exact hres | (exfalso; omega) | omega, fun h h4 => by first | rfl | exact hres | (exfalso; omega) | omega, fun h h5 => by first | rfl | exact hres | (exfalso; omega) | omega, fun h h6 => by first | rfl | exact hres | (exfalso; omega) | omega, fun h h7 => by first | rfl | exact hres | (exfalso; omega) | omega, fun h h8 => by first | rfl | exact hres | (exfalso; omega) | omega⟩, rfl⟩
    · refine g_tabIn X dX7_told_11 (a := 4) (t2.trans cq7) (by decide) (by decide) rfl (tgt := 84) (by decide) ?_
      refine g_aload_n X 0 rfl dX7_told_84 ?_
      refine g_getr X f_X7_37 dX7_told_85 ?_
      refine g_iload_n X 1 rfl dX7_told_88 ?_
      refine g_iald X la_57 t1 dX7_told_89 (by omega) (x := Mq.1 57 a1.toNat) rfl ?_
      exact g_iret X dX7_told_90 ⟨_, _, rfl, rfl, ⟨fun h => by first | rfl | exact absurd h (by omega), fun h h0 => by first | rfl | exact hres | (exfalso; omega) | omega, fun h h1 => by first | rfl | exact hres | (exfalso; omega) | omega, fun h h2 => by first | rfl | exact hres | (exfalso; omega) | omega, fun h h3 => by first | rfl | exact hres | (exfalso; omega) | omega, fun h h4 => by first | rfl | exact hres | (exfalso; omega) | omega, fun h h5 => by first | rfl | exact hres | (exfalso; omega) | omega, fun h h6 => by first | rfl | exact hres | (exfalso; omega) | omega, fun h h7 => by first | rfl | exact hres | (exfalso; omega) | omega, fun h h8 => by first | rfl | exact hres | (exfalso; omega) | omega⟩, rfl⟩
    · refine g_tabIn X dX7_told_11 (a := 5) (t2.trans cq7) (by decide) (by decide) rfl (tgt := 91) (by decide) ?_
      refine g_aload_n X 0 rfl dX7_told_91 ?_
      refine g_aload_n X 0 rfl dX7_told_92 ?_
      refine g_getr X f_X7_25 dX7_told_93 ?_
      refine g_iload_n X 1 rfl dX7_told_96 ?_
      refine g_iald X la_53 t1 dX7_told_97 (by omega) (x := Mq.1 53 a1.toNat) rfl ?_
      have bq11 := ig_53 Iq0 a1.toNat (by omega)
      refine g_aload_n X 0 rfl dX7_told_98 ?_
      refine g_getr X f_X7_28 dX7_told_99 ?_
      refine g_iload_n X 1 rfl dX7_told_102 ?_
      refine g_iald X la_54 t1 dX7_told_103 (by omega) (x := Mq.1 54 a1.toNat) rfl ?_
      have bq12 := ig_54 Iq0 a1.toNat (by omega)
      refine g_aload_n X 0 rfl dX7_told_104 ?_
      refine g_getr X f_X7_34 dX7_told_105 ?_
      refine g_iload_n X 1 rfl dX7_told_108 ?_
      refine g_iald X la_56 t1 dX7_told_109 (by omega) (x := Mq.1 56 a1.toNat) rfl ?_
      have bq13 := ig_56 Iq0 a1.toNat (by omega)
      refine g_callV X m_X7_189 (c_X7_scans_E ad Mq (Mq.1 53 a1.toNat) rfl (Mq.1 54 a1.toNat) rfl (Mq.1 56 a1.toNat) rfl (by omega) (by omega) (by omega)) rfl (by decide) (Nat.le_of_ble_eq_true rfl) rfl dX7_told_110 ?_
      rintro _ _ ⟨rq14, aq15, rfl, tq16, hq17, rfl⟩
      have hrs : (aq15 = 1 ∧ (scM Mq ((Mq.1 53 a1.toNat).toInt).toNat ((Mq.1 54 a1.toNat).toInt).toNat ((Mq.1 56 a1.toNat).toInt).toNat = true)) ∨ (aq15 = 0 ∧ ¬ (scM Mq ((Mq.1 53 a1.toNat).toInt).toNat ((Mq.1 54 a1.toNat).toInt).toNat ((Mq.1 56 a1.toNat).toInt).toNat = true)) := hq17
      show G Γ Mq 113 [(0, .ref (ad 47)), (1, .int x1), (2, .int x2)] [.int rq14]
      refine g_if_eq X tq16 (tgt := 120) dX7_told_113 (by decide) (fun cq18 => ?_) (fun cq18 => ?_)
      · have pq19 : ¬ (scb (loF (Mq.1 48 ((Mq.1 53 a1.toNat).toInt).toNat) (Mq.1 50 ((Mq.1 53 a1.toNat).toInt).toNat) (Mq.1 51 ((Mq.1 56 a1.toNat).toInt).toNat)) (hvF (Mq.1 49 ((Mq.1 53 a1.toNat).toInt).toNat) (Mq.1 50 ((Mq.1 53 a1.toNat).toInt).toNat) (Mq.1 52 ((Mq.1 56 a1.toNat).toInt).toNat) (Mq.1 51 ((Mq.1 56 a1.toNat).toInt).toNat)) (loF (Mq.1 48 ((Mq.1 54 a1.toNat).toInt).toNat) (Mq.1 50 ((Mq.1 54 a1.toNat).toInt).toNat) (Mq.1 51 ((Mq.1 56 a1.toNat).toInt).toNat)) (hvF (Mq.1 49 ((Mq.1 54 a1.toNat).toInt).toNat) (Mq.1 50 ((Mq.1 54 a1.toNat).toInt).toNat) (Mq.1 52 ((Mq.1 56 a1.toNat).toInt).toNat) (Mq.1 51 ((Mq.1 56 a1.toNat).toInt).toNat)) (Mq.1 58) = true) := by first | omega | (rcases hq17 with ⟨z1, z2⟩ | ⟨z1, z2⟩ <;> first | exact z2 | (exfalso; omega))
        have hres : ((0 : Int) = 1 ∧ (scM Mq ((Mq.1 53 a1.toNat).toInt).toNat ((Mq.1 54 a1.toNat).toInt).toNat ((Mq.1 56 a1.toNat).toInt).toNat = true)) ∨ ((0 : Int) = 0 ∧ ¬ (scM Mq ((Mq.1 53 a1.toNat).toInt).toNat ((Mq.1 54 a1.toNat).toInt).toNat ((Mq.1 56 a1.toNat).toInt).toNat = true)) := Or.inr ⟨rfl, bb0 hrs (by omega)⟩
        refine g_iconst X 0 dX7_told_120 (by decide) ?_
        exact g_iret X dX7_told_121 ⟨_, _, rfl, (show (0 : Int32).toInt = 0 by decide), ⟨fun h => by first | rfl | exact absurd h (by omega), fun h h0 => by first | rfl | exact hres | (exfalso; omega) | omega, fun h h1 => by first | rfl | exact hres | (exfalso; omega) | omega, fun h h2 => by first | rfl | exact hres | (exfalso; omega) | omega, fun h h3 => by first | rfl | exact hres | (exfalso; omega) | omega, fun h h4 => by first | rfl | exact hres | (exfalso; omega) | omega, fun h h5 => by first | rfl | exact hres | (exfalso; omega) | omega, fun h h6 => by first | rfl | exact hres | (exfalso; omega) | omega, fun h h7 => by first | rfl | exact hres | (exfalso; omega) | omega, fun h h8 => by first | rfl | exact hres | (exfalso; omega) | omega⟩, rfl⟩
      · have pq20 : (scb (loF (Mq.1 48 ((Mq.1 53 a1.toNat).toInt).toNat) (Mq.1 50 ((Mq.1 53 a1.toNat).toInt).toNat) (Mq.1 51 ((Mq.1 56 a1.toNat).toInt).toNat)) (hvF (Mq.1 49 ((Mq.1 53 a1.toNat).toInt).toNat) (Mq.1 50 ((Mq.1 53 a1.toNat).toInt).toNat) (Mq.1 52 ((Mq.1 56 a1.toNat).toInt).toNat) (Mq.1 51 ((Mq.1 56 a1.toNat).toInt).toNat)) (loF (Mq.1 48 ((Mq.1 54 a1.toNat).toInt).toNat) (Mq.1 50 ((Mq.1 54 a1.toNat).toInt).toNat) (Mq.1 51 ((Mq.1 56 a1.toNat).toInt).toNat)) (hvF (Mq.1 49 ((Mq.1 54 a1.toNat).toInt).toNat) (Mq.1 50 ((Mq.1 54 a1.toNat).toInt).toNat) (Mq.1 52 ((Mq.1 56 a1.toNat).toInt).toNat) (Mq.1 51 ((Mq.1 56 a1.toNat).toInt).toNat)) (Mq.1 58) = true) := by first | omega | (rcases hq17 with ⟨z1, z2⟩ | ⟨z1, z2⟩ <;> first | exact z2 | (exfalso; omega))
        have hres : ((1 : Int) = 1 ∧ (scM Mq ((Mq.1 53 a1.toNat).toInt).toNat ((Mq.1 54 a1.toNat).toInt).toNat ((Mq.1 56 a1.toNat).toInt).toNat = true)) ∨ ((1 : Int) = 0 ∧ ¬ (scM Mq ((Mq.1 53 a1.toNat).toInt).toNat ((Mq.1 54 a1.toNat).toInt).toNat ((Mq.1 56 a1.toNat).toInt).toNat = true)) := Or.inl ⟨rfl, bb1 hrs (by omega)⟩
        refine g_iconst X 1 dX7_told_116 (by decide) ?_
        refine g_goto X (tgt := 121) dX7_told_117 (by decide) ?_
        exact g_iret X dX7_told_121 ⟨_, _, rfl, (show (1 : Int32).toInt = 1 by decide), ⟨fun h => by first | rfl | exact absurd h (by omega), fun h h0 => by first | rfl | exact hres | (exfalso; omega) | omega, fun h h1 => by first | rfl | exact hres | (exfalso; omega) | omega, fun h h2 => by first | rfl | exact hres | (exfalso; omega) | omega, fun h h3 => by first | rfl | exact hres | (exfalso; omega) | omega, fun h h4 => by first | rfl | exact hres | (exfalso; omega) | omega, fun h h5 => by first | rfl | exact hres | (exfalso; omega) | omega, fun h h6 => by first | rfl | exact hres | (exfalso; omega) | omega, fun h h7 => by first | rfl | exact hres | (exfalso; omega) | omega, fun h h8 => by first | rfl | exact hres | (exfalso; omega) | omega⟩, rfl⟩
    · refine g_tabIn X dX7_told_11 (a := 6) (t2.trans cq7) (by decide) (by decide) rfl (tgt := 122) (by decide) ?_
      refine g_aload_n X 0 rfl dX7_told_122 ?_
      refine g_aload_n X 0 rfl dX7_told_123 ?_
      refine g_getr X f_X7_25 dX7_told_124 ?_
      refine g_iload_n X 1 rfl dX7_told_127 ?_
      refine g_iald X la_53 t1 dX7_told_128 (by omega) (x := Mq.1 53 a1.toNat) rfl ?_
      have bq21 := ig_53 Iq0 a1.toNat (by omega)
      refine g_aload_n X 0 rfl dX7_told_129 ?_
      refine g_getr X f_X7_34 dX7_told_130 ?_
      refine g_iload_n X 1 rfl dX7_told_133 ?_
      refine g_iald X la_56 t1 dX7_told_134 (by omega) (x := Mq.1 56 a1.toNat) rfl ?_
      have bq22 := ig_56 Iq0 a1.toNat (by omega)
      refine g_callV X m_X7_179 (c_X7_longOf_E ad Mq (Mq.1 53 a1.toNat) rfl (Mq.1 56 a1.toNat) rfl (by omega) (by omega)) rfl (by decide) (Nat.le_of_ble_eq_true rfl) rfl dX7_told_135 ?_
      rintro _ _ ⟨rq23, aq24, rfl, tq25, hq26, rfl⟩
      have hl1 := hq26
      show G Γ Mq 138 [(0, .ref (ad 47)), (1, .int x1), (2, .int x2)] [.int rq23]
      refine g_aload_n X 0 rfl dX7_told_138 ?_
      refine g_aload_n X 0 rfl dX7_told_139 ?_
      refine g_getr X f_X7_28 dX7_told_140 ?_
      refine g_iload_n X 1 rfl dX7_told_143 ?_
      refine g_iald X la_54 t1 dX7_told_144 (by omega) (x := Mq.1 54 a1.toNat) rfl ?_
      have bq27 := ig_54 Iq0 a1.toNat (by omega)
      refine g_aload_n X 0 rfl dX7_told_145 ?_
      refine g_getr X f_X7_34 dX7_told_146 ?_
      refine g_iload_n X 1 rfl dX7_told_149 ?_
      refine g_iald X la_56 t1 dX7_told_150 (by omega) (x := Mq.1 56 a1.toNat) rfl ?_
      have bq28 := ig_56 Iq0 a1.toNat (by omega)
      refine g_callV X m_X7_179 (c_X7_longOf_E ad Mq (Mq.1 54 a1.toNat) rfl (Mq.1 56 a1.toNat) rfl (by omega) (by omega)) rfl (by decide) (Nat.le_of_ble_eq_true rfl) rfl dX7_told_151 ?_
      rintro _ _ ⟨rq29, aq30, rfl, tq31, hq32, rfl⟩
      have hl2 := hq32
      show G Γ Mq 154 [(0, .ref (ad 47)), (1, .int x1), (2, .int x2)] [.int rq29, .int rq23]
      refine g_iadd X dX7_told_154 (fun zq33 eq34 => ?_)
      have kx154 := eq34
      have hres := kx154
      rw [hl1, hl2] at hres
      exact g_iret X dX7_told_155 ⟨_, _, rfl, rfl, ⟨fun h => by first | rfl | exact absurd h (by omega), fun h h0 => by first | rfl | exact hres | (exfalso; omega) | omega, fun h h1 => by first | rfl | exact hres | (exfalso; omega) | omega, fun h h2 => by first | rfl | exact hres | (exfalso; omega) | omega, fun h h3 => by first | rfl | exact hres | (exfalso; omega) | omega, fun h h4 => by first | rfl | exact hres | (exfalso; omega) | omega, fun h h5 => by first | rfl | exact hres | (exfalso; omega) | omega, fun h h6 => by first | rfl | exact hres | (exfalso; omega) | omega, fun h h7 => by first | rfl | exact hres | (exfalso; omega) | omega, fun h h8 => by first | rfl | exact hres | (exfalso; omega) | omega⟩, rfl⟩
    · refine g_tabIn X dX7_told_11 (a := 7) (t2.trans cq7) (by decide) (by decide) rfl (tgt := 156) (by decide) ?_
      refine g_aload_n X 0 rfl dX7_told_156 ?_
      refine g_aload_n X 0 rfl dX7_told_157 ?_
      refine g_getr X f_X7_25 dX7_told_158 ?_
      refine g_iload_n X 1 rfl dX7_told_161 ?_
      refine g_iald X la_53 t1 dX7_told_162 (by omega) (x := Mq.1 53 a1.toNat) rfl ?_
      have bq36 := ig_53 Iq0 a1.toNat (by omega)
      refine g_aload_n X 0 rfl dX7_told_163 ?_
      refine g_getr X f_X7_28 dX7_told_164 ?_
      refine g_iload_n X 1 rfl dX7_told_167 ?_
      refine g_iald X la_54 t1 dX7_told_168 (by omega) (x := Mq.1 54 a1.toNat) rfl ?_
      have bq37 := ig_54 Iq0 a1.toNat (by omega)
      refine g_aload_n X 0 rfl dX7_told_169 ?_
      refine g_getr X f_X7_34 dX7_told_170 ?_
      refine g_iload_n X 1 rfl dX7_told_173 ?_
      refine g_iald X la_56 t1 dX7_told_174 (by omega) (x := Mq.1 56 a1.toNat) rfl ?_
      have bq38 := ig_56 Iq0 a1.toNat (by omega)
      refine g_callV X m_X7_182 (c_X7_heavyAll_E ad Mq (Mq.1 53 a1.toNat) rfl (Mq.1 54 a1.toNat) rfl (Mq.1 56 a1.toNat) rfl (by omega) (by omega) (by omega)) rfl (by decide) (Nat.le_of_ble_eq_true rfl) rfl dX7_told_175 ?_
      rintro _ _ ⟨rq39, aq40, rfl, tq41, hq42, rfl⟩
      have hres := hq42
      show G Γ Mq 178 [(0, .ref (ad 47)), (1, .int x1), (2, .int x2)] [.int rq39]
      exact g_iret X dX7_told_178 ⟨_, _, rfl, tq41, ⟨fun h => by first | rfl | exact absurd h (by omega), fun h h0 => by first | rfl | exact hres | (exfalso; omega) | omega, fun h h1 => by first | rfl | exact hres | (exfalso; omega) | omega, fun h h2 => by first | rfl | exact hres | (exfalso; omega) | omega, fun h h3 => by first | rfl | exact hres | (exfalso; omega) | omega, fun h h4 => by first | rfl | exact hres | (exfalso; omega) | omega, fun h h5 => by first | rfl | exact hres | (exfalso; omega) | omega, fun h h6 => by first | rfl | exact hres | (exfalso; omega) | omega, fun h h7 => by first | rfl | exact hres | (exfalso; omega) | omega, fun h h8 => by first | rfl | exact hres | (exfalso; omega) | omega⟩, rfl⟩
  · have pq43 : ¬ (0 ≤ a1 ∧ a1 < ((Mq.1 47 12)).toInt) := by first | omega | (rcases hq4 with ⟨z1, z2⟩ | ⟨z1, z2⟩ <;> first | exact z2 | (exfalso; omega))
    refine g_iconst X (-1) dX7_told_8 (by decide) ?_
    exact g_iret X dX7_told_9 ⟨_, _, rfl, (show ((-1) : Int32).toInt = (-1) by decide), ⟨fun h => by first | rfl | exact absurd h (by omega), fun h h0 => by first | rfl | exact hres | (exfalso; omega) | omega, fun h h1 => by first | rfl | exact hres | (exfalso; omega) | omega, fun h h2 => by first | rfl | exact hres | (exfalso; omega) | omega, fun h h3 => by first | rfl | exact hres | (exfalso; omega) | omega, fun h h4 => by first | rfl | exact hres | (exfalso; omega) | omega, fun h h5 => by first | rfl | exact hres | (exfalso; omega) | omega, fun h h6 => by first | rfl | exact hres | (exfalso; omega) | omega, fun h h7 => by first | rfl | exact hres | (exfalso; omega) | omega, fun h h8 => by first | rfl | exact hres | (exfalso; omega) | omega⟩, rfl⟩
end
