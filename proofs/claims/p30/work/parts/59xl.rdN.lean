section
abbrev W_X7_findTable_R : List (Nat × Nat) := [(71, 99), (72, 99), (73, 99), (74, 99), (75, 99), (76, 99)]
set_option maxHeartbeats 4000000 in
set_option maxRecDepth 4000 in
theorem c_X7_findTable_R (ad : Nat → Nat) (Mq : Mem) (x1 : Int32) {a1 : Int} (t1 : x1.toInt = a1) (Iq0 : Iv TM Mq) {p : RpT} (h1 : 0 ≤ a1 ∧ a1 ≤ 7) (hV : gsN (txt Mq a1.toNat) ((Mq.1 62 a1.toNat).toInt).toNat = some ([], true)) (hwt : ∀ s j : Nat, s < 8 → (j : Int) < (Mq.1 47 44).toInt → wtR Mq (Mq.1 78 j).toInt (s : Int) = p.1 s j ∧ p.1 s j ≤ 64) (hh : (Mq.1 47 24).toInt = ((p.2.2 : Nat) : Int)) (hT : ∀ y k : Nat, y < 8 → (k : Int) < ((Mq.1 62 a1.toNat).toInt) → txt Mq a1.toNat k = 65 + y → MR (Mq.1 71) (625 * y) ((Mq.1 47 44).toInt).toNat (p.2.1 y)) : Ctr ad yX7_findTable cX7_findTable 6 none 4 [.ref (ad 47), .int x1] Mq (fun v M' => v = none ∧ (True) ∧ (MR (M'.1 71) (625 * a1.toNat) ((Mq.1 47 44).toInt).toNat (mcT p (txt Mq a1.toNat) ((Mq.1 62 a1.toNat).toInt).toNat) ∧ OUP (Mq.1 71) (M'.1 71) (625 * a1.toNat)) ∧ Iv TM M' ∧ Fr W_X7_findTable_R Mq M') := by
  refine ctr_of (L := [(0, .ref (ad 47)), (1, .int x1)]) (by decide) (Nat.le_of_ble_eq_true rfl) rfl ?_
  intro Γ X
  have X : gX Γ cX7_findTable RX7 6 none 4 ad _ := X
  have frq0 : Fr W_X7_findTable_R Mq Mq := Fr.rf
  have g12 := ig_47_12 Iq0
  have g24 := ig_47_24 Iq0
  have g44 := ig_47_44 Iq0
  have g43 := ig_47_43 Iq0
  have g53 := ig_47_53 Iq0
  have g59 := ig_47_59 Iq0
  have hn : ((Mq.1 47 44).toInt).toNat < 25 := by omega
  have g62 := ig_62 Iq0 a1.toNat (by omega)
  refine g_iconst X 0 dX7_findTable_0 (by decide) ?_
  refine g_istore_n X (i := 2) [(2, .int 0), (0, .ref (ad 47)), (1, .int x1)] dX7_findTable_1 rfl (by decide) rfl ?_
  refine g_aload_n X 1 rfl dX7_findTable_2 ?_
  refine g_callV X m_X7_292 (c_X7_begins_R ad Mq Iq0) rfl (by decide) (Nat.le_of_ble_eq_true rfl) rfl dX7_findTable_3 ?_
  rintro _ Mq6 ⟨rfl, hq4, hq5, Iq7, frq8⟩
  have frq9 : Fr W_X7_findTable_R Mq Mq6 := frq0.trans frq8 rfl
  have trq10 : (Mq6.1 47 44).toInt = (Mq.1 47 44).toInt := congrArg Int32.toInt (frq8.at 47 44 rfl)
  have hb0 := hq5
  have hb1 : Mq6.1 71 = Mq.1 71 := row_fr frq8 (by decide)
  show G Γ Mq6 6 [(2, .int 0), (0, .ref (ad 47)), (1, .int x1)] []
  refine g_iconst X 0 dX7_findTable_6 (by decide) ?_
  refine g_istore_n X (i := 3) [(3, .int 0), (2, .int 0), (0, .ref (ad 47)), (1, .int x1)] dX7_findTable_7 rfl (by decide) rfl ?_
  have lp8 : ∀ n : Nat, ∀ (y3_8 : Int32) (b3_8 : Int), y3_8.toInt = b3_8 → ∀ (y2_8 : Int32) (b2_8 : Int), y2_8.toInt = b2_8 → ∀ (M_8 : Mem), (0 ≤ b3_8 ∧ b3_8 ≤ ((Mq.1 62 a1.toNat).toInt)) → (RFT M_8 ((Mq.1 47 44).toInt).toNat p (txt Mq a1.toNat) b3_8 b2_8) → (M_8.1 71 = Mq.1 71) → (Iv TM M_8) → (Fr W_X7_findTable_R Mq M_8) → (((Mq.1 62 a1.toNat).toInt) - b3_8).toNat < n → G Γ M_8 8 [(3, .int y3_8), (2, .int y2_8), (0, .ref (ad 47)), (1, .int x1)] [] := by
    intro n
    induction n with
    | zero => intro y3_8 b3_8 e3_8 y2_8 b2_8 e2_8 M_8 i1 i3 i4 I_8 fr_8 hm; exact absurd hm (Nat.not_lt_zero _)
    | succ n ih8 =>
      intro y3_8 b3_8 e3_8 y2_8 b2_8 e2_8 M_8 i1 i3 i4 I_8 fr_8 hm8
      have trq11 : (M_8.1 47 44).toInt = (Mq.1 47 44).toInt := congrArg Int32.toInt (fr_8.at 47 44 rfl)
      have q62 : (M_8.1 62 a1.toNat).toInt = ((Mq.1 62 a1.toNat).toInt) := congrArg Int32.toInt (fr_8.at 62 a1.toNat rfl)
      have q44 : (M_8.1 47 44).toInt = (Mq.1 47 44).toInt := congrArg Int32.toInt (fr_8.at 47 44 rfl)
      have hln := RFT_len hV (by omega) i3 ⟨i1.1, by omega⟩
      refine g_iload_n X 0 rfl dX7_findTable_8 ?_
      refine g_aload_n X 2 rfl dX7_findTable_9 ?_
      refine g_getr X f_X7_52 dX7_findTable_10 ?_
      refine g_iload_n X 3 rfl dX7_findTable_13 ?_
      refine g_iald X la_62 t1 dX7_findTable_14 (by omega) (x := M_8.1 62 a1.toNat) rfl ?_
      have bq12 := ig_62 I_8 a1.toNat (by omega)
      refine g_icmp_ge X e3_8 rfl (tgt := 300) dX7_findTable_15 (by decide) (fun cq13 => ?_) (fun cq13 => ?_)
      · refine g_iconst X 0 dX7_findTable_300 (by decide) ?_
        refine g_istore_n X (i := 3) [(3, .int 0), (2, .int y2_8), (0, .ref (ad 47)), (1, .int x1)] dX7_findTable_301 rfl (by decide) rfl ?_
        have lp302 : ∀ n : Nat, ∀ (y3_302 : Int32) (b3_302 : Int), y3_302.toInt = b3_302 → ∀ (M_302 : Mem), (0 ≤ b3_302 ∧ b3_302 ≤ 625) → (∀ d : Nat, (d : Int) < b3_302 → M_302.1 71 (625 * a1.toNat + d) = M_8.1 76 d) → (OUP (Mq.1 71) (M_302.1 71) (625 * a1.toNat)) → (M_302.1 76 = M_8.1 76) → (Iv TM M_302) → (Fr W_X7_findTable_R Mq M_302) → (625 - b3_302).toNat < n → G Γ M_302 302 [(3, .int y3_302), (2, .int y2_8), (0, .ref (ad 47)), (1, .int x1)] [] := by
          intro n
          induction n with
          | zero => intro y3_302 b3_302 e3_302 M_302 l1 l2 l3 l4 I_302 fr_302 hm; exact absurd hm (Nat.not_lt_zero _)
          | succ n ih302 =>
            intro y3_302 b3_302 e3_302 M_302 l1 l2 l3 l4 I_302 fr_302 hm302
            have trq14 : (M_302.1 47 44).toInt = (Mq.1 47 44).toInt := congrArg Int32.toInt (fr_302.at 47 44 rfl)
            refine g_iload_n X 0 rfl dX7_findTable_302 ?_
            refine g_sipush X 625 dX7_findTable_303 (by decide) ?_
            refine g_icmp_ge X e3_302 (show (625 : Int32).toInt = 625 by decide) (tgt := 333) dX7_findTable_306 (by decide) (fun cq15 => ?_) (fun cq15 => ?_)
            · exact g_vret X dX7_findTable_333 ⟨rfl, trivial, (⟨MR_cp hn l2 (by omega) (MR_z (RFT_end hV i3 (by omega))), l3⟩), I_302, fr_302⟩
            · refine g_aload_n X 2 rfl dX7_findTable_309 ?_
              refine g_getr X f_X7_83 dX7_findTable_310 ?_
              refine g_sipush X 625 dX7_findTable_313 (by decide) ?_
              refine g_iload_n X 3 rfl dX7_findTable_316 ?_
              refine g_imul X dX7_findTable_317 (fun zq16 eq17 => ?_)
              have tq18 : zq16.toInt = 625 * a1 := mul_nw eq17 (show (625 : Int32).toInt = 625 by decide) t1 (by omega)
              refine g_iload_n X 0 rfl dX7_findTable_318 ?_
              refine g_iadd X dX7_findTable_319 (fun zq19 eq20 => ?_)
              have tq21 : zq19.toInt = (625 * a1) + b3_302 := add_nw eq20 tq18 e3_302 (by omega)
              refine g_aload_n X 2 rfl dX7_findTable_320 ?_
              refine g_getr X f_X7_98 dX7_findTable_321 ?_
              refine g_iload_n X 0 rfl dX7_findTable_324 ?_
              refine g_iald X la_76 e3_302 dX7_findTable_325 (by omega) (x := M_302.1 76 b3_302.toNat) rfl ?_
              refine g_iast X la_71 tq21 dX7_findTable_326 (by omega) ?_
              have Iq22 : Iv TM (ui M_302 71 (((625 * a1) + b3_302).toNat) (M_302.1 76 b3_302.toNat)) := I_302.otherA rfl
              have frq23 : Fr W_X7_findTable_R Mq (ui M_302 71 (((625 * a1) + b3_302).toNat) (M_302.1 76 b3_302.toNat)) := fr_302.ui rfl
              refine g_iinc X 0 (fun v => [(3, .int v), (2, .int y2_8), (0, .ref (ad 47)), (1, .int x1)]) dX7_findTable_327 rfl (by decide) (fun _ => rfl) (fun zq24 eq25 => ?_)
              have tq26 : zq24.toInt = b3_302 + 1 := add_nw eq25 e3_302 (show (Int32.ofInt 1).toInt = 1 by decide) (by omega)
              refine g_goto X (tgt := 302) dX7_findTable_330 (by decide) ?_
              refine g_sub [0, 1, 2, 3] rfl ?_
              exact ih302 zq24 _ tq26 (ui M_302 71 (((625 * a1) + b3_302).toNat) (M_302.1 76 b3_302.toNat)) (by omega) (cpo_step l2 l1.1 (by omega) (by rw [l4])) (OUP_ui l3 (by omega)) (by rw [ui_cell (k := 71) (a := 76) (by decide)]; exact l4) Iq22 frq23 (by omega)
        refine g_sub [0, 1, 2, 3] rfl ?_
        exact lp302 _ 0 _ (show (0 : Int32).toInt = 0 by decide) M_8 (by omega) (fun d hd => absurd hd (by omega)) (fun c _ => by rw [i4]) rfl I_8 fr_8 (Nat.lt_succ_self _)
      · refine g_aload_n X 2 rfl dX7_findTable_18 ?_
        refine g_getr X f_X7_49 dX7_findTable_19 ?_
        refine g_bipush X 60 dX7_findTable_22 (by decide) ?_
        refine g_iload_n X 3 rfl dX7_findTable_24 ?_
        refine g_imul X dX7_findTable_25 (fun zq27 eq28 => ?_)
        have tq29 : zq27.toInt = 60 * a1 := mul_nw eq28 (show (60 : Int32).toInt = 60 by decide) t1 (by omega)
        refine g_iload_n X 0 rfl dX7_findTable_26 ?_
        refine g_iadd X dX7_findTable_27 (fun zq30 eq31 => ?_)
        have tq32 : zq30.toInt = (60 * a1) + b3_8 := add_nw eq31 tq29 e3_8 (by omega)
        refine g_iald X la_61 tq32 dX7_findTable_28 (by omega) (x := M_8.1 61 (((60 * a1) + b3_8).toNat)) rfl ?_
        refine g_istore X [(4, .int (M_8.1 61 (((60 * a1) + b3_8).toNat))), (3, .int y3_8), (2, .int y2_8), (0, .ref (ad 47)), (1, .int x1)] dX7_findTable_29 (by decide) rfl ?_
        have htx9 : txt Mq a1.toNat (b3_8).toNat = (M_8.1 61 (60 * a1 + b3_8).toNat).toInt := (txt_at (by omega) (by omega)).trans (congrArg Int32.toInt (fr_8.at 61 _ rfl).symm)
        obtain ⟨b4q, hb4⟩ : ∃ x : Int, x = (M_8.1 61 (60 * a1 + b3_8).toNat).toInt := ⟨_, rfl⟩
        have gch := GCH hV ⟨i1.1, by omega⟩ htx9
        have q24 : ((M_8.1 47 24).toInt).toNat = p.2.2 := by rw [fr_8.at 47 24 rfl]; omega
        refine g_iload X 0 rfl dX7_findTable_31 ?_
        refine g_callS X m_X7_214 (c_X7_isSlot ad M_8 (M_8.1 61 (((60 * a1) + b3_8).toNat)) rfl) rfl (by decide) (Nat.le_of_ble_eq_true rfl) rfl dX7_findTable_33 ?_
        rintro _ _ ⟨rq33, aq34, rfl, tq35, hq36, rfl⟩
        show G Γ M_8 36 [(4, .int (M_8.1 61 (((60 * a1) + b3_8).toNat))), (3, .int y3_8), (2, .int y2_8), (0, .ref (ad 47)), (1, .int x1)] [.int rq33]
        refine g_if_eq X tq35 (tgt := 51) dX7_findTable_36 (by decide) (fun cq37 => ?_) (fun cq37 => ?_)
        · have pq38 : ¬ (97 ≤ ((M_8.1 61 (((60 * a1) + b3_8).toNat)).toInt) ∧ ((M_8.1 61 (((60 * a1) + b3_8).toNat)).toInt) ≤ 104) := by first | omega | (rcases hq36 with ⟨z1, z2⟩ | ⟨z1, z2⟩ <;> first | exact z2 | (exfalso; omega))
          refine g_iload X 0 rfl dX7_findTable_51 ?_
          refine g_callS X m_X7_217 (c_X7_isScene ad M_8 (M_8.1 61 (((60 * a1) + b3_8).toNat)) rfl) rfl (by decide) (Nat.le_of_ble_eq_true rfl) rfl dX7_findTable_53 ?_
          rintro _ _ ⟨rq39, aq40, rfl, tq41, hq42, rfl⟩
          show G Γ M_8 56 [(4, .int (M_8.1 61 (((60 * a1) + b3_8).toNat))), (3, .int y3_8), (2, .int y2_8), (0, .ref (ad 47)), (1, .int x1)] [.int rq39]
          refine g_if_eq X tq41 (tgt := 79) dX7_findTable_56 (by decide) (fun cq43 => ?_) (fun cq43 => ?_)
          · have pq44 : ¬ (65 ≤ ((M_8.1 61 (((60 * a1) + b3_8).toNat)).toInt) ∧ ((M_8.1 61 (((60 * a1) + b3_8).toNat)).toInt) ≤ 72) := by first | omega | (rcases hq42 with ⟨z1, z2⟩ | ⟨z1, z2⟩ <;> first | exact z2 | (exfalso; omega))
            refine g_iload X 0 rfl dX7_findTable_79 ?_
            refine g_bipush X 91 dX7_findTable_81 (by decide) ?_
            refine g_icmp_eq X rfl (show (91 : Int32).toInt = 91 by decide) (tgt := 100) dX7_findTable_83 (by decide) (fun cq45 => ?_) (fun cq45 => ?_)
            · obtain ⟨A, hA1, hK⟩ := RFT_op hn hV i3 ⟨i1.1, by omega⟩ htx9 (by omega)
              refine g_iconst X 0 dX7_findTable_100 (by decide) ?_
              refine g_istore X [(5, .int 0), (4, .int (M_8.1 61 (((60 * a1) + b3_8).toNat))), (3, .int y3_8), (2, .int y2_8), (0, .ref (ad 47)), (1, .int x1)] dX7_findTable_101 (by decide) rfl ?_
              have lp103 : ∀ n : Nat, ∀ (y5_103 : Int32) (b5_103 : Int), y5_103.toInt = b5_103 → ∀ (M_103 : Mem), (0 ≤ b5_103 ∧ b5_103 ≤ 625) → (∀ d : Nat, (d : Int) < b5_103 → M_103.1 72 (625 * (b2_8).toNat + d) = M_8.1 76 d) → (∀ c, c < 625 * (b2_8).toNat → M_103.1 72 c = M_8.1 72 c) → (M_103.1 76 = M_8.1 76) → (M_103.1 73 = M_8.1 73) → (M_103.1 71 = Mq.1 71) → (Iv TM M_103) → (Fr W_X7_findTable_R Mq M_103) → (625 - b5_103).toNat < n → G Γ M_103 103 [(5, .int y5_103), (4, .int (M_8.1 61 (((60 * a1) + b3_8).toNat))), (3, .int y3_8), (2, .int y2_8), (0, .ref (ad 47)), (1, .int x1)] [] := by
                intro n
                induction n with
                | zero => intro y5_103 b5_103 e5_103 M_103 j1 j2 j3 j4 j5 j6 I_103 fr_103 hm; exact absurd hm (Nat.not_lt_zero _)
                | succ n ih103 =>
                  intro y5_103 b5_103 e5_103 M_103 j1 j2 j3 j4 j5 j6 I_103 fr_103 hm103
                  have trq46 : (M_103.1 47 44).toInt = (Mq.1 47 44).toInt := congrArg Int32.toInt (fr_103.at 47 44 rfl)
                  have v44 : (M_103.1 47 44).toInt = (Mq.1 47 44).toInt := congrArg Int32.toInt (fr_103.at 47 44 rfl)
                  refine g_iload X 0 rfl dX7_findTable_103 ?_
                  refine g_sipush X 625 dX7_findTable_105 (by decide) ?_
                  refine g_icmp_ge X e5_103 (show (625 : Int32).toInt = 625 by decide) (tgt := 137) dX7_findTable_108 (by decide) (fun cq47 => ?_) (fun cq47 => ?_)
                  · refine g_iinc X 3 (fun v => [(2, .int v), (5, .int y5_103), (4, .int (M_8.1 61 (((60 * a1) + b3_8).toNat))), (3, .int y3_8), (0, .ref (ad 47)), (1, .int x1)]) dX7_findTable_137 rfl (by decide) (fun _ => rfl) (fun zq48 eq49 => ?_)
                    have tq50 : zq48.toInt = b2_8 + 1 := add_nw eq49 e2_8 (show (Int32.ofInt 1).toInt = 1 by decide) (by omega)
                    refine g_aload_n X 4 rfl dX7_findTable_140 ?_
                    refine g_callV X m_X7_292 (c_X7_begins_R ad M_103 I_103) rfl (by decide) (Nat.le_of_ble_eq_true rfl) rfl dX7_findTable_141 ?_
                    rintro _ Mq56 ⟨rfl, hq54, hq55, Iq57, frq58⟩
                    have frq59 : Fr W_X7_findTable_R Mq Mq56 := fr_103.trans frq58 rfl
                    have trq60 : (Mq56.1 47 44).toInt = (M_103.1 47 44).toInt := congrArg Int32.toInt (frq58.at 47 44 rfl)
                    have hq1 := hq55
                    rw [v44] at hq1
                    have i4n : Mq56.1 71 = Mq.1 71 := by rw [row_fr frq58 (c := 71) (by decide)]; exact j6
                    have hG : RFT Mq56 ((Mq.1 47 44).toInt).toNat p (txt Mq a1.toNat) (b3_8 + 1) (b2_8 + 1) := hK Mq56 (fun c hc => by rw [row_fr frq58 (c := 72) (by decide)]; exact j3 c hc) (by rw [row_fr frq58 (c := 73) (by decide)]; exact j5) (by rw [row_fr frq58 (c := 72) (by decide)]; exact MR_cp hn j2 (by omega) (MR_z hA1)) hq1
                    show G Γ Mq56 144 [(2, .int zq48), (5, .int y5_103), (4, .int (M_8.1 61 (((60 * a1) + b3_8).toNat))), (3, .int y3_8), (0, .ref (ad 47)), (1, .int x1)] []
                    refine g_goto X (tgt := 294) dX7_findTable_144 (by decide) ?_
                    refine g_iinc X 3 (fun v => [(3, .int v), (2, .int zq48), (5, .int y5_103), (4, .int (M_8.1 61 (((60 * a1) + b3_8).toNat))), (0, .ref (ad 47)), (1, .int x1)]) dX7_findTable_294 rfl (by decide) (fun _ => rfl) (fun zq61 eq62 => ?_)
                    have tq63 : zq61.toInt = b3_8 + 1 := add_nw eq62 e3_8 (show (Int32.ofInt 1).toInt = 1 by decide) (by omega)
                    refine g_goto X (tgt := 8) dX7_findTable_297 (by decide) ?_
                    refine g_sub [0, 1, 4, 5] rfl ?_
                    exact ih8 zq61 _ tq63 zq48 _ tq50 Mq56 (by omega) hG i4n Iq57 frq59 (by omega)
                  · refine g_aload_n X 4 rfl dX7_findTable_111 ?_
                    refine g_getr X f_X7_86 dX7_findTable_112 ?_
                    refine g_sipush X 625 dX7_findTable_115 (by decide) ?_
                    refine g_iload_n X 3 rfl dX7_findTable_118 ?_
                    refine g_imul X dX7_findTable_119 (fun zq64 eq65 => ?_)
                    have tq66 : zq64.toInt = 625 * b2_8 := mul_nw eq65 (show (625 : Int32).toInt = 625 by decide) e2_8 (by omega)
                    refine g_iload X 0 rfl dX7_findTable_120 ?_
                    refine g_iadd X dX7_findTable_122 (fun zq67 eq68 => ?_)
                    have tq69 : zq67.toInt = (625 * b2_8) + b5_103 := add_nw eq68 tq66 e5_103 (by omega)
                    refine g_aload_n X 4 rfl dX7_findTable_123 ?_
                    refine g_getr X f_X7_98 dX7_findTable_124 ?_
                    refine g_iload X 0 rfl dX7_findTable_127 ?_
                    refine g_iald X la_76 e5_103 dX7_findTable_129 (by omega) (x := M_103.1 76 b5_103.toNat) rfl ?_
                    refine g_iast X la_72 tq69 dX7_findTable_130 (by omega) ?_
                    have Iq70 : Iv TM (ui M_103 72 (((625 * b2_8) + b5_103).toNat) (M_103.1 76 b5_103.toNat)) := I_103.otherA rfl
                    have frq71 : Fr W_X7_findTable_R Mq (ui M_103 72 (((625 * b2_8) + b5_103).toNat) (M_103.1 76 b5_103.toNat)) := fr_103.ui rfl
                    refine g_iinc X 0 (fun v => [(5, .int v), (4, .int (M_8.1 61 (((60 * a1) + b3_8).toNat))), (3, .int y3_8), (2, .int y2_8), (0, .ref (ad 47)), (1, .int x1)]) dX7_findTable_131 rfl (by decide) (fun _ => rfl) (fun zq72 eq73 => ?_)
                    have tq74 : zq72.toInt = b5_103 + 1 := add_nw eq73 e5_103 (show (Int32.ofInt 1).toInt = 1 by decide) (by omega)
                    refine g_goto X (tgt := 103) dX7_findTable_134 (by decide) ?_
                    refine g_sub [0, 1, 2, 3, 4, 5] rfl ?_
                    exact ih103 zq72 _ tq74 (ui M_103 72 (((625 * b2_8) + b5_103).toNat) (M_103.1 76 b5_103.toNat)) (by omega) (cpo_step j2 j1.1 (by omega) (by rw [j4])) (fun c hc => by rw [ui_nj (by omega)]; exact j3 c hc) (by rw [ui_cell (k := 72) (a := 76) (by decide)]; exact j4) (by rw [ui_cell (k := 72) (a := 73) (by decide)]; exact j5) (by rw [ui_cell (k := 72) (a := 71) (by decide)]; exact j6) Iq70 frq71 (by omega)
              refine g_sub [0, 1, 2, 3, 4, 5] rfl ?_
              exact lp103 _ 0 _ (show (0 : Int32).toInt = 0 by decide) M_8 (by omega) (fun d hd => absurd hd (by omega)) (fun _ _ => rfl) rfl rfl i4 I_8 fr_8 (Nat.lt_succ_self _)
            · refine g_iload X 0 rfl dX7_findTable_86 ?_
              refine g_bipush X 123 dX7_findTable_88 (by decide) ?_
              refine g_icmp_eq X rfl (show (123 : Int32).toInt = 123 by decide) (tgt := 100) dX7_findTable_90 (by decide) (fun cq75 => ?_) (fun cq75 => ?_)
              · obtain ⟨A, hA1, hK⟩ := RFT_op hn hV i3 ⟨i1.1, by omega⟩ htx9 (by omega)
                refine g_iconst X 0 dX7_findTable_100 (by decide) ?_
                refine g_istore X [(5, .int 0), (4, .int (M_8.1 61 (((60 * a1) + b3_8).toNat))), (3, .int y3_8), (2, .int y2_8), (0, .ref (ad 47)), (1, .int x1)] dX7_findTable_101 (by decide) rfl ?_
                have lp103 : ∀ n : Nat, ∀ (y5_103 : Int32) (b5_103 : Int), y5_103.toInt = b5_103 → ∀ (M_103 : Mem), (0 ≤ b5_103 ∧ b5_103 ≤ 625) → (∀ d : Nat, (d : Int) < b5_103 → M_103.1 72 (625 * (b2_8).toNat + d) = M_8.1 76 d) → (∀ c, c < 625 * (b2_8).toNat → M_103.1 72 c = M_8.1 72 c) → (M_103.1 76 = M_8.1 76) → (M_103.1 73 = M_8.1 73) → (M_103.1 71 = Mq.1 71) → (Iv TM M_103) → (Fr W_X7_findTable_R Mq M_103) → (625 - b5_103).toNat < n → G Γ M_103 103 [(5, .int y5_103), (4, .int (M_8.1 61 (((60 * a1) + b3_8).toNat))), (3, .int y3_8), (2, .int y2_8), (0, .ref (ad 47)), (1, .int x1)] [] := by
                  intro n
                  induction n with
                  | zero => intro y5_103 b5_103 e5_103 M_103 j1 j2 j3 j4 j5 j6 I_103 fr_103 hm; exact absurd hm (Nat.not_lt_zero _)
                  | succ n ih103 =>
                    intro y5_103 b5_103 e5_103 M_103 j1 j2 j3 j4 j5 j6 I_103 fr_103 hm103
                    have trq76 : (M_103.1 47 44).toInt = (Mq.1 47 44).toInt := congrArg Int32.toInt (fr_103.at 47 44 rfl)
                    have v44 : (M_103.1 47 44).toInt = (Mq.1 47 44).toInt := congrArg Int32.toInt (fr_103.at 47 44 rfl)
                    refine g_iload X 0 rfl dX7_findTable_103 ?_
                    refine g_sipush X 625 dX7_findTable_105 (by decide) ?_
                    refine g_icmp_ge X e5_103 (show (625 : Int32).toInt = 625 by decide) (tgt := 137) dX7_findTable_108 (by decide) (fun cq77 => ?_) (fun cq77 => ?_)
                    · refine g_iinc X 3 (fun v => [(2, .int v), (5, .int y5_103), (4, .int (M_8.1 61 (((60 * a1) + b3_8).toNat))), (3, .int y3_8), (0, .ref (ad 47)), (1, .int x1)]) dX7_findTable_137 rfl (by decide) (fun _ => rfl) (fun zq78 eq79 => ?_)
                      have tq80 : zq78.toInt = b2_8 + 1 := add_nw eq79 e2_8 (show (Int32.ofInt 1).toInt = 1 by decide) (by omega)
                      refine g_aload_n X 4 rfl dX7_findTable_140 ?_
                      refine g_callV X m_X7_292 (c_X7_begins_R ad M_103 I_103) rfl (by decide) (Nat.le_of_ble_eq_true rfl) rfl dX7_findTable_141 ?_
                      rintro _ Mq86 ⟨rfl, hq84, hq85, Iq87, frq88⟩
                      have frq89 : Fr W_X7_findTable_R Mq Mq86 := fr_103.trans frq88 rfl
                      have trq90 : (Mq86.1 47 44).toInt = (M_103.1 47 44).toInt := congrArg Int32.toInt (frq88.at 47 44 rfl)
                      have hq1 := hq85
                      rw [v44] at hq1
                      have i4n : Mq86.1 71 = Mq.1 71 := by rw [row_fr frq88 (c := 71) (by decide)]; exact j6
                      have hG : RFT Mq86 ((Mq.1 47 44).toInt).toNat p (txt Mq a1.toNat) (b3_8 + 1) (b2_8 + 1) := hK Mq86 (fun c hc => by rw [row_fr frq88 (c := 72) (by decide)]; exact j3 c hc) (by rw [row_fr frq88 (c := 73) (by decide)]; exact j5) (by rw [row_fr frq88 (c := 72) (by decide)]; exact MR_cp hn j2 (by omega) (MR_z hA1)) hq1
                      show G Γ Mq86 144 [(2, .int zq78), (5, .int y5_103), (4, .int (M_8.1 61 (((60 * a1) + b3_8).toNat))), (3, .int y3_8), (0, .ref (ad 47)), (1, .int x1)] []
                      refine g_goto X (tgt := 294) dX7_findTable_144 (by decide) ?_
                      refine g_iinc X 3 (fun v => [(3, .int v), (2, .int zq78), (5, .int y5_103), (4, .int (M_8.1 61 (((60 * a1) + b3_8).toNat))), (0, .ref (ad 47)), (1, .int x1)]) dX7_findTable_294 rfl (by decide) (fun _ => rfl) (fun zq91 eq92 => ?_)
                      have tq93 : zq91.toInt = b3_8 + 1 := add_nw eq92 e3_8 (show (Int32.ofInt 1).toInt = 1 by decide) (by omega)
                      refine g_goto X (tgt := 8) dX7_findTable_297 (by decide) ?_
                      refine g_sub [0, 1, 4, 5] rfl ?_
                      exact ih8 zq91 _ tq93 zq78 _ tq80 Mq86 (by omega) hG i4n Iq87 frq89 (by omega)
                    · refine g_aload_n X 4 rfl dX7_findTable_111 ?_
                      refine g_getr X f_X7_86 dX7_findTable_112 ?_
                      refine g_sipush X 625 dX7_findTable_115 (by decide) ?_
                      refine g_iload_n X 3 rfl dX7_findTable_118 ?_
                      refine g_imul X dX7_findTable_119 (fun zq94 eq95 => ?_)
                      have tq96 : zq94.toInt = 625 * b2_8 := mul_nw eq95 (show (625 : Int32).toInt = 625 by decide) e2_8 (by omega)
                      refine g_iload X 0 rfl dX7_findTable_120 ?_
                      refine g_iadd X dX7_findTable_122 (fun zq97 eq98 => ?_)
                      have tq99 : zq97.toInt = (625 * b2_8) + b5_103 := add_nw eq98 tq96 e5_103 (by omega)
                      refine g_aload_n X 4 rfl dX7_findTable_123 ?_
                      refine g_getr X f_X7_98 dX7_findTable_124 ?_
                      refine g_iload X 0 rfl dX7_findTable_127 ?_
                      refine g_iald X la_76 e5_103 dX7_findTable_129 (by omega) (x := M_103.1 76 b5_103.toNat) rfl ?_
                      refine g_iast X la_72 tq99 dX7_findTable_130 (by omega) ?_
                      have Iq100 : Iv TM (ui M_103 72 (((625 * b2_8) + b5_103).toNat) (M_103.1 76 b5_103.toNat)) := I_103.otherA rfl
                      have frq101 : Fr W_X7_findTable_R Mq (ui M_103 72 (((625 * b2_8) + b5_103).toNat) (M_103.1 76 b5_103.toNat)) := fr_103.ui rfl
                      refine g_iinc X 0 (fun v => [(5, .int v), (4, .int (M_8.1 61 (((60 * a1) + b3_8).toNat))), (3, .int y3_8), (2, .int y2_8), (0, .ref (ad 47)), (1, .int x1)]) dX7_findTable_131 rfl (by decide) (fun _ => rfl) (fun zq102 eq103 => ?_)
                      have tq104 : zq102.toInt = b5_103 + 1 := add_nw eq103 e5_103 (show (Int32.ofInt 1).toInt = 1 by decide) (by omega)
                      refine g_goto X (tgt := 103) dX7_findTable_134 (by decide) ?_
                      refine g_sub [0, 1, 2, 3, 4, 5] rfl ?_
                      exact ih103 zq102 _ tq104 (ui M_103 72 (((625 * b2_8) + b5_103).toNat) (M_103.1 76 b5_103.toNat)) (by omega) (cpo_step j2 j1.1 (by omega) (by rw [j4])) (fun c hc => by rw [ui_nj (by omega)]; exact j3 c hc) (by rw [ui_cell (k := 72) (a := 76) (by decide)]; exact j4) (by rw [ui_cell (k := 72) (a := 73) (by decide)]; exact j5) (by rw [ui_cell (k := 72) (a := 71) (by decide)]; exact j6) Iq100 frq101 (by omega)
                refine g_sub [0, 1, 2, 3, 4, 5] rfl ?_
                exact lp103 _ 0 _ (show (0 : Int32).toInt = 0 by decide) M_8 (by omega) (fun d hd => absurd hd (by omega)) (fun _ _ => rfl) rfl rfl i4 I_8 fr_8 (Nat.lt_succ_self _)
              · refine g_iload X 0 rfl dX7_findTable_93 ?_
                refine g_bipush X 40 dX7_findTable_95 (by decide) ?_
                refine g_icmp_ne X rfl (show (40 : Int32).toInt = 40 by decide) (tgt := 147) dX7_findTable_97 (by decide) (fun cq105 => ?_) (fun cq105 => ?_)
                · refine g_iload X 0 rfl dX7_findTable_147 ?_
                  refine g_bipush X 124 dX7_findTable_149 (by decide) ?_
                  refine g_icmp_ne X rfl (show (124 : Int32).toInt = 124 by decide) (tgt := 200) dX7_findTable_151 (by decide) (fun cq106 => ?_) (fun cq106 => ?_)
                  · have hd0 : 1 ≤ b2_8 := by rcases (show ((M_8.1 61 (((60 * a1) + b3_8).toNat)).toInt) = 93 ∨ ((M_8.1 61 (((60 * a1) + b3_8).toNat)).toInt) = 125 ∨ ((M_8.1 61 (((60 * a1) + b3_8).toNat)).toInt) = 41 by omega) with z | z | z; (exact (RFT_cl hn hV i3 ⟨i1.1, by omega⟩ htx9 (by omega)).choose_spec.choose_spec.1); (exact (RFT_cl hn hV i3 ⟨i1.1, by omega⟩ htx9 (by omega)).choose_spec.choose_spec.1); (exact (RFT_41 hn hV i3 ⟨i1.1, by omega⟩ htx9 (by omega)).choose_spec.choose_spec.choose_spec.1)
                    refine g_iinc X 2 (fun v => [(2, .int v), (4, .int (M_8.1 61 (((60 * a1) + b3_8).toNat))), (3, .int y3_8), (0, .ref (ad 47)), (1, .int x1)]) dX7_findTable_200 rfl (by decide) (fun _ => rfl) (fun zq107 eq108 => ?_)
                    have tq109 : zq107.toInt = b2_8 + (-1) := add_nw eq108 e2_8 (show (Int32.ofInt (-1)).toInt = (-1) by decide) (by omega)
                    refine g_iload X 1 rfl dX7_findTable_203 ?_
                    refine g_bipush X 41 dX7_findTable_205 (by decide) ?_
                    refine g_icmp_eq X rfl (show (41 : Int32).toInt = 41 by decide) (tgt := 233) dX7_findTable_207 (by decide) (fun cq110 => ?_) (fun cq110 => ?_)
                    · obtain ⟨A, A2, B, hd1, hA1, hA2, hB1, hK⟩ := RFT_41 hn hV i3 ⟨i1.1, by omega⟩ htx9 (by omega)
                      refine g_iconst X 0 dX7_findTable_233 (by decide) ?_
                      refine g_istore X [(5, .int 0), (2, .int zq107), (4, .int (M_8.1 61 (((60 * a1) + b3_8).toNat))), (3, .int y3_8), (0, .ref (ad 47)), (1, .int x1)] dX7_findTable_234 (by decide) rfl ?_
                      have lp236 : ∀ n : Nat, ∀ (y5_236 : Int32) (b5_236 : Int), y5_236.toInt = b5_236 → ∀ (M_236 : Mem), (0 ≤ b5_236 ∧ b5_236 ≤ 625) → (PAI (M_8.1 73) (M_8.1 76) (M_236.1 73) (625 * (b2_8 - 1).toNat) b5_236) → (M_236.1 76 = M_8.1 76) → (M_236.1 72 = M_8.1 72) → (M_236.1 71 = Mq.1 71) → (Iv TM M_236) → (Fr W_X7_findTable_R Mq M_236) → (625 - b5_236).toNat < n → G Γ M_236 236 [(5, .int y5_236), (2, .int zq107), (4, .int (M_8.1 61 (((60 * a1) + b3_8).toNat))), (3, .int y3_8), (0, .ref (ad 47)), (1, .int x1)] [] := by
                        intro n
                        induction n with
                        | zero => intro y5_236 b5_236 e5_236 M_236 j1 j2 j3 j4 j5 I_236 fr_236 hm; exact absurd hm (Nat.not_lt_zero _)
                        | succ n ih236 =>
                          intro y5_236 b5_236 e5_236 M_236 j1 j2 j3 j4 j5 I_236 fr_236 hm236
                          have trq111 : (M_236.1 47 44).toInt = (Mq.1 47 44).toInt := congrArg Int32.toInt (fr_236.at 47 44 rfl)
                          have v44 : (M_236.1 47 44).toInt = (Mq.1 47 44).toInt := congrArg Int32.toInt (fr_236.at 47 44 rfl)
                          refine g_iload X 0 rfl dX7_findTable_236 ?_
                          refine g_sipush X 625 dX7_findTable_238 (by decide) ?_
                          refine g_icmp_ge X e5_236 (show (625 : Int32).toInt = 625 by decide) (tgt := 289) dX7_findTable_241 (by decide) (fun cq112 => ?_) (fun cq112 => ?_)
                          · refine g_aload_n X 4 rfl dX7_findTable_289 ?_
                            refine g_iload_n X 1 rfl dX7_findTable_290 ?_
                            refine g_callV X m_X7_299 (c_X7_goesBehind_R (B := B) (C := mA A2 A) ad M_236 zq107 tq109 I_236 (by omega) (by rw [v44, j4, show (b2_8 + -1).toNat = (b2_8 - 1).toNat by omega]; exact hB1) (by rw [v44, show (b2_8 + -1).toNat = (b2_8 - 1).toNat by omega]; exact PAI_end hn j2 (by omega) hA2 hA1)) rfl (by decide) (Nat.le_of_ble_eq_true rfl) rfl dX7_findTable_291 ?_
                            rintro _ Mq118 ⟨rfl, hq116, hq117, Iq119, frq120⟩
                            have frq121 : Fr W_X7_findTable_R Mq Mq118 := fr_236.trans frq120 rfl
                            have trq122 : (Mq118.1 47 44).toInt = (M_236.1 47 44).toInt := congrArg Int32.toInt (frq120.at 47 44 rfl)
                            have hq1 := hq117
                            rw [v44] at hq1
                            have i4n : Mq118.1 71 = Mq.1 71 := by rw [row_fr frq120 (c := 71) (by decide)]; exact j5
                            have hG : RFT Mq118 ((Mq.1 47 44).toInt).toNat p (txt Mq a1.toNat) (b3_8 + 1) (b2_8 + -1) := by rw [show b2_8 + -1 = b2_8 - 1 by omega]; exact hK Mq118 _ (by rw [row_fr frq120 (c := 72) (by decide)]; exact j4) (fun c hc => by rw [row_fr frq120 (c := 73) (by decide)]; exact j2.2.2 c hc) hq1 (fun S => mcS_41 (by omega))
                            show G Γ Mq118 294 [(5, .int y5_236), (2, .int zq107), (4, .int (M_8.1 61 (((60 * a1) + b3_8).toNat))), (3, .int y3_8), (0, .ref (ad 47)), (1, .int x1)] []
                            refine g_iinc X 3 (fun v => [(3, .int v), (5, .int y5_236), (2, .int zq107), (4, .int (M_8.1 61 (((60 * a1) + b3_8).toNat))), (0, .ref (ad 47)), (1, .int x1)]) dX7_findTable_294 rfl (by decide) (fun _ => rfl) (fun zq123 eq124 => ?_)
                            have tq125 : zq123.toInt = b3_8 + 1 := add_nw eq124 e3_8 (show (Int32.ofInt 1).toInt = 1 by decide) (by omega)
                            refine g_goto X (tgt := 8) dX7_findTable_297 (by decide) ?_
                            refine g_sub [0, 2, 4, 5] rfl ?_
                            exact ih8 zq123 _ tq125 zq107 _ tq109 Mq118 (by omega) hG i4n Iq119 frq121 (by omega)
                          · refine g_aload_n X 4 rfl dX7_findTable_244 ?_
                            refine g_getr X f_X7_89 dX7_findTable_245 ?_
                            refine g_sipush X 625 dX7_findTable_248 (by decide) ?_
                            refine g_iload_n X 1 rfl dX7_findTable_251 ?_
                            refine g_imul X dX7_findTable_252 (fun zq126 eq127 => ?_)
                            have tq128 : zq126.toInt = 625 * (b2_8 + (-1)) := mul_nw eq127 (show (625 : Int32).toInt = 625 by decide) tq109 (by omega)
                            refine g_iload X 0 rfl dX7_findTable_253 ?_
                            refine g_iadd X dX7_findTable_255 (fun zq129 eq130 => ?_)
                            have tq131 : zq129.toInt = (625 * (b2_8 + (-1))) + b5_236 := add_nw eq130 tq128 e5_236 (by omega)
                            refine g_aload_n X 4 rfl dX7_findTable_256 ?_
                            refine g_getr X f_X7_89 dX7_findTable_257 ?_
                            refine g_sipush X 625 dX7_findTable_260 (by decide) ?_
                            refine g_iload_n X 1 rfl dX7_findTable_263 ?_
                            refine g_imul X dX7_findTable_264 (fun zq132 eq133 => ?_)
                            have tq134 : zq132.toInt = 625 * (b2_8 + (-1)) := mul_nw eq133 (show (625 : Int32).toInt = 625 by decide) tq109 (by omega)
                            refine g_iload X 0 rfl dX7_findTable_265 ?_
                            refine g_iadd X dX7_findTable_267 (fun zq135 eq136 => ?_)
                            have tq137 : zq135.toInt = (625 * (b2_8 + (-1))) + b5_236 := add_nw eq136 tq134 e5_236 (by omega)
                            refine g_iald X la_73 tq137 dX7_findTable_268 (by omega) (x := M_236.1 73 (((625 * (b2_8 + (-1))) + b5_236).toNat)) rfl ?_
                            refine g_i2l X dX7_findTable_269 (fun zq138 eq139 => ?_)
                            have tq140 : zq138.toInt = (M_236.1 73 (((625 * (b2_8 + (-1))) + b5_236).toNat)).toInt := i2l_nw eq139 rfl
                            refine g_aload_n X 4 rfl dX7_findTable_270 ?_
                            refine g_getr X f_X7_98 dX7_findTable_271 ?_
                            refine g_iload X 0 rfl dX7_findTable_274 ?_
                            refine g_iald X la_76 e5_236 dX7_findTable_276 (by omega) (x := M_236.1 76 b5_236.toNat) rfl ?_
                            refine g_i2l X dX7_findTable_277 (fun zq141 eq142 => ?_)
                            have tq143 : zq141.toInt = (M_236.1 76 b5_236.toNat).toInt := i2l_nw eq142 rfl
                            refine g_ladd X dX7_findTable_278 (fun zq144 eq145 => ?_)
                            have kb : zq144.toInt = ((M_236.1 73 (((625 * (b2_8 + (-1))) + b5_236).toNat)).toInt) + ((M_236.1 76 b5_236.toNat).toInt) := by rw [eq145, Int64.toInt_add, tq140, tq143]; have u1 := i_rng ((M_236).1 73 (625 * (b2_8 + -1) + b5_236).toNat); have u2 := i_rng ((M_236).1 76 (b5_236).toNat); exact Int.bmod_eq_of_le (by omega) (by omega)
                            refine g_callS X m_X7_285 (c_X7_least_R ad M_236 zq144 rfl) rfl (by decide) (Nat.le_of_ble_eq_true rfl) rfl dX7_findTable_279 ?_
                            rintro _ _ ⟨rq146, aq147, rfl, tq148, hq149, rfl⟩
                            have hle := hq149
                            show G Γ M_236 282 [(5, .int y5_236), (2, .int zq107), (4, .int (M_8.1 61 (((60 * a1) + b3_8).toNat))), (3, .int y3_8), (0, .ref (ad 47)), (1, .int x1)] [.int rq146, .int zq129, .ref (ad 73)]
                            refine g_iast X la_73 tq131 dX7_findTable_282 (by omega) ?_
                            have Iq150 : Iv TM (ui M_236 73 (((625 * (b2_8 + (-1))) + b5_236).toNat) rq146) := I_236.otherA rfl
                            have frq151 : Fr W_X7_findTable_R Mq (ui M_236 73 (((625 * (b2_8 + (-1))) + b5_236).toNat) rq146) := fr_236.ui rfl
                            refine g_iinc X 0 (fun v => [(5, .int v), (2, .int zq107), (4, .int (M_8.1 61 (((60 * a1) + b3_8).toNat))), (3, .int y3_8), (0, .ref (ad 47)), (1, .int x1)]) dX7_findTable_283 rfl (by decide) (fun _ => rfl) (fun zq152 eq153 => ?_)
                            have tq154 : zq152.toInt = b5_236 + 1 := add_nw eq153 e5_236 (show (Int32.ofInt 1).toInt = 1 by decide) (by omega)
                            refine g_goto X (tgt := 236) dX7_findTable_286 (by decide) ?_
                            refine g_sub [0, 1, 2, 3, 4, 5] rfl ?_
                            exact ih236 zq152 _ tq154 (ui M_236 73 (((625 * (b2_8 + (-1))) + b5_236).toNat) rq146) (by omega) (PAI_step j2 j1.1 (by omega) rfl (by rw [j3]) kb (fun z => by unfold capI; split <;> omega)) (by rw [ui_cell (k := 73) (a := 76) (by decide)]; exact j3) (by rw [ui_cell (k := 73) (a := 72) (by decide)]; exact j4) (by rw [ui_cell (k := 73) (a := 71) (by decide)]; exact j5) Iq150 frq151 (by omega)
                      refine g_sub [0, 1, 2, 3, 4, 5] rfl ?_
                      exact lp236 _ 0 _ (show (0 : Int32).toInt = 0 by decide) M_8 (by omega) PAI_0 rfl rfl i4 I_8 fr_8 (Nat.lt_succ_self _)
                    · obtain ⟨A, B, hd1, hA1, hU1, hB1, hK⟩ := RFT_cl hn hV i3 ⟨i1.1, by omega⟩ htx9 (by omega)
                      refine g_aload_n X 3 rfl dX7_findTable_210 ?_
                      refine g_iload X 1 rfl dX7_findTable_211 ?_
                      refine g_bipush X 93 dX7_findTable_213 (by decide) ?_
                      refine g_icmp_ne X rfl (show (93 : Int32).toInt = 93 by decide) (tgt := 222) dX7_findTable_215 (by decide) (fun cq155 => ?_) (fun cq155 => ?_)
                      · refine g_aload_n X 3 rfl dX7_findTable_222 ?_
                        refine g_geti X f_X7_61 dX7_findTable_223 (x := M_8.1 47 24) rfl ?_
                        have bq156 := ig_47_24 I_8
                        refine g_iload_n X 0 rfl dX7_findTable_226 ?_
                        refine g_callV X m_X7_306 (c_X7_closes_R (A := A) (B := B) ad M_8 (M_8.1 47 24) rfl zq107 tq109 I_8 (by omega) (by omega) (by rw [q44]; exact hA1) (by rw [q44, show (b2_8 + -1).toNat = (b2_8 - 1).toNat by omega]; exact hB1)) rfl (by decide) (Nat.le_of_ble_eq_true rfl) rfl dX7_findTable_227 ?_
                        rintro _ Mq162 ⟨rfl, hq160, hq161, Iq163, frq164⟩
                        have frq165 : Fr W_X7_findTable_R Mq Mq162 := fr_8.trans frq164 rfl
                        have trq166 : (Mq162.1 47 44).toInt = (M_8.1 47 44).toInt := congrArg Int32.toInt (frq164.at 47 44 rfl)
                        have hq1 := (hq161).1
                        have hq2 := (hq161).2
                        rw [q44] at hq1
                        rw [show (b2_8 + -1).toNat = (b2_8 - 1).toNat by omega] at hq2
                        have i4n : Mq162.1 71 = Mq.1 71 := by rw [row_fr frq164 (c := 71) (by decide)]; exact i4
                        have hG : RFT Mq162 ((Mq.1 47 44).toInt).toNat p (txt Mq a1.toNat) (b3_8 + 1) (b2_8 + -1) := by rw [show b2_8 + -1 = b2_8 - 1 by omega]; exact hK Mq162 _ (row_fr frq164 (by decide)) (fun c hc => hq2 c (by omega)) hq1 (fun S => by first | (rw [mcS_93 (by omega)]; exact congrArg (fun T => mM B T :: S) (mQ_1 hU1).symm) | (rw [mcS_125 (by omega), mH_Q, q24]))
                        show G Γ Mq162 230 [(2, .int zq107), (4, .int (M_8.1 61 (((60 * a1) + b3_8).toNat))), (3, .int y3_8), (0, .ref (ad 47)), (1, .int x1)] []
                        refine g_goto X (tgt := 294) dX7_findTable_230 (by decide) ?_
                        refine g_iinc X 2 (fun v => [(3, .int v), (2, .int zq107), (4, .int (M_8.1 61 (((60 * a1) + b3_8).toNat))), (0, .ref (ad 47)), (1, .int x1)]) dX7_findTable_294 rfl (by decide) (fun _ => rfl) (fun zq167 eq168 => ?_)
                        have tq169 : zq167.toInt = b3_8 + 1 := add_nw eq168 e3_8 (show (Int32.ofInt 1).toInt = 1 by decide) (by omega)
                        refine g_goto X (tgt := 8) dX7_findTable_297 (by decide) ?_
                        refine g_sub [0, 1, 3, 4] rfl ?_
                        exact ih8 zq167 _ tq169 zq107 _ tq109 Mq162 (by omega) hG i4n Iq163 frq165 (by omega)
                      · refine g_iconst X 1 dX7_findTable_218 (by decide) ?_
                        refine g_goto X (tgt := 226) dX7_findTable_219 (by decide) ?_
                        refine g_iload_n X 0 rfl dX7_findTable_226 ?_
                        refine g_callV X m_X7_306 (c_X7_closes_R (A := A) (B := B) ad M_8 1 (show (1 : Int32).toInt = 1 by decide) zq107 tq109 I_8 (by omega) (by omega) (by rw [q44]; exact hA1) (by rw [q44, show (b2_8 + -1).toNat = (b2_8 - 1).toNat by omega]; exact hB1)) rfl (by decide) (Nat.le_of_ble_eq_true rfl) rfl dX7_findTable_227 ?_
                        rintro _ Mq175 ⟨rfl, hq173, hq174, Iq176, frq177⟩
                        have frq178 : Fr W_X7_findTable_R Mq Mq175 := fr_8.trans frq177 rfl
                        have trq179 : (Mq175.1 47 44).toInt = (M_8.1 47 44).toInt := congrArg Int32.toInt (frq177.at 47 44 rfl)
                        have hq1 := (hq174).1
                        have hq2 := (hq174).2
                        rw [q44] at hq1
                        rw [show (b2_8 + -1).toNat = (b2_8 - 1).toNat by omega] at hq2
                        have i4n : Mq175.1 71 = Mq.1 71 := by rw [row_fr frq177 (c := 71) (by decide)]; exact i4
                        have hG : RFT Mq175 ((Mq.1 47 44).toInt).toNat p (txt Mq a1.toNat) (b3_8 + 1) (b2_8 + -1) := by rw [show b2_8 + -1 = b2_8 - 1 by omega]; exact hK Mq175 _ (row_fr frq177 (by decide)) (fun c hc => hq2 c (by omega)) hq1 (fun S => by first | (rw [mcS_93 (by omega)]; exact congrArg (fun T => mM B T :: S) (mQ_1 hU1).symm) | (rw [mcS_125 (by omega), mH_Q, q24]))
                        show G Γ Mq175 230 [(2, .int zq107), (4, .int (M_8.1 61 (((60 * a1) + b3_8).toNat))), (3, .int y3_8), (0, .ref (ad 47)), (1, .int x1)] []
                        refine g_goto X (tgt := 294) dX7_findTable_230 (by decide) ?_
                        refine g_iinc X 2 (fun v => [(3, .int v), (2, .int zq107), (4, .int (M_8.1 61 (((60 * a1) + b3_8).toNat))), (0, .ref (ad 47)), (1, .int x1)]) dX7_findTable_294 rfl (by decide) (fun _ => rfl) (fun zq180 eq181 => ?_)
                        have tq182 : zq180.toInt = b3_8 + 1 := add_nw eq181 e3_8 (show (Int32.ofInt 1).toInt = 1 by decide) (by omega)
                        refine g_goto X (tgt := 8) dX7_findTable_297 (by decide) ?_
                        refine g_sub [0, 1, 3, 4] rfl ?_
                        exact ih8 zq180 _ tq182 zq107 _ tq109 Mq175 (by omega) hG i4n Iq176 frq178 (by omega)
                  · obtain ⟨A, hd1, hA1, hK⟩ := RFT_bar hn hV i3 ⟨i1.1, by omega⟩ htx9 (by omega)
                    refine g_iconst X 0 dX7_findTable_154 (by decide) ?_
                    refine g_istore X [(5, .int 0), (4, .int (M_8.1 61 (((60 * a1) + b3_8).toNat))), (3, .int y3_8), (2, .int y2_8), (0, .ref (ad 47)), (1, .int x1)] dX7_findTable_155 (by decide) rfl ?_
                    have lp157 : ∀ n : Nat, ∀ (y5_157 : Int32) (b5_157 : Int), y5_157.toInt = b5_157 → ∀ (M_157 : Mem), (0 ≤ b5_157 ∧ b5_157 ≤ 625) → (∀ d : Nat, (d : Int) < b5_157 → M_157.1 73 (625 * (b2_8 - 1).toNat + d) = M_8.1 76 d) → (∀ c, c < 625 * (b2_8 - 1).toNat → M_157.1 73 c = M_8.1 73 c) → (M_157.1 76 = M_8.1 76) → (M_157.1 72 = M_8.1 72) → (M_157.1 71 = Mq.1 71) → (Iv TM M_157) → (Fr W_X7_findTable_R Mq M_157) → (625 - b5_157).toNat < n → G Γ M_157 157 [(5, .int y5_157), (4, .int (M_8.1 61 (((60 * a1) + b3_8).toNat))), (3, .int y3_8), (2, .int y2_8), (0, .ref (ad 47)), (1, .int x1)] [] := by
                      intro n
                      induction n with
                      | zero => intro y5_157 b5_157 e5_157 M_157 j1 j2 j3 j4 j5 j6 I_157 fr_157 hm; exact absurd hm (Nat.not_lt_zero _)
                      | succ n ih157 =>
                        intro y5_157 b5_157 e5_157 M_157 j1 j2 j3 j4 j5 j6 I_157 fr_157 hm157
                        have trq183 : (M_157.1 47 44).toInt = (Mq.1 47 44).toInt := congrArg Int32.toInt (fr_157.at 47 44 rfl)
                        have v44 : (M_157.1 47 44).toInt = (Mq.1 47 44).toInt := congrArg Int32.toInt (fr_157.at 47 44 rfl)
                        refine g_iload X 0 rfl dX7_findTable_157 ?_
                        refine g_sipush X 625 dX7_findTable_159 (by decide) ?_
                        refine g_icmp_ge X e5_157 (show (625 : Int32).toInt = 625 by decide) (tgt := 193) dX7_findTable_162 (by decide) (fun cq184 => ?_) (fun cq184 => ?_)
                        · refine g_aload_n X 4 rfl dX7_findTable_193 ?_
                          refine g_callV X m_X7_292 (c_X7_begins_R ad M_157 I_157) rfl (by decide) (Nat.le_of_ble_eq_true rfl) rfl dX7_findTable_194 ?_
                          rintro _ Mq190 ⟨rfl, hq188, hq189, Iq191, frq192⟩
                          have frq193 : Fr W_X7_findTable_R Mq Mq190 := fr_157.trans frq192 rfl
                          have trq194 : (Mq190.1 47 44).toInt = (M_157.1 47 44).toInt := congrArg Int32.toInt (frq192.at 47 44 rfl)
                          have hq1 := hq189
                          rw [v44] at hq1
                          have i4n : Mq190.1 71 = Mq.1 71 := by rw [row_fr frq192 (c := 71) (by decide)]; exact j6
                          have hG : RFT Mq190 ((Mq.1 47 44).toInt).toNat p (txt Mq a1.toNat) (b3_8 + 1) b2_8 := hK Mq190 (by rw [row_fr frq192 (c := 72) (by decide)]; exact j5) (fun c hc => by rw [row_fr frq192 (c := 73) (by decide)]; exact j3 c hc) (by rw [row_fr frq192 (c := 73) (by decide)]; exact MR_cp hn j2 (by omega) (MR_z hA1)) hq1
                          show G Γ Mq190 197 [(5, .int y5_157), (4, .int (M_8.1 61 (((60 * a1) + b3_8).toNat))), (3, .int y3_8), (2, .int y2_8), (0, .ref (ad 47)), (1, .int x1)] []
                          refine g_goto X (tgt := 294) dX7_findTable_197 (by decide) ?_
                          refine g_iinc X 2 (fun v => [(3, .int v), (5, .int y5_157), (4, .int (M_8.1 61 (((60 * a1) + b3_8).toNat))), (2, .int y2_8), (0, .ref (ad 47)), (1, .int x1)]) dX7_findTable_294 rfl (by decide) (fun _ => rfl) (fun zq195 eq196 => ?_)
                          have tq197 : zq195.toInt = b3_8 + 1 := add_nw eq196 e3_8 (show (Int32.ofInt 1).toInt = 1 by decide) (by omega)
                          refine g_goto X (tgt := 8) dX7_findTable_297 (by decide) ?_
                          refine g_sub [0, 3, 4, 5] rfl ?_
                          exact ih8 zq195 _ tq197 y2_8 _ e2_8 Mq190 (by omega) hG i4n Iq191 frq193 (by omega)
                        · refine g_aload_n X 4 rfl dX7_findTable_165 ?_
                          refine g_getr X f_X7_89 dX7_findTable_166 ?_
                          refine g_sipush X 625 dX7_findTable_169 (by decide) ?_
                          refine g_iload_n X 3 rfl dX7_findTable_172 ?_
                          refine g_iconst X 1 dX7_findTable_173 (by decide) ?_
                          refine g_isub X dX7_findTable_174 (fun zq198 eq199 => ?_)
                          have tq200 : zq198.toInt = b2_8 - 1 := sub_nw eq199 e2_8 (show (1 : Int32).toInt = 1 by decide) (by omega)
                          refine g_imul X dX7_findTable_175 (fun zq201 eq202 => ?_)
                          have tq203 : zq201.toInt = 625 * (b2_8 - 1) := mul_nw eq202 (show (625 : Int32).toInt = 625 by decide) tq200 (by omega)
                          refine g_iload X 0 rfl dX7_findTable_176 ?_
                          refine g_iadd X dX7_findTable_178 (fun zq204 eq205 => ?_)
                          have tq206 : zq204.toInt = (625 * (b2_8 - 1)) + b5_157 := add_nw eq205 tq203 e5_157 (by omega)
                          refine g_aload_n X 4 rfl dX7_findTable_179 ?_
                          refine g_getr X f_X7_98 dX7_findTable_180 ?_
                          refine g_iload X 0 rfl dX7_findTable_183 ?_
                          refine g_iald X la_76 e5_157 dX7_findTable_185 (by omega) (x := M_157.1 76 b5_157.toNat) rfl ?_
                          refine g_iast X la_73 tq206 dX7_findTable_186 (by omega) ?_
                          have Iq207 : Iv TM (ui M_157 73 (((625 * (b2_8 - 1)) + b5_157).toNat) (M_157.1 76 b5_157.toNat)) := I_157.otherA rfl
                          have frq208 : Fr W_X7_findTable_R Mq (ui M_157 73 (((625 * (b2_8 - 1)) + b5_157).toNat) (M_157.1 76 b5_157.toNat)) := fr_157.ui rfl
                          refine g_iinc X 0 (fun v => [(5, .int v), (4, .int (M_8.1 61 (((60 * a1) + b3_8).toNat))), (3, .int y3_8), (2, .int y2_8), (0, .ref (ad 47)), (1, .int x1)]) dX7_findTable_187 rfl (by decide) (fun _ => rfl) (fun zq209 eq210 => ?_)
                          have tq211 : zq209.toInt = b5_157 + 1 := add_nw eq210 e5_157 (show (Int32.ofInt 1).toInt = 1 by decide) (by omega)
                          refine g_goto X (tgt := 157) dX7_findTable_190 (by decide) ?_
                          refine g_sub [0, 1, 2, 3, 4, 5] rfl ?_
                          exact ih157 zq209 _ tq211 (ui M_157 73 (((625 * (b2_8 - 1)) + b5_157).toNat) (M_157.1 76 b5_157.toNat)) (by omega) (cpo_step j2 j1.1 (by omega) (by rw [j4])) (fun c hc => by rw [ui_nj (by omega)]; exact j3 c hc) (by rw [ui_cell (k := 73) (a := 76) (by decide)]; exact j4) (by rw [ui_cell (k := 73) (a := 72) (by decide)]; exact j5) (by rw [ui_cell (k := 73) (a := 71) (by decide)]; exact j6) Iq207 frq208 (by omega)
                    refine g_sub [0, 1, 2, 3, 4, 5] rfl ?_
                    exact lp157 _ 0 _ (show (0 : Int32).toInt = 0 by decide) M_8 (by omega) (fun d hd => absurd hd (by omega)) (fun _ _ => rfl) rfl rfl i4 I_8 fr_8 (Nat.lt_succ_self _)
                · obtain ⟨A, hA1, hK⟩ := RFT_op hn hV i3 ⟨i1.1, by omega⟩ htx9 (by omega)
                  refine g_iconst X 0 dX7_findTable_100 (by decide) ?_
                  refine g_istore X [(5, .int 0), (4, .int (M_8.1 61 (((60 * a1) + b3_8).toNat))), (3, .int y3_8), (2, .int y2_8), (0, .ref (ad 47)), (1, .int x1)] dX7_findTable_101 (by decide) rfl ?_
                  have lp103 : ∀ n : Nat, ∀ (y5_103 : Int32) (b5_103 : Int), y5_103.toInt = b5_103 → ∀ (M_103 : Mem), (0 ≤ b5_103 ∧ b5_103 ≤ 625) → (∀ d : Nat, (d : Int) < b5_103 → M_103.1 72 (625 * (b2_8).toNat + d) = M_8.1 76 d) → (∀ c, c < 625 * (b2_8).toNat → M_103.1 72 c = M_8.1 72 c) → (M_103.1 76 = M_8.1 76) → (M_103.1 73 = M_8.1 73) → (M_103.1 71 = Mq.1 71) → (Iv TM M_103) → (Fr W_X7_findTable_R Mq M_103) → (625 - b5_103).toNat < n → G Γ M_103 103 [(5, .int y5_103), (4, .int (M_8.1 61 (((60 * a1) + b3_8).toNat))), (3, .int y3_8), (2, .int y2_8), (0, .ref (ad 47)), (1, .int x1)] [] := by
                    intro n
                    induction n with
                    | zero => intro y5_103 b5_103 e5_103 M_103 j1 j2 j3 j4 j5 j6 I_103 fr_103 hm; exact absurd hm (Nat.not_lt_zero _)
                    | succ n ih103 =>
                      intro y5_103 b5_103 e5_103 M_103 j1 j2 j3 j4 j5 j6 I_103 fr_103 hm103
                      have trq212 : (M_103.1 47 44).toInt = (Mq.1 47 44).toInt := congrArg Int32.toInt (fr_103.at 47 44 rfl)
                      have v44 : (M_103.1 47 44).toInt = (Mq.1 47 44).toInt := congrArg Int32.toInt (fr_103.at 47 44 rfl)
                      refine g_iload X 0 rfl dX7_findTable_103 ?_
                      refine g_sipush X 625 dX7_findTable_105 (by decide) ?_
                      refine g_icmp_ge X e5_103 (show (625 : Int32).toInt = 625 by decide) (tgt := 137) dX7_findTable_108 (by decide) (fun cq213 => ?_) (fun cq213 => ?_)
                      · refine g_iinc X 3 (fun v => [(2, .int v), (5, .int y5_103), (4, .int (M_8.1 61 (((60 * a1) + b3_8).toNat))), (3, .int y3_8), (0, .ref (ad 47)), (1, .int x1)]) dX7_findTable_137 rfl (by decide) (fun _ => rfl) (fun zq214 eq215 => ?_)
                        have tq216 : zq214.toInt = b2_8 + 1 := add_nw eq215 e2_8 (show (Int32.ofInt 1).toInt = 1 by decide) (by omega)
                        refine g_aload_n X 4 rfl dX7_findTable_140 ?_
                        refine g_callV X m_X7_292 (c_X7_begins_R ad M_103 I_103) rfl (by decide) (Nat.le_of_ble_eq_true rfl) rfl dX7_findTable_141 ?_
                        rintro _ Mq222 ⟨rfl, hq220, hq221, Iq223, frq224⟩
                        have frq225 : Fr W_X7_findTable_R Mq Mq222 := fr_103.trans frq224 rfl
                        have trq226 : (Mq222.1 47 44).toInt = (M_103.1 47 44).toInt := congrArg Int32.toInt (frq224.at 47 44 rfl)
                        have hq1 := hq221
                        rw [v44] at hq1
                        have i4n : Mq222.1 71 = Mq.1 71 := by rw [row_fr frq224 (c := 71) (by decide)]; exact j6
                        have hG : RFT Mq222 ((Mq.1 47 44).toInt).toNat p (txt Mq a1.toNat) (b3_8 + 1) (b2_8 + 1) := hK Mq222 (fun c hc => by rw [row_fr frq224 (c := 72) (by decide)]; exact j3 c hc) (by rw [row_fr frq224 (c := 73) (by decide)]; exact j5) (by rw [row_fr frq224 (c := 72) (by decide)]; exact MR_cp hn j2 (by omega) (MR_z hA1)) hq1
                        show G Γ Mq222 144 [(2, .int zq214), (5, .int y5_103), (4, .int (M_8.1 61 (((60 * a1) + b3_8).toNat))), (3, .int y3_8), (0, .ref (ad 47)), (1, .int x1)] []
                        refine g_goto X (tgt := 294) dX7_findTable_144 (by decide) ?_
                        refine g_iinc X 3 (fun v => [(3, .int v), (2, .int zq214), (5, .int y5_103), (4, .int (M_8.1 61 (((60 * a1) + b3_8).toNat))), (0, .ref (ad 47)), (1, .int x1)]) dX7_findTable_294 rfl (by decide) (fun _ => rfl) (fun zq227 eq228 => ?_)
                        have tq229 : zq227.toInt = b3_8 + 1 := add_nw eq228 e3_8 (show (Int32.ofInt 1).toInt = 1 by decide) (by omega)
                        refine g_goto X (tgt := 8) dX7_findTable_297 (by decide) ?_
                        refine g_sub [0, 1, 4, 5] rfl ?_
                        exact ih8 zq227 _ tq229 zq214 _ tq216 Mq222 (by omega) hG i4n Iq223 frq225 (by omega)
                      · refine g_aload_n X 4 rfl dX7_findTable_111 ?_
                        refine g_getr X f_X7_86 dX7_findTable_112 ?_
                        refine g_sipush X 625 dX7_findTable_115 (by decide) ?_
                        refine g_iload_n X 3 rfl dX7_findTable_118 ?_
                        refine g_imul X dX7_findTable_119 (fun zq230 eq231 => ?_)
                        have tq232 : zq230.toInt = 625 * b2_8 := mul_nw eq231 (show (625 : Int32).toInt = 625 by decide) e2_8 (by omega)
                        refine g_iload X 0 rfl dX7_findTable_120 ?_
                        refine g_iadd X dX7_findTable_122 (fun zq233 eq234 => ?_)
                        have tq235 : zq233.toInt = (625 * b2_8) + b5_103 := add_nw eq234 tq232 e5_103 (by omega)
                        refine g_aload_n X 4 rfl dX7_findTable_123 ?_
                        refine g_getr X f_X7_98 dX7_findTable_124 ?_
                        refine g_iload X 0 rfl dX7_findTable_127 ?_
                        refine g_iald X la_76 e5_103 dX7_findTable_129 (by omega) (x := M_103.1 76 b5_103.toNat) rfl ?_
                        refine g_iast X la_72 tq235 dX7_findTable_130 (by omega) ?_
                        have Iq236 : Iv TM (ui M_103 72 (((625 * b2_8) + b5_103).toNat) (M_103.1 76 b5_103.toNat)) := I_103.otherA rfl
                        have frq237 : Fr W_X7_findTable_R Mq (ui M_103 72 (((625 * b2_8) + b5_103).toNat) (M_103.1 76 b5_103.toNat)) := fr_103.ui rfl
                        refine g_iinc X 0 (fun v => [(5, .int v), (4, .int (M_8.1 61 (((60 * a1) + b3_8).toNat))), (3, .int y3_8), (2, .int y2_8), (0, .ref (ad 47)), (1, .int x1)]) dX7_findTable_131 rfl (by decide) (fun _ => rfl) (fun zq238 eq239 => ?_)
                        have tq240 : zq238.toInt = b5_103 + 1 := add_nw eq239 e5_103 (show (Int32.ofInt 1).toInt = 1 by decide) (by omega)
                        refine g_goto X (tgt := 103) dX7_findTable_134 (by decide) ?_
                        refine g_sub [0, 1, 2, 3, 4, 5] rfl ?_
                        exact ih103 zq238 _ tq240 (ui M_103 72 (((625 * b2_8) + b5_103).toNat) (M_103.1 76 b5_103.toNat)) (by omega) (cpo_step j2 j1.1 (by omega) (by rw [j4])) (fun c hc => by rw [ui_nj (by omega)]; exact j3 c hc) (by rw [ui_cell (k := 72) (a := 76) (by decide)]; exact j4) (by rw [ui_cell (k := 72) (a := 73) (by decide)]; exact j5) (by rw [ui_cell (k := 72) (a := 71) (by decide)]; exact j6) Iq236 frq237 (by omega)
                  refine g_sub [0, 1, 2, 3, 4, 5] rfl ?_
                  exact lp103 _ 0 _ (show (0 : Int32).toInt = 0 by decide) M_8 (by omega) (fun d hd => absurd hd (by omega)) (fun _ _ => rfl) rfl rfl i4 I_8 fr_8 (Nat.lt_succ_self _)
          · have pq241 : (65 ≤ ((M_8.1 61 (((60 * a1) + b3_8).toNat)).toInt) ∧ ((M_8.1 61 (((60 * a1) + b3_8).toNat)).toInt) ≤ 72) := by first | omega | (rcases hq42 with ⟨z1, z2⟩ | ⟨z1, z2⟩ <;> first | exact z2 | (exfalso; omega))
            obtain ⟨A, hA1, hU1, hK⟩ := RFT_let hV i3 ⟨i1.1, by omega⟩ htx9 (by omega)
            refine g_aload_n X 3 rfl dX7_findTable_59 ?_
            refine g_aload_n X 3 rfl dX7_findTable_60 ?_
            refine g_getr X f_X7_83 dX7_findTable_61 ?_
            refine g_sipush X 625 dX7_findTable_64 (by decide) ?_
            refine g_iload X 0 rfl dX7_findTable_67 ?_
            refine g_bipush X 65 dX7_findTable_69 (by decide) ?_
            refine g_isub X dX7_findTable_71 (fun zq242 eq243 => ?_)
            have tq244 : zq242.toInt = ((M_8.1 61 (((60 * a1) + b3_8).toNat)).toInt) - 65 := sub_nw eq243 rfl (show (65 : Int32).toInt = 65 by decide) (by omega)
            refine g_imul X dX7_findTable_72 (fun zq245 eq246 => ?_)
            have tq247 : zq245.toInt = 625 * (((M_8.1 61 (((60 * a1) + b3_8).toNat)).toInt) - 65) := mul_nw eq246 (show (625 : Int32).toInt = 625 by decide) tq244 (by omega)
            refine g_callV X m_X7_295 (c_X7_times_71_R (A := A) (B := p.2.1 (b4q - 65).toNat) ad M_8 zq245 tq247 I_8 (by omega) (by rw [q44]; exact hA1) (by rw [q44, i4, ← hb4, show (625 * (b4q - 65)).toNat = 625 * (b4q - 65).toNat by omega]; exact hT _ b3_8.toNat (by omega) (by omega) (by rw [htx9]; omega))) rfl (by decide) (Nat.le_of_ble_eq_true rfl) rfl dX7_findTable_73 ?_
            rintro _ Mq253 ⟨rfl, hq251, hq252, Iq254, frq255⟩
            have frq256 : Fr W_X7_findTable_R Mq Mq253 := fr_8.trans frq255 rfl
            have trq257 : (Mq253.1 47 44).toInt = (M_8.1 47 44).toInt := congrArg Int32.toInt (frq255.at 47 44 rfl)
            have hq1 := hq252
            rw [q44] at hq1
            have i4n : Mq253.1 71 = Mq.1 71 := by rw [row_fr frq255 (c := 71) (by decide)]; exact i4
            have hG : RFT Mq253 ((Mq.1 47 44).toInt).toNat p (txt Mq a1.toNat) (b3_8 + 1) b2_8 := hK _ _ (row_fr frq255 (by decide)) (row_fr frq255 (by decide)) hq1 (fun S => by rw [hb4]; exact mcS_sc (by omega))
            show G Γ Mq253 76 [(4, .int (M_8.1 61 (((60 * a1) + b3_8).toNat))), (3, .int y3_8), (2, .int y2_8), (0, .ref (ad 47)), (1, .int x1)] []
            refine g_goto X (tgt := 294) dX7_findTable_76 (by decide) ?_
            refine g_iinc X 1 (fun v => [(3, .int v), (4, .int (M_8.1 61 (((60 * a1) + b3_8).toNat))), (2, .int y2_8), (0, .ref (ad 47)), (1, .int x1)]) dX7_findTable_294 rfl (by decide) (fun _ => rfl) (fun zq258 eq259 => ?_)
            have tq260 : zq258.toInt = b3_8 + 1 := add_nw eq259 e3_8 (show (Int32.ofInt 1).toInt = 1 by decide) (by omega)
            refine g_goto X (tgt := 8) dX7_findTable_297 (by decide) ?_
            refine g_sub [0, 2, 3, 4] rfl ?_
            exact ih8 zq258 _ tq260 y2_8 _ e2_8 Mq253 (by omega) hG i4n Iq254 frq256 (by omega)
        · have pq261 : (97 ≤ ((M_8.1 61 (((60 * a1) + b3_8).toNat)).toInt) ∧ ((M_8.1 61 (((60 * a1) + b3_8).toNat)).toInt) ≤ 104) := by first | omega | (rcases hq36 with ⟨z1, z2⟩ | ⟨z1, z2⟩ <;> first | exact z2 | (exfalso; omega))
          obtain ⟨A, hA1, hU1, hK⟩ := RFT_let hV i3 ⟨i1.1, by omega⟩ htx9 (by omega)
          refine g_aload_n X 3 rfl dX7_findTable_39 ?_
          refine g_iload X 0 rfl dX7_findTable_40 ?_
          refine g_bipush X 97 dX7_findTable_42 (by decide) ?_
          refine g_isub X dX7_findTable_44 (fun zq262 eq263 => ?_)
          have tq264 : zq262.toInt = ((M_8.1 61 (((60 * a1) + b3_8).toNat)).toInt) - 97 := sub_nw eq263 rfl (show (97 : Int32).toInt = 97 by decide) (by omega)
          refine g_callV X m_X7_303 (c_X7_takesSlot_R (A := A) (w := p.1 (b4q - 97).toNat) ad M_8 zq262 tq264 I_8 (by rw [q44]; exact hA1) hU1 (fun j hj => by have z := hwt (b4q - 97).toNat j (by omega) (by omega); rw [wtR_fr fr_8 (by decide), fr_8.at 78 _ rfl, ← hb4]; rw [show (((b4q - 97).toNat : Nat) : Int) = b4q - 97 by omega] at z; exact z)) rfl (by decide) (Nat.le_of_ble_eq_true rfl) rfl dX7_findTable_45 ?_
          rintro _ Mq270 ⟨rfl, hq268, hq269, Iq271, frq272⟩
          have frq273 : Fr W_X7_findTable_R Mq Mq270 := fr_8.trans frq272 rfl
          have trq274 : (Mq270.1 47 44).toInt = (M_8.1 47 44).toInt := congrArg Int32.toInt (frq272.at 47 44 rfl)
          have hq1 := hq269
          rw [q44] at hq1
          have i4n : Mq270.1 71 = Mq.1 71 := by rw [row_fr frq272 (c := 71) (by decide)]; exact i4
          have hG : RFT Mq270 ((Mq.1 47 44).toInt).toNat p (txt Mq a1.toNat) (b3_8 + 1) b2_8 := hK _ _ (row_fr frq272 (by decide)) (row_fr frq272 (by decide)) hq1 (fun S => by rw [hb4]; exact mcS_sl (by omega))
          show G Γ Mq270 48 [(4, .int (M_8.1 61 (((60 * a1) + b3_8).toNat))), (3, .int y3_8), (2, .int y2_8), (0, .ref (ad 47)), (1, .int x1)] []
          refine g_goto X (tgt := 294) dX7_findTable_48 (by decide) ?_
          refine g_iinc X 1 (fun v => [(3, .int v), (4, .int (M_8.1 61 (((60 * a1) + b3_8).toNat))), (2, .int y2_8), (0, .ref (ad 47)), (1, .int x1)]) dX7_findTable_294 rfl (by decide) (fun _ => rfl) (fun zq275 eq276 => ?_)
          have tq277 : zq275.toInt = b3_8 + 1 := add_nw eq276 e3_8 (show (Int32.ofInt 1).toInt = 1 by decide) (by omega)
          refine g_goto X (tgt := 8) dX7_findTable_297 (by decide) ?_
          refine g_sub [0, 2, 3, 4] rfl ?_
          exact ih8 zq275 _ tq277 y2_8 _ e2_8 Mq270 (by omega) hG i4n Iq271 frq273 (by omega)
  refine g_sub [0, 1, 2, 3] rfl ?_
  exact lp8 _ 0 _ (show (0 : Int32).toInt = 0 by decide) 0 _ (show (0 : Int32).toInt = 0 by decide) Mq6 (by omega) (RFT_0 hb0) hb1 Iq7 frq9 (Nat.lt_succ_self _)
end
