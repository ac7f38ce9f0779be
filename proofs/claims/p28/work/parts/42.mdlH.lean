section
abbrev W_X7_scene : List (Nat × Nat) := [(47, 20), (47, 21), (47, 22), (47, 23), (47, 25), (61, 99), (62, 99), (63, 99), (64, 99)]
set_option maxHeartbeats 4000000 in
set_option maxRecDepth 4000 in
theorem c_X7_scene (ad : Nat → Nat) (Mq : Mem) (Iq0 : Iv TM Mq) (hn : 0 ≤ (Mq.1 47 23).toInt ∧ (Mq.1 47 23).toInt ≤ 900000) (cy0 : WFM Mq) (cy1 : WFT Mq) : Ctr ad yX7_scene cX7_scene 5 (some .int) 3 [.ref (ad 47)] Mq (fun v M' => ∃ (r : Int32) (a : Int), v = some (.int r) ∧ r.toInt = a ∧ (True) ∧ (WFM M' ∧ WFT M' ∧ (M'.1 47 20).toInt = 0 ∧ (Mq.1 47 23).toInt ≤ (M'.1 47 23).toInt ∧ (M'.1 47 23).toInt ≤ (Mq.1 47 23).toInt + 1) ∧ Iv TM M' ∧ Fr W_X7_scene Mq M') := by
  refine ctr_of (L := [(0, .ref (ad 47))]) (by decide) (Nat.le_of_ble_eq_true rfl) rfl ?_
  intro Γ X
  have X : gX Γ cX7_scene RX7 5 (some .int) 3 ad _ := X
  have frq0 : Fr W_X7_scene Mq Mq := Fr.rf
  have g20 := ig_47_20 Iq0
  have g21 := ig_47_21 Iq0
  have g22 := ig_47_22 Iq0
  refine g_aload_n X 0 rfl dX7_scene_0 ?_
  refine g_iconst X 0 dX7_scene_1 (by decide) ?_
  refine g_puti X p_X7_204 dX7_scene_2 ?_
  have ltq1 : (0 : Int32).toInt = 0 := by decide
  have Iq2 : Iv TM (ui Mq 47 21 0) := Iq0.put 0 60 (show (0 : Int32).toInt = 0 by decide) (by omega) rfl
  have frq3 : Fr W_X7_scene Mq (ui Mq 47 21 0) := frq0.ui rfl
  have cyq4 : WFM (ui Mq 47 21 0) := WFM_fr cy0 (Fr.ui (W := [(47, 21)]) Fr.rf rfl) rfl
  have cyq5 : WFT (ui Mq 47 21 0) := WFT_fr cy1 (Fr.ui (W := [(47, 21)]) Fr.rf rfl) rfl
  refine g_aload_n X 0 rfl dX7_scene_5 ?_
  refine g_iconst X (-1) dX7_scene_6 (by decide) ?_
  refine g_puti X p_X7_223 dX7_scene_7 ?_
  have ltq6 : ((-1) : Int32).toInt = (-1) := by decide
  have Iq7 : Iv TM (ui (ui Mq 47 21 0) 47 25 (-1)) := Iq2.other rfl
  have frq8 : Fr W_X7_scene Mq (ui (ui Mq 47 21 0) 47 25 (-1)) := frq3.ui rfl
  have cyq9 : WFM (ui (ui Mq 47 21 0) 47 25 (-1)) := WFM_fr cyq4 (Fr.ui (W := [(47, 25)]) Fr.rf rfl) rfl
  have cyq10 : WFT (ui (ui Mq 47 21 0) 47 25 (-1)) := WFT_fr cyq5 (Fr.ui (W := [(47, 25)]) Fr.rf rfl) rfl
  refine g_aload_n X 0 rfl dX7_scene_10 ?_
  refine g_callV X m_X7_210 (c_X7_sign ad (ui (ui Mq 47 21 0) 47 25 (-1)) Iq7) rfl (by decide) (Nat.le_of_ble_eq_true rfl) rfl dX7_scene_11 ?_
  rintro _ _ ⟨rq11, aq12, rfl, tq13, hq14, rfl⟩
  have hq15 : (((0 : Int32)).toInt < ((Mq.1 47 20)).toInt ∧ aq12 = (Mq.1 60 (((0 : Int32)).toInt).toNat).toInt ∧ 0 ≤ aq12 ∧ aq12 ≤ 255) ∨ (((Mq.1 47 20)).toInt ≤ ((0 : Int32)).toInt ∧ aq12 = -1) := hq14
  clear hq14
  show G Γ (ui (ui Mq 47 21 0) 47 25 (-1)) 14 [(0, .ref (ad 47))] [.int rq11]
  refine g_bipush X 65 dX7_scene_14 (by decide) ?_
  refine g_isub X dX7_scene_16 (fun zq16 eq17 => ?_)
  have tq18 : zq16.toInt = aq12 - 65 := sub_nw eq17 tq13 (show (65 : Int32).toInt = 65 by decide) (by omega)
  refine g_istore_n X (i := 1) [(1, .int zq16), (0, .ref (ad 47))] dX7_scene_17 rfl (by decide) rfl ?_
  refine g_iload_n X 0 rfl dX7_scene_18 ?_
  refine g_i2l X dX7_scene_19 (fun zq19 eq20 => ?_)
  have tq21 : zq19.toInt = aq12 - 65 := i2l_nw eq20 tq18
  refine g_lconst X 0 dX7_scene_20 (by decide) ?_
  refine g_ldc2 X k_X7_167 dX7_scene_21 ?_
  refine g_callS X m_X7_152 (c_X7_isIn ad (ui (ui Mq 47 21 0) 47 25 (-1)) zq19 tq21 0 (show (0 : Int64).toInt = 0 by decide) 7 (show (7 : Int64).toInt = 7 by decide)) rfl (by decide) (Nat.le_of_ble_eq_true rfl) rfl dX7_scene_24 ?_
  rintro _ _ ⟨rq22, aq23, rfl, tq24, hq25, rfl⟩
  show G Γ (ui (ui Mq 47 21 0) 47 25 (-1)) 27 [(1, .int zq16), (0, .ref (ad 47))] [.int rq22]
  refine g_istore_n X (i := 2) [(2, .int rq22), (1, .int zq16), (0, .ref (ad 47))] dX7_scene_27 rfl (by decide) rfl ?_
  refine g_aload_n X 2 rfl dX7_scene_28 ?_
  refine g_dup X dX7_scene_29 rfl ?_
  refine g_geti X f_X7_204 dX7_scene_30 (x := 0) rfl ?_
  refine g_iload_n X 0 rfl dX7_scene_33 ?_
  refine g_if_eq X tq24 (tgt := 41) dX7_scene_34 (by decide) (fun cq26 => ?_) (fun cq26 => ?_)
  · have pq27 : ¬ (0 ≤ (aq12 - 65) ∧ (aq12 - 65) ≤ 7) := by omega
    refine g_iconst X 0 dX7_scene_41 (by decide) ?_
    refine g_iadd X dX7_scene_42 (fun zq28 eq29 => ?_)
    have tq30 : zq28.toInt = 0 + 0 := add_nw eq29 (show (0 : Int32).toInt = 0 by decide) (show (0 : Int32).toInt = 0 by decide) (by omega)
    refine g_puti X p_X7_204 dX7_scene_43 ?_
    have Iq31 : Iv TM (ui (ui (ui Mq 47 21 0) 47 25 (-1)) 47 21 zq28) := Iq7.put 0 60 tq30 (by omega) rfl
    have frq32 : Fr W_X7_scene Mq (ui (ui (ui Mq 47 21 0) 47 25 (-1)) 47 21 zq28) := frq8.ui rfl
    have cyq33 : WFM (ui (ui (ui Mq 47 21 0) 47 25 (-1)) 47 21 zq28) := WFM_fr cyq9 (Fr.ui (W := [(47, 21)]) Fr.rf rfl) rfl
    have cyq34 : WFT (ui (ui (ui Mq 47 21 0) 47 25 (-1)) 47 21 zq28) := WFT_fr cyq10 (Fr.ui (W := [(47, 21)]) Fr.rf rfl) rfl
    refine g_iload_n X 0 rfl dX7_scene_46 ?_
    refine g_if_eq X tq24 (tgt := 63) dX7_scene_47 (by decide) (fun cq35 => ?_) (fun cq35 => ?_)
    · refine g_iconst X 0 dX7_scene_63 (by decide) ?_
      refine g_istore_n X (i := 2) [(2, .int 0), (1, .int zq16), (0, .ref (ad 47))] dX7_scene_64 rfl (by decide) rfl ?_
      refine g_aload_n X 2 rfl dX7_scene_65 ?_
      refine g_dup X dX7_scene_66 rfl ?_
      refine g_geti X f_X7_204 dX7_scene_67 (x := zq28) rfl ?_
      refine g_iload_n X 0 rfl dX7_scene_70 ?_
      refine g_if_eq X (show (0 : Int32).toInt = 0 by decide) (tgt := 78) dX7_scene_71 (by decide) (fun cq36 => ?_) (fun cq36 => ?_)
      · refine g_iconst X 0 dX7_scene_78 (by decide) ?_
        refine g_iadd X dX7_scene_79 (fun zq37 eq38 => ?_)
        have tq39 : zq37.toInt = (0 + 0) + 0 := add_nw eq38 tq30 (show (0 : Int32).toInt = 0 by decide) (by omega)
        refine g_puti X p_X7_204 dX7_scene_80 ?_
        have Iq40 : Iv TM (ui (ui (ui (ui Mq 47 21 0) 47 25 (-1)) 47 21 zq28) 47 21 zq37) := Iq31.put 0 60 tq39 (by omega) rfl
        have frq41 : Fr W_X7_scene Mq (ui (ui (ui (ui Mq 47 21 0) 47 25 (-1)) 47 21 zq28) 47 21 zq37) := frq32.ui rfl
        have cyq42 : WFM (ui (ui (ui (ui Mq 47 21 0) 47 25 (-1)) 47 21 zq28) 47 21 zq37) := WFM_fr cyq33 (Fr.ui (W := [(47, 21)]) Fr.rf rfl) rfl
        have cyq43 : WFT (ui (ui (ui (ui Mq 47 21 0) 47 25 (-1)) 47 21 zq28) 47 21 zq37) := WFT_fr cyq34 (Fr.ui (W := [(47, 21)]) Fr.rf rfl) rfl
        refine g_iload_n X 0 rfl dX7_scene_83 ?_
        refine g_if_eq X (show (0 : Int32).toInt = 0 by decide) (tgt := 99) dX7_scene_84 (by decide) (fun cq44 => ?_) (fun cq44 => ?_)
        · refine g_iconst X 0 dX7_scene_99 (by decide) ?_
          refine g_istore_n X (i := 2) [(2, .int 0), (1, .int zq16), (0, .ref (ad 47))] dX7_scene_100 rfl (by decide) rfl ?_
          refine g_aload_n X 2 rfl dX7_scene_101 ?_
          refine g_geti X f_X7_199 dX7_scene_102 (x := Mq.1 47 20) rfl ?_
          have bq45 := ig_47_20 Iq0
          refine g_istore_n X (i := 3) [(3, .int (Mq.1 47 20)), (2, .int 0), (1, .int zq16), (0, .ref (ad 47))] dX7_scene_105 rfl (by decide) rfl ?_
          refine g_aload_n X 3 rfl dX7_scene_106 ?_
          refine g_iconst X 0 dX7_scene_107 (by decide) ?_
          refine g_puti X p_X7_199 dX7_scene_108 ?_
          have ltq46 : (0 : Int32).toInt = 0 := by decide
          have Iq47 : Iv TM (ui (ui (ui (ui (ui Mq 47 21 0) 47 25 (-1)) 47 21 zq28) 47 21 zq37) 47 20 0) := Iq40.put 0 60 (show (0 : Int32).toInt = 0 by decide) (by omega) rfl
          have frq48 : Fr W_X7_scene Mq (ui (ui (ui (ui (ui Mq 47 21 0) 47 25 (-1)) 47 21 zq28) 47 21 zq37) 47 20 0) := frq41.ui rfl
          have cyq49 : WFM (ui (ui (ui (ui (ui Mq 47 21 0) 47 25 (-1)) 47 21 zq28) 47 21 zq37) 47 20 0) := WFM_fr cyq42 (Fr.ui (W := [(47, 20)]) Fr.rf rfl) rfl
          have cyq50 : WFT (ui (ui (ui (ui (ui Mq 47 21 0) 47 25 (-1)) 47 21 zq28) 47 21 zq37) 47 20 0) := WFT_fr cyq43 (Fr.ui (W := [(47, 20)]) Fr.rf rfl) rfl
          refine g_iload_n X 1 rfl dX7_scene_111 ?_
          refine g_if_ne X (show (0 : Int32).toInt = 0 by decide) (tgt := 124) dX7_scene_112 (by decide) (fun cq51 => ?_) (fun cq51 => ?_)
          · exfalso; omega
          · refine g_sipush X (-1000) dX7_scene_115 (by decide) ?_
            refine g_aload_n X 3 rfl dX7_scene_118 ?_
            refine g_geti X f_X7_204 dX7_scene_119 (x := zq37) rfl ?_
            refine g_isub X dX7_scene_122 (fun zq52 eq53 => ?_)
            exact g_iret X dX7_scene_123 ⟨_, _, rfl, rfl, trivial, (⟨cyq49, cyq50, (show (0 : Int32).toInt = 0 by omega), (show (Mq.1 47 23).toInt ≤ (Mq.1 47 23).toInt by omega), (show (Mq.1 47 23).toInt ≤ (Mq.1 47 23).toInt + 1 by omega)⟩), Iq47, frq48⟩
        · exfalso; omega
      · exfalso; omega
    · exfalso; omega
  · have pq55 : (0 ≤ (aq12 - 65) ∧ (aq12 - 65) ≤ 7) := by omega
    refine g_iconst X 1 dX7_scene_37 (by decide) ?_
    refine g_goto X (tgt := 42) dX7_scene_38 (by decide) ?_
    refine g_iadd X dX7_scene_42 (fun zq56 eq57 => ?_)
    have tq58 : zq56.toInt = 0 + 1 := add_nw eq57 (show (0 : Int32).toInt = 0 by decide) (show (1 : Int32).toInt = 1 by decide) (by omega)
    refine g_puti X p_X7_204 dX7_scene_43 ?_
    have Iq59 : Iv TM (ui (ui (ui Mq 47 21 0) 47 25 (-1)) 47 21 zq56) := Iq7.put 0 60 tq58 (by omega) rfl
    have frq60 : Fr W_X7_scene Mq (ui (ui (ui Mq 47 21 0) 47 25 (-1)) 47 21 zq56) := frq8.ui rfl
    have cyq61 : WFM (ui (ui (ui Mq 47 21 0) 47 25 (-1)) 47 21 zq56) := WFM_fr cyq9 (Fr.ui (W := [(47, 21)]) Fr.rf rfl) rfl
    have cyq62 : WFT (ui (ui (ui Mq 47 21 0) 47 25 (-1)) 47 21 zq56) := WFT_fr cyq10 (Fr.ui (W := [(47, 21)]) Fr.rf rfl) rfl
    refine g_iload_n X 0 rfl dX7_scene_46 ?_
    refine g_if_eq X tq24 (tgt := 63) dX7_scene_47 (by decide) (fun cq63 => ?_) (fun cq63 => ?_)
    · exfalso; omega
    · refine g_aload_n X 2 rfl dX7_scene_50 ?_
      refine g_callV X m_X7_210 (c_X7_sign ad (ui (ui (ui Mq 47 21 0) 47 25 (-1)) 47 21 zq56) Iq59) rfl (by decide) (Nat.le_of_ble_eq_true rfl) rfl dX7_scene_51 ?_
      rintro _ _ ⟨rq64, aq65, rfl, tq66, hq67, rfl⟩
      have hq68 : ((zq56).toInt < ((Mq.1 47 20)).toInt ∧ aq65 = (Mq.1 60 ((zq56).toInt).toNat).toInt ∧ 0 ≤ aq65 ∧ aq65 ≤ 255) ∨ (((Mq.1 47 20)).toInt ≤ (zq56).toInt ∧ aq65 = -1) := hq67
      clear hq67
      show G Γ (ui (ui (ui Mq 47 21 0) 47 25 (-1)) 47 21 zq56) 54 [(2, .int rq22), (1, .int zq16), (0, .ref (ad 47))] [.int rq64]
      refine g_bipush X 61 dX7_scene_54 (by decide) ?_
      refine g_icmp_ne X tq66 (show (61 : Int32).toInt = 61 by decide) (tgt := 63) dX7_scene_56 (by decide) (fun cq69 => ?_) (fun cq69 => ?_)
      · refine g_iconst X 0 dX7_scene_63 (by decide) ?_
        refine g_istore_n X (i := 2) [(2, .int 0), (1, .int zq16), (0, .ref (ad 47))] dX7_scene_64 rfl (by decide) rfl ?_
        refine g_aload_n X 2 rfl dX7_scene_65 ?_
        refine g_dup X dX7_scene_66 rfl ?_
        refine g_geti X f_X7_204 dX7_scene_67 (x := zq56) rfl ?_
        refine g_iload_n X 0 rfl dX7_scene_70 ?_
        refine g_if_eq X (show (0 : Int32).toInt = 0 by decide) (tgt := 78) dX7_scene_71 (by decide) (fun cq70 => ?_) (fun cq70 => ?_)
        · refine g_iconst X 0 dX7_scene_78 (by decide) ?_
          refine g_iadd X dX7_scene_79 (fun zq71 eq72 => ?_)
          have tq73 : zq71.toInt = (0 + 1) + 0 := add_nw eq72 tq58 (show (0 : Int32).toInt = 0 by decide) (by omega)
          refine g_puti X p_X7_204 dX7_scene_80 ?_
          have Iq74 : Iv TM (ui (ui (ui (ui Mq 47 21 0) 47 25 (-1)) 47 21 zq56) 47 21 zq71) := Iq59.put 0 60 tq73 (by omega) rfl
          have frq75 : Fr W_X7_scene Mq (ui (ui (ui (ui Mq 47 21 0) 47 25 (-1)) 47 21 zq56) 47 21 zq71) := frq60.ui rfl
          have cyq76 : WFM (ui (ui (ui (ui Mq 47 21 0) 47 25 (-1)) 47 21 zq56) 47 21 zq71) := WFM_fr cyq61 (Fr.ui (W := [(47, 21)]) Fr.rf rfl) rfl
          have cyq77 : WFT (ui (ui (ui (ui Mq 47 21 0) 47 25 (-1)) 47 21 zq56) 47 21 zq71) := WFT_fr cyq62 (Fr.ui (W := [(47, 21)]) Fr.rf rfl) rfl
          refine g_iload_n X 0 rfl dX7_scene_83 ?_
          refine g_if_eq X (show (0 : Int32).toInt = 0 by decide) (tgt := 99) dX7_scene_84 (by decide) (fun cq78 => ?_) (fun cq78 => ?_)
          · refine g_iconst X 0 dX7_scene_99 (by decide) ?_
            refine g_istore_n X (i := 2) [(2, .int 0), (1, .int zq16), (0, .ref (ad 47))] dX7_scene_100 rfl (by decide) rfl ?_
            refine g_aload_n X 2 rfl dX7_scene_101 ?_
            refine g_geti X f_X7_199 dX7_scene_102 (x := Mq.1 47 20) rfl ?_
            have bq79 := ig_47_20 Iq0
            refine g_istore_n X (i := 3) [(3, .int (Mq.1 47 20)), (2, .int 0), (1, .int zq16), (0, .ref (ad 47))] dX7_scene_105 rfl (by decide) rfl ?_
            refine g_aload_n X 3 rfl dX7_scene_106 ?_
            refine g_iconst X 0 dX7_scene_107 (by decide) ?_
            refine g_puti X p_X7_199 dX7_scene_108 ?_
            have ltq80 : (0 : Int32).toInt = 0 := by decide
            have Iq81 : Iv TM (ui (ui (ui (ui (ui Mq 47 21 0) 47 25 (-1)) 47 21 zq56) 47 21 zq71) 47 20 0) := Iq74.put 0 60 (show (0 : Int32).toInt = 0 by decide) (by omega) rfl
            have frq82 : Fr W_X7_scene Mq (ui (ui (ui (ui (ui Mq 47 21 0) 47 25 (-1)) 47 21 zq56) 47 21 zq71) 47 20 0) := frq75.ui rfl
            have cyq83 : WFM (ui (ui (ui (ui (ui Mq 47 21 0) 47 25 (-1)) 47 21 zq56) 47 21 zq71) 47 20 0) := WFM_fr cyq76 (Fr.ui (W := [(47, 20)]) Fr.rf rfl) rfl
            have cyq84 : WFT (ui (ui (ui (ui (ui Mq 47 21 0) 47 25 (-1)) 47 21 zq56) 47 21 zq71) 47 20 0) := WFT_fr cyq77 (Fr.ui (W := [(47, 20)]) Fr.rf rfl) rfl
            refine g_iload_n X 1 rfl dX7_scene_111 ?_
            refine g_if_ne X (show (0 : Int32).toInt = 0 by decide) (tgt := 124) dX7_scene_112 (by decide) (fun cq85 => ?_) (fun cq85 => ?_)
            · exfalso; omega
            · refine g_sipush X (-1000) dX7_scene_115 (by decide) ?_
              refine g_aload_n X 3 rfl dX7_scene_118 ?_
              refine g_geti X f_X7_204 dX7_scene_119 (x := zq71) rfl ?_
              refine g_isub X dX7_scene_122 (fun zq86 eq87 => ?_)
              exact g_iret X dX7_scene_123 ⟨_, _, rfl, rfl, trivial, (⟨cyq83, cyq84, (show (0 : Int32).toInt = 0 by omega), (show (Mq.1 47 23).toInt ≤ (Mq.1 47 23).toInt by omega), (show (Mq.1 47 23).toInt ≤ (Mq.1 47 23).toInt + 1 by omega)⟩), Iq81, frq82⟩
          · exfalso; omega
        · exfalso; omega
      · refine g_iconst X 1 dX7_scene_59 (by decide) ?_
        refine g_goto X (tgt := 64) dX7_scene_60 (by decide) ?_
        refine g_istore_n X (i := 2) [(2, .int 1), (1, .int zq16), (0, .ref (ad 47))] dX7_scene_64 rfl (by decide) rfl ?_
        refine g_aload_n X 2 rfl dX7_scene_65 ?_
        refine g_dup X dX7_scene_66 rfl ?_
        refine g_geti X f_X7_204 dX7_scene_67 (x := zq56) rfl ?_
        refine g_iload_n X 0 rfl dX7_scene_70 ?_
        refine g_if_eq X (show (1 : Int32).toInt = 1 by decide) (tgt := 78) dX7_scene_71 (by decide) (fun cq89 => ?_) (fun cq89 => ?_)
        · exfalso; omega
        · refine g_iconst X 1 dX7_scene_74 (by decide) ?_
          refine g_goto X (tgt := 79) dX7_scene_75 (by decide) ?_
          refine g_iadd X dX7_scene_79 (fun zq90 eq91 => ?_)
          have tq92 : zq90.toInt = (0 + 1) + 1 := add_nw eq91 tq58 (show (1 : Int32).toInt = 1 by decide) (by omega)
          refine g_puti X p_X7_204 dX7_scene_80 ?_
          have Iq93 : Iv TM (ui (ui (ui (ui Mq 47 21 0) 47 25 (-1)) 47 21 zq56) 47 21 zq90) := Iq59.put 0 60 tq92 (by omega) rfl
          have frq94 : Fr W_X7_scene Mq (ui (ui (ui (ui Mq 47 21 0) 47 25 (-1)) 47 21 zq56) 47 21 zq90) := frq60.ui rfl
          have cyq95 : WFM (ui (ui (ui (ui Mq 47 21 0) 47 25 (-1)) 47 21 zq56) 47 21 zq90) := WFM_fr cyq61 (Fr.ui (W := [(47, 21)]) Fr.rf rfl) rfl
          have cyq96 : WFT (ui (ui (ui (ui Mq 47 21 0) 47 25 (-1)) 47 21 zq56) 47 21 zq90) := WFT_fr cyq62 (Fr.ui (W := [(47, 21)]) Fr.rf rfl) rfl
          refine g_iload_n X 0 rfl dX7_scene_83 ?_
          refine g_if_eq X (show (1 : Int32).toInt = 1 by decide) (tgt := 99) dX7_scene_84 (by decide) (fun cq97 => ?_) (fun cq97 => ?_)
          · exfalso; omega
          · refine g_aload_n X 2 rfl dX7_scene_87 ?_
            refine g_iload_n X 1 rfl dX7_scene_88 ?_
            refine g_callV X m_X7_226 (c_X7_parses ad (ui (ui (ui (ui Mq 47 21 0) 47 25 (-1)) 47 21 zq56) 47 21 zq90) zq16 tq18 Iq93 (show (zq90).toInt = 2 ∧ 2 ≤ ((Mq.1 47 20)).toInt by omega)) rfl (by decide) (Nat.le_of_ble_eq_true rfl) rfl dX7_scene_89 ?_
            rintro _ Mq103 ⟨rq98, aq99, rfl, tq100, hq101, hq102, Iq104, frq105⟩
            have frq106 : Fr W_X7_scene Mq Mq103 := frq94.trans frq105 rfl
            have cyq107 : WFM Mq103 := WFM_fr cyq95 frq105 rfl
            have cyq108 : WFT Mq103 := WFT_fr cyq96 frq105 rfl
            have trq109 : (Mq103.1 47 20).toInt = (Mq.1 47 20).toInt := congrArg Int32.toInt (frq105.at 47 20 rfl)
            have trq110 : (Mq103.1 47 23).toInt = (Mq.1 47 23).toInt := congrArg Int32.toInt (frq105.at 47 23 rfl)
            have hPD := hq102
            show G Γ Mq103 92 [(2, .int 1), (1, .int zq16), (0, .ref (ad 47))] [.int rq98]
            refine g_if_eq X tq100 (tgt := 99) dX7_scene_92 (by decide) (fun cq111 => ?_) (fun cq111 => ?_)
            · refine g_iconst X 0 dX7_scene_99 (by decide) ?_
              refine g_istore_n X (i := 2) [(2, .int 0), (1, .int zq16), (0, .ref (ad 47))] dX7_scene_100 rfl (by decide) rfl ?_
              refine g_aload_n X 2 rfl dX7_scene_101 ?_
              refine g_geti X f_X7_199 dX7_scene_102 (x := Mq103.1 47 20) rfl ?_
              have bq112 := ig_47_20 Iq104
              refine g_istore_n X (i := 3) [(3, .int (Mq103.1 47 20)), (2, .int 0), (1, .int zq16), (0, .ref (ad 47))] dX7_scene_105 rfl (by decide) rfl ?_
              refine g_aload_n X 3 rfl dX7_scene_106 ?_
              refine g_iconst X 0 dX7_scene_107 (by decide) ?_
              refine g_puti X p_X7_199 dX7_scene_108 ?_
              have ltq113 : (0 : Int32).toInt = 0 := by decide
              have Iq114 : Iv TM (ui Mq103 47 20 0) := Iq104.put 0 60 (show (0 : Int32).toInt = 0 by decide) (by omega) rfl
              have frq115 : Fr W_X7_scene Mq (ui Mq103 47 20 0) := frq106.ui rfl
              have cyq116 : WFM (ui Mq103 47 20 0) := WFM_fr cyq107 (Fr.ui (W := [(47, 20)]) Fr.rf rfl) rfl
              have cyq117 : WFT (ui Mq103 47 20 0) := WFT_fr cyq108 (Fr.ui (W := [(47, 20)]) Fr.rf rfl) rfl
              refine g_iload_n X 1 rfl dX7_scene_111 ?_
              refine g_if_ne X (show (0 : Int32).toInt = 0 by decide) (tgt := 124) dX7_scene_112 (by decide) (fun cq118 => ?_) (fun cq118 => ?_)
              · exfalso; omega
              · refine g_sipush X (-1000) dX7_scene_115 (by decide) ?_
                refine g_aload_n X 3 rfl dX7_scene_118 ?_
                refine g_geti X f_X7_204 dX7_scene_119 (x := Mq103.1 47 21) rfl ?_
                have bq119 := ig_47_21 Iq104
                refine g_isub X dX7_scene_122 (fun zq120 eq121 => ?_)
                exact g_iret X dX7_scene_123 ⟨_, _, rfl, rfl, trivial, (⟨cyq116, cyq117, (show (0 : Int32).toInt = 0 by omega), (show (Mq.1 47 23).toInt ≤ (Mq103.1 47 23).toInt by omega), (show (Mq103.1 47 23).toInt ≤ (Mq.1 47 23).toInt + 1 by omega)⟩), Iq114, frq115⟩
            · refine g_iconst X 1 dX7_scene_95 (by decide) ?_
              refine g_goto X (tgt := 100) dX7_scene_96 (by decide) ?_
              refine g_istore_n X (i := 2) [(2, .int 1), (1, .int zq16), (0, .ref (ad 47))] dX7_scene_100 rfl (by decide) rfl ?_
              refine g_aload_n X 2 rfl dX7_scene_101 ?_
              refine g_geti X f_X7_199 dX7_scene_102 (x := Mq103.1 47 20) rfl ?_
              have bq123 := ig_47_20 Iq104
              refine g_istore_n X (i := 3) [(3, .int (Mq103.1 47 20)), (2, .int 1), (1, .int zq16), (0, .ref (ad 47))] dX7_scene_105 rfl (by decide) rfl ?_
              refine g_aload_n X 3 rfl dX7_scene_106 ?_
              refine g_iconst X 0 dX7_scene_107 (by decide) ?_
              refine g_puti X p_X7_199 dX7_scene_108 ?_
              have ltq124 : (0 : Int32).toInt = 0 := by decide
              have Iq125 : Iv TM (ui Mq103 47 20 0) := Iq104.put 0 60 (show (0 : Int32).toInt = 0 by decide) (by omega) rfl
              have frq126 : Fr W_X7_scene Mq (ui Mq103 47 20 0) := frq106.ui rfl
              have cyq127 : WFM (ui Mq103 47 20 0) := WFM_fr cyq107 (Fr.ui (W := [(47, 20)]) Fr.rf rfl) rfl
              have cyq128 : WFT (ui Mq103 47 20 0) := WFT_fr cyq108 (Fr.ui (W := [(47, 20)]) Fr.rf rfl) rfl
              refine g_iload_n X 1 rfl dX7_scene_111 ?_
              refine g_if_ne X (show (1 : Int32).toInt = 1 by decide) (tgt := 124) dX7_scene_112 (by decide) (fun cq129 => ?_) (fun cq129 => ?_)
              · refine g_aload_n X 3 rfl dX7_scene_124 ?_
                refine g_geti X f_X7_223 dX7_scene_125 (x := Mq103.1 47 25) rfl ?_
                refine g_if_lt X rfl (tgt := 140) dX7_scene_128 (by decide) (fun cq130 => ?_) (fun cq130 => ?_)
                · refine g_aload_n X 3 rfl dX7_scene_140 ?_
                  refine g_iload_n X 2 rfl dX7_scene_141 ?_
                  refine g_callV X m_X7_229 (c_X7_standsInOther ad (ui Mq103 47 20 0) zq16 tq18 Iq125 (by omega)) rfl (by decide) (Nat.le_of_ble_eq_true rfl) rfl dX7_scene_142 ?_
                  rintro _ _ ⟨rq131, aq132, rfl, tq133, hq134, rfl⟩
                  have hq135 : aq132 = 1 ∨ (aq132 = 0 ∧ NSx (ui Mq103 47 20 0) (aq12 - 65) 8) := hq134
                  clear hq134
                  have hNS := hq135
                  show G Γ (ui Mq103 47 20 0) 145 [(3, .int (Mq103.1 47 20)), (2, .int 1), (1, .int zq16), (0, .ref (ad 47))] [.int rq131]
                  refine g_if_eq X tq133 (tgt := 152) dX7_scene_145 (by decide) (fun cq136 => ?_) (fun cq136 => ?_)
                  · have hPD1 := hPD (by omega)
                    have hNS1 : NSx (ui Mq103 47 20 0) (aq12 - 65) 8 := by rcases hNS with e | e; exact absurd e (by omega); exact e.2
                    have hWA := cyq127
                    have hTA := cyq128
                    have hIA := Iq125
                    have hz23 : 0 ≤ ((ui Mq103 47 20 0).1 47 23).toInt := (show 0 ≤ (Mq103.1 47 23).toInt by omega)
                    have hx20 : ((ui Mq103 47 20 0).1 47 20).toInt = 0 := (show (0 : Int32).toInt = 0 by omega)
                    have hx23 : ((ui Mq103 47 20 0).1 47 23).toInt = (Mq.1 47 23).toInt := (show (Mq103.1 47 23).toInt = (Mq.1 47 23).toInt by omega)
                    have hsz := hPD1.1
                    obtain ⟨mA, hmA⟩ : ∃ y : Mem, y = (ui Mq103 47 20 0) := ⟨_, rfl⟩
                    have hm20 : (mA.1 47 20).toInt = 0 := by rw [hmA]; exact hx20
                    have hm23 : (mA.1 47 23).toInt = (Mq.1 47 23).toInt := by rw [hmA]; exact hx23
                    have hsk : skN (tf mA) (((Mq103.1 47 20).toInt) - 2).toNat = some [] := by rw [hmA]; exact hPD1.2.2.1
                    have hnp2 : ∀ k, k < (((Mq103.1 47 20).toInt) - 2).toNat → 65 ≤ tf mA k → tf mA k ≤ 72 → 0 < tel mA (tf mA k - 65).toNat ∧ tf mA k - 65 ≠ (aq12 - 65) := by rw [hmA]; exact hPD1.2.2.2 (by omega)
                    rw [← hmA] at hNS1 hWA hTA hIA
                    refine g_aload_n X 3 rfl dX7_scene_152 ?_
                    refine g_dup X dX7_scene_153 rfl ?_
                    refine g_geti X f_X7_232 dX7_scene_154 (x := Mq103.1 47 23) rfl ?_
                    refine g_iconst X 1 dX7_scene_157 (by decide) ?_
                    refine g_iadd X dX7_scene_158 (fun zq137 eq138 => ?_)
                    have tq139 : zq137.toInt = ((Mq103.1 47 23).toInt) + 1 := add_nw eq138 rfl (show (1 : Int32).toInt = 1 by decide) (by omega)
                    refine g_puti X p_X7_232 dX7_scene_159 ?_
                    have Iq140 : Iv TM (ui (ui Mq103 47 20 0) 47 23 zq137) := Iq125.other rfl
                    have frq141 : Fr W_X7_scene Mq (ui (ui Mq103 47 20 0) 47 23 zq137) := frq126.ui rfl
                    have cyq142 : WFM (ui (ui Mq103 47 20 0) 47 23 zq137) := WFM_fr cyq127 (Fr.ui (W := [(47, 23)]) Fr.rf rfl) rfl
                    have hzt : zq137.toInt = (mA.1 47 23).toInt + 1 := by rw [hmA]; show zq137.toInt = (Mq103.1 47 23).toInt + 1; assumption
                    refine g_aload_n X 3 rfl dX7_scene_162 ?_
                    refine g_getr X f_X7_55 dX7_scene_163 ?_
                    refine g_iload_n X 2 rfl dX7_scene_166 ?_
                    refine g_aload_n X 3 rfl dX7_scene_167 ?_
                    refine g_geti X f_X7_232 dX7_scene_168 (x := zq137) rfl ?_
                    refine g_iast X la_63 tq18 dX7_scene_171 (by omega) ?_
                    have Iq144 : Iv TM (ui (ui (ui Mq103 47 20 0) 47 23 zq137) 63 ((aq12 - 65).toNat) zq137) := Iq140.otherA rfl
                    have frq145 : Fr W_X7_scene Mq (ui (ui (ui Mq103 47 20 0) 47 23 zq137) 63 ((aq12 - 65).toNat) zq137) := frq141.ui rfl
                    refine g_aload_n X 3 rfl dX7_scene_172 ?_
                    refine g_getr X f_X7_52 dX7_scene_173 ?_
                    refine g_iload_n X 2 rfl dX7_scene_176 ?_
                    refine g_iload_n X 0 rfl dX7_scene_177 ?_
                    refine g_iconst X 2 dX7_scene_178 (by decide) ?_
                    refine g_isub X dX7_scene_179 (fun zq147 eq148 => ?_)
                    have tq149 : zq147.toInt = ((Mq103.1 47 20).toInt) - 2 := sub_nw eq148 rfl (show (2 : Int32).toInt = 2 by decide) (by omega)
                    refine g_iast X la_62 tq18 dX7_scene_180 (by omega) ?_
                    have Iq150 : Iv TM (ui (ui (ui (ui Mq103 47 20 0) 47 23 zq137) 63 ((aq12 - 65).toNat) zq137) 62 ((aq12 - 65).toNat) zq147) := Iq144.putA 0 58 tq149 (by omega) rfl
                    have frq151 : Fr W_X7_scene Mq (ui (ui (ui (ui Mq103 47 20 0) 47 23 zq137) 63 ((aq12 - 65).toNat) zq137) 62 ((aq12 - 65).toNat) zq147) := frq145.ui rfl
                    obtain ⟨mB, hmB⟩ : ∃ y : Mem, y = (ui (ui (ui (ui Mq103 47 20 0) 47 23 zq137) 63 ((aq12 - 65).toNat) zq137) 62 ((aq12 - 65).toNat) zq147) := ⟨_, rfl⟩
                    have hmB2 := hmB
                    rw [← hmA] at hmB2
                    refine g_iconst X 2 dX7_scene_181 (by decide) ?_
                    refine g_istore X [(4, .int 2), (3, .int (Mq103.1 47 20)), (2, .int 1), (1, .int zq16), (0, .ref (ad 47))] dX7_scene_182 (by decide) rfl ?_
                    have lp184 : ∀ n : Nat, ∀ (y4_184 : Int32) (b4_184 : Int), y4_184.toInt = b4_184 → ∀ (M_184 : Mem), (2 ≤ b4_184 ∧ b4_184 ≤ ((Mq103.1 47 20).toInt)) → (CP mB M_184 (aq12 - 65) b4_184) → (Iv TM M_184) → (Fr W_X7_scene Mq M_184) → (((Mq103.1 47 20).toInt) - b4_184).toNat < n → G Γ M_184 184 [(4, .int y4_184), (3, .int (Mq103.1 47 20)), (2, .int 1), (1, .int zq16), (0, .ref (ad 47))] [] := by
                      intro n
                      induction n with
                      | zero => intro y4_184 b4_184 e4_184 M_184 i1 i2 I_184 fr_184 hm; exact absurd hm (Nat.not_lt_zero _)
                      | succ n ih184 =>
                        intro y4_184 b4_184 e4_184 M_184 i1 i2 I_184 fr_184 hm184
                        have q60 := fun j => i2.1 60 j (by decide)
                        refine g_iload X 0 rfl dX7_scene_184 ?_
                        refine g_iload_n X 1 rfl dX7_scene_186 ?_
                        refine g_icmp_ge X e4_184 rfl (tgt := 217) dX7_scene_187 (by decide) (fun cq152 => ?_) (fun cq152 => ?_)
                        · refine g_iload_n X 3 rfl dX7_scene_217 ?_
                          exact g_iret X dX7_scene_218 ⟨_, _, rfl, tq18, trivial, (by have q := WFM_new hWA hTA hNS1 hsk hnp2 hmB2 hzt (by rw [hmA]; exact hz23) (by assumption) (by omega) (by omega) hIA ((show b4_184 = ((Mq103.1 47 20).toInt) - 2 + 2 by omega) ▸ i2); obtain ⟨q1, q2, q3, q4⟩ := q; rw [hm20] at q3; rw [hm23] at q4; exact ⟨q1, q2, q3, by omega, by omega⟩), I_184, fr_184⟩
                        · refine g_aload_n X 4 rfl dX7_scene_190 ?_
                          refine g_getr X f_X7_49 dX7_scene_191 ?_
                          refine g_bipush X 60 dX7_scene_194 (by decide) ?_
                          refine g_iload_n X 3 rfl dX7_scene_196 ?_
                          refine g_imul X dX7_scene_197 (fun zq153 eq154 => ?_)
                          have tq155 : zq153.toInt = 60 * (aq12 - 65) := mul_nw eq154 (show (60 : Int32).toInt = 60 by decide) tq18 (by omega)
                          refine g_iload X 0 rfl dX7_scene_198 ?_
                          refine g_iadd X dX7_scene_200 (fun zq156 eq157 => ?_)
                          have tq158 : zq156.toInt = (60 * (aq12 - 65)) + b4_184 := add_nw eq157 tq155 e4_184 (by omega)
                          refine g_iconst X 2 dX7_scene_201 (by decide) ?_
                          refine g_isub X dX7_scene_202 (fun zq159 eq160 => ?_)
                          have tq161 : zq159.toInt = ((60 * (aq12 - 65)) + b4_184) - 2 := sub_nw eq160 tq158 (show (2 : Int32).toInt = 2 by decide) (by omega)
                          refine g_aload_n X 4 rfl dX7_scene_203 ?_
                          refine g_getr X f_X7_46 dX7_scene_204 ?_
                          refine g_iload X 0 rfl dX7_scene_207 ?_
                          refine g_iald X la_60 e4_184 dX7_scene_209 (by omega) (x := M_184.1 60 b4_184.toNat) rfl ?_
                          have bq162 := ig_60 I_184 b4_184.toNat (by omega)
                          refine g_iast X la_61 tq161 dX7_scene_210 (by omega) ?_
                          have Iq163 : Iv TM (ui M_184 61 ((((60 * (aq12 - 65)) + b4_184) - 2).toNat) (M_184.1 60 b4_184.toNat)) := I_184.otherA rfl
                          have frq164 : Fr W_X7_scene Mq (ui M_184 61 ((((60 * (aq12 - 65)) + b4_184) - 2).toNat) (M_184.1 60 b4_184.toNat)) := fr_184.ui rfl
                          refine g_iinc X 0 (fun v => [(4, .int v), (3, .int (Mq103.1 47 20)), (2, .int 1), (1, .int zq16), (0, .ref (ad 47))]) dX7_scene_211 rfl (by decide) (fun _ => rfl) (fun zq165 eq166 => ?_)
                          have tq167 : zq165.toInt = b4_184 + 1 := add_nw eq166 e4_184 (show (Int32.ofInt 1).toInt = 1 by decide) (by omega)
                          refine g_goto X (tgt := 184) dX7_scene_214 (by decide) ?_
                          refine g_sub [0, 1, 2, 3, 4] rfl ?_
                          exact ih184 zq165 _ tq167 (ui M_184 61 ((((60 * (aq12 - 65)) + b4_184) - 2).toNat) (M_184.1 60 b4_184.toNat)) (by omega) (CP_s i2 (by omega) (by omega)) Iq163 frq164 (by omega)
                    refine g_sub [0, 1, 2, 3, 4] rfl ?_
                    exact lp184 _ 2 _ (show (2 : Int32).toInt = 2 by decide) (ui (ui (ui (ui Mq103 47 20 0) 47 23 zq137) 63 ((aq12 - 65).toNat) zq137) 62 ((aq12 - 65).toNat) zq147) (by omega) (by rw [hmB]; exact CP_0) Iq150 frq151 (Nat.lt_succ_self _)
                  · refine g_sipush X (-3000) dX7_scene_148 (by decide) ?_
                    exact g_iret X dX7_scene_151 ⟨_, _, rfl, (show ((-3000) : Int32).toInt = (-3000) by decide), trivial, (⟨cyq127, cyq128, (show (0 : Int32).toInt = 0 by omega), (show (Mq.1 47 23).toInt ≤ (Mq103.1 47 23).toInt by omega), (show (Mq103.1 47 23).toInt ≤ (Mq.1 47 23).toInt + 1 by omega)⟩), Iq125, frq126⟩
                · refine g_sipush X (-2000) dX7_scene_131 (by decide) ?_
                  refine g_aload_n X 3 rfl dX7_scene_134 ?_
                  refine g_geti X f_X7_223 dX7_scene_135 (x := Mq103.1 47 25) rfl ?_
                  refine g_isub X dX7_scene_138 (fun zq168 eq169 => ?_)
                  exact g_iret X dX7_scene_139 ⟨_, _, rfl, rfl, trivial, (⟨cyq127, cyq128, (show (0 : Int32).toInt = 0 by omega), (show (Mq.1 47 23).toInt ≤ (Mq103.1 47 23).toInt by omega), (show (Mq103.1 47 23).toInt ≤ (Mq.1 47 23).toInt + 1 by omega)⟩), Iq125, frq126⟩
              · exfalso; omega
end
