section
abbrev W_X1_lower_R : List (Nat × Nat) := [(37, 6)]
set_option maxHeartbeats 4000000 in
set_option maxRecDepth 4000 in
theorem c_X1_lower_R (ad : Nat → Nat) (Mq : Mem) (Iq0 : Iv TX Mq) (h1 : 8 < (Mq.1 37 6).toInt) : Ctr ad yX1_lower cX1_lower 1 none 0 [.ref (ad 37)] Mq (fun v M' => v = none ∧ (True) ∧ ((M'.1 37 6).toInt = (Mq.1 37 6).toInt - 1) ∧ Iv TX M' ∧ Fr W_X1_lower_R Mq M') := by
  refine ctr_of (L := [(0, .ref (ad 37))]) (by decide) (Nat.le_of_ble_eq_true rfl) rfl ?_
  intro Γ X
  have X : gX Γ cX1_lower RX1 1 none 0 ad _ := X
  have frq0 : Fr W_X1_lower_R Mq Mq := Fr.rf
  refine g_aload_n X 0 rfl dX1_lower_0 ?_
  refine g_geti X f_X1_26 dX1_lower_1 (x := Mq.1 37 6) rfl ?_
  have bq1 := ig_37_6 Iq0
  refine g_bipush X 8 dX1_lower_4 (by decide) ?_
  refine g_icmp_le X rfl (show (8 : Int32).toInt = 8 by decide) (tgt := 19) dX1_lower_6 (by decide) (fun cq2 => ?_) (fun cq2 => ?_)
  · exact g_vret X dX1_lower_19 ⟨rfl, trivial, (by first | (rw [ui_eq]; omega) | (exfalso; omega)), Iq0, frq0⟩
  · refine g_aload_n X 0 rfl dX1_lower_9 ?_
    refine g_dup X dX1_lower_10 rfl ?_
    refine g_geti X f_X1_26 dX1_lower_11 (x := Mq.1 37 6) rfl ?_
    have bq3 := ig_37_6 Iq0
    refine g_iconst X 1 dX1_lower_14 (by decide) ?_
    refine g_isub X dX1_lower_15 (fun zq4 eq5 => ?_)
    have tq6 : zq4.toInt = ((Mq.1 37 6).toInt) - 1 := sub_nw eq5 rfl (show (1 : Int32).toInt = 1 by decide) (by omega)
    refine g_puti X p_X1_26 dX1_lower_16 ?_
    have Iq7 : Iv TX (ui Mq 37 6 zq4) := Iq0.put 8 36 tq6 (by omega) rfl
    have frq8 : Fr W_X1_lower_R Mq (ui Mq 37 6 zq4) := frq0.ui rfl
    exact g_vret X dX1_lower_19 ⟨rfl, trivial, (by first | (rw [ui_eq]; omega) | (exfalso; omega)), Iq7, frq8⟩
abbrev W_X1_raise_R : List (Nat × Nat) := [(37, 6), (38, 99)]
set_option maxHeartbeats 4000000 in
set_option maxRecDepth 4000 in
theorem c_X1_raise_R (ad : Nat → Nat) (Mq : Mem) (Iq0 : Iv TX Mq) (h1 : (Mq.1 37 6).toInt < 36) : Ctr ad yX1_raise cX1_raise 1 none 2 [.ref (ad 37)] Mq (fun v M' => v = none ∧ (True) ∧ ((M'.1 37 6).toInt = (Mq.1 37 6).toInt + 1 ∧ TB (M'.1 38) ((Mq.1 37 5).toInt).toNat ((Mq.1 37 6).toInt + 1).toNat mO ∧ OUTr (Mq.1 38) (M'.1 38) ((Mq.1 37 6).toInt + 1).toNat) ∧ Iv TX M' ∧ Fr W_X1_raise_R Mq M') := by
  refine ctr_of (L := [(0, .ref (ad 37))]) (by decide) (Nat.le_of_ble_eq_true rfl) rfl ?_
  intro Γ X
  have X : gX Γ cX1_raise RX1 1 none 2 ad _ := X
  have frq0 : Fr W_X1_raise_R Mq Mq := Fr.rf
  have hL := ig_37_5 Iq0
  have hn : ((Mq.1 37 5).toInt).toNat < 25 := by omega
  have hTp := ig_37_6 Iq0
  refine g_aload_n X 0 rfl dX1_raise_0 ?_
  refine g_geti X f_X1_26 dX1_raise_1 (x := Mq.1 37 6) rfl ?_
  have bq1 := ig_37_6 Iq0
  refine g_bipush X 36 dX1_raise_4 (by decide) ?_
  refine g_icmp_ge X rfl (show (36 : Int32).toInt = 36 by decide) (tgt := 19) dX1_raise_6 (by decide) (fun cq2 => ?_) (fun cq2 => ?_)
  · refine g_aload_n X 0 rfl dX1_raise_19 ?_
    refine g_aload_n X 0 rfl dX1_raise_20 ?_
    refine g_geti X f_X1_26 dX1_raise_21 (x := Mq.1 37 6) rfl ?_
    have bq3 := ig_37_6 Iq0
    refine g_callV X m_X1_83 (c_X1_clear_R ad Mq (Mq.1 37 6) rfl Iq0 (by omega)) rfl (by decide) (Nat.le_of_ble_eq_true rfl) rfl dX1_raise_24 ?_
    rintro _ Mq9 ⟨rfl, hq7, hq8, Iq10, frq11⟩
    have frq12 : Fr W_X1_raise_R Mq Mq9 := frq0.trans frq11 rfl
    have hc1 : TB (Mq9.1 38) ((Mq.1 37 5).toInt).toNat ((Mq.1 37 6).toInt + 1).toNat mZ0 ∧ OUTr (Mq.1 38) (Mq9.1 38) ((Mq.1 37 6).toInt + 1).toNat := by first | (exfalso; omega) | exact hq8
    have p6 : (Mq9.1 37 6).toInt = (Mq.1 37 6).toInt + 1 := by first | (exfalso; omega) | (rw [frq11.at 37 6 rfl, ui_eq]; omega)
    have p5 : (Mq9.1 37 5).toInt = (Mq.1 37 5).toInt := congrArg Int32.toInt (frq11.at 37 5 rfl)
    show G Γ Mq9 27 [(0, .ref (ad 37))] []
    refine g_aload_n X 0 rfl dX1_raise_27 ?_
    refine g_aload_n X 0 rfl dX1_raise_28 ?_
    refine g_geti X f_X1_26 dX1_raise_29 (x := Mq9.1 37 6) rfl ?_
    have bq13 := ig_37_6 Iq10
    refine g_callV X m_X1_86 (c_X1_addOne_R ad Mq9 (Mq9.1 37 6) rfl Iq10 (by omega) (by rw [p5, p6]; exact hc1.1)) rfl (by decide) (Nat.le_of_ble_eq_true rfl) rfl dX1_raise_32 ?_
    rintro _ Mq19 ⟨rfl, hq17, hq18, Iq20, frq21⟩
    have frq22 : Fr W_X1_raise_R Mq Mq19 := frq12.trans frq21 rfl
    have hc2 := hq18
    rw [p5, p6] at hc2
    have f2 := frq21
    show G Γ Mq19 35 [(0, .ref (ad 37))] []
    exact g_vret X dX1_raise_35 ⟨rfl, trivial, ((by first | exact ⟨by rw [f2.at 37 6 rfl]; exact p6, TB_one hc2.1, OUT_tr hc1.2 hc2.2⟩ | (exfalso; omega))), Iq20, frq22⟩
  · refine g_aload_n X 0 rfl dX1_raise_9 ?_
    refine g_dup X dX1_raise_10 rfl ?_
    refine g_geti X f_X1_26 dX1_raise_11 (x := Mq.1 37 6) rfl ?_
    have bq23 := ig_37_6 Iq0
    refine g_iconst X 1 dX1_raise_14 (by decide) ?_
    refine g_iadd X dX1_raise_15 (fun zq24 eq25 => ?_)
    have tq26 : zq24.toInt = ((Mq.1 37 6).toInt) + 1 := add_nw eq25 rfl (show (1 : Int32).toInt = 1 by decide) (by omega)
    refine g_puti X p_X1_26 dX1_raise_16 ?_
    have Iq27 : Iv TX (ui Mq 37 6 zq24) := Iq0.put 8 36 tq26 (by omega) rfl
    have frq28 : Fr W_X1_raise_R Mq (ui Mq 37 6 zq24) := frq0.ui rfl
    refine g_aload_n X 0 rfl dX1_raise_19 ?_
    refine g_aload_n X 0 rfl dX1_raise_20 ?_
    refine g_geti X f_X1_26 dX1_raise_21 (x := zq24) rfl ?_
    refine g_callV X m_X1_83 (c_X1_clear_R ad (ui Mq 37 6 zq24) zq24 tq26 Iq27 (by omega)) rfl (by decide) (Nat.le_of_ble_eq_true rfl) rfl dX1_raise_24 ?_
    rintro _ Mq34 ⟨rfl, hq32, hq33, Iq35, frq36⟩
    have frq37 : Fr W_X1_raise_R Mq Mq34 := frq28.trans frq36 rfl
    have hc1 : TB (Mq34.1 38) ((Mq.1 37 5).toInt).toNat ((Mq.1 37 6).toInt + 1).toNat mZ0 ∧ OUTr (Mq.1 38) (Mq34.1 38) ((Mq.1 37 6).toInt + 1).toNat := by first | (exfalso; omega) | exact hq33
    have p6 : (Mq34.1 37 6).toInt = (Mq.1 37 6).toInt + 1 := by first | (exfalso; omega) | (rw [frq36.at 37 6 rfl, ui_eq]; omega)
    have p5 : (Mq34.1 37 5).toInt = (Mq.1 37 5).toInt := congrArg Int32.toInt (frq36.at 37 5 rfl)
    show G Γ Mq34 27 [(0, .ref (ad 37))] []
    refine g_aload_n X 0 rfl dX1_raise_27 ?_
    refine g_aload_n X 0 rfl dX1_raise_28 ?_
    refine g_geti X f_X1_26 dX1_raise_29 (x := Mq34.1 37 6) rfl ?_
    have bq38 := ig_37_6 Iq35
    refine g_callV X m_X1_86 (c_X1_addOne_R ad Mq34 (Mq34.1 37 6) rfl Iq35 (by omega) (by rw [p5, p6]; exact hc1.1)) rfl (by decide) (Nat.le_of_ble_eq_true rfl) rfl dX1_raise_32 ?_
    rintro _ Mq44 ⟨rfl, hq42, hq43, Iq45, frq46⟩
    have frq47 : Fr W_X1_raise_R Mq Mq44 := frq37.trans frq46 rfl
    have hc2 := hq43
    rw [p5, p6] at hc2
    have f2 := frq46
    show G Γ Mq44 35 [(0, .ref (ad 37))] []
    exact g_vret X dX1_raise_35 ⟨rfl, trivial, ((by first | exact ⟨by rw [f2.at 37 6 rfl]; exact p6, TB_one hc2.1, OUT_tr hc1.2 hc2.2⟩ | (exfalso; omega))), Iq45, frq47⟩
abbrev W_X1_close_R : List (Nat × Nat) := [(37, 6), (38, 99)]
set_option maxHeartbeats 4000000 in
set_option maxRecDepth 4000 in
theorem c_X1_close_R (ad : Nat → Nat) (Mq : Mem) (Iq0 : Iv TX Mq) {A B : Mat} (h1 : 9 ≤ (Mq.1 37 6).toInt) (hA : TB (Mq.1 38) ((Mq.1 37 5).toInt).toNat ((Mq.1 37 6).toInt).toNat A) (hB : TB (Mq.1 38) ((Mq.1 37 5).toInt).toNat ((Mq.1 37 6).toInt - 1).toNat B) : Ctr ad yX1_close cX1_close 2 none 2 [.ref (ad 37)] Mq (fun v M' => v = none ∧ (True) ∧ ((M'.1 37 6).toInt = (Mq.1 37 6).toInt - 1 ∧ TB (M'.1 38) ((Mq.1 37 5).toInt).toNat ((Mq.1 37 6).toInt - 1).toNat (mM B A) ∧ OUTr (Mq.1 38) (M'.1 38) ((Mq.1 37 6).toInt - 1).toNat) ∧ Iv TX M' ∧ Fr W_X1_close_R Mq M') := by
  refine ctr_of (L := [(0, .ref (ad 37))]) (by decide) (Nat.le_of_ble_eq_true rfl) rfl ?_
  intro Γ X
  have X : gX Γ cX1_close RX1 2 none 2 ad _ := X
  have frq0 : Fr W_X1_close_R Mq Mq := Fr.rf
  have hL := ig_37_5 Iq0
  have hn : ((Mq.1 37 5).toInt).toNat < 25 := by omega
  have hTp := ig_37_6 Iq0
  refine g_aload_n X 0 rfl dX1_close_0 ?_
  refine g_geti X f_X1_26 dX1_close_1 (x := Mq.1 37 6) rfl ?_
  have bq1 := ig_37_6 Iq0
  refine g_istore_n X (i := 1) [(1, .int (Mq.1 37 6)), (0, .ref (ad 37))] dX1_close_4 rfl (by decide) rfl ?_
  refine g_aload_n X 1 rfl dX1_close_5 ?_
  refine g_callV X m_X1_121 (c_X1_lower_R ad Mq Iq0 (by omega)) rfl (by decide) (Nat.le_of_ble_eq_true rfl) rfl dX1_close_6 ?_
  rintro _ Mq7 ⟨rfl, hq5, hq6, Iq8, frq9⟩
  have frq10 : Fr W_X1_close_R Mq Mq7 := frq0.trans frq9 rfl
  have p6 := hq6
  have p38 : Mq7.1 38 = Mq.1 38 := row_fr frq9 (by decide)
  have p5 : (Mq7.1 37 5).toInt = (Mq.1 37 5).toInt := by rw [frq9.at 37 5 rfl]
  show G Γ Mq7 9 [(1, .int (Mq.1 37 6)), (0, .ref (ad 37))] []
  refine g_aload_n X 1 rfl dX1_close_9 ?_
  refine g_aload_n X 1 rfl dX1_close_10 ?_
  refine g_geti X f_X1_26 dX1_close_11 (x := Mq7.1 37 6) rfl ?_
  have bq11 := ig_37_6 Iq8
  refine g_iload_n X 0 rfl dX1_close_14 ?_
  refine g_callV X m_X1_112 (c_X1_multiply_R ad Mq7 (Mq7.1 37 6) rfl (Mq.1 37 6) rfl Iq8 (by omega) (by omega) (by omega) (by rw [p5, p6, p38]; exact hB) (by rw [p5, p38]; exact hA)) rfl (by decide) (Nat.le_of_ble_eq_true rfl) rfl dX1_close_15 ?_
  rintro _ Mq17 ⟨rfl, hq15, hq16, Iq18, frq19⟩
  have frq20 : Fr W_X1_close_R Mq Mq17 := frq10.trans frq19 rfl
  have hc2 := hq16
  rw [p5, p6, p38] at hc2
  have f2 := frq19
  show G Γ Mq17 18 [(1, .int (Mq.1 37 6)), (0, .ref (ad 37))] []
  exact g_vret X dX1_close_18 ⟨rfl, trivial, (⟨by rw [f2.at 37 6 rfl]; exact p6, hc2.1, hc2.2⟩), Iq18, frq20⟩
abbrev W_X1_repeat_R : List (Nat × Nat) := [(38, 99)]
set_option maxHeartbeats 4000000 in
set_option maxRecDepth 4000 in
theorem c_X1_repeat_R (ad : Nat → Nat) (Mq : Mem) (Iq0 : Iv TX Mq) {A : Mat} {hq : Nat} (hA : TB (Mq.1 38) ((Mq.1 37 5).toInt).toNat ((Mq.1 37 6).toInt).toNat A) (hh : (Mq.1 14 12).toInt = ((hq : Nat) : Int)) : Ctr ad yX1_repeat cX1_repeat 3 none 2 [.ref (ad 37)] Mq (fun v M' => v = none ∧ (True) ∧ (TB (M'.1 38) ((Mq.1 37 5).toInt).toNat ((Mq.1 37 6).toInt).toNat (mHr A hq) ∧ OUT2 (Mq.1 38) (M'.1 38) ((Mq.1 37 6).toInt).toNat) ∧ Iv TX M' ∧ Fr W_X1_repeat_R Mq M') := by
  refine ctr_of (L := [(0, .ref (ad 37))]) (by decide) (Nat.le_of_ble_eq_true rfl) rfl ?_
  intro Γ X
  have X : gX Γ cX1_repeat RX1 3 none 2 ad _ := X
  have frq0 : Fr W_X1_repeat_R Mq Mq := Fr.rf
  have hL := ig_37_5 Iq0
  have hn : ((Mq.1 37 5).toInt).toNat < 25 := by omega
  have hTp := ig_37_6 Iq0
  refine g_aload_n X 0 rfl dX1_repeat_0 ?_
  refine g_geti X f_X1_26 dX1_repeat_1 (x := Mq.1 37 6) rfl ?_
  have bq1 := ig_37_6 Iq0
  refine g_iconst X 1 dX1_repeat_4 (by decide) ?_
  refine g_iadd X dX1_repeat_5 (fun zq2 eq3 => ?_)
  have tq4 : zq2.toInt = ((Mq.1 37 6).toInt) + 1 := add_nw eq3 rfl (show (1 : Int32).toInt = 1 by decide) (by omega)
  refine g_istore_n X (i := 1) [(1, .int zq2), (0, .ref (ad 37))] dX1_repeat_6 rfl (by decide) rfl ?_
  refine g_aload_n X 1 rfl dX1_repeat_7 ?_
  refine g_iload_n X 0 rfl dX1_repeat_8 ?_
  refine g_callV X m_X1_83 (c_X1_clear_R ad Mq zq2 tq4 Iq0 (by omega)) rfl (by decide) (Nat.le_of_ble_eq_true rfl) rfl dX1_repeat_9 ?_
  rintro _ Mq10 ⟨rfl, hq8, hq9, Iq11, frq12⟩
  have frq13 : Fr W_X1_repeat_R Mq Mq10 := frq0.trans frq12 rfl
  have hc1 : TB (Mq10.1 38) ((Mq.1 37 5).toInt).toNat ((Mq.1 37 6).toInt + 1).toNat mZ0 ∧ OUTr (Mq.1 38) (Mq10.1 38) ((Mq.1 37 6).toInt + 1).toNat := hq9
  have p5 : (Mq10.1 37 5).toInt = (Mq.1 37 5).toInt := by rw [frq12.at 37 5 rfl]
  show G Γ Mq10 12 [(1, .int zq2), (0, .ref (ad 37))] []
  refine g_aload_n X 1 rfl dX1_repeat_12 ?_
  refine g_iload_n X 0 rfl dX1_repeat_13 ?_
  refine g_callV X m_X1_86 (c_X1_addOne_R ad Mq10 zq2 tq4 Iq11 (by omega) (by rw [p5]; exact hc1.1)) rfl (by decide) (Nat.le_of_ble_eq_true rfl) rfl dX1_repeat_14 ?_
  rintro _ Mq19 ⟨rfl, hq17, hq18, Iq20, frq21⟩
  have frq22 : Fr W_X1_repeat_R Mq Mq19 := frq13.trans frq21 rfl
  have hc2 := hq18
  rw [p5] at hc2
  have hs0 : TB (Mq19.1 38) ((Mq.1 37 5).toInt).toNat ((Mq.1 37 6).toInt + 1).toNat mO := TB_one hc2.1
  have ho0 : OUT2 (Mq.1 38) (Mq19.1 38) ((Mq.1 37 6).toInt).toNat := OUT2_b (OUT2_b OUT2_rf hc1.2 (by omega)) hc2.2 (by omega)
  have ha0 : TB (Mq19.1 38) ((Mq.1 37 5).toInt).toNat ((Mq.1 37 6).toInt).toNat A := TB_OUT hn (TB_OUT hn hA hc1.2 (by omega)) hc2.2 (by omega)
  show G Γ Mq19 17 [(1, .int zq2), (0, .ref (ad 37))] []
  refine g_iconst X 0 dX1_repeat_17 (by decide) ?_
  refine g_istore_n X (i := 2) [(2, .int 0), (1, .int zq2), (0, .ref (ad 37))] dX1_repeat_18 rfl (by decide) rfl ?_
  have lp19 : ∀ n : Nat, ∀ (y2_19 : Int32) (b2_19 : Int), y2_19.toInt = b2_19 → ∀ (M_19 : Mem), (0 ≤ b2_19 ∧ b2_19 ≤ (Mq.1 14 12).toInt) → (TB (M_19.1 38) ((Mq.1 37 5).toInt).toNat ((Mq.1 37 6).toInt + 1).toNat (mHr A (b2_19).toNat)) → (TB (M_19.1 38) ((Mq.1 37 5).toInt).toNat ((Mq.1 37 6).toInt).toNat A) → (OUT2 (Mq.1 38) (M_19.1 38) ((Mq.1 37 6).toInt).toNat) → (Iv TX M_19) → (Fr W_X1_repeat_R Mq M_19) → ((Mq.1 14 12).toInt - b2_19).toNat < n → G Γ M_19 19 [(2, .int y2_19), (1, .int zq2), (0, .ref (ad 37))] [] := by
    intro n
    induction n with
    | zero => intro y2_19 b2_19 e2_19 M_19 i1 i2 i3 i4 I_19 fr_19 hm; exact absurd hm (Nat.not_lt_zero _)
    | succ n ih19 =>
      intro y2_19 b2_19 e2_19 M_19 i1 i2 i3 i4 I_19 fr_19 hm19
      have q14_12 : (M_19.1 14 12).toInt = (Mq.1 14 12).toInt := congrArg Int32.toInt (fr_19.at 14 12 rfl)
      have q37_6 : (M_19.1 37 6).toInt = (Mq.1 37 6).toInt := congrArg Int32.toInt (fr_19.at 37 6 rfl)
      have q37_5 : (M_19.1 37 5).toInt = (Mq.1 37 5).toInt := congrArg Int32.toInt (fr_19.at 37 5 rfl)
      refine g_iload_n X 0 rfl dX1_repeat_19 ?_
      refine g_aload_n X 2 rfl dX1_repeat_20 ?_
      refine g_getr X f_X1_33 dX1_repeat_21 ?_
      refine g_geti X f_X1_127 dX1_repeat_24 (x := M_19.1 14 12) rfl ?_
      have bq23 := ig_14_12 I_19
      refine g_icmp_ge X e2_19 rfl (tgt := 50) dX1_repeat_27 (by decide) (fun cq24 => ?_) (fun cq24 => ?_)
      · refine g_aload_n X 2 rfl dX1_repeat_50 ?_
        refine g_aload_n X 2 rfl dX1_repeat_51 ?_
        refine g_geti X f_X1_26 dX1_repeat_52 (x := M_19.1 37 6) rfl ?_
        have bq25 := ig_37_6 I_19
        refine g_callV X m_X1_83 (c_X1_clear_R ad M_19 (M_19.1 37 6) rfl I_19 (by omega)) rfl (by decide) (Nat.le_of_ble_eq_true rfl) rfl dX1_repeat_55 ?_
        rintro _ Mq31 ⟨rfl, hq29, hq30, Iq32, frq33⟩
        have frq34 : Fr W_X1_repeat_R Mq Mq31 := fr_19.trans frq33 rfl
        have hm3 := hq30
        rw [q37_5, q37_6] at hm3
        have s5 : (Mq31.1 37 5).toInt = (Mq.1 37 5).toInt := by rw [frq33.at 37 5 rfl]; exact q37_5
        have s6 : (Mq31.1 37 6).toInt = (Mq.1 37 6).toInt := by rw [frq33.at 37 6 rfl]; exact q37_6
        show G Γ Mq31 58 [(2, .int y2_19), (1, .int zq2), (0, .ref (ad 37))] []
        refine g_aload_n X 2 rfl dX1_repeat_58 ?_
        refine g_aload_n X 2 rfl dX1_repeat_59 ?_
        refine g_geti X f_X1_26 dX1_repeat_60 (x := Mq31.1 37 6) rfl ?_
        have bq35 := ig_37_6 Iq32
        refine g_iload_n X 1 rfl dX1_repeat_63 ?_
        refine g_callV X m_X1_99 (c_X1_addTable_R ad Mq31 (Mq31.1 37 6) rfl zq2 tq4 Iq32 (by omega) (by omega) (by omega) (by rw [s5, s6]; exact hm3.1) (by rw [s5]; exact TB_OUT hn i2 hm3.2 (by omega))) rfl (by decide) (Nat.le_of_ble_eq_true rfl) rfl dX1_repeat_64 ?_
        rintro _ Mq41 ⟨rfl, hq39, hq40, Iq42, frq43⟩
        have frq44 : Fr W_X1_repeat_R Mq Mq41 := frq34.trans frq43 rfl
        have hm4 := hq40
        rw [s5, s6] at hm4
        show G Γ Mq41 67 [(2, .int y2_19), (1, .int zq2), (0, .ref (ad 37))] []
        exact g_vret X dX1_repeat_67 ⟨rfl, trivial, (⟨TB_zadd (by rw [show b2_19.toNat = hq by omega] at hm4; exact hm4.1), OUT2_a (OUT2_a i4 hm3.2) hm4.2⟩), Iq42, frq44⟩
      · refine g_aload_n X 2 rfl dX1_repeat_30 ?_
        refine g_iload_n X 1 rfl dX1_repeat_31 ?_
        refine g_aload_n X 2 rfl dX1_repeat_32 ?_
        refine g_geti X f_X1_26 dX1_repeat_33 (x := M_19.1 37 6) rfl ?_
        have bq45 := ig_37_6 I_19
        refine g_callV X m_X1_112 (c_X1_multiply_R ad M_19 zq2 tq4 (M_19.1 37 6) rfl I_19 (by omega) (by omega) (by omega) (by rw [q37_5]; exact i2) (by rw [q37_5, q37_6]; exact i3)) rfl (by decide) (Nat.le_of_ble_eq_true rfl) rfl dX1_repeat_36 ?_
        rintro _ Mq51 ⟨rfl, hq49, hq50, Iq52, frq53⟩
        have frq54 : Fr W_X1_repeat_R Mq Mq51 := fr_19.trans frq53 rfl
        have hm1 := hq50
        rw [q37_5] at hm1
        have s5 : (Mq51.1 37 5).toInt = (Mq.1 37 5).toInt := by rw [frq53.at 37 5 rfl]; exact q37_5
        show G Γ Mq51 39 [(2, .int y2_19), (1, .int zq2), (0, .ref (ad 37))] []
        refine g_aload_n X 2 rfl dX1_repeat_39 ?_
        refine g_iload_n X 1 rfl dX1_repeat_40 ?_
        refine g_callV X m_X1_86 (c_X1_addOne_R ad Mq51 zq2 tq4 Iq52 (by omega) (by rw [s5]; exact hm1.1)) rfl (by decide) (Nat.le_of_ble_eq_true rfl) rfl dX1_repeat_41 ?_
        rintro _ Mq60 ⟨rfl, hq58, hq59, Iq61, frq62⟩
        have frq63 : Fr W_X1_repeat_R Mq Mq60 := frq54.trans frq62 rfl
        have hm2 := hq59
        rw [s5] at hm2
        show G Γ Mq60 44 [(2, .int y2_19), (1, .int zq2), (0, .ref (ad 37))] []
        refine g_iinc X 0 (fun v => [(2, .int v), (1, .int zq2), (0, .ref (ad 37))]) dX1_repeat_44 rfl (by decide) (fun _ => rfl) (fun zq64 eq65 => ?_)
        have tq66 : zq64.toInt = b2_19 + 1 := add_nw eq65 e2_19 (show (Int32.ofInt 1).toInt = 1 by decide) (by omega)
        refine g_goto X (tgt := 19) dX1_repeat_47 (by decide) ?_
        refine g_sub [0, 1, 2] rfl ?_
        exact ih19 zq64 _ tq66 Mq60 (by omega) (by rw [show (b2_19 + 1).toNat = b2_19.toNat + 1 by omega]; exact hm2.1) (TB_OUT hn (TB_OUT hn i3 hm1.2 (by omega)) hm2.2 (by omega)) (OUT2_b (OUT2_b i4 hm1.2 (by omega)) hm2.2 (by omega)) Iq61 frq63 (by omega)
  refine g_sub [0, 1, 2] rfl ?_
  exact lp19 _ 0 _ (show (0 : Int32).toInt = 0 by decide) Mq19 (by omega) hs0 ha0 ho0 Iq20 frq22 (Nat.lt_succ_self _)
abbrev W_X1_readSign_R : List (Nat × Nat) := [(37, 6), (38, 99)]
set_option maxHeartbeats 4000000 in
set_option maxRecDepth 4000 in
theorem c_X1_readSign_R (ad : Nat → Nat) (Mq : Mem) (x1 : Int32) {a1 : Int} (t1 : x1.toInt = a1) (Iq0 : Iv TX Mq) {p : RpT} {S : List Mat} {A : Mat} (hS : STK (Mq.1 38) ((Mq.1 37 5).toInt).toNat (A :: S)) (ht : (Mq.1 37 6).toInt = 8 + (S.length : Int)) (hv : RSV a1 S.length) (hl : S.length ≤ 28) (hw : ∀ s j : Nat, s < 8 → (j : Int) < (Mq.1 37 5).toInt → (Mq.1 39 (8 * j + s)).toInt = ((p.1 s j : Nat) : Int) ∧ p.1 s j ≤ 64) (hh : (Mq.1 14 12).toInt = ((p.2.2 : Nat) : Int)) (hT : 65 ≤ a1 ∧ a1 ≤ 72 → TB (Mq.1 38) ((Mq.1 37 5).toInt).toNat (a1 - 65).toNat (p.2.1 (a1 - 65).toNat)) : Ctr ad yX1_readSign cX1_readSign 2 none 3 [.ref (ad 37), .int x1] Mq (fun v M' => v = none ∧ (True) ∧ (RSQ Mq M' ((Mq.1 37 5).toInt).toNat (mcS p a1 (A :: S))) ∧ Iv TX M' ∧ Fr W_X1_readSign_R Mq M') := by
  refine ctr_of (L := [(0, .ref (ad 37)), (1, .int x1)]) (by decide) (Nat.le_of_ble_eq_true rfl) rfl ?_
  intro Γ X
  have X : gX Γ cX1_readSign RX1 2 none 3 ad _ := X
  have frq0 : Fr W_X1_readSign_R Mq Mq := Fr.rf
  have hL := ig_37_5 Iq0
  have hn : ((Mq.1 37 5).toInt).toNat < 25 := by omega
  have hTp := ig_37_6 Iq0
  have hA : TB (Mq.1 38) ((Mq.1 37 5).toInt).toNat ((Mq.1 37 6).toInt).toNat A := by rw [show ((Mq.1 37 6).toInt).toNat = 8 + S.length by omega]; exact hS.1
  unfold RSV at hv
  refine g_iload_n X 1 rfl dX1_readSign_0 ?_
  refine g_callS X m_X1_102 (c_X6_isSlot ad Mq x1 t1) rfl (by decide) (Nat.le_of_ble_eq_true rfl) rfl dX1_readSign_1 ?_
  rintro _ _ ⟨rq1, aq2, rfl, tq3, hq4, rfl⟩
  show G Γ Mq 4 [(0, .ref (ad 37)), (1, .int x1)] [.int rq1]
  refine g_if_eq X tq3 (tgt := 18) dX1_readSign_4 (by decide) (fun cq5 => ?_) (fun cq5 => ?_)
  · have pq6 : ¬ (97 ≤ a1 ∧ a1 ≤ 104) := by first | omega | (rcases hq4 with ⟨z1, z2⟩ | ⟨z1, z2⟩ <;> first | exact z2 | (exfalso; omega))
    refine g_iload_n X 1 rfl dX1_readSign_18 ?_
    refine g_callS X m_X1_109 (c_X6_isScene ad Mq x1 t1) rfl (by decide) (Nat.le_of_ble_eq_true rfl) rfl dX1_readSign_19 ?_
    rintro _ _ ⟨rq7, aq8, rfl, tq9, hq10, rfl⟩
    show G Γ Mq 22 [(0, .ref (ad 37)), (1, .int x1)] [.int rq7]
    refine g_if_eq X tq9 (tgt := 40) dX1_readSign_22 (by decide) (fun cq11 => ?_) (fun cq11 => ?_)
    · have pq12 : ¬ (65 ≤ a1 ∧ a1 ≤ 72) := by first | omega | (rcases hq10 with ⟨z1, z2⟩ | ⟨z1, z2⟩ <;> first | exact z2 | (exfalso; omega))
      refine g_iload_n X 1 rfl dX1_readSign_40 ?_
      refine g_bipush X 93 dX1_readSign_41 (by decide) ?_
      refine g_icmp_ne X t1 (show (93 : Int32).toInt = 93 by decide) (tgt := 61) dX1_readSign_43 (by decide) (fun cq13 => ?_) (fun cq13 => ?_)
      · refine g_iload_n X 1 rfl dX1_readSign_61 ?_
        refine g_bipush X 125 dX1_readSign_62 (by decide) ?_
        refine g_icmp_ne X t1 (show (125 : Int32).toInt = 125 by decide) (tgt := 78) dX1_readSign_64 (by decide) (fun cq14 => ?_) (fun cq14 => ?_)
        · refine g_iload_n X 1 rfl dX1_readSign_78 ?_
          refine g_bipush X 41 dX1_readSign_79 (by decide) ?_
          refine g_icmp_ne X t1 (show (41 : Int32).toInt = 41 by decide) (tgt := 109) dX1_readSign_81 (by decide) (fun cq15 => ?_) (fun cq15 => ?_)
          · refine g_aload_n X 0 rfl dX1_readSign_109 ?_
            refine g_callV X m_X1_124 (c_X1_raise_R ad Mq Iq0 (by omega)) rfl (by decide) (Nat.le_of_ble_eq_true rfl) rfl dX1_readSign_110 ?_
            rintro _ Mq21 ⟨rfl, hq19, hq20, Iq22, frq23⟩
            have frq24 : Fr W_X1_readSign_R Mq Mq21 := frq0.trans frq23 rfl
            have hq1 := hq20
            have hR : RSQ Mq Mq21 ((Mq.1 37 5).toInt).toNat (mcS p a1 (A :: S)) := by rw [mcS_op (by omega)]; exact RS_two hn hS (by rw [List.length_cons]; have z := hq1.1; omega) (by rw [List.length_cons]; omega) hq1.2.1 (BEL_o hq1.2.2 (Nat.le_refl _))
            show G Γ Mq21 113 [(0, .ref (ad 37)), (1, .int x1)] []
            exact g_vret X dX1_readSign_113 ⟨rfl, trivial, (hR), Iq22, frq24⟩
          · obtain ⟨A2, B, S2, rfl⟩ := ls2 (l := S) (by omega)
            rw [List.length_cons, List.length_cons] at ht hl
            refine g_aload_n X 0 rfl dX1_readSign_84 ?_
            refine g_aload_n X 0 rfl dX1_readSign_85 ?_
            refine g_geti X f_X1_26 dX1_readSign_86 (x := Mq.1 37 6) rfl ?_
            have bq25 := ig_37_6 Iq0
            refine g_iconst X 1 dX1_readSign_89 (by decide) ?_
            refine g_isub X dX1_readSign_90 (fun zq26 eq27 => ?_)
            have tq28 : zq26.toInt = ((Mq.1 37 6).toInt) - 1 := sub_nw eq27 rfl (show (1 : Int32).toInt = 1 by decide) (by omega)
            refine g_aload_n X 0 rfl dX1_readSign_91 ?_
            refine g_geti X f_X1_26 dX1_readSign_92 (x := Mq.1 37 6) rfl ?_
            have bq29 := ig_37_6 Iq0
            refine g_callV X m_X1_99 (c_X1_addTable_R ad Mq zq26 tq28 (Mq.1 37 6) rfl Iq0 (by omega) (by omega) (by omega) (by rw [show ((Mq.1 37 6).toInt - 1).toNat = 8 + (B :: S2).length by rw [List.length_cons]; omega]; exact hS.2.1) hA) rfl (by decide) (Nat.le_of_ble_eq_true rfl) rfl dX1_readSign_95 ?_
            rintro _ Mq35 ⟨rfl, hq33, hq34, Iq36, frq37⟩
            have frq38 : Fr W_X1_readSign_R Mq Mq35 := frq0.trans frq37 rfl
            have hq1 := hq34
            have p5 : (Mq35.1 37 5).toInt = (Mq.1 37 5).toInt := by rw [frq37.at 37 5 rfl]
            have p6 : (Mq35.1 37 6).toInt = (Mq.1 37 6).toInt := by rw [frq37.at 37 6 rfl]
            show G Γ Mq35 98 [(0, .ref (ad 37)), (1, .int x1)] []
            refine g_aload_n X 0 rfl dX1_readSign_98 ?_
            refine g_callV X m_X1_121 (c_X1_lower_R ad Mq35 Iq36 (by omega)) rfl (by decide) (Nat.le_of_ble_eq_true rfl) rfl dX1_readSign_99 ?_
            rintro _ Mq44 ⟨rfl, hq42, hq43, Iq45, frq46⟩
            have frq47 : Fr W_X1_readSign_R Mq Mq44 := frq38.trans frq46 rfl
            have hq3 := hq43
            rw [p6] at hq3
            have p38 : Mq44.1 38 = Mq35.1 38 := row_fr frq46 (by decide)
            have s5 : (Mq44.1 37 5).toInt = (Mq.1 37 5).toInt := by rw [frq46.at 37 5 rfl]; exact p5
            show G Γ Mq44 102 [(0, .ref (ad 37)), (1, .int x1)] []
            refine g_aload_n X 0 rfl dX1_readSign_102 ?_
            refine g_callV X m_X1_115 (c_X1_close_R ad Mq44 Iq45 (by omega) (by rw [s5, hq3, p38]; exact hq1.1) (by rw [s5, hq3, p38, show ((Mq.1 37 6).toInt - 1 - 1).toNat = 8 + S2.length by omega]; exact TB_OUT hn hS.2.2.1 hq1.2 (by omega))) rfl (by decide) (Nat.le_of_ble_eq_true rfl) rfl dX1_readSign_103 ?_
            rintro _ Mq53 ⟨rfl, hq51, hq52, Iq54, frq55⟩
            have frq56 : Fr W_X1_readSign_R Mq Mq53 := frq47.trans frq55 rfl
            have hq2 := hq52
            rw [s5, hq3, p38] at hq2
            have hR : RSQ Mq Mq53 ((Mq.1 37 5).toInt).toNat (mcS p a1 (A :: A2 :: B :: S2)) := by rw [mcS_41 (by omega)]; exact RS_two hn hS.2.2.2 (by have z := hq2.1; omega) (by omega) hq2.2.1 (BEL_tr (BEL_o hq1.2 (by omega)) (BEL_o hq2.2.2 (Nat.le_refl _)))
            show G Γ Mq53 106 [(0, .ref (ad 37)), (1, .int x1)] []
            refine g_goto X (tgt := 113) dX1_readSign_106 (by decide) ?_
            exact g_vret X dX1_readSign_113 ⟨rfl, trivial, (hR), Iq54, frq56⟩
        · obtain ⟨B, S2, rfl⟩ := ls1 (l := S) (by omega)
          rw [List.length_cons] at ht hl
          refine g_aload_n X 0 rfl dX1_readSign_67 ?_
          refine g_callV X m_X1_118 (c_X1_repeat_R ad Mq Iq0 hA hh) rfl (by decide) (Nat.le_of_ble_eq_true rfl) rfl dX1_readSign_68 ?_
          rintro _ Mq62 ⟨rfl, hq60, hq61, Iq63, frq64⟩
          have frq65 : Fr W_X1_readSign_R Mq Mq62 := frq0.trans frq64 rfl
          have hq1 := hq61
          have p5 : (Mq62.1 37 5).toInt = (Mq.1 37 5).toInt := by rw [frq64.at 37 5 rfl]
          have p6 : (Mq62.1 37 6).toInt = (Mq.1 37 6).toInt := by rw [frq64.at 37 6 rfl]
          show G Γ Mq62 71 [(0, .ref (ad 37)), (1, .int x1)] []
          refine g_aload_n X 0 rfl dX1_readSign_71 ?_
          refine g_callV X m_X1_115 (c_X1_close_R ad Mq62 Iq63 (by omega) (by rw [p5, p6]; exact hq1.1) (by rw [p5, p6, show ((Mq.1 37 6).toInt - 1).toNat = 8 + S2.length by omega]; exact TB_BEL (t := ((Mq.1 37 6).toInt).toNat) hn hS.2.1 (BEL_o2 hq1.2 (Nat.le_refl _)) (by omega))) rfl (by decide) (Nat.le_of_ble_eq_true rfl) rfl dX1_readSign_72 ?_
          rintro _ Mq71 ⟨rfl, hq69, hq70, Iq72, frq73⟩
          have frq74 : Fr W_X1_readSign_R Mq Mq71 := frq65.trans frq73 rfl
          have hq2 := hq70
          rw [p5, p6] at hq2
          have hR : RSQ Mq Mq71 ((Mq.1 37 5).toInt).toNat (mcS p a1 (A :: B :: S2)) := by rw [mcS_125 (by omega)]; exact RS_two hn hS.2.2 (by have z := hq2.1; omega) (by omega) hq2.2.1 (BEL_tr (BEL_o2 hq1.2 (by omega)) (BEL_o hq2.2.2 (Nat.le_refl _)))
          show G Γ Mq71 75 [(0, .ref (ad 37)), (1, .int x1)] []
          refine g_goto X (tgt := 113) dX1_readSign_75 (by decide) ?_
          exact g_vret X dX1_readSign_113 ⟨rfl, trivial, (hR), Iq72, frq74⟩
      · obtain ⟨B, S2, rfl⟩ := ls1 (l := S) (by omega)
        rw [List.length_cons] at ht hl
        refine g_aload_n X 0 rfl dX1_readSign_46 ?_
        refine g_aload_n X 0 rfl dX1_readSign_47 ?_
        refine g_geti X f_X1_26 dX1_readSign_48 (x := Mq.1 37 6) rfl ?_
        have bq75 := ig_37_6 Iq0
        refine g_callV X m_X1_86 (c_X1_addOne_R ad Mq (Mq.1 37 6) rfl Iq0 (by omega) hA) rfl (by decide) (Nat.le_of_ble_eq_true rfl) rfl dX1_readSign_51 ?_
        rintro _ Mq81 ⟨rfl, hq79, hq80, Iq82, frq83⟩
        have frq84 : Fr W_X1_readSign_R Mq Mq81 := frq0.trans frq83 rfl
        have hq1 := hq80
        have p5 : (Mq81.1 37 5).toInt = (Mq.1 37 5).toInt := by rw [frq83.at 37 5 rfl]
        have p6 : (Mq81.1 37 6).toInt = (Mq.1 37 6).toInt := by rw [frq83.at 37 6 rfl]
        show G Γ Mq81 54 [(0, .ref (ad 37)), (1, .int x1)] []
        refine g_aload_n X 0 rfl dX1_readSign_54 ?_
        refine g_callV X m_X1_115 (c_X1_close_R ad Mq81 Iq82 (by omega) (by rw [p5, p6]; exact hq1.1) (by rw [p5, p6, show ((Mq.1 37 6).toInt - 1).toNat = 8 + S2.length by omega]; exact TB_OUT hn hS.2.1 hq1.2 (by omega))) rfl (by decide) (Nat.le_of_ble_eq_true rfl) rfl dX1_readSign_55 ?_
        rintro _ Mq90 ⟨rfl, hq88, hq89, Iq91, frq92⟩
        have frq93 : Fr W_X1_readSign_R Mq Mq90 := frq84.trans frq92 rfl
        have hq2 := hq89
        rw [p5, p6] at hq2
        have hR : RSQ Mq Mq90 ((Mq.1 37 5).toInt).toNat (mcS p a1 (A :: B :: S2)) := by rw [mcS_93 (by omega)]; exact RS_two hn hS.2.2 (by have z := hq2.1; omega) (by omega) hq2.2.1 (BEL_tr (BEL_o hq1.2 (by omega)) (BEL_o hq2.2.2 (Nat.le_refl _)))
        show G Γ Mq90 58 [(0, .ref (ad 37)), (1, .int x1)] []
        refine g_goto X (tgt := 113) dX1_readSign_58 (by decide) ?_
        exact g_vret X dX1_readSign_113 ⟨rfl, trivial, (hR), Iq91, frq93⟩
    · have pq94 : (65 ≤ a1 ∧ a1 ≤ 72) := by first | omega | (rcases hq10 with ⟨z1, z2⟩ | ⟨z1, z2⟩ <;> first | exact z2 | (exfalso; omega))
      refine g_aload_n X 0 rfl dX1_readSign_25 ?_
      refine g_aload_n X 0 rfl dX1_readSign_26 ?_
      refine g_geti X f_X1_26 dX1_readSign_27 (x := Mq.1 37 6) rfl ?_
      have bq95 := ig_37_6 Iq0
      refine g_iload_n X 1 rfl dX1_readSign_30 ?_
      refine g_bipush X 65 dX1_readSign_31 (by decide) ?_
      refine g_isub X dX1_readSign_33 (fun zq96 eq97 => ?_)
      have tq98 : zq96.toInt = a1 - 65 := sub_nw eq97 t1 (show (65 : Int32).toInt = 65 by decide) (by omega)
      refine g_callV X m_X1_112 (c_X1_multiply_R ad Mq (Mq.1 37 6) rfl zq96 tq98 Iq0 (by omega) (by omega) (by omega) hA (hT (by omega))) rfl (by decide) (Nat.le_of_ble_eq_true rfl) rfl dX1_readSign_34 ?_
      rintro _ Mq104 ⟨rfl, hq102, hq103, Iq105, frq106⟩
      have frq107 : Fr W_X1_readSign_R Mq Mq104 := frq0.trans frq106 rfl
      have hq1 := hq103
      have hR : RSQ Mq Mq104 ((Mq.1 37 5).toInt).toNat (mcS p a1 (A :: S)) := by rw [mcS_sc (by omega)]; exact RS_two hn hS.2 (by rw [frq106.at 37 6 rfl]; exact ht) (by omega) hq1.1 (BEL_o hq1.2 (Nat.le_refl _))
      show G Γ Mq104 37 [(0, .ref (ad 37)), (1, .int x1)] []
      refine g_goto X (tgt := 113) dX1_readSign_37 (by decide) ?_
      exact g_vret X dX1_readSign_113 ⟨rfl, trivial, (hR), Iq105, frq107⟩
  · have pq108 : (97 ≤ a1 ∧ a1 ≤ 104) := by first | omega | (rcases hq4 with ⟨z1, z2⟩ | ⟨z1, z2⟩ <;> first | exact z2 | (exfalso; omega))
    refine g_aload_n X 0 rfl dX1_readSign_7 ?_
    refine g_iload_n X 1 rfl dX1_readSign_8 ?_
    refine g_bipush X 97 dX1_readSign_9 (by decide) ?_
    refine g_isub X dX1_readSign_11 (fun zq109 eq110 => ?_)
    have tq111 : zq109.toInt = a1 - 97 := sub_nw eq110 t1 (show (97 : Int32).toInt = 97 by decide) (by omega)
    refine g_callV X m_X1_106 (c_X1_followBySlot_R ad Mq zq109 tq111 Iq0 (by omega) hA (fun j hj => hw (a1 - 97).toNat j (by omega) hj)) rfl (by decide) (Nat.le_of_ble_eq_true rfl) rfl dX1_readSign_12 ?_
    rintro _ Mq117 ⟨rfl, hq115, hq116, Iq118, frq119⟩
    have frq120 : Fr W_X1_readSign_R Mq Mq117 := frq0.trans frq119 rfl
    have hq1 := hq116
    have hR : RSQ Mq Mq117 ((Mq.1 37 5).toInt).toNat (mcS p a1 (A :: S)) := by rw [mcS_sl (by omega)]; exact RS_two hn hS.2 (by rw [frq119.at 37 6 rfl]; exact ht) (by omega) hq1.1 (BEL_o hq1.2 (Nat.le_refl _))
    show G Γ Mq117 15 [(0, .ref (ad 37)), (1, .int x1)] []
    refine g_goto X (tgt := 113) dX1_readSign_15 (by decide) ?_
    exact g_vret X dX1_readSign_113 ⟨rfl, trivial, (hR), Iq118, frq120⟩
end
