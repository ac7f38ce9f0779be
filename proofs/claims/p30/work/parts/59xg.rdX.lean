section
set_option maxHeartbeats 4000000 in
set_option maxRecDepth 4000 in
theorem c_X1_cell_R (ad : Nat → Nat) (Mq : Mem) (x1 : Int32) {a1 : Int} (t1 : x1.toInt = a1) (x2 : Int32) {a2 : Int} (t2 : x2.toInt = a2) (x3 : Int32) {a3 : Int} (t3 : x3.toInt = a3) (Iq0 : Iv TX Mq) (h1 : 0 ≤ a1 ∧ a1 ≤ 37) (h2 : 0 ≤ a2 ∧ a2 ≤ a3) (h3 : a3 ≤ (Mq.1 37 5).toInt) : Ctr ad yX1_cell cX1_cell 4 (some .int) 0 [.ref (ad 37), .int x1, .int x2, .int x3] Mq (fun v M' => ∃ (r : Int32) (a : Int), v = some (.int r) ∧ r.toInt = a ∧ (a = ((cx ((Mq.1 37 5).toInt).toNat a1.toNat a2.toNat a3.toNat : Nat) : Int) ∧ 325 * a1 ≤ a ∧ a + (Mq.1 37 5).toInt - a3 ≤ 325 * a1 + 324) ∧ Mq = M') := by
  refine ctr_of (L := [(0, .ref (ad 37)), (1, .int x1), (2, .int x2), (3, .int x3)]) (by decide) (Nat.le_of_ble_eq_true rfl) rfl ?_
  intro Γ X
  have X : gX Γ cX1_cell RX1 4 (some .int) 0 ad _ := X
  have hL := ig_37_5 Iq0
  refine g_iload_n X 1 rfl dX1_cell_0 ?_
  refine g_sipush X 325 dX1_cell_1 (by decide) ?_
  refine g_imul X dX1_cell_4 (fun zq1 eq2 => ?_)
  have tq3 : zq1.toInt = a1 * 325 := mul_nw eq2 t1 (show (325 : Int32).toInt = 325 by decide) (by omega)
  refine g_iload_n X 2 rfl dX1_cell_5 ?_
  refine g_iconst X 2 dX1_cell_6 (by decide) ?_
  refine g_aload_n X 0 rfl dX1_cell_7 ?_
  refine g_geti X f_X1_22 dX1_cell_8 (x := Mq.1 37 5) rfl ?_
  have bq4 := ig_37_5 Iq0
  refine g_imul X dX1_cell_11 (fun zq5 eq6 => ?_)
  have tq7 : zq5.toInt = 2 * ((Mq.1 37 5).toInt) := mul_nw eq6 (show (2 : Int32).toInt = 2 by decide) rfl (by omega)
  refine g_iconst X 3 dX1_cell_12 (by decide) ?_
  refine g_iadd X dX1_cell_13 (fun zq8 eq9 => ?_)
  have tq10 : zq8.toInt = (2 * ((Mq.1 37 5).toInt)) + 3 := add_nw eq9 tq7 (show (3 : Int32).toInt = 3 by decide) (by omega)
  refine g_iload_n X 2 rfl dX1_cell_14 ?_
  refine g_isub X dX1_cell_15 (fun zq11 eq12 => ?_)
  have tq13 : zq11.toInt = ((2 * ((Mq.1 37 5).toInt)) + 3) - a2 := sub_nw eq12 tq10 t2 (by omega)
  refine g_imul X dX1_cell_16 (fun zq14 eq15 => ?_)
  have hc := cellL (i := a2) (n := (Mq.1 37 5).toInt) (by omega)
  have hm : zq14.toInt = a2 * (2 * (Mq.1 37 5).toInt + 3 - a2) := mul_nw eq15 t2 tq13 (by omega)
  refine g_iconst X 2 dX1_cell_17 (by decide) ?_
  refine g_idiv X dX1_cell_18 (ne0 (show (2 : Int32).toInt = 2 by decide) (by omega)) (fun zq17 eq18 => ?_)
  have tq19 : zq17.toInt = (a2 * (2 * (Mq.1 37 5).toInt + 3 - a2)) / 2 := div_nw eq18 hm (show (2 : Int32).toInt = 2 by decide) (by omega)
  refine g_iadd X dX1_cell_19 (fun zq20 eq21 => ?_)
  have tq22 : zq20.toInt = (a1 * 325) + ((a2 * (2 * (Mq.1 37 5).toInt + 3 - a2)) / 2) := add_nw eq21 tq3 tq19 (by omega)
  refine g_iload_n X 3 rfl dX1_cell_20 ?_
  refine g_iadd X dX1_cell_21 (fun zq23 eq24 => ?_)
  have tq25 : zq23.toInt = ((a1 * 325) + ((a2 * (2 * (Mq.1 37 5).toInt + 3 - a2)) / 2)) + a3 := add_nw eq24 tq22 t3 (by omega)
  refine g_iload_n X 2 rfl dX1_cell_22 ?_
  refine g_isub X dX1_cell_23 (fun zq26 eq27 => ?_)
  have tq28 : zq26.toInt = (((a1 * 325) + ((a2 * (2 * (Mq.1 37 5).toInt + 3 - a2)) / 2)) + a3) - a2 := sub_nw eq27 tq25 t2 (by omega)
  exact g_iret X dX1_cell_24 ⟨_, _, rfl, tq28, ⟨cellX h1.1 h2 h3, by omega, by omega⟩, rfl⟩
set_option maxHeartbeats 4000000 in
set_option maxRecDepth 4000 in
theorem c_X1_cellsInUse_R (ad : Nat → Nat) (Mq : Mem) (Iq0 : Iv TX Mq) : Ctr ad yX1_cellsInUse cX1_cellsInUse 1 (some .int) 0 [.ref (ad 37)] Mq (fun v M' => ∃ (r : Int32) (a : Int), v = some (.int r) ∧ r.toInt = a ∧ (a = ((usN ((Mq.1 37 5).toInt).toNat : Nat) : Int) ∧ 0 ≤ a ∧ a ≤ 325) ∧ Mq = M') := by
  refine ctr_of (L := [(0, .ref (ad 37))]) (by decide) (Nat.le_of_ble_eq_true rfl) rfl ?_
  intro Γ X
  have X : gX Γ cX1_cellsInUse RX1 1 (some .int) 0 ad _ := X
  have hL := ig_37_5 Iq0
  refine g_aload_n X 0 rfl dX1_cellsInUse_0 ?_
  refine g_geti X f_X1_22 dX1_cellsInUse_1 (x := Mq.1 37 5) rfl ?_
  have bq1 := ig_37_5 Iq0
  refine g_iconst X 1 dX1_cellsInUse_4 (by decide) ?_
  refine g_iadd X dX1_cellsInUse_5 (fun zq2 eq3 => ?_)
  have tq4 : zq2.toInt = ((Mq.1 37 5).toInt) + 1 := add_nw eq3 rfl (show (1 : Int32).toInt = 1 by decide) (by omega)
  refine g_aload_n X 0 rfl dX1_cellsInUse_6 ?_
  refine g_geti X f_X1_22 dX1_cellsInUse_7 (x := Mq.1 37 5) rfl ?_
  have bq5 := ig_37_5 Iq0
  refine g_iconst X 2 dX1_cellsInUse_10 (by decide) ?_
  refine g_iadd X dX1_cellsInUse_11 (fun zq6 eq7 => ?_)
  have tq8 : zq6.toInt = ((Mq.1 37 5).toInt) + 2 := add_nw eq7 rfl (show (2 : Int32).toInt = 2 by decide) (by omega)
  refine g_imul X dX1_cellsInUse_12 (fun zq9 eq10 => ?_)
  have hc := useL (n := (Mq.1 37 5).toInt) (by omega)
  have hm : zq9.toInt = ((Mq.1 37 5).toInt + 1) * ((Mq.1 37 5).toInt + 2) := mul_nw eq10 tq4 tq8 (by omega)
  refine g_iconst X 2 dX1_cellsInUse_13 (by decide) ?_
  refine g_idiv X dX1_cellsInUse_14 (ne0 (show (2 : Int32).toInt = 2 by decide) (by omega)) (fun zq12 eq13 => ?_)
  have tq14 : zq12.toInt = (((Mq.1 37 5).toInt + 1) * ((Mq.1 37 5).toInt + 2)) / 2 := div_nw eq13 hm (show (2 : Int32).toInt = 2 by decide) (by omega)
  exact g_iret X dX1_cellsInUse_15 ⟨_, _, rfl, tq14, ⟨useX (by omega), by omega, by omega⟩, rfl⟩
abbrev W_X1_clear_R : List (Nat × Nat) := [(38, 99)]
set_option maxHeartbeats 4000000 in
set_option maxRecDepth 4000 in
theorem c_X1_clear_R (ad : Nat → Nat) (Mq : Mem) (x1 : Int32) {a1 : Int} (t1 : x1.toInt = a1) (Iq0 : Iv TX Mq) (h1 : 0 ≤ a1 ∧ a1 ≤ 37) : Ctr ad yX1_clear cX1_clear 4 none 1 [.ref (ad 37), .int x1] Mq (fun v M' => v = none ∧ (True) ∧ (TB (M'.1 38) ((Mq.1 37 5).toInt).toNat a1.toNat mZ0 ∧ OUTr (Mq.1 38) (M'.1 38) a1.toNat) ∧ Iv TX M' ∧ Fr W_X1_clear_R Mq M') := by
  refine ctr_of (L := [(0, .ref (ad 37)), (1, .int x1)]) (by decide) (Nat.le_of_ble_eq_true rfl) rfl ?_
  intro Γ X
  have X : gX Γ cX1_clear RX1 4 none 1 ad _ := X
  have frq0 : Fr W_X1_clear_R Mq Mq := Fr.rf
  have hL := ig_37_5 Iq0
  have hn : ((Mq.1 37 5).toInt).toNat < 25 := by omega
  refine g_aload_n X 0 rfl dX1_clear_0 ?_
  refine g_callV X m_X1_130 (c_X1_cellsInUse_R ad Mq Iq0) rfl (by decide) (Nat.le_of_ble_eq_true rfl) rfl dX1_clear_1 ?_
  rintro _ _ ⟨rq1, aq2, rfl, tq3, hq4, rfl⟩
  have hcu := hq4.1
  have hcr := hq4.2
  show G Γ Mq 4 [(0, .ref (ad 37)), (1, .int x1)] [.int rq1]
  refine g_istore_n X (i := 2) [(2, .int rq1), (0, .ref (ad 37)), (1, .int x1)] dX1_clear_4 rfl (by decide) rfl ?_
  refine g_iconst X 0 dX1_clear_5 (by decide) ?_
  refine g_istore_n X (i := 3) [(3, .int 0), (2, .int rq1), (0, .ref (ad 37)), (1, .int x1)] dX1_clear_6 rfl (by decide) rfl ?_
  have lp7 : ∀ n : Nat, ∀ (y3_7 : Int32) (b3_7 : Int), y3_7.toInt = b3_7 → ∀ (M_7 : Mem), (0 ≤ b3_7) → (∀ d : Nat, (d : Int) < b3_7 → (M_7.1 38 (325 * a1.toNat + d)).toInt = 0) → (OUTr (Mq.1 38) (M_7.1 38) a1.toNat) → (Iv TX M_7) → (Fr W_X1_clear_R Mq M_7) → (aq2 - b3_7).toNat < n → G Γ M_7 7 [(3, .int y3_7), (2, .int rq1), (0, .ref (ad 37)), (1, .int x1)] [] := by
    intro n
    induction n with
    | zero => intro y3_7 b3_7 e3_7 M_7 i1 i2 i3 I_7 fr_7 hm; exact absurd hm (Nat.not_lt_zero _)
    | succ n ih7 =>
      intro y3_7 b3_7 e3_7 M_7 i1 i2 i3 I_7 fr_7 hm7
      refine g_iload_n X 0 rfl dX1_clear_7 ?_
      refine g_iload_n X 1 rfl dX1_clear_8 ?_
      refine g_icmp_ge X e3_7 tq3 (tgt := 31) dX1_clear_9 (by decide) (fun cq5 => ?_) (fun cq5 => ?_)
      · exact g_vret X dX1_clear_31 ⟨rfl, trivial, (⟨CL_end hn i2 hcu (by omega), i3⟩), I_7, fr_7⟩
      · refine g_aload_n X 2 rfl dX1_clear_12 ?_
        refine g_getr X f_X1_11 dX1_clear_13 ?_
        refine g_iload_n X 3 rfl dX1_clear_16 ?_
        refine g_sipush X 325 dX1_clear_17 (by decide) ?_
        refine g_imul X dX1_clear_20 (fun zq6 eq7 => ?_)
        have tq8 : zq6.toInt = a1 * 325 := mul_nw eq7 t1 (show (325 : Int32).toInt = 325 by decide) (by omega)
        refine g_iload_n X 0 rfl dX1_clear_21 ?_
        refine g_iadd X dX1_clear_22 (fun zq9 eq10 => ?_)
        have tq11 : zq9.toInt = (a1 * 325) + b3_7 := add_nw eq10 tq8 e3_7 (by omega)
        refine g_iconst X 0 dX1_clear_23 (by decide) ?_
        refine g_iast X la_38 tq11 dX1_clear_24 (by omega) ?_
        have ltq12 : (0 : Int32).toInt = 0 := by decide
        have Iq13 : Iv TX (ui M_7 38 (((a1 * 325) + b3_7).toNat) 0) := I_7.otherA rfl
        have frq14 : Fr W_X1_clear_R Mq (ui M_7 38 (((a1 * 325) + b3_7).toNat) 0) := fr_7.ui rfl
        refine g_iinc X 0 (fun v => [(3, .int v), (2, .int rq1), (0, .ref (ad 37)), (1, .int x1)]) dX1_clear_25 rfl (by decide) (fun _ => rfl) (fun zq15 eq16 => ?_)
        have tq17 : zq15.toInt = b3_7 + 1 := add_nw eq16 e3_7 (show (Int32.ofInt 1).toInt = 1 by decide) (by omega)
        refine g_goto X (tgt := 7) dX1_clear_28 (by decide) ?_
        refine g_sub [0, 1, 2, 3] rfl ?_
        exact ih7 zq15 _ tq17 (ui M_7 38 (((a1 * 325) + b3_7).toNat) 0) (by omega) (CL_step i2 i1 (by omega) (by decide)) (OUT_ui i3 (by omega)) Iq13 frq14 (by omega)
  refine g_sub [0, 1, 2, 3] rfl ?_
  exact lp7 _ 0 _ (show (0 : Int32).toInt = 0 by decide) Mq (by omega) (fun d hd => absurd hd (by omega)) OUT_rf Iq0 frq0 (Nat.lt_succ_self _)
abbrev W_X1_addOne_R : List (Nat × Nat) := [(38, 99)]
set_option maxHeartbeats 4000000 in
set_option maxRecDepth 4000 in
theorem c_X1_addOne_R (ad : Nat → Nat) (Mq : Mem) (x1 : Int32) {a1 : Int} (t1 : x1.toInt = a1) (Iq0 : Iv TX Mq) {A : Mat} (h1 : 0 ≤ a1 ∧ a1 ≤ 37) (hA : TB (Mq.1 38) ((Mq.1 37 5).toInt).toNat a1.toNat A) : Ctr ad yX1_addOne cX1_addOne 4 none 1 [.ref (ad 37), .int x1] Mq (fun v M' => v = none ∧ (True) ∧ (TB (M'.1 38) ((Mq.1 37 5).toInt).toNat a1.toNat (mA A mO) ∧ OUTr (Mq.1 38) (M'.1 38) a1.toNat) ∧ Iv TX M' ∧ Fr W_X1_addOne_R Mq M') := by
  refine ctr_of (L := [(0, .ref (ad 37)), (1, .int x1)]) (by decide) (Nat.le_of_ble_eq_true rfl) rfl ?_
  intro Γ X
  have X : gX Γ cX1_addOne RX1 4 none 1 ad _ := X
  have frq0 : Fr W_X1_addOne_R Mq Mq := Fr.rf
  have hL := ig_37_5 Iq0
  have hn : ((Mq.1 37 5).toInt).toNat < 25 := by omega
  refine g_iconst X 0 dX1_addOne_0 (by decide) ?_
  refine g_istore_n X (i := 2) [(2, .int 0), (0, .ref (ad 37)), (1, .int x1)] dX1_addOne_1 rfl (by decide) rfl ?_
  have lp2 : ∀ n : Nat, ∀ (y2_2 : Int32) (b2_2 : Int), y2_2.toInt = b2_2 → ∀ (M_2 : Mem), (0 ≤ b2_2 ∧ b2_2 ≤ (Mq.1 37 5).toInt + 1) → (TB (M_2.1 38) ((Mq.1 37 5).toInt).toNat a1.toNat (mv0 A (b2_2).toNat)) → (OUTr (Mq.1 38) (M_2.1 38) a1.toNat) → (Iv TX M_2) → (Fr W_X1_addOne_R Mq M_2) → ((Mq.1 37 5).toInt + 1 - b2_2).toNat < n → G Γ M_2 2 [(2, .int y2_2), (0, .ref (ad 37)), (1, .int x1)] [] := by
    intro n
    induction n with
    | zero => intro y2_2 b2_2 e2_2 M_2 i1 i2 i3 I_2 fr_2 hm; exact absurd hm (Nat.not_lt_zero _)
    | succ n ih2 =>
      intro y2_2 b2_2 e2_2 M_2 i1 i2 i3 I_2 fr_2 hm2
      have q37_5 : (M_2.1 37 5).toInt = (Mq.1 37 5).toInt := congrArg Int32.toInt (fr_2.at 37 5 rfl)
      refine g_iload_n X 0 rfl dX1_addOne_2 ?_
      refine g_aload_n X 1 rfl dX1_addOne_3 ?_
      refine g_geti X f_X1_22 dX1_addOne_4 (x := M_2.1 37 5) rfl ?_
      have bq1 := ig_37_5 I_2
      refine g_icmp_gt X e2_2 rfl (tgt := 43) dX1_addOne_7 (by decide) (fun cq2 => ?_) (fun cq2 => ?_)
      · exact g_vret X dX1_addOne_43 ⟨rfl, trivial, (⟨mv0_end i2 (by omega), i3⟩), I_2, fr_2⟩
      · refine g_aload_n X 1 rfl dX1_addOne_10 ?_
        refine g_iload_n X 2 rfl dX1_addOne_11 ?_
        refine g_iload_n X 0 rfl dX1_addOne_12 ?_
        refine g_iload_n X 0 rfl dX1_addOne_13 ?_
        refine g_callV X m_X1_69 (c_X1_cell_R ad M_2 x1 t1 y2_2 e2_2 y2_2 e2_2 I_2 (by omega) (by omega) (by omega)) rfl (by decide) (Nat.le_of_ble_eq_true rfl) rfl dX1_addOne_14 ?_
        rintro _ _ ⟨rq3, aq4, rfl, tq5, hq6, rfl⟩
        have hcx : aq4 = ((cx ((Mq.1 37 5).toInt).toNat a1.toNat (b2_2).toNat (b2_2).toNat : Nat) : Int) := by rw [← q37_5]; exact (hq6).1
        have hcr := (hq6).2
        have hrg : 0 ≤ (M_2.1 38 (aq4).toNat).toInt ∧ (M_2.1 38 (aq4).toNat).toInt ≤ 1000000 := by rw [show (aq4).toNat = cx ((Mq.1 37 5).toInt).toNat a1.toNat (b2_2).toNat (b2_2).toNat by omega]; exact TB_rng i2 ⟨Nat.le_refl _, by omega⟩
        show G Γ M_2 17 [(2, .int y2_2), (0, .ref (ad 37)), (1, .int x1)] [.int rq3]
        refine g_istore_n X (i := 3) [(3, .int rq3), (2, .int y2_2), (0, .ref (ad 37)), (1, .int x1)] dX1_addOne_17 rfl (by decide) rfl ?_
        refine g_aload_n X 2 rfl dX1_addOne_18 ?_
        refine g_getr X f_X1_11 dX1_addOne_19 ?_
        refine g_iload_n X 0 rfl dX1_addOne_22 ?_
        refine g_aload_n X 2 rfl dX1_addOne_23 ?_
        refine g_getr X f_X1_11 dX1_addOne_24 ?_
        refine g_iload_n X 0 rfl dX1_addOne_27 ?_
        refine g_iald X la_38 tq5 dX1_addOne_28 (by omega) (x := M_2.1 38 aq4.toNat) rfl ?_
        refine g_iconst X 1 dX1_addOne_29 (by decide) ?_
        refine g_iadd X dX1_addOne_30 (fun zq7 eq8 => ?_)
        have tq9 : zq7.toInt = ((M_2.1 38 aq4.toNat).toInt) + 1 := add_nw eq8 rfl (show (1 : Int32).toInt = 1 by decide) (by omega)
        refine g_ldc X k_X1_134 dX1_addOne_31 ?_
        refine g_min X ml_X1_135 (by decide) (Nat.le_of_ble_eq_true rfl) tq9 (show (1000000 : Int32).toInt = 1000000 by decide) dX1_addOne_33 (fun zq10 hq11 => ?_)
        refine g_iast X la_38 tq5 dX1_addOne_36 (by omega) ?_
        have Iq12 : Iv TX (ui M_2 38 aq4.toNat zq10) := I_2.otherA rfl
        have frq13 : Fr W_X1_addOne_R Mq (ui M_2 38 aq4.toNat zq10) := fr_2.ui rfl
        refine g_iinc X 1 (fun v => [(2, .int v), (3, .int rq3), (0, .ref (ad 37)), (1, .int x1)]) dX1_addOne_37 rfl (by decide) (fun _ => rfl) (fun zq14 eq15 => ?_)
        have tq16 : zq14.toInt = b2_2 + 1 := add_nw eq15 e2_2 (show (Int32.ofInt 1).toInt = 1 by decide) (by omega)
        refine g_goto X (tgt := 2) dX1_addOne_40 (by decide) ?_
        refine g_sub [0, 2, 3] rfl ?_
        exact ih2 zq14 _ tq16 (ui M_2 38 aq4.toNat zq10) (by omega) (by rw [show (b2_2 + 1).toNat = b2_2.toNat + 1 by omega]; exact mv0_step hn i2 (by omega) (by omega) (by omega)) (OUT_ui i3 (by omega)) Iq12 frq13 (by omega)
  refine g_sub [0, 1, 2] rfl ?_
  exact lp2 _ 0 _ (show (0 : Int32).toInt = 0 by decide) Mq (by omega) (mv0_0 hA) OUT_rf Iq0 frq0 (Nat.lt_succ_self _)
abbrev W_X1_addTable_R : List (Nat × Nat) := [(38, 99)]
set_option maxHeartbeats 4000000 in
set_option maxRecDepth 4000 in
theorem c_X1_addTable_R (ad : Nat → Nat) (Mq : Mem) (x1 : Int32) {a1 : Int} (t1 : x1.toInt = a1) (x2 : Int32) {a2 : Int} (t2 : x2.toInt = a2) (Iq0 : Iv TX Mq) {A B : Mat} (h1 : 0 ≤ a1 ∧ a1 ≤ 37) (h2 : 0 ≤ a2 ∧ a2 ≤ 37) (h3 : a1 ≠ a2) (hA : TB (Mq.1 38) ((Mq.1 37 5).toInt).toNat a1.toNat A) (hB : TB (Mq.1 38) ((Mq.1 37 5).toInt).toNat a2.toNat B) : Ctr ad yX1_addTable cX1_addTable 6 none 1 [.ref (ad 37), .int x1, .int x2] Mq (fun v M' => v = none ∧ (True) ∧ (TB (M'.1 38) ((Mq.1 37 5).toInt).toNat a1.toNat (mA A B) ∧ OUTr (Mq.1 38) (M'.1 38) a1.toNat) ∧ Iv TX M' ∧ Fr W_X1_addTable_R Mq M') := by
  refine ctr_of (L := [(0, .ref (ad 37)), (1, .int x1), (2, .int x2)]) (by decide) (Nat.le_of_ble_eq_true rfl) rfl ?_
  intro Γ X
  have X : gX Γ cX1_addTable RX1 6 none 1 ad _ := X
  have frq0 : Fr W_X1_addTable_R Mq Mq := Fr.rf
  have hL := ig_37_5 Iq0
  have hn : ((Mq.1 37 5).toInt).toNat < 25 := by omega
  refine g_aload_n X 0 rfl dX1_addTable_0 ?_
  refine g_callV X m_X1_130 (c_X1_cellsInUse_R ad Mq Iq0) rfl (by decide) (Nat.le_of_ble_eq_true rfl) rfl dX1_addTable_1 ?_
  rintro _ _ ⟨rq1, aq2, rfl, tq3, hq4, rfl⟩
  have hcu := hq4.1
  have hcr := hq4.2
  show G Γ Mq 4 [(0, .ref (ad 37)), (1, .int x1), (2, .int x2)] [.int rq1]
  refine g_istore_n X (i := 3) [(3, .int rq1), (0, .ref (ad 37)), (1, .int x1), (2, .int x2)] dX1_addTable_4 rfl (by decide) rfl ?_
  refine g_iconst X 0 dX1_addTable_5 (by decide) ?_
  refine g_istore X [(4, .int 0), (3, .int rq1), (0, .ref (ad 37)), (1, .int x1), (2, .int x2)] dX1_addTable_6 (by decide) rfl ?_
  have lp8 : ∀ n : Nat, ∀ (y4_8 : Int32) (b4_8 : Int), y4_8.toInt = b4_8 → ∀ (M_8 : Mem), (0 ≤ b4_8) → (ADI (Mq.1 38) (M_8.1 38) a1.toNat a2.toNat b4_8) → (OUTr (Mq.1 38) (M_8.1 38) a1.toNat) → (Iv TX M_8) → (Fr W_X1_addTable_R Mq M_8) → (aq2 - b4_8).toNat < n → G Γ M_8 8 [(4, .int y4_8), (3, .int rq1), (0, .ref (ad 37)), (1, .int x1), (2, .int x2)] [] := by
    intro n
    induction n with
    | zero => intro y4_8 b4_8 e4_8 M_8 i1 i2 i3 I_8 fr_8 hm; exact absurd hm (Nat.not_lt_zero _)
    | succ n ih8 =>
      intro y4_8 b4_8 e4_8 M_8 i1 i2 i3 I_8 fr_8 hm8
      refine g_iload X 0 rfl dX1_addTable_8 ?_
      refine g_iload_n X 1 rfl dX1_addTable_10 ?_
      refine g_icmp_ge X e4_8 tq3 (tgt := 69) dX1_addTable_11 (by decide) (fun cq5 => ?_) (fun cq5 => ?_)
      · exact g_vret X dX1_addTable_69 ⟨rfl, trivial, (⟨ADI_end hn i2 hA hB hcu (by omega), i3⟩), I_8, fr_8⟩
      · have ra := TB_cell (c := (b4_8).toNat) hn hA (by omega)
        have rb2 := TB_cell (c := (b4_8).toNat) hn hB (by omega)
        have e1 : (M_8.1 38 (a1 * 325 + b4_8).toNat).toInt = (Mq.1 38 (325 * a1.toNat + (b4_8).toNat)).toInt := by rw [show (a1 * 325 + b4_8).toNat = 325 * a1.toNat + (b4_8).toNat by omega]; exact congrArg Int32.toInt (i2.2 _ (by omega))
        have e2 : (M_8.1 38 (a2 * 325 + b4_8).toNat).toInt = (Mq.1 38 (325 * a2.toNat + (b4_8).toNat)).toInt := by rw [show (a2 * 325 + b4_8).toNat = 325 * a2.toNat + (b4_8).toNat by omega]; exact congrArg Int32.toInt (i3 _ (by omega))
        refine g_aload_n X 2 rfl dX1_addTable_14 ?_
        refine g_getr X f_X1_11 dX1_addTable_15 ?_
        refine g_iload_n X 3 rfl dX1_addTable_18 ?_
        refine g_sipush X 325 dX1_addTable_19 (by decide) ?_
        refine g_imul X dX1_addTable_22 (fun zq6 eq7 => ?_)
        have tq8 : zq6.toInt = a1 * 325 := mul_nw eq7 t1 (show (325 : Int32).toInt = 325 by decide) (by omega)
        refine g_iload X 0 rfl dX1_addTable_23 ?_
        refine g_iadd X dX1_addTable_25 (fun zq9 eq10 => ?_)
        have tq11 : zq9.toInt = (a1 * 325) + b4_8 := add_nw eq10 tq8 e4_8 (by omega)
        refine g_iald X la_38 tq11 dX1_addTable_26 (by omega) (x := M_8.1 38 (((a1 * 325) + b4_8).toNat)) rfl ?_
        refine g_aload_n X 2 rfl dX1_addTable_27 ?_
        refine g_getr X f_X1_11 dX1_addTable_28 ?_
        refine g_iload_n X 4 rfl dX1_addTable_31 ?_
        refine g_sipush X 325 dX1_addTable_32 (by decide) ?_
        refine g_imul X dX1_addTable_35 (fun zq12 eq13 => ?_)
        have tq14 : zq12.toInt = a2 * 325 := mul_nw eq13 t2 (show (325 : Int32).toInt = 325 by decide) (by omega)
        refine g_iload X 0 rfl dX1_addTable_36 ?_
        refine g_iadd X dX1_addTable_38 (fun zq15 eq16 => ?_)
        have tq17 : zq15.toInt = (a2 * 325) + b4_8 := add_nw eq16 tq14 e4_8 (by omega)
        refine g_iald X la_38 tq17 dX1_addTable_39 (by omega) (x := M_8.1 38 (((a2 * 325) + b4_8).toNat)) rfl ?_
        refine g_iadd X dX1_addTable_40 (fun zq18 eq19 => ?_)
        have tq20 : zq18.toInt = ((M_8.1 38 (((a1 * 325) + b4_8).toNat)).toInt) + ((M_8.1 38 (((a2 * 325) + b4_8).toNat)).toInt) := add_nw eq19 rfl rfl (by omega)
        refine g_istore X [(5, .int zq18), (4, .int y4_8), (3, .int rq1), (0, .ref (ad 37)), (1, .int x1), (2, .int x2)] dX1_addTable_41 (by decide) rfl ?_
        refine g_aload_n X 3 rfl dX1_addTable_43 ?_
        refine g_getr X f_X1_11 dX1_addTable_44 ?_
        refine g_iload_n X 4 rfl dX1_addTable_47 ?_
        refine g_sipush X 325 dX1_addTable_48 (by decide) ?_
        refine g_imul X dX1_addTable_51 (fun zq21 eq22 => ?_)
        have tq23 : zq21.toInt = a1 * 325 := mul_nw eq22 t1 (show (325 : Int32).toInt = 325 by decide) (by omega)
        refine g_iload X 1 rfl dX1_addTable_52 ?_
        refine g_iadd X dX1_addTable_54 (fun zq24 eq25 => ?_)
        have tq26 : zq24.toInt = (a1 * 325) + b4_8 := add_nw eq25 tq23 e4_8 (by omega)
        refine g_iload X 0 rfl dX1_addTable_55 ?_
        refine g_ldc X k_X1_134 dX1_addTable_57 ?_
        refine g_min X ml_X1_135 (by decide) (Nat.le_of_ble_eq_true rfl) tq20 (show (1000000 : Int32).toInt = 1000000 by decide) dX1_addTable_59 (fun zq27 hq28 => ?_)
        refine g_iast X la_38 tq26 dX1_addTable_62 (by omega) ?_
        have Iq29 : Iv TX (ui M_8 38 (((a1 * 325) + b4_8).toNat) zq27) := I_8.otherA rfl
        have frq30 : Fr W_X1_addTable_R Mq (ui M_8 38 (((a1 * 325) + b4_8).toNat) zq27) := fr_8.ui rfl
        refine g_iinc X 1 (fun v => [(4, .int v), (5, .int zq18), (3, .int rq1), (0, .ref (ad 37)), (1, .int x1), (2, .int x2)]) dX1_addTable_63 rfl (by decide) (fun _ => rfl) (fun zq31 eq32 => ?_)
        have tq33 : zq31.toInt = b4_8 + 1 := add_nw eq32 e4_8 (show (Int32.ofInt 1).toInt = 1 by decide) (by omega)
        refine g_goto X (tgt := 8) dX1_addTable_66 (by decide) ?_
        refine g_sub [0, 2, 3, 4, 5] rfl ?_
        exact ih8 zq31 _ tq33 (ui M_8 38 (((a1 * 325) + b4_8).toNat) zq27) (by omega) (ADI_step i2 i1 (by omega) e1 e2 (by omega) rfl (by omega)) (OUT_ui i3 (by omega)) Iq29 frq30 (by omega)
  refine g_sub [0, 1, 2, 3, 4] rfl ?_
  exact lp8 _ 0 _ (show (0 : Int32).toInt = 0 by decide) Mq (by omega) ADI_0 OUT_rf Iq0 frq0 (Nat.lt_succ_self _)
abbrev W_X1_followBySlot_R : List (Nat × Nat) := [(38, 99)]
set_option maxHeartbeats 4000000 in
set_option maxRecDepth 4000 in
theorem c_X1_followBySlot_R (ad : Nat → Nat) (Mq : Mem) (x1 : Int32) {a1 : Int} (t1 : x1.toInt = a1) (Iq0 : Iv TX Mq) {A : Mat} {w : Nat → Nat} (h1 : 0 ≤ a1 ∧ a1 ≤ 7) (hA : TB (Mq.1 38) ((Mq.1 37 5).toInt).toNat ((Mq.1 37 6).toInt).toNat A) (hw : ∀ j : Nat, (j : Int) < (Mq.1 37 5).toInt → (Mq.1 39 (8 * j + a1.toNat)).toInt = ((w j : Nat) : Int) ∧ w j ≤ 64) : Ctr ad yX1_followBySlot cX1_followBySlot 6 none 1 [.ref (ad 37), .int x1] Mq (fun v M' => v = none ∧ (True) ∧ (TB (M'.1 38) ((Mq.1 37 5).toInt).toNat ((Mq.1 37 6).toInt).toNat (mS1 w A) ∧ OUTr (Mq.1 38) (M'.1 38) ((Mq.1 37 6).toInt).toNat) ∧ Iv TX M' ∧ Fr W_X1_followBySlot_R Mq M') := by
  refine ctr_of (L := [(0, .ref (ad 37)), (1, .int x1)]) (by decide) (Nat.le_of_ble_eq_true rfl) rfl ?_
  intro Γ X
  have X : gX Γ cX1_followBySlot RX1 6 none 1 ad _ := X
  have frq0 : Fr W_X1_followBySlot_R Mq Mq := Fr.rf
  have hL := ig_37_5 Iq0
  have hn : ((Mq.1 37 5).toInt).toNat < 25 := by omega
  have hTp := ig_37_6 Iq0
  refine g_iconst X 0 dX1_followBySlot_0 (by decide) ?_
  refine g_istore_n X (i := 2) [(2, .int 0), (0, .ref (ad 37)), (1, .int x1)] dX1_followBySlot_1 rfl (by decide) rfl ?_
  have lp2 : ∀ n : Nat, ∀ (y2_2 : Int32) (b2_2 : Int), y2_2.toInt = b2_2 → ∀ (M_2 : Mem), (0 ≤ b2_2 ∧ b2_2 ≤ (Mq.1 37 5).toInt + 1) → (TB (M_2.1 38) ((Mq.1 37 5).toInt).toNat ((Mq.1 37 6).toInt).toNat (mv4 w A (b2_2).toNat ((Mq.1 37 5).toInt).toNat)) → (OUTr (Mq.1 38) (M_2.1 38) ((Mq.1 37 6).toInt).toNat) → (Iv TX M_2) → (Fr W_X1_followBySlot_R Mq M_2) → ((Mq.1 37 5).toInt + 1 - b2_2).toNat < n → G Γ M_2 2 [(2, .int y2_2), (0, .ref (ad 37)), (1, .int x1)] [] := by
    intro n
    induction n with
    | zero => intro y2_2 b2_2 e2_2 M_2 i1 i2 i3 I_2 fr_2 hm; exact absurd hm (Nat.not_lt_zero _)
    | succ n ih2 =>
      intro y2_2 b2_2 e2_2 M_2 i1 i2 i3 I_2 fr_2 hm2
      have q37_5 : (M_2.1 37 5).toInt = (Mq.1 37 5).toInt := congrArg Int32.toInt (fr_2.at 37 5 rfl)
      have q37_6 : (M_2.1 37 6).toInt = (Mq.1 37 6).toInt := congrArg Int32.toInt (fr_2.at 37 6 rfl)
      refine g_iload_n X 0 rfl dX1_followBySlot_2 ?_
      refine g_aload_n X 1 rfl dX1_followBySlot_3 ?_
      refine g_geti X f_X1_22 dX1_followBySlot_4 (x := M_2.1 37 5) rfl ?_
      have bq1 := ig_37_5 I_2
      refine g_icmp_gt X e2_2 rfl (tgt := 107) dX1_followBySlot_7 (by decide) (fun cq2 => ?_) (fun cq2 => ?_)
      · exact g_vret X dX1_followBySlot_107 ⟨rfl, trivial, (⟨mv4_end i2 (by omega), i3⟩), I_2, fr_2⟩
      · refine g_aload_n X 1 rfl dX1_followBySlot_10 ?_
        refine g_geti X f_X1_22 dX1_followBySlot_11 (x := M_2.1 37 5) rfl ?_
        have bq3 := ig_37_5 I_2
        refine g_istore_n X (i := 3) [(3, .int (M_2.1 37 5)), (2, .int y2_2), (0, .ref (ad 37)), (1, .int x1)] dX1_followBySlot_14 rfl (by decide) rfl ?_
        have lp15 : ∀ n : Nat, ∀ (y3_15 : Int32) (b3_15 : Int), y3_15.toInt = b3_15 → ∀ (M_15 : Mem), (b2_2 ≤ b3_15 ∧ b3_15 ≤ (Mq.1 37 5).toInt) → (TB (M_15.1 38) ((Mq.1 37 5).toInt).toNat ((Mq.1 37 6).toInt).toNat (mv4 w A (b2_2).toNat (b3_15).toNat)) → (OUTr (Mq.1 38) (M_15.1 38) ((Mq.1 37 6).toInt).toNat) → (Iv TX M_15) → (Fr W_X1_followBySlot_R Mq M_15) → (b3_15 - b2_2).toNat < n → G Γ M_15 15 [(3, .int y3_15), (2, .int y2_2), (0, .ref (ad 37)), (1, .int x1)] [] := by
          intro n
          induction n with
          | zero => intro y3_15 b3_15 e3_15 M_15 i4 i5 i6 I_15 fr_15 hm; exact absurd hm (Nat.not_lt_zero _)
          | succ n ih15 =>
            intro y3_15 b3_15 e3_15 M_15 i4 i5 i6 I_15 fr_15 hm15
            have q37_5 : (M_15.1 37 5).toInt = (Mq.1 37 5).toInt := congrArg Int32.toInt (fr_15.at 37 5 rfl)
            have q37_6 : (M_15.1 37 6).toInt = (Mq.1 37 6).toInt := congrArg Int32.toInt (fr_15.at 37 6 rfl)
            refine g_iload_n X 0 rfl dX1_followBySlot_15 ?_
            refine g_iload_n X 1 rfl dX1_followBySlot_16 ?_
            refine g_icmp_le X e3_15 e2_2 (tgt := 85) dX1_followBySlot_17 (by decide) (fun cq4 => ?_) (fun cq4 => ?_)
            · refine g_aload_n X 2 rfl dX1_followBySlot_85 ?_
              refine g_getr X f_X1_11 dX1_followBySlot_86 ?_
              refine g_aload_n X 2 rfl dX1_followBySlot_89 ?_
              refine g_aload_n X 2 rfl dX1_followBySlot_90 ?_
              refine g_geti X f_X1_26 dX1_followBySlot_91 (x := M_15.1 37 6) rfl ?_
              have bq5 := ig_37_6 I_15
              refine g_iload_n X 1 rfl dX1_followBySlot_94 ?_
              refine g_iload_n X 1 rfl dX1_followBySlot_95 ?_
              refine g_callV X m_X1_69 (c_X1_cell_R ad M_15 (M_15.1 37 6) rfl y2_2 e2_2 y2_2 e2_2 I_15 (by omega) (by omega) (by omega)) rfl (by decide) (Nat.le_of_ble_eq_true rfl) rfl dX1_followBySlot_96 ?_
              rintro _ _ ⟨rq6, aq7, rfl, tq8, hq9, rfl⟩
              have hc3 : aq7 = ((cx ((Mq.1 37 5).toInt).toNat ((Mq.1 37 6).toInt).toNat (b2_2).toNat (b2_2).toNat : Nat) : Int) := by rw [← q37_5, ← q37_6]; exact (hq9).1
              have hc3r := (hq9).2
              show G Γ M_15 99 [(3, .int y3_15), (2, .int y2_2), (0, .ref (ad 37)), (1, .int x1)] [.int rq6, .ref (ad 38)]
              refine g_iconst X 0 dX1_followBySlot_99 (by decide) ?_
              refine g_iast X la_38 tq8 dX1_followBySlot_100 (by omega) ?_
              have ltq10 : (0 : Int32).toInt = 0 := by decide
              have Iq11 : Iv TX (ui M_15 38 aq7.toNat 0) := I_15.otherA rfl
              have frq12 : Fr W_X1_followBySlot_R Mq (ui M_15 38 aq7.toNat 0) := fr_15.ui rfl
              refine g_iinc X 1 (fun v => [(2, .int v), (3, .int y3_15), (0, .ref (ad 37)), (1, .int x1)]) dX1_followBySlot_101 rfl (by decide) (fun _ => rfl) (fun zq13 eq14 => ?_)
              have tq15 : zq13.toInt = b2_2 + 1 := add_nw eq14 e2_2 (show (Int32.ofInt 1).toInt = 1 by decide) (by omega)
              refine g_goto X (tgt := 2) dX1_followBySlot_104 (by decide) ?_
              refine g_sub [0, 2, 3] rfl ?_
              exact ih2 zq13 _ tq15 (ui M_15 38 aq7.toNat 0) (by omega) (by rw [show (b2_2 + 1).toNat = b2_2.toNat + 1 by omega]; exact mv4_row hn (by rw [show b3_15.toNat = b2_2.toNat by omega] at i5; exact i5) (by omega) (by omega) (by decide)) (OUT_ui i6 (by omega)) Iq11 frq12 (by omega)
            · have hwq : (M_15.1 39 ((b3_15 - 1) * 8 + a1).toNat).toInt = ((w ((b3_15).toNat - 1) : Nat) : Int) ∧ w ((b3_15).toNat - 1) ≤ 64 := by have z := hw ((b3_15).toNat - 1) (by omega); rw [fr_15.at 39 _ rfl, show ((b3_15 - 1) * 8 + a1).toNat = 8 * ((b3_15).toNat - 1) + a1.toNat by omega]; exact z
              refine g_aload_n X 2 rfl dX1_followBySlot_20 ?_
              refine g_getr X f_X1_11 dX1_followBySlot_21 ?_
              refine g_aload_n X 2 rfl dX1_followBySlot_24 ?_
              refine g_aload_n X 2 rfl dX1_followBySlot_25 ?_
              refine g_geti X f_X1_26 dX1_followBySlot_26 (x := M_15.1 37 6) rfl ?_
              have bq16 := ig_37_6 I_15
              refine g_iload_n X 1 rfl dX1_followBySlot_29 ?_
              refine g_iload_n X 0 rfl dX1_followBySlot_30 ?_
              refine g_iconst X 1 dX1_followBySlot_31 (by decide) ?_
              refine g_isub X dX1_followBySlot_32 (fun zq17 eq18 => ?_)
              have tq19 : zq17.toInt = b3_15 - 1 := sub_nw eq18 e3_15 (show (1 : Int32).toInt = 1 by decide) (by omega)
              refine g_callV X m_X1_69 (c_X1_cell_R ad M_15 (M_15.1 37 6) rfl y2_2 e2_2 zq17 tq19 I_15 (by omega) (by omega) (by omega)) rfl (by decide) (Nat.le_of_ble_eq_true rfl) rfl dX1_followBySlot_33 ?_
              rintro _ _ ⟨rq20, aq21, rfl, tq22, hq23, rfl⟩
              have hc1 : aq21 = ((cx ((Mq.1 37 5).toInt).toNat ((Mq.1 37 6).toInt).toNat (b2_2).toNat (b3_15 - 1).toNat : Nat) : Int) := by rw [← q37_5, ← q37_6]; exact (hq23).1
              have hc1r := (hq23).2
              have hrg : 0 ≤ (M_15.1 38 (aq21).toNat).toInt ∧ (M_15.1 38 (aq21).toNat).toInt ≤ 1000000 := by rw [show (aq21).toNat = cx ((Mq.1 37 5).toInt).toNat ((Mq.1 37 6).toInt).toNat (b2_2).toNat ((b3_15).toNat - 1) by rw [show (b3_15).toNat - 1 = (b3_15 - 1).toNat by omega]; omega]; exact TB_rng i5 ⟨by omega, by omega⟩
              have hrx : M_15.1 38 (aq21).toNat = M_15.1 38 (cx ((Mq.1 37 5).toInt).toNat ((Mq.1 37 6).toInt).toNat (b2_2).toNat ((b3_15).toNat - 1)) := by rw [show (aq21).toNat = cx ((Mq.1 37 5).toInt).toNat ((Mq.1 37 6).toInt).toNat (b2_2).toNat ((b3_15).toNat - 1) by rw [show (b3_15).toNat - 1 = (b3_15 - 1).toNat by omega]; omega]
              show G Γ M_15 36 [(3, .int y3_15), (2, .int y2_2), (0, .ref (ad 37)), (1, .int x1)] [.int rq20, .ref (ad 38)]
              refine g_iald X la_38 tq22 dX1_followBySlot_36 (by omega) (x := M_15.1 38 aq21.toNat) rfl ?_
              refine g_i2l X dX1_followBySlot_37 (fun zq24 eq25 => ?_)
              have tq26 : zq24.toInt = (M_15.1 38 aq21.toNat).toInt := i2l_nw eq25 rfl
              refine g_aload_n X 2 rfl dX1_followBySlot_38 ?_
              refine g_getr X f_X1_15 dX1_followBySlot_39 ?_
              refine g_iload_n X 0 rfl dX1_followBySlot_42 ?_
              refine g_iconst X 1 dX1_followBySlot_43 (by decide) ?_
              refine g_isub X dX1_followBySlot_44 (fun zq27 eq28 => ?_)
              have tq29 : zq27.toInt = b3_15 - 1 := sub_nw eq28 e3_15 (show (1 : Int32).toInt = 1 by decide) (by omega)
              refine g_bipush X 8 dX1_followBySlot_45 (by decide) ?_
              refine g_imul X dX1_followBySlot_47 (fun zq30 eq31 => ?_)
              have tq32 : zq30.toInt = (b3_15 - 1) * 8 := mul_nw eq31 tq29 (show (8 : Int32).toInt = 8 by decide) (by omega)
              refine g_iload_n X 3 rfl dX1_followBySlot_48 ?_
              refine g_iadd X dX1_followBySlot_49 (fun zq33 eq34 => ?_)
              have tq35 : zq33.toInt = ((b3_15 - 1) * 8) + a1 := add_nw eq34 tq32 t1 (by omega)
              refine g_iald X la_39 tq35 dX1_followBySlot_50 (by omega) (x := M_15.1 39 ((((b3_15 - 1) * 8) + a1).toNat)) rfl ?_
              refine g_i2l X dX1_followBySlot_51 (fun zq36 eq37 => ?_)
              have tq38 : zq36.toInt = (M_15.1 39 ((((b3_15 - 1) * 8) + a1).toNat)).toInt := i2l_nw eq37 rfl
              refine g_lmul X dX1_followBySlot_52 (fun zq39 eq40 => ?_)
              have kb := lmul_ex eq40 tq26 tq38 (by have z := prod_bd hrg (show 0 ≤ ((M_15.1 39 ((((b3_15 - 1) * 8) + a1).toNat)).toInt) ∧ ((M_15.1 39 ((((b3_15 - 1) * 8) + a1).toNat)).toInt) ≤ 1000000 by omega); omega)
              refine g_lstore X [(4, .long zq39), (3, .int y3_15), (2, .int y2_2), (0, .ref (ad 37)), (1, .int x1)] dX1_followBySlot_53 (by decide) rfl ?_
              refine g_aload_n X 3 rfl dX1_followBySlot_55 ?_
              refine g_getr X f_X1_11 dX1_followBySlot_56 ?_
              refine g_aload_n X 3 rfl dX1_followBySlot_59 ?_
              refine g_aload_n X 3 rfl dX1_followBySlot_60 ?_
              refine g_geti X f_X1_26 dX1_followBySlot_61 (x := M_15.1 37 6) rfl ?_
              have bq41 := ig_37_6 I_15
              refine g_iload_n X 2 rfl dX1_followBySlot_64 ?_
              refine g_iload_n X 1 rfl dX1_followBySlot_65 ?_
              refine g_callV X m_X1_69 (c_X1_cell_R ad M_15 (M_15.1 37 6) rfl y2_2 e2_2 y3_15 e3_15 I_15 (by omega) (by omega) (by omega)) rfl (by decide) (Nat.le_of_ble_eq_true rfl) rfl dX1_followBySlot_66 ?_
              rintro _ _ ⟨rq42, aq43, rfl, tq44, hq45, rfl⟩
              have hc2 : aq43 = ((cx ((Mq.1 37 5).toInt).toNat ((Mq.1 37 6).toInt).toNat (b2_2).toNat (b3_15).toNat : Nat) : Int) := by rw [← q37_5, ← q37_6]; exact (hq45).1
              have hc2r := (hq45).2
              show G Γ M_15 69 [(4, .long zq39), (3, .int y3_15), (2, .int y2_2), (0, .ref (ad 37)), (1, .int x1)] [.int rq42, .ref (ad 38)]
              refine g_lload X 0 rfl dX1_followBySlot_69 ?_
              refine g_ldc2 X k_X1_140 dX1_followBySlot_71 ?_
              refine g_minl X ml_X1_142 (by decide) (Nat.le_of_ble_eq_true rfl) rfl (show (1000000 : Int64).toInt = 1000000 by decide) dX1_followBySlot_74 (fun zq46 hq47 => ?_)
              refine g_l2i X dX1_followBySlot_77 (fun zq48 eq49 => ?_)
              have kl : zq48.toInt = zq46.toInt := l2i_nw eq49 rfl (by have z := prod_bd hrg (show 0 ≤ (M_15.1 39 ((b3_15 - 1) * 8 + a1).toNat).toInt ∧ (M_15.1 39 ((b3_15 - 1) * 8 + a1).toNat).toInt ≤ 1000000 by omega); omega)
              refine g_iast X la_38 tq44 dX1_followBySlot_78 (by omega) ?_
              have Iq50 : Iv TX (ui M_15 38 aq43.toNat zq48) := I_15.otherA rfl
              have frq51 : Fr W_X1_followBySlot_R Mq (ui M_15 38 aq43.toNat zq48) := fr_15.ui rfl
              refine g_iinc X 1 (fun v => [(3, .int v), (4, .long zq39), (2, .int y2_2), (0, .ref (ad 37)), (1, .int x1)]) dX1_followBySlot_79 rfl (by decide) (fun _ => rfl) (fun zq52 eq53 => ?_)
              have tq54 : zq52.toInt = b3_15 + (-1) := add_nw eq53 e3_15 (show (Int32.ofInt (-1)).toInt = (-1) by decide) (by omega)
              refine g_goto X (tgt := 15) dX1_followBySlot_82 (by decide) ?_
              refine g_sub [0, 2, 3, 4] rfl ?_
              exact ih15 zq52 _ tq54 (ui M_15 38 aq43.toNat zq48) (by omega) (by rw [show (b3_15 + -1).toNat = b3_15.toNat - 1 by omega]; exact mv4_step hn i5 (by omega) (by omega) (by rw [← hrx, ← hwq.1]) (by omega)) (OUT_ui i6 (by omega)) Iq50 frq51 (by omega)
        refine g_sub [0, 1, 2, 3] rfl ?_
        exact lp15 _ (M_2.1 37 5) _ rfl M_2 (by omega) (by rw [q37_5]; exact i2) i3 I_2 fr_2 (Nat.lt_succ_self _)
  refine g_sub [0, 1, 2] rfl ?_
  exact lp2 _ 0 _ (show (0 : Int32).toInt = 0 by decide) Mq (by omega) (mv4_0 hA) OUT_rf Iq0 frq0 (Nat.lt_succ_self _)
abbrev W_X1_multiply_R : List (Nat × Nat) := [(38, 99)]
set_option maxHeartbeats 4000000 in
set_option maxRecDepth 4000 in
theorem c_X1_multiply_R (ad : Nat → Nat) (Mq : Mem) (x1 : Int32) {a1 : Int} (t1 : x1.toInt = a1) (x2 : Int32) {a2 : Int} (t2 : x2.toInt = a2) (Iq0 : Iv TX Mq) {A B : Mat} (h1 : 0 ≤ a1 ∧ a1 ≤ 37) (h2 : 0 ≤ a2 ∧ a2 ≤ 37) (h3 : a1 ≠ a2) (hA : TB (Mq.1 38) ((Mq.1 37 5).toInt).toNat a1.toNat A) (hB : TB (Mq.1 38) ((Mq.1 37 5).toInt).toNat a2.toNat B) : Ctr ad yX1_multiply cX1_multiply 12 none 1 [.ref (ad 37), .int x1, .int x2] Mq (fun v M' => v = none ∧ (True) ∧ (TB (M'.1 38) ((Mq.1 37 5).toInt).toNat a1.toNat (mM A B) ∧ OUTr (Mq.1 38) (M'.1 38) a1.toNat) ∧ Iv TX M' ∧ Fr W_X1_multiply_R Mq M') := by
  refine ctr_of (L := [(0, .ref (ad 37)), (1, .int x1), (2, .int x2)]) (by decide) (Nat.le_of_ble_eq_true rfl) rfl ?_
  intro Γ X
  have X : gX Γ cX1_multiply RX1 12 none 1 ad _ := X
  have frq0 : Fr W_X1_multiply_R Mq Mq := Fr.rf
  have hL := ig_37_5 Iq0
  have hn : ((Mq.1 37 5).toInt).toNat < 25 := by omega
  refine g_iconst X 0 dX1_multiply_0 (by decide) ?_
  refine g_istore_n X (i := 3) [(3, .int 0), (0, .ref (ad 37)), (1, .int x1), (2, .int x2)] dX1_multiply_1 rfl (by decide) rfl ?_
  have lp2 : ∀ n : Nat, ∀ (y3_2 : Int32) (b3_2 : Int), y3_2.toInt = b3_2 → ∀ (M_2 : Mem), (0 ≤ b3_2 ∧ b3_2 ≤ (Mq.1 37 5).toInt + 1) → (TB (M_2.1 38) ((Mq.1 37 5).toInt).toNat a1.toNat (mv1 A B (b3_2).toNat)) → (OUTr (Mq.1 38) (M_2.1 38) a1.toNat) → (Iv TX M_2) → (Fr W_X1_multiply_R Mq M_2) → ((Mq.1 37 5).toInt + 1 - b3_2).toNat < n → G Γ M_2 2 [(3, .int y3_2), (0, .ref (ad 37)), (1, .int x1), (2, .int x2)] [] := by
    intro n
    induction n with
    | zero => intro y3_2 b3_2 e3_2 M_2 i1 i2 i3 I_2 fr_2 hm; exact absurd hm (Nat.not_lt_zero _)
    | succ n ih2 =>
      intro y3_2 b3_2 e3_2 M_2 i1 i2 i3 I_2 fr_2 hm2
      have q37_5 : (M_2.1 37 5).toInt = (Mq.1 37 5).toInt := congrArg Int32.toInt (fr_2.at 37 5 rfl)
      refine g_iload_n X 0 rfl dX1_multiply_2 ?_
      refine g_aload_n X 1 rfl dX1_multiply_3 ?_
      refine g_geti X f_X1_22 dX1_multiply_4 (x := M_2.1 37 5) rfl ?_
      have bq1 := ig_37_5 I_2
      refine g_icmp_gt X e3_2 rfl (tgt := 156) dX1_multiply_7 (by decide) (fun cq2 => ?_) (fun cq2 => ?_)
      · exact g_vret X dX1_multiply_156 ⟨rfl, trivial, (⟨mv1_end i2 (by omega), i3⟩), I_2, fr_2⟩
      · refine g_aload_n X 1 rfl dX1_multiply_10 ?_
        refine g_geti X f_X1_22 dX1_multiply_11 (x := M_2.1 37 5) rfl ?_
        have bq3 := ig_37_5 I_2
        refine g_istore X [(4, .int (M_2.1 37 5)), (3, .int y3_2), (0, .ref (ad 37)), (1, .int x1), (2, .int x2)] dX1_multiply_14 (by decide) rfl ?_
        have lp16 : ∀ n : Nat, ∀ (y4_16 : Int32) (b4_16 : Int), y4_16.toInt = b4_16 → ∀ (M_16 : Mem), (b3_2 - 1 ≤ b4_16 ∧ b4_16 ≤ (Mq.1 37 5).toInt) → (TB (M_16.1 38) ((Mq.1 37 5).toInt).toNat a1.toNat (mv2 A B (b3_2).toNat (b4_16 + 1).toNat)) → (OUTr (Mq.1 38) (M_16.1 38) a1.toNat) → (Iv TX M_16) → (Fr W_X1_multiply_R Mq M_16) → (b4_16 - b3_2 + 1).toNat < n → G Γ M_16 16 [(4, .int y4_16), (3, .int y3_2), (0, .ref (ad 37)), (1, .int x1), (2, .int x2)] [] := by
          intro n
          induction n with
          | zero => intro y4_16 b4_16 e4_16 M_16 i4 i5 i6 I_16 fr_16 hm; exact absurd hm (Nat.not_lt_zero _)
          | succ n ih16 =>
            intro y4_16 b4_16 e4_16 M_16 i4 i5 i6 I_16 fr_16 hm16
            have r37_5 : (M_16.1 37 5).toInt = (Mq.1 37 5).toInt := congrArg Int32.toInt (fr_16.at 37 5 rfl)
            refine g_iload X 0 rfl dX1_multiply_16 ?_
            refine g_iload_n X 1 rfl dX1_multiply_18 ?_
            refine g_icmp_lt X e4_16 e3_2 (tgt := 150) dX1_multiply_19 (by decide) (fun cq4 => ?_) (fun cq4 => ?_)
            · refine g_iinc X 1 (fun v => [(3, .int v), (4, .int y4_16), (0, .ref (ad 37)), (1, .int x1), (2, .int x2)]) dX1_multiply_150 rfl (by decide) (fun _ => rfl) (fun zq5 eq6 => ?_)
              have tq7 : zq5.toInt = b3_2 + 1 := add_nw eq6 e3_2 (show (Int32.ofInt 1).toInt = 1 by decide) (by omega)
              refine g_goto X (tgt := 2) dX1_multiply_153 (by decide) ?_
              refine g_sub [0, 2, 3, 4] rfl ?_
              exact ih2 zq5 _ tq7 M_16 (by omega) (by rw [show (b3_2 + 1).toNat = b3_2.toNat + 1 by omega]; rw [show (b4_16 + 1).toNat = b3_2.toNat by omega] at i5; exact mv2_end i5) i6 I_16 fr_16 (by omega)
            · refine g_aload_n X 2 rfl dX1_multiply_22 ?_
              refine g_iload_n X 3 rfl dX1_multiply_23 ?_
              refine g_iload_n X 1 rfl dX1_multiply_24 ?_
              refine g_iload X 0 rfl dX1_multiply_25 ?_
              refine g_callV X m_X1_69 (c_X1_cell_R ad M_16 x1 t1 y3_2 e3_2 y4_16 e4_16 I_16 (by omega) (by omega) (by omega)) rfl (by decide) (Nat.le_of_ble_eq_true rfl) rfl dX1_multiply_27 ?_
              rintro _ _ ⟨rq8, aq9, rfl, tq10, hq11, rfl⟩
              have hc1 : aq9 = ((cx ((Mq.1 37 5).toInt).toNat a1.toNat (b3_2).toNat (b4_16).toNat : Nat) : Int) := by rw [← r37_5]; exact (hq11).1
              have hc1r := (hq11).2
              show G Γ M_16 30 [(4, .int y4_16), (3, .int y3_2), (0, .ref (ad 37)), (1, .int x1), (2, .int x2)] [.int rq8]
              refine g_istore X [(5, .int rq8), (4, .int y4_16), (3, .int y3_2), (0, .ref (ad 37)), (1, .int x1), (2, .int x2)] dX1_multiply_30 (by decide) rfl ?_
              refine g_aload_n X 3 rfl dX1_multiply_32 ?_
              refine g_iload_n X 5 rfl dX1_multiply_33 ?_
              refine g_iload X 1 rfl dX1_multiply_34 ?_
              refine g_iload X 1 rfl dX1_multiply_36 ?_
              refine g_callV X m_X1_69 (c_X1_cell_R ad M_16 x2 t2 y4_16 e4_16 y4_16 e4_16 I_16 (by omega) (by omega) (by omega)) rfl (by decide) (Nat.le_of_ble_eq_true rfl) rfl dX1_multiply_38 ?_
              rintro _ _ ⟨rq12, aq13, rfl, tq14, hq15, rfl⟩
              have hc2 : aq13 = ((cx ((Mq.1 37 5).toInt).toNat a2.toNat (b4_16).toNat (b4_16).toNat : Nat) : Int) := by rw [← r37_5]; exact (hq15).1
              have hc2r := (hq15).2
              have hA4 : (M_16.1 38 (aq9).toNat).toInt = ((cap (A (b3_2).toNat (b4_16).toNat) : Nat) : Int) := by rw [show (aq9).toNat = cx ((Mq.1 37 5).toInt).toNat a1.toNat (b3_2).toNat (b4_16).toNat by omega, i5 _ _ (by omega) (by omega)]; unfold mv2; rw [if_neg (by omega), if_neg (by omega)]
              have hAr := cap_le (A (b3_2).toNat (b4_16).toNat)
              show G Γ M_16 41 [(5, .int rq8), (4, .int y4_16), (3, .int y3_2), (0, .ref (ad 37)), (1, .int x1), (2, .int x2)] [.int rq12]
              refine g_istore X [(6, .int rq12), (5, .int rq8), (4, .int y4_16), (3, .int y3_2), (0, .ref (ad 37)), (1, .int x1), (2, .int x2)] dX1_multiply_41 (by decide) rfl ?_
              refine g_aload_n X 4 rfl dX1_multiply_43 ?_
              refine g_getr X f_X1_11 dX1_multiply_44 ?_
              refine g_iload X 1 rfl dX1_multiply_47 ?_
              refine g_iald X la_38 tq10 dX1_multiply_49 (by omega) (x := M_16.1 38 aq9.toNat) rfl ?_
              refine g_istore X [(7, .int (M_16.1 38 aq9.toNat)), (6, .int rq12), (5, .int rq8), (4, .int y4_16), (3, .int y3_2), (0, .ref (ad 37)), (1, .int x1), (2, .int x2)] dX1_multiply_50 (by decide) rfl ?_
              refine g_aload_n X 5 rfl dX1_multiply_52 ?_
              refine g_getr X f_X1_11 dX1_multiply_53 ?_
              refine g_iload X 2 rfl dX1_multiply_56 ?_
              refine g_iconst X 0 dX1_multiply_58 (by decide) ?_
              refine g_iast X la_38 tq10 dX1_multiply_59 (by omega) ?_
              have ltq16 : (0 : Int32).toInt = 0 := by decide
              have Iq17 : Iv TX (ui M_16 38 aq9.toNat 0) := I_16.otherA rfl
              have frq18 : Fr W_X1_multiply_R Mq (ui M_16 38 aq9.toNat 0) := fr_16.ui rfl
              refine g_iload X 0 rfl dX1_multiply_60 ?_
              refine g_if_ne X rfl (tgt := 69) dX1_multiply_62 (by decide) (fun cq19 => ?_) (fun cq19 => ?_)
              · refine g_aload_n X 5 rfl dX1_multiply_69 ?_
                refine g_geti X f_X1_22 dX1_multiply_70 (x := M_16.1 37 5) rfl ?_
                have bq20 := ig_37_5 I_16
                refine g_iload X 3 rfl dX1_multiply_73 ?_
                refine g_isub X dX1_multiply_75 (fun zq21 eq22 => ?_)
                have tq23 : zq21.toInt = ((M_16.1 37 5).toInt) - b4_16 := sub_nw eq22 rfl e4_16 (by omega)
                refine g_iconst X 1 dX1_multiply_76 (by decide) ?_
                refine g_iadd X dX1_multiply_77 (fun zq24 eq25 => ?_)
                have tq26 : zq24.toInt = (((M_16.1 37 5).toInt) - b4_16) + 1 := add_nw eq25 tq23 (show (1 : Int32).toInt = 1 by decide) (by omega)
                refine g_istore X [(8, .int zq24), (7, .int (M_16.1 38 aq9.toNat)), (6, .int rq12), (5, .int rq8), (4, .int y4_16), (3, .int y3_2), (0, .ref (ad 37)), (1, .int x1), (2, .int x2)] dX1_multiply_78 (by decide) rfl ?_
                refine g_iconst X 0 dX1_multiply_80 (by decide) ?_
                refine g_istore X [(9, .int 0), (8, .int zq24), (7, .int (M_16.1 38 aq9.toNat)), (6, .int rq12), (5, .int rq8), (4, .int y4_16), (3, .int y3_2), (0, .ref (ad 37)), (1, .int x1), (2, .int x2)] dX1_multiply_81 (by decide) rfl ?_
                have lp83 : ∀ n : Nat, ∀ (y9_83 : Int32) (b9_83 : Int), y9_83.toInt = b9_83 → ∀ (M_83 : Mem), (0 ≤ b9_83 ∧ b9_83 ≤ ((((M_16.1 37 5).toInt) - b4_16) + 1)) → (TB (M_83.1 38) ((Mq.1 37 5).toInt).toNat a1.toNat (mv3 A B (b3_2).toNat (b4_16).toNat (b9_83).toNat)) → (OUTr (Mq.1 38) (M_83.1 38) a1.toNat) → (Iv TX M_83) → (Fr W_X1_multiply_R Mq M_83) → (((((M_16.1 37 5).toInt) - b4_16) + 1) - b9_83).toNat < n → G Γ M_83 83 [(9, .int y9_83), (8, .int zq24), (7, .int (M_16.1 38 aq9.toNat)), (6, .int rq12), (5, .int rq8), (4, .int y4_16), (3, .int y3_2), (0, .ref (ad 37)), (1, .int x1), (2, .int x2)] [] := by
                  intro n
                  induction n with
                  | zero => intro y9_83 b9_83 e9_83 M_83 i7 i8 i9 I_83 fr_83 hm; exact absurd hm (Nat.not_lt_zero _)
                  | succ n ih83 =>
                    intro y9_83 b9_83 e9_83 M_83 i7 i8 i9 I_83 fr_83 hm83
                    refine g_iload X 0 rfl dX1_multiply_83 ?_
                    refine g_iload X 1 rfl dX1_multiply_85 ?_
                    refine g_icmp_ge X e9_83 tq26 (tgt := 144) dX1_multiply_87 (by decide) (fun cq27 => ?_) (fun cq27 => ?_)
                    · refine g_iinc X 5 (fun v => [(4, .int v), (9, .int y9_83), (8, .int zq24), (7, .int (M_16.1 38 aq9.toNat)), (6, .int rq12), (5, .int rq8), (3, .int y3_2), (0, .ref (ad 37)), (1, .int x1), (2, .int x2)]) dX1_multiply_144 rfl (by decide) (fun _ => rfl) (fun zq28 eq29 => ?_)
                      have tq30 : zq28.toInt = b4_16 + (-1) := add_nw eq29 e4_16 (show (Int32.ofInt (-1)).toInt = (-1) by decide) (by omega)
                      refine g_goto X (tgt := 16) dX1_multiply_147 (by decide) ?_
                      refine g_sub [0, 6, 7, 8, 9] rfl ?_
                      exact ih16 zq28 _ tq30 M_83 (by omega) (by rw [show (b4_16 + -1 + 1).toNat = b4_16.toNat by omega]; exact mv3_end i8 (by omega)) i9 I_83 fr_83 (by omega)
                    · have ix1 : (aq9 + b9_83).toNat = cx ((Mq.1 37 5).toInt).toNat a1.toNat (b3_2).toNat ((b4_16).toNat + (b9_83).toNat) := by rw [← cx_add (by omega)]; omega
                      have ix2 : (aq13 + b9_83).toNat = cx ((Mq.1 37 5).toInt).toNat a2.toNat (b4_16).toNat ((b4_16).toNat + (b9_83).toNat) := by rw [← cx_add (Nat.le_refl _)]; omega
                      have hy : (M_83.1 38 (aq13 + b9_83).toNat).toInt = ((cap (B (b4_16).toNat ((b4_16).toNat + (b9_83).toNat)) : Nat) : Int) := by rw [ix2]; exact TB_OUT hn hB i9 (by omega) _ _ (by omega) (by omega)
                      have hyr := cap_le (B (b4_16).toNat ((b4_16).toNat + (b9_83).toNat))
                      have hur : 0 ≤ (M_83.1 38 (aq9 + b9_83).toNat).toInt ∧ (M_83.1 38 (aq9 + b9_83).toNat).toInt ≤ 1000000 := by rw [ix1]; exact TB_rng i8 ⟨by omega, by omega⟩
                      have hpb := prod_bd (a := ((M_16.1 38 aq9.toNat).toInt)) (b := (M_83.1 38 (aq13 + b9_83).toNat).toInt) (by omega) (by omega)
                      refine g_aload_n X 7 rfl dX1_multiply_90 ?_
                      refine g_getr X f_X1_11 dX1_multiply_91 ?_
                      refine g_iload X 4 rfl dX1_multiply_94 ?_
                      refine g_iload X 0 rfl dX1_multiply_96 ?_
                      refine g_iadd X dX1_multiply_98 (fun zq31 eq32 => ?_)
                      have tq33 : zq31.toInt = aq9 + b9_83 := add_nw eq32 tq10 e9_83 (by omega)
                      refine g_iald X la_38 tq33 dX1_multiply_99 (by omega) (x := M_83.1 38 ((aq9 + b9_83).toNat)) rfl ?_
                      refine g_i2l X dX1_multiply_100 (fun zq34 eq35 => ?_)
                      have tq36 : zq34.toInt = (M_83.1 38 ((aq9 + b9_83).toNat)).toInt := i2l_nw eq35 rfl
                      refine g_iload X 2 rfl dX1_multiply_101 ?_
                      refine g_i2l X dX1_multiply_103 (fun zq37 eq38 => ?_)
                      have tq39 : zq37.toInt = (M_16.1 38 aq9.toNat).toInt := i2l_nw eq38 rfl
                      refine g_aload_n X 7 rfl dX1_multiply_104 ?_
                      refine g_getr X f_X1_11 dX1_multiply_105 ?_
                      refine g_iload X 3 rfl dX1_multiply_108 ?_
                      refine g_iload X 0 rfl dX1_multiply_110 ?_
                      refine g_iadd X dX1_multiply_112 (fun zq40 eq41 => ?_)
                      have tq42 : zq40.toInt = aq13 + b9_83 := add_nw eq41 tq14 e9_83 (by omega)
                      refine g_iald X la_38 tq42 dX1_multiply_113 (by omega) (x := M_83.1 38 ((aq13 + b9_83).toNat)) rfl ?_
                      refine g_i2l X dX1_multiply_114 (fun zq43 eq44 => ?_)
                      have tq45 : zq43.toInt = (M_83.1 38 ((aq13 + b9_83).toNat)).toInt := i2l_nw eq44 rfl
                      refine g_lmul X dX1_multiply_115 (fun zq46 eq47 => ?_)
                      have kb1 := lmul_ex eq47 tq39 tq45 (by omega)
                      refine g_ladd X dX1_multiply_116 (fun zq48 eq49 => ?_)
                      have kb2 := ladd_ex eq49 tq36 kb1 (by omega)
                      refine g_lstore X [(10, .long zq48), (9, .int y9_83), (8, .int zq24), (7, .int (M_16.1 38 aq9.toNat)), (6, .int rq12), (5, .int rq8), (4, .int y4_16), (3, .int y3_2), (0, .ref (ad 37)), (1, .int x1), (2, .int x2)] dX1_multiply_117 (by decide) rfl ?_
                      refine g_aload_n X 8 rfl dX1_multiply_119 ?_
                      refine g_getr X f_X1_11 dX1_multiply_120 ?_
                      refine g_iload X 5 rfl dX1_multiply_123 ?_
                      refine g_iload X 1 rfl dX1_multiply_125 ?_
                      refine g_iadd X dX1_multiply_127 (fun zq50 eq51 => ?_)
                      have tq52 : zq50.toInt = aq9 + b9_83 := add_nw eq51 tq10 e9_83 (by omega)
                      refine g_lload X 0 rfl dX1_multiply_128 ?_
                      refine g_ldc2 X k_X1_140 dX1_multiply_130 ?_
                      refine g_minl X ml_X1_142 (by decide) (Nat.le_of_ble_eq_true rfl) rfl (show (1000000 : Int64).toInt = 1000000 by decide) dX1_multiply_133 (fun zq53 hq54 => ?_)
                      refine g_l2i X dX1_multiply_136 (fun zq55 eq56 => ?_)
                      have kl : zq55.toInt = zq53.toInt := l2i_nw eq56 rfl (by omega)
                      refine g_iast X la_38 tq52 dX1_multiply_137 (by omega) ?_
                      have Iq57 : Iv TX (ui M_83 38 ((aq9 + b9_83).toNat) zq55) := I_83.otherA rfl
                      have frq58 : Fr W_X1_multiply_R Mq (ui M_83 38 ((aq9 + b9_83).toNat) zq55) := fr_83.ui rfl
                      refine g_iinc X 1 (fun v => [(9, .int v), (10, .long zq48), (8, .int zq24), (7, .int (M_16.1 38 aq9.toNat)), (6, .int rq12), (5, .int rq8), (4, .int y4_16), (3, .int y3_2), (0, .ref (ad 37)), (1, .int x1), (2, .int x2)]) dX1_multiply_138 rfl (by decide) (fun _ => rfl) (fun zq59 eq60 => ?_)
                      have tq61 : zq59.toInt = b9_83 + 1 := add_nw eq60 e9_83 (show (Int32.ofInt 1).toInt = 1 by decide) (by omega)
                      refine g_goto X (tgt := 83) dX1_multiply_141 (by decide) ?_
                      refine g_sub [0, 2, 3, 4, 5, 6, 7, 8, 9, 10] rfl ?_
                      exact ih83 zq59 _ tq61 (ui M_83 38 ((aq9 + b9_83).toNat) zq55) (by omega) (by rw [show (b9_83 + 1).toNat = b9_83.toNat + 1 by omega]; exact mv3_step hn i8 (by omega) ix1 hA4 hy kb2 (by omega)) (OUT_ui i9 (by omega)) Iq57 frq58 (by omega)
                refine g_sub [0, 1, 2, 3, 4, 5, 6, 7, 8, 9] rfl ?_
                exact lp83 _ 0 _ (show (0 : Int32).toInt = 0 by decide) (ui M_16 38 aq9.toNat 0) (by omega) (mv3_0 hn (by rw [show (b4_16 + 1).toNat = b4_16.toNat + 1 by omega] at i5; exact i5) (by omega) (by omega) (by decide)) (OUT_ui i6 (by omega)) Iq17 frq18 (Nat.lt_succ_self _)
              · refine g_iconst X 0 dX1_multiply_65 (by decide) ?_
                refine g_goto X (tgt := 78) dX1_multiply_66 (by decide) ?_
                refine g_istore X [(8, .int 0), (7, .int (M_16.1 38 aq9.toNat)), (6, .int rq12), (5, .int rq8), (4, .int y4_16), (3, .int y3_2), (0, .ref (ad 37)), (1, .int x1), (2, .int x2)] dX1_multiply_78 (by decide) rfl ?_
                refine g_iconst X 0 dX1_multiply_80 (by decide) ?_
                refine g_istore X [(9, .int 0), (8, .int 0), (7, .int (M_16.1 38 aq9.toNat)), (6, .int rq12), (5, .int rq8), (4, .int y4_16), (3, .int y3_2), (0, .ref (ad 37)), (1, .int x1), (2, .int x2)] dX1_multiply_81 (by decide) rfl ?_
                have lp83 : ∀ n : Nat, ∀ (y9_83 : Int32) (b9_83 : Int), y9_83.toInt = b9_83 → ∀ (M_83 : Mem), (0 ≤ b9_83 ∧ b9_83 ≤ 0) → (TB (M_83.1 38) ((Mq.1 37 5).toInt).toNat a1.toNat (mv3 A B (b3_2).toNat (b4_16).toNat (b9_83).toNat)) → (OUTr (Mq.1 38) (M_83.1 38) a1.toNat) → (Iv TX M_83) → (Fr W_X1_multiply_R Mq M_83) → (0 - b9_83).toNat < n → G Γ M_83 83 [(9, .int y9_83), (8, .int 0), (7, .int (M_16.1 38 aq9.toNat)), (6, .int rq12), (5, .int rq8), (4, .int y4_16), (3, .int y3_2), (0, .ref (ad 37)), (1, .int x1), (2, .int x2)] [] := by
                  intro n
                  induction n with
                  | zero => intro y9_83 b9_83 e9_83 M_83 i7 i8 i9 I_83 fr_83 hm; exact absurd hm (Nat.not_lt_zero _)
                  | succ n ih83 =>
                    intro y9_83 b9_83 e9_83 M_83 i7 i8 i9 I_83 fr_83 hm83
                    refine g_iload X 0 rfl dX1_multiply_83 ?_
                    refine g_iload X 1 rfl dX1_multiply_85 ?_
                    refine g_icmp_ge X e9_83 (show (0 : Int32).toInt = 0 by decide) (tgt := 144) dX1_multiply_87 (by decide) (fun cq62 => ?_) (fun cq62 => ?_)
                    · refine g_iinc X 5 (fun v => [(4, .int v), (9, .int y9_83), (8, .int 0), (7, .int (M_16.1 38 aq9.toNat)), (6, .int rq12), (5, .int rq8), (3, .int y3_2), (0, .ref (ad 37)), (1, .int x1), (2, .int x2)]) dX1_multiply_144 rfl (by decide) (fun _ => rfl) (fun zq63 eq64 => ?_)
                      have tq65 : zq63.toInt = b4_16 + (-1) := add_nw eq64 e4_16 (show (Int32.ofInt (-1)).toInt = (-1) by decide) (by omega)
                      refine g_goto X (tgt := 16) dX1_multiply_147 (by decide) ?_
                      refine g_sub [0, 6, 7, 8, 9] rfl ?_
                      exact ih16 zq63 _ tq65 M_83 (by omega) (by rw [show (b4_16 + -1 + 1).toNat = b4_16.toNat by omega]; exact mv3_end i8 (by omega)) i9 I_83 fr_83 (by omega)
                    · have ix1 : (aq9 + b9_83).toNat = cx ((Mq.1 37 5).toInt).toNat a1.toNat (b3_2).toNat ((b4_16).toNat + (b9_83).toNat) := by rw [← cx_add (by omega)]; omega
                      have ix2 : (aq13 + b9_83).toNat = cx ((Mq.1 37 5).toInt).toNat a2.toNat (b4_16).toNat ((b4_16).toNat + (b9_83).toNat) := by rw [← cx_add (Nat.le_refl _)]; omega
                      have hy : (M_83.1 38 (aq13 + b9_83).toNat).toInt = ((cap (B (b4_16).toNat ((b4_16).toNat + (b9_83).toNat)) : Nat) : Int) := by rw [ix2]; exact TB_OUT hn hB i9 (by omega) _ _ (by omega) (by omega)
                      have hyr := cap_le (B (b4_16).toNat ((b4_16).toNat + (b9_83).toNat))
                      have hur : 0 ≤ (M_83.1 38 (aq9 + b9_83).toNat).toInt ∧ (M_83.1 38 (aq9 + b9_83).toNat).toInt ≤ 1000000 := by rw [ix1]; exact TB_rng i8 ⟨by omega, by omega⟩
                      have hpb := prod_bd (a := ((M_16.1 38 aq9.toNat).toInt)) (b := (M_83.1 38 (aq13 + b9_83).toNat).toInt) (by omega) (by omega)
                      refine g_aload_n X 7 rfl dX1_multiply_90 ?_
                      refine g_getr X f_X1_11 dX1_multiply_91 ?_
                      refine g_iload X 4 rfl dX1_multiply_94 ?_
                      refine g_iload X 0 rfl dX1_multiply_96 ?_
                      refine g_iadd X dX1_multiply_98 (fun zq66 eq67 => ?_)
                      have tq68 : zq66.toInt = aq9 + b9_83 := add_nw eq67 tq10 e9_83 (by omega)
                      refine g_iald X la_38 tq68 dX1_multiply_99 (by omega) (x := M_83.1 38 ((aq9 + b9_83).toNat)) rfl ?_
                      refine g_i2l X dX1_multiply_100 (fun zq69 eq70 => ?_)
                      have tq71 : zq69.toInt = (M_83.1 38 ((aq9 + b9_83).toNat)).toInt := i2l_nw eq70 rfl
                      refine g_iload X 2 rfl dX1_multiply_101 ?_
                      refine g_i2l X dX1_multiply_103 (fun zq72 eq73 => ?_)
                      have tq74 : zq72.toInt = (M_16.1 38 aq9.toNat).toInt := i2l_nw eq73 rfl
                      refine g_aload_n X 7 rfl dX1_multiply_104 ?_
                      refine g_getr X f_X1_11 dX1_multiply_105 ?_
                      refine g_iload X 3 rfl dX1_multiply_108 ?_
                      refine g_iload X 0 rfl dX1_multiply_110 ?_
                      refine g_iadd X dX1_multiply_112 (fun zq75 eq76 => ?_)
                      have tq77 : zq75.toInt = aq13 + b9_83 := add_nw eq76 tq14 e9_83 (by omega)
                      refine g_iald X la_38 tq77 dX1_multiply_113 (by omega) (x := M_83.1 38 ((aq13 + b9_83).toNat)) rfl ?_
                      refine g_i2l X dX1_multiply_114 (fun zq78 eq79 => ?_)
                      have tq80 : zq78.toInt = (M_83.1 38 ((aq13 + b9_83).toNat)).toInt := i2l_nw eq79 rfl
                      refine g_lmul X dX1_multiply_115 (fun zq81 eq82 => ?_)
                      have kb1 := lmul_ex eq82 tq74 tq80 (by omega)
                      refine g_ladd X dX1_multiply_116 (fun zq83 eq84 => ?_)
                      have kb2 := ladd_ex eq84 tq71 kb1 (by omega)
                      refine g_lstore X [(10, .long zq83), (9, .int y9_83), (8, .int 0), (7, .int (M_16.1 38 aq9.toNat)), (6, .int rq12), (5, .int rq8), (4, .int y4_16), (3, .int y3_2), (0, .ref (ad 37)), (1, .int x1), (2, .int x2)] dX1_multiply_117 (by decide) rfl ?_
                      refine g_aload_n X 8 rfl dX1_multiply_119 ?_
                      refine g_getr X f_X1_11 dX1_multiply_120 ?_
                      refine g_iload X 5 rfl dX1_multiply_123 ?_
                      refine g_iload X 1 rfl dX1_multiply_125 ?_
                      refine g_iadd X dX1_multiply_127 (fun zq85 eq86 => ?_)
                      have tq87 : zq85.toInt = aq9 + b9_83 := add_nw eq86 tq10 e9_83 (by omega)
                      refine g_lload X 0 rfl dX1_multiply_128 ?_
                      refine g_ldc2 X k_X1_140 dX1_multiply_130 ?_
                      refine g_minl X ml_X1_142 (by decide) (Nat.le_of_ble_eq_true rfl) rfl (show (1000000 : Int64).toInt = 1000000 by decide) dX1_multiply_133 (fun zq88 hq89 => ?_)
                      refine g_l2i X dX1_multiply_136 (fun zq90 eq91 => ?_)
                      have kl : zq90.toInt = zq88.toInt := l2i_nw eq91 rfl (by omega)
                      refine g_iast X la_38 tq87 dX1_multiply_137 (by omega) ?_
                      have Iq92 : Iv TX (ui M_83 38 ((aq9 + b9_83).toNat) zq90) := I_83.otherA rfl
                      have frq93 : Fr W_X1_multiply_R Mq (ui M_83 38 ((aq9 + b9_83).toNat) zq90) := fr_83.ui rfl
                      refine g_iinc X 1 (fun v => [(9, .int v), (10, .long zq83), (8, .int 0), (7, .int (M_16.1 38 aq9.toNat)), (6, .int rq12), (5, .int rq8), (4, .int y4_16), (3, .int y3_2), (0, .ref (ad 37)), (1, .int x1), (2, .int x2)]) dX1_multiply_138 rfl (by decide) (fun _ => rfl) (fun zq94 eq95 => ?_)
                      have tq96 : zq94.toInt = b9_83 + 1 := add_nw eq95 e9_83 (show (Int32.ofInt 1).toInt = 1 by decide) (by omega)
                      refine g_goto X (tgt := 83) dX1_multiply_141 (by decide) ?_
                      refine g_sub [0, 2, 3, 4, 5, 6, 7, 8, 9, 10] rfl ?_
                      exact ih83 zq94 _ tq96 (ui M_83 38 ((aq9 + b9_83).toNat) zq90) (by omega) (by rw [show (b9_83 + 1).toNat = b9_83.toNat + 1 by omega]; exact mv3_step hn i8 (by omega) ix1 hA4 hy kb2 (by omega)) (OUT_ui i9 (by omega)) Iq92 frq93 (by omega)
                refine g_sub [0, 1, 2, 3, 4, 5, 6, 7, 8, 9] rfl ?_
                exact lp83 _ 0 _ (show (0 : Int32).toInt = 0 by decide) (ui M_16 38 aq9.toNat 0) (by omega) (mv3_0 hn (by rw [show (b4_16 + 1).toNat = b4_16.toNat + 1 by omega] at i5; exact i5) (by omega) (by omega) (by decide)) (OUT_ui i6 (by omega)) Iq17 frq18 (Nat.lt_succ_self _)
        refine g_sub [0, 1, 2, 3, 4] rfl ?_
        exact lp16 _ (M_2.1 37 5) _ rfl M_2 (by omega) (by rw [q37_5, show ((Mq.1 37 5).toInt + 1).toNat = ((Mq.1 37 5).toInt).toNat + 1 by omega]; exact mv2_0 i2) i3 I_2 fr_2 (Nat.lt_succ_self _)
  refine g_sub [0, 1, 2, 3] rfl ?_
  exact lp2 _ 0 _ (show (0 : Int32).toInt = 0 by decide) Mq (by omega) (mv1_0 hA) OUT_rf Iq0 frq0 (Nat.lt_succ_self _)
end
