section
abbrev W_X1_fillTable_R : List (Nat × Nat) := [(37, 6), (38, 99)]
set_option maxHeartbeats 4000000 in
set_option maxRecDepth 4000 in
theorem c_X1_fillTable_R (ad : Nat → Nat) (Mq : Mem) (x1 : Int32) {a1 : Int} (t1 : x1.toInt = a1) (Iq0 : Iv TX Mq) {p : RpT} {f : Nat → Int} {N : Nat} (h1 : 0 ≤ a1 ∧ a1 ≤ 7) (hz : (Mq.1 20 a1.toNat).toInt = (N : Int) + 2) (hN : N ≤ 58) (hV : gsN f N = some ([], true)) (hf : ∀ k : Nat, k < N → (Mq.1 18 (60 * a1.toNat + k + 2)).toInt = f k) (hw : ∀ s j : Nat, s < 8 → (j : Int) < (Mq.1 37 5).toInt → (Mq.1 39 (8 * j + s)).toInt = ((p.1 s j : Nat) : Int) ∧ p.1 s j ≤ 64) (hh : (Mq.1 14 12).toInt = ((p.2.2 : Nat) : Int)) (hT : ∀ y k : Nat, y < 8 → k < N → f k = 65 + y → TB (Mq.1 38) ((Mq.1 37 5).toInt).toNat y (p.2.1 y)) : Ctr ad yX1_fillTable cX1_fillTable 3 none 4 [.ref (ad 37), .int x1] Mq (fun v M' => v = none ∧ (True) ∧ (TB (M'.1 38) ((Mq.1 37 5).toInt).toNat a1.toNat (mcT p f N) ∧ (∀ c, c < 2600 → (c < 325 * a1.toNat ∨ 325 * a1.toNat + 325 ≤ c) → M'.1 38 c = Mq.1 38 c)) ∧ Iv TX M' ∧ Fr W_X1_fillTable_R Mq M') := by
  refine ctr_of (L := [(0, .ref (ad 37)), (1, .int x1)]) (by decide) (Nat.le_of_ble_eq_true rfl) rfl ?_
  intro Γ X
  have X : gX Γ cX1_fillTable RX1 3 none 4 ad _ := X
  have frq0 : Fr W_X1_fillTable_R Mq Mq := Fr.rf
  have hL := ig_37_5 Iq0
  have hn : ((Mq.1 37 5).toInt).toNat < 25 := by omega
  have hTp := ig_37_6 Iq0
  refine g_aload_n X 0 rfl dX1_fillTable_0 ?_
  refine g_bipush X 8 dX1_fillTable_1 (by decide) ?_
  refine g_puti X p_X1_26 dX1_fillTable_3 ?_
  have ltq1 : (8 : Int32).toInt = 8 := by decide
  have Iq2 : Iv TX (ui Mq 37 6 8) := Iq0.put 8 36 (show (8 : Int32).toInt = 8 by decide) (by omega) rfl
  have frq3 : Fr W_X1_fillTable_R Mq (ui Mq 37 6 8) := frq0.ui rfl
  refine g_aload_n X 0 rfl dX1_fillTable_6 ?_
  refine g_aload_n X 0 rfl dX1_fillTable_7 ?_
  refine g_geti X f_X1_26 dX1_fillTable_8 (x := 8) rfl ?_
  refine g_callV X m_X1_83 (c_X1_clear_R ad (ui Mq 37 6 8) 8 (show (8 : Int32).toInt = 8 by decide) Iq2 (by omega)) rfl (by decide) (Nat.le_of_ble_eq_true rfl) rfl dX1_fillTable_11 ?_
  rintro _ Mq9 ⟨rfl, hq7, hq8, Iq10, frq11⟩
  have frq12 : Fr W_X1_fillTable_R Mq Mq9 := frq3.trans frq11 rfl
  have hc1 : TB (Mq9.1 38) ((Mq.1 37 5).toInt).toNat 8 mZ0 ∧ OUTr (Mq.1 38) (Mq9.1 38) 8 := hq8
  have p6 : (Mq9.1 37 6).toInt = 8 := by rw [frq11.at 37 6 rfl, ui_eq]; decide
  have p5 : (Mq9.1 37 5).toInt = (Mq.1 37 5).toInt := congrArg Int32.toInt (frq11.at 37 5 rfl)
  show G Γ Mq9 14 [(0, .ref (ad 37)), (1, .int x1)] []
  refine g_aload_n X 0 rfl dX1_fillTable_14 ?_
  refine g_aload_n X 0 rfl dX1_fillTable_15 ?_
  refine g_geti X f_X1_26 dX1_fillTable_16 (x := Mq9.1 37 6) rfl ?_
  have bq13 := ig_37_6 Iq10
  refine g_callV X m_X1_86 (c_X1_addOne_R ad Mq9 (Mq9.1 37 6) rfl Iq10 (by omega) (by rw [p5, p6]; exact hc1.1)) rfl (by decide) (Nat.le_of_ble_eq_true rfl) rfl dX1_fillTable_19 ?_
  rintro _ Mq19 ⟨rfl, hq17, hq18, Iq20, frq21⟩
  have frq22 : Fr W_X1_fillTable_R Mq Mq19 := frq12.trans frq21 rfl
  have hc2 := hq18
  rw [p5, p6] at hc2
  have hq0 : RSQ Mq Mq19 ((Mq.1 37 5).toInt).toNat [mO] := ⟨⟨TB_one hc2.1, trivial⟩, by rw [frq21.at 37 6 rfl, p6]; rfl, LOW_tr (LOW_o hc1.2 (by decide)) (LOW_o hc2.2 (by decide))⟩
  show G Γ Mq19 22 [(0, .ref (ad 37)), (1, .int x1)] []
  refine g_iconst X 2 dX1_fillTable_22 (by decide) ?_
  refine g_istore_n X (i := 2) [(2, .int 2), (0, .ref (ad 37)), (1, .int x1)] dX1_fillTable_23 rfl (by decide) rfl ?_
  have lp24 : ∀ n : Nat, ∀ (y2_24 : Int32) (b2_24 : Int), y2_24.toInt = b2_24 → ∀ (M_24 : Mem), (2 ≤ b2_24 ∧ b2_24 ≤ (N : Int) + 2) → (RSQ Mq M_24 ((Mq.1 37 5).toInt).toNat (mcN p f (b2_24 - 2).toNat)) → (Iv TX M_24) → (Fr W_X1_fillTable_R Mq M_24) → ((N : Int) + 2 - b2_24).toNat < n → G Γ M_24 24 [(2, .int y2_24), (0, .ref (ad 37)), (1, .int x1)] [] := by
    intro n
    induction n with
    | zero => intro y2_24 b2_24 e2_24 M_24 i1 i2 I_24 fr_24 hm; exact absurd hm (Nat.not_lt_zero _)
    | succ n ih24 =>
      intro y2_24 b2_24 e2_24 M_24 i1 i2 I_24 fr_24 hm24
      have q20 : (M_24.1 20 a1.toNat).toInt = (N : Int) + 2 := by rw [fr_24.at 20 a1.toNat rfl]; exact hz
      have q37_5 : (M_24.1 37 5).toInt = (Mq.1 37 5).toInt := congrArg Int32.toInt (fr_24.at 37 5 rfl)
      refine g_iload_n X 0 rfl dX1_fillTable_24 ?_
      refine g_aload_n X 1 rfl dX1_fillTable_25 ?_
      refine g_getr X f_X1_33 dX1_fillTable_26 ?_
      refine g_getr X f_X1_89 dX1_fillTable_29 ?_
      refine g_iload_n X 2 rfl dX1_fillTable_32 ?_
      refine g_iald X la_20 t1 dX1_fillTable_33 (by omega) (x := M_24.1 20 a1.toNat) rfl ?_
      have bq23 := ig_20 I_24 a1.toNat (by omega)
      refine g_icmp_ge X e2_24 rfl (tgt := 56) dX1_fillTable_34 (by decide) (fun cq24 => ?_) (fun cq24 => ?_)
      · obtain ⟨T, eT⟩ := mcN_end (p := p) hV
        rw [show (b2_24 - 2).toNat = N by omega, eT] at i2
        refine g_aload_n X 1 rfl dX1_fillTable_56 ?_
        refine g_iload_n X 2 rfl dX1_fillTable_57 ?_
        refine g_callV X m_X1_83 (c_X1_clear_R ad M_24 x1 t1 I_24 (by omega)) rfl (by decide) (Nat.le_of_ble_eq_true rfl) rfl dX1_fillTable_58 ?_
        rintro _ Mq30 ⟨rfl, hq28, hq29, Iq31, frq32⟩
        have frq33 : Fr W_X1_fillTable_R Mq Mq30 := fr_24.trans frq32 rfl
        have hm3 := hq29
        rw [q37_5] at hm3
        have s5 : (Mq30.1 37 5).toInt = (Mq.1 37 5).toInt := by rw [frq32.at 37 5 rfl]; exact q37_5
        show G Γ Mq30 61 [(2, .int y2_24), (0, .ref (ad 37)), (1, .int x1)] []
        refine g_aload_n X 1 rfl dX1_fillTable_61 ?_
        refine g_iload_n X 2 rfl dX1_fillTable_62 ?_
        refine g_bipush X 8 dX1_fillTable_63 (by decide) ?_
        refine g_callV X m_X1_99 (c_X1_addTable_R ad Mq30 x1 t1 8 (show (8 : Int32).toInt = 8 by decide) Iq31 (by omega) (by omega) (by omega) (by rw [s5]; exact hm3.1) (by rw [s5]; exact TB_OUT hn i2.1.1 hm3.2 (by show 8 + 0 ≠ a1.toNat; omega))) rfl (by decide) (Nat.le_of_ble_eq_true rfl) rfl dX1_fillTable_65 ?_
        rintro _ Mq39 ⟨rfl, hq37, hq38, Iq40, frq41⟩
        have frq42 : Fr W_X1_fillTable_R Mq Mq39 := frq33.trans frq41 rfl
        have hm4 := hq38
        rw [s5] at hm4
        show G Γ Mq39 68 [(2, .int y2_24), (0, .ref (ad 37)), (1, .int x1)] []
        exact g_vret X dX1_fillTable_68 ⟨rfl, trivial, (⟨by rw [mcT_of eT]; exact TB_zadd hm4.1, fun c h1 h2 => by rw [hm4.2 c h2, hm3.2 c h2]; exact i2.2.2 c h1⟩), Iq40, frq42⟩
      · refine g_aload_n X 1 rfl dX1_fillTable_37 ?_
        refine g_aload_n X 1 rfl dX1_fillTable_38 ?_
        refine g_getr X f_X1_33 dX1_fillTable_39 ?_
        refine g_iload_n X 2 rfl dX1_fillTable_42 ?_
        refine g_iload_n X 0 rfl dX1_fillTable_43 ?_
        refine g_callV X m_X1_92 (c_X2_sign_F ad M_24 x1 t1 y2_24 e2_24 (by omega) (by omega)) rfl (by decide) (Nat.le_of_ble_eq_true rfl) rfl dX1_fillTable_44 ?_
        rintro _ _ ⟨rq43, aq44, rfl, tq45, hq46, rfl⟩
        have hsg : aq44 = f (b2_24 - 2).toNat := by rw [hq46, fr_24.at 18 _ rfl, show (a1 * 60 + b2_24).toNat = 60 * a1.toNat + (b2_24 - 2).toNat + 2 by omega]; exact hf _ (by omega)
        obtain ⟨cq, hcq⟩ : ∃ c : Int, c = aq44 := ⟨_, rfl⟩
        obtain ⟨A, S, eS⟩ := mcN_ne (p := p) (k := (b2_24 - 2).toNat) hV (by omega)
        rw [eS] at i2
        obtain ⟨v1, v2⟩ := RSV_of hV hN (by omega) eS
        show G Γ M_24 47 [(2, .int y2_24), (0, .ref (ad 37)), (1, .int x1)] [.int rq43, .ref (ad 37)]
        refine g_callV X m_X1_96 (c_X1_readSign_R (p := p) (S := S) (A := A) ad M_24 rq43 tq45 I_24 (by rw [q37_5]; exact i2.1) (by have z := i2.2.1; rw [List.length_cons] at z; omega) (by rw [hsg]; exact v1) v2 (fun s j hs hj => by rw [fr_24.at 39 _ rfl]; exact hw s j hs (by omega)) (by rw [fr_24.at 14 12 rfl]; exact hh) (fun z => by rw [← hcq] at z ⊢; rw [q37_5]; exact TB_LOW hn (hT (cq - 65).toNat (b2_24 - 2).toNat (by omega) (by omega) (by omega)) i2.2.2 (by omega))) rfl (by decide) (Nat.le_of_ble_eq_true rfl) rfl dX1_fillTable_47 ?_
        rintro _ Mq52 ⟨rfl, hq50, hq51, Iq53, frq54⟩
        have frq55 : Fr W_X1_fillTable_R Mq Mq52 := fr_24.trans frq54 rfl
        have hrs := hq51
        rw [q37_5, hsg, ← eS] at hrs
        show G Γ Mq52 50 [(2, .int y2_24), (0, .ref (ad 37)), (1, .int x1)] []
        refine g_iinc X 0 (fun v => [(2, .int v), (0, .ref (ad 37)), (1, .int x1)]) dX1_fillTable_50 rfl (by decide) (fun _ => rfl) (fun zq56 eq57 => ?_)
        have tq58 : zq56.toInt = b2_24 + 1 := add_nw eq57 e2_24 (show (Int32.ofInt 1).toInt = 1 by decide) (by omega)
        refine g_goto X (tgt := 24) dX1_fillTable_53 (by decide) ?_
        refine g_sub [0, 1, 2] rfl ?_
        exact ih24 zq56 _ tq58 Mq52 (by omega) (by rw [show (b2_24 + 1 - 2).toNat = (b2_24 - 2).toNat + 1 by omega]; exact RSQ_step i2 hrs) Iq53 frq55 (by omega)
  refine g_sub [0, 1, 2] rfl ?_
  exact lp24 _ 2 _ (show (2 : Int32).toInt = 2 by decide) Mq19 (by omega) hq0 Iq20 frq22 (Nat.lt_succ_self _)
set_option maxHeartbeats 4000000 in
set_option maxRecDepth 4000 in
theorem c_X2_within_R (ad : Nat → Nat) (Mq : Mem) (x1 : Int32) {a1 : Int} (t1 : x1.toInt = a1) (Iq0 : Iv TX Mq) {f : Nat → Nat → Int} {N : Nat → Nat} (h1 : 0 ≤ a1 ∧ a1 ≤ 7) (hX : RTX Mq f N) (hO : ROR Mq f N) : Ctr ad yX2_within cX2_within 4 (some .int) 0 [.ref (ad 14), .int x1] Mq (fun v M' => ∃ (r : Int32) (a : Int), v = some (.int r) ∧ r.toInt = a ∧ (WIN Mq N f r a1.toNat 0) ∧ Mq = M') := by
  refine ctr_of (L := [(0, .ref (ad 14)), (1, .int x1)]) (by decide) (Nat.le_of_ble_eq_true rfl) rfl ?_
  intro Γ X
  have X : gX Γ cX2_within RX2 4 (some .int) 0 ad _ := X
  have gT := ig_14_11 Iq0
  have h8 : ∀ k : Nat, (k : Int) < (Mq.1 14 11).toInt → orX Mq k < 8 := fun k hk => by have z := ig_14_11 Iq0; have y := ig_22 Iq0 k (by omega); unfold orX; omega
  refine g_iconst X 1 dX2_within_0 (by decide) ?_
  refine g_iload_n X 1 rfl dX2_within_1 ?_
  refine g_ishl X dX2_within_2 (fun zq1 eq2 => ?_)
  have kx2 := eq2
  refine g_istore_n X (i := 2) [(2, .int zq1), (0, .ref (ad 14)), (1, .int x1)] dX2_within_3 rfl (by decide) rfl ?_
  refine g_aload_n X 1 rfl dX2_within_4 ?_
  refine g_geti X f_X2_47 dX2_within_5 (x := Mq.1 14 11) rfl ?_
  have bq4 := ig_14_11 Iq0
  refine g_iconst X 1 dX2_within_8 (by decide) ?_
  refine g_isub X dX2_within_9 (fun zq5 eq6 => ?_)
  have tq7 : zq5.toInt = ((Mq.1 14 11).toInt) - 1 := sub_nw eq6 rfl (show (1 : Int32).toInt = 1 by decide) (by omega)
  refine g_istore_n X (i := 3) [(3, .int zq5), (2, .int zq1), (0, .ref (ad 14)), (1, .int x1)] dX2_within_10 rfl (by decide) rfl ?_
  have lp11 : ∀ n : Nat, ∀ (y3_11 : Int32) (b3_11 : Int), y3_11.toInt = b3_11 → ∀ (y2_11 : Int32) (b2_11 : Int), y2_11.toInt = b2_11 → (-1 ≤ b3_11 ∧ b3_11 < (Mq.1 14 11).toInt) → (WIN Mq N f y2_11 a1.toNat (b3_11 + 1)) → (b3_11 + 1).toNat < n → G Γ Mq 11 [(3, .int y3_11), (2, .int y2_11), (0, .ref (ad 14)), (1, .int x1)] [] := by
    intro n
    induction n with
    | zero => intro y3_11 b3_11 e3_11 y2_11 b2_11 e2_11 i1 i2 hm; exact absurd hm (Nat.not_lt_zero _)
    | succ n ih11 =>
      intro y3_11 b3_11 e3_11 y2_11 b2_11 e2_11 i1 i2 hm11
      refine g_iload_n X 0 rfl dX2_within_11 ?_
      refine g_if_lt X e3_11 (tgt := 49) dX2_within_12 (by decide) (fun cq8 => ?_) (fun cq8 => ?_)
      · refine g_iload_n X 1 rfl dX2_within_49 ?_
        exact g_iret X dX2_within_50 ⟨_, _, rfl, e2_11, (by rw [show b3_11 + 1 = 0 by omega] at i2; exact i2), rfl⟩
      · refine g_iload_n X 1 rfl dX2_within_15 ?_
        refine g_aload_n X 2 rfl dX2_within_16 ?_
        refine g_getr X f_X2_44 dX2_within_17 ?_
        refine g_iload_n X 0 rfl dX2_within_20 ?_
        refine g_iald X la_22 e3_11 dX2_within_21 (by omega) (x := Mq.1 22 b3_11.toNat) rfl ?_
        have bq9 := ig_22 Iq0 b3_11.toNat (by omega)
        refine g_ishr X dX2_within_22 (fun zq10 eq11 => ?_)
        have kx22 := eq11
        refine g_iconst X 1 dX2_within_23 (by decide) ?_
        refine g_iand X dX2_within_24 (fun zq13 eq14 => ?_)
        have kb := bit1 rfl ⟨by omega, by omega⟩ kx22 eq14
        refine g_iconst X 1 dX2_within_25 (by decide) ?_
        refine g_icmp_ne X rfl (show (1 : Int32).toInt = 1 by decide) (tgt := 43) dX2_within_26 (by decide) (fun cq16 => ?_) (fun cq16 => ?_)
        · refine g_iinc X 0 (fun v => [(3, .int v), (2, .int y2_11), (0, .ref (ad 14)), (1, .int x1)]) dX2_within_43 rfl (by decide) (fun _ => rfl) (fun zq17 eq18 => ?_)
          have tq19 : zq17.toInt = b3_11 + (-1) := add_nw eq18 e3_11 (show (Int32.ofInt (-1)).toInt = (-1) by decide) (by omega)
          refine g_goto X (tgt := 11) dX2_within_46 (by decide) ?_
          refine g_sub [0, 1, 2, 3] rfl ?_
          exact ih11 zq17 _ tq19 y2_11 _ e2_11 (by omega) (by rw [show b3_11 + -1 + 1 = b3_11 by omega]; first | exact WIN_skip i2 (by omega) (fun z => absurd (kb.mpr z) (by omega)) | exact WIN_put hO hX h8 i2 (by omega) rfl kx41) (by omega)
        · refine g_iload_n X 1 rfl dX2_within_29 ?_
          refine g_aload_n X 2 rfl dX2_within_30 ?_
          refine g_getr X f_X2_41 dX2_within_31 ?_
          refine g_aload_n X 2 rfl dX2_within_34 ?_
          refine g_getr X f_X2_44 dX2_within_35 ?_
          refine g_iload_n X 0 rfl dX2_within_38 ?_
          refine g_iald X la_22 e3_11 dX2_within_39 (by omega) (x := Mq.1 22 b3_11.toNat) rfl ?_
          have bq20 := ig_22 Iq0 b3_11.toNat (by omega)
          refine g_iald X la_21 rfl dX2_within_40 (by omega) (x := Mq.1 21 (((Mq.1 22 b3_11.toNat).toInt).toNat)) rfl ?_
          refine g_ior X dX2_within_41 (fun zq21 eq22 => ?_)
          have kx41 := eq22
          refine g_istore_n X (i := 2) [(2, .int zq21), (3, .int y3_11), (0, .ref (ad 14)), (1, .int x1)] dX2_within_42 rfl (by decide) rfl ?_
          refine g_iinc X 1 (fun v => [(3, .int v), (2, .int zq21), (0, .ref (ad 14)), (1, .int x1)]) dX2_within_43 rfl (by decide) (fun _ => rfl) (fun zq24 eq25 => ?_)
          have tq26 : zq24.toInt = b3_11 + (-1) := add_nw eq25 e3_11 (show (Int32.ofInt (-1)).toInt = (-1) by decide) (by omega)
          refine g_goto X (tgt := 11) dX2_within_46 (by decide) ?_
          refine g_sub [0, 1, 2, 3] rfl ?_
          exact ih11 zq24 _ tq26 zq21 _ rfl (by omega) (by rw [show b3_11 + -1 + 1 = b3_11 by omega]; first | exact WIN_skip i2 (by omega) (fun z => absurd (kb.mpr z) (by omega)) | exact WIN_put hO hX h8 i2 (by omega) rfl kx41) (by omega)
  refine g_sub [0, 1, 2, 3] rfl ?_
  exact lp11 _ zq5 _ tq7 zq1 _ rfl (by omega) (WIN_0 (bt_sh t1 (by omega) kx2) (by omega)) (Nat.lt_succ_self _)
abbrev W_X1_ways_R : List (Nat × Nat) := [(37, 6), (38, 99)]
set_option maxHeartbeats 4000000 in
set_option maxRecDepth 4000 in
theorem c_X1_ways_R (ad : Nat → Nat) (Mq : Mem) (x1 : Int32) {a1 : Int} (t1 : x1.toInt = a1) (Iq0 : Iv TX Mq) {p : RpT} {f : Nat → Nat → Int} {N : Nat → Nat} (h1 : 0 ≤ a1 ∧ a1 ≤ 7) (hX : RTX Mq f N) (hO : ROR Mq f N) (hw : ∀ s j : Nat, s < 8 → (j : Int) < (Mq.1 37 5).toInt → (Mq.1 39 (8 * j + s)).toInt = ((p.1 s j : Nat) : Int) ∧ p.1 s j ≤ 64) (hh : (Mq.1 14 12).toInt = ((p.2.2 : Nat) : Int)) (hfix : ∀ x : Nat, x < 8 → 0 < (Mq.1 20 x).toInt → p.2.1 x = mcT p (f x) (N x)) (hk : ∃ k : Nat, (k : Int) < (Mq.1 14 11).toInt ∧ orX Mq k = a1.toNat) : Ctr ad yX1_ways cX1_ways 4 (some .int) 5 [.ref (ad 37), .int x1] Mq (fun v M' => ∃ (r : Int32) (a : Int), v = some (.int r) ∧ r.toInt = a ∧ (a = ((cap (p.2.1 a1.toNat 0 ((Mq.1 37 5).toInt).toNat) : Nat) : Int)) ∧ Iv TX M' ∧ Fr W_X1_ways_R Mq M') := by
  refine ctr_of (L := [(0, .ref (ad 37)), (1, .int x1)]) (by decide) (Nat.le_of_ble_eq_true rfl) rfl ?_
  intro Γ X
  have X : gX Γ cX1_ways RX1 4 (some .int) 5 ad _ := X
  have frq0 : Fr W_X1_ways_R Mq Mq := Fr.rf
  have hL := ig_37_5 Iq0
  have hn : ((Mq.1 37 5).toInt).toNat < 25 := by omega
  have hTp := ig_37_6 Iq0
  have gT := ig_14_11 Iq0
  have h8 : ∀ k : Nat, (k : Int) < (Mq.1 14 11).toInt → orX Mq k < 8 := fun k hk => by have z := ig_14_11 Iq0; have y := ig_22 Iq0 k (by omega); unfold orX; omega
  refine g_aload_n X 0 rfl dX1_ways_0 ?_
  refine g_getr X f_X1_33 dX1_ways_1 ?_
  refine g_iload_n X 1 rfl dX1_ways_4 ?_
  refine g_callV X m_X1_53 (c_X2_within_R (f := f) (N := N) ad Mq x1 t1 Iq0 (by omega) hX hO) rfl (by decide) (Nat.le_of_ble_eq_true rfl) rfl dX1_ways_5 ?_
  rintro _ _ ⟨rq1, aq2, rfl, tq3, hq4, rfl⟩
  have hwin := hq4
  show G Γ Mq 8 [(0, .ref (ad 37)), (1, .int x1)] [.int rq1]
  refine g_istore_n X (i := 2) [(2, .int rq1), (0, .ref (ad 37)), (1, .int x1)] dX1_ways_8 rfl (by decide) rfl ?_
  refine g_iconst X 0 dX1_ways_9 (by decide) ?_
  refine g_istore_n X (i := 3) [(3, .int 0), (2, .int rq1), (0, .ref (ad 37)), (1, .int x1)] dX1_ways_10 rfl (by decide) rfl ?_
  have lp11 : ∀ n : Nat, ∀ (y3_11 : Int32) (b3_11 : Int), y3_11.toInt = b3_11 → ∀ (M_11 : Mem), (0 ≤ b3_11 ∧ b3_11 ≤ (Mq.1 14 11).toInt) → (TDN (M_11.1 38) ((Mq.1 37 5).toInt).toNat Mq p.2.1 rq1 b3_11) → (Iv TX M_11) → (Fr W_X1_ways_R Mq M_11) → ((Mq.1 14 11).toInt - b3_11).toNat < n → G Γ M_11 11 [(3, .int y3_11), (2, .int rq1), (0, .ref (ad 37)), (1, .int x1)] [] := by
    intro n
    induction n with
    | zero => intro y3_11 b3_11 e3_11 M_11 i1 i2 I_11 fr_11 hm; exact absurd hm (Nat.not_lt_zero _)
    | succ n ih11 =>
      intro y3_11 b3_11 e3_11 M_11 i1 i2 I_11 fr_11 hm11
      have q14_11 : (M_11.1 14 11).toInt = (Mq.1 14 11).toInt := congrArg Int32.toInt (fr_11.at 14 11 rfl)
      have q37_5 : (M_11.1 37 5).toInt = (Mq.1 37 5).toInt := congrArg Int32.toInt (fr_11.at 37 5 rfl)
      refine g_iload_n X 0 rfl dX1_ways_11 ?_
      refine g_aload_n X 2 rfl dX1_ways_12 ?_
      refine g_getr X f_X1_33 dX1_ways_13 ?_
      refine g_geti X f_X1_59 dX1_ways_16 (x := M_11.1 14 11) rfl ?_
      have bq5 := ig_14_11 I_11
      refine g_icmp_ge X e3_11 rfl (tgt := 58) dX1_ways_19 (by decide) (fun cq6 => ?_) (fun cq6 => ?_)
      · refine g_aload_n X 2 rfl dX1_ways_58 ?_
        refine g_getr X f_X1_11 dX1_ways_59 ?_
        refine g_aload_n X 2 rfl dX1_ways_62 ?_
        refine g_iload_n X 3 rfl dX1_ways_63 ?_
        refine g_iconst X 0 dX1_ways_64 (by decide) ?_
        refine g_aload_n X 2 rfl dX1_ways_65 ?_
        refine g_geti X f_X1_22 dX1_ways_66 (x := M_11.1 37 5) rfl ?_
        have bq7 := ig_37_5 I_11
        refine g_callV X m_X1_69 (c_X1_cell_R ad M_11 x1 t1 0 (show (0 : Int32).toInt = 0 by decide) (M_11.1 37 5) rfl I_11 (by omega) (by omega) (by omega)) rfl (by decide) (Nat.le_of_ble_eq_true rfl) rfl dX1_ways_69 ?_
        rintro _ _ ⟨rq8, aq9, rfl, tq10, hq11, rfl⟩
        have hcx := (hq11).1
        rw [q37_5] at hcx
        have hcr := (hq11).2
        show G Γ M_11 72 [(3, .int y3_11), (2, .int rq1), (0, .ref (ad 37)), (1, .int x1)] [.int rq8, .ref (ad 38)]
        refine g_iald X la_38 tq10 dX1_ways_72 (by omega) (x := M_11.1 38 aq9.toNat) rfl ?_
        exact g_iret X dX1_ways_73 ⟨_, _, rfl, rfl, (by obtain ⟨k2, k3, k4⟩ := hk; have z := i2 k2 (by omega) (by rw [k4]; exact hwin.1) 0 ((Mq.1 37 5).toInt).toNat (Nat.zero_le _) (Nat.le_refl _); rw [k4] at z; rw [← z, hcx]; rfl), I_11, fr_11⟩
      · have e22 : M_11.1 22 (b3_11).toNat = Mq.1 22 (b3_11).toNat := fr_11.at 22 _ rfl
        have ex : ((M_11.1 22 (b3_11).toNat).toInt).toNat = (orX Mq (b3_11).toNat) := by unfold orX; rw [e22]
        have x0 := hO.1 (b3_11).toNat (by omega)
        obtain ⟨u1, u2, u3, u4, u5⟩ := hX (orX Mq (b3_11).toNat) (h8 _ (by omega)) x0
        refine g_iload_n X 1 rfl dX1_ways_22 ?_
        refine g_aload_n X 2 rfl dX1_ways_23 ?_
        refine g_getr X f_X1_33 dX1_ways_24 ?_
        refine g_getr X f_X1_62 dX1_ways_27 ?_
        refine g_iload_n X 0 rfl dX1_ways_30 ?_
        refine g_iald X la_22 e3_11 dX1_ways_31 (by omega) (x := M_11.1 22 b3_11.toNat) rfl ?_
        have bq12 := ig_22 I_11 b3_11.toNat (by omega)
        refine g_ishr X dX1_ways_32 (fun zq13 eq14 => ?_)
        have kx32 := eq14
        refine g_iconst X 1 dX1_ways_33 (by decide) ?_
        refine g_iand X dX1_ways_34 (fun zq16 eq17 => ?_)
        have kb := bit1 rfl ⟨by omega, by omega⟩ kx32 eq17
        rw [ex] at kb
        refine g_iconst X 1 dX1_ways_35 (by decide) ?_
        refine g_icmp_ne X rfl (show (1 : Int32).toInt = 1 by decide) (tgt := 52) dX1_ways_36 (by decide) (fun cq19 => ?_) (fun cq19 => ?_)
        · refine g_iinc X 0 (fun v => [(3, .int v), (2, .int rq1), (0, .ref (ad 37)), (1, .int x1)]) dX1_ways_52 rfl (by decide) (fun _ => rfl) (fun zq20 eq21 => ?_)
          have tq22 : zq20.toInt = b3_11 + 1 := add_nw eq21 e3_11 (show (Int32.ofInt 1).toInt = 1 by decide) (by omega)
          refine g_goto X (tgt := 11) dX1_ways_55 (by decide) ?_
          refine g_sub [0, 1, 2, 3] rfl ?_
          exact ih11 zq20 _ tq22 M_11 (by omega) (by first | exact TDN_skip i2 i1.1 (fun z => absurd (kb.mpr z) (by omega)) | exact TDN_put hn i2 i1.1 hft.2 (fun k2 hk2 => h8 k2 (by omega)) (fun k2 hk2 e => by have z := hO.2.1 _ _ (by omega) (by omega) e; omega) (by rw [hfix _ (h8 _ (by omega)) x0]; exact hft.1)) I_11 fr_11 (by omega)
        · refine g_aload_n X 2 rfl dX1_ways_39 ?_
          refine g_aload_n X 2 rfl dX1_ways_40 ?_
          refine g_getr X f_X1_33 dX1_ways_41 ?_
          refine g_getr X f_X1_62 dX1_ways_44 ?_
          refine g_iload_n X 0 rfl dX1_ways_47 ?_
          refine g_iald X la_22 e3_11 dX1_ways_48 (by omega) (x := M_11.1 22 b3_11.toNat) rfl ?_
          have bq23 := ig_22 I_11 b3_11.toNat (by omega)
          refine g_callV X m_X1_65 (c_X1_fillTable_R (p := p) (f := f (orX Mq b3_11.toNat)) (N := N (orX Mq b3_11.toNat)) ad M_11 (M_11.1 22 b3_11.toNat) rfl I_11 (by omega) (by rw [ex, fr_11.at 20 _ rfl]; exact u1) u2 u3 (fun k hk => by rw [ex, fr_11.at 18 _ rfl]; exact u4 k hk) (fun s j hs hj => by rw [fr_11.at 39 _ rfl]; exact hw s j hs (by omega)) (by rw [fr_11.at 14 12 rfl]; exact hh) (fun y j hy hj hf => by rw [q37_5]; obtain ⟨k2, k3, k4⟩ := hO.2.2 _ (by omega) y j hy hj hf; rw [← k4]; exact i2 k2 (by omega) (by rw [k4]; exact hwin.2 _ (by omega) (by omega) (kb.mp (by omega)) y j hy hj hf))) rfl (by decide) (Nat.le_of_ble_eq_true rfl) rfl dX1_ways_49 ?_
          rintro _ Mq29 ⟨rfl, hq27, hq28, Iq30, frq31⟩
          have frq32 : Fr W_X1_ways_R Mq Mq29 := fr_11.trans frq31 rfl
          have hft := hq28
          rw [q37_5, ex] at hft
          show G Γ Mq29 52 [(3, .int y3_11), (2, .int rq1), (0, .ref (ad 37)), (1, .int x1)] []
          refine g_iinc X 0 (fun v => [(3, .int v), (2, .int rq1), (0, .ref (ad 37)), (1, .int x1)]) dX1_ways_52 rfl (by decide) (fun _ => rfl) (fun zq33 eq34 => ?_)
          have tq35 : zq33.toInt = b3_11 + 1 := add_nw eq34 e3_11 (show (Int32.ofInt 1).toInt = 1 by decide) (by omega)
          refine g_goto X (tgt := 11) dX1_ways_55 (by decide) ?_
          refine g_sub [0, 1, 2, 3] rfl ?_
          exact ih11 zq33 _ tq35 Mq29 (by omega) (by first | exact TDN_skip i2 i1.1 (fun z => absurd (kb.mpr z) (by omega)) | exact TDN_put hn i2 i1.1 hft.2 (fun k2 hk2 => h8 k2 (by omega)) (fun k2 hk2 e => by have z := hO.2.1 _ _ (by omega) (by omega) e; omega) (by rw [hfix _ (h8 _ (by omega)) x0]; exact hft.1)) Iq30 frq32 (by omega)
  refine g_sub [0, 1, 2, 3] rfl ?_
  exact lp11 _ 0 _ (show (0 : Int32).toInt = 0 by decide) Mq (by omega) (fun k2 hk2 => absurd hk2 (by omega)) Iq0 frq0 (Nat.lt_succ_self _)
end
