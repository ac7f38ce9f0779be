section
set_option maxHeartbeats 4000000 in
set_option maxRecDepth 4000 in
theorem c_X6_pick_F (ad : Nat → Nat) (Mq : Mem) (x1 : Int64) {a1 : Int} (t1 : x1.toInt = a1) (x2 : Int32) {a2 : Int} (t2 : x2.toInt = a2) (h2 : 0 ≤ a2 ∧ a2 < ((ctb (b64 x1) 40 : Nat) : Int)) : Ctr ad yX6_pick cX6_pick 5 (some .int) 1 [.long x1, .int x2] Mq (fun v M' => ∃ (r : Int32) (a : Int), v = some (.int r) ∧ r.toInt = a ∧ (a = nthN (b64 x1) a2 40 ∧ 0 ≤ a ∧ a < 40) ∧ Mq = M') := by
  refine ctr_of (L := [(0, .long x1), (2, .int x2)]) (by decide) (Nat.le_of_ble_eq_true rfl) rfl ?_
  intro Γ X
  have X : gX Γ cX6_pick RX6 5 (some .int) 1 ad _ := X
  have hcl := ctb_le (b64 x1) 40
  refine g_iload_n X 1 rfl dX6_pick_0 ?_
  refine g_istore_n X (i := 3) [(3, .int x2), (0, .long x1), (2, .int x2)] dX6_pick_1 rfl (by decide) rfl ?_
  refine g_iconst X 0 dX6_pick_2 (by decide) ?_
  refine g_istore X [(4, .int 0), (3, .int x2), (0, .long x1), (2, .int x2)] dX6_pick_3 (by decide) rfl ?_
  have lp5 : ∀ n : Nat, ∀ (y4_5 : Int32) (b4_5 : Int), y4_5.toInt = b4_5 → ∀ (y3_5 : Int32) (b3_5 : Int), y3_5.toInt = b3_5 → (0 ≤ b4_5 ∧ b4_5 ≤ 40) → (b3_5 = a2 - ((ctb (b64 x1) (b4_5).toNat : Nat) : Int)) → (0 ≤ b3_5) → (40 - b4_5).toNat < n → G Γ Mq 5 [(4, .int y4_5), (3, .int y3_5), (0, .long x1), (2, .int x2)] [] := by
    intro n
    induction n with
    | zero => intro y4_5 b4_5 e4_5 y3_5 b3_5 e3_5 i1 i2 i3 hm; exact absurd hm (Nat.not_lt_zero _)
    | succ n ih5 =>
      intro y4_5 b4_5 e4_5 y3_5 b3_5 e3_5 i1 i2 i3 hm5
      refine g_iload X 0 rfl dX6_pick_5 ?_
      refine g_bipush X 40 dX6_pick_7 (by decide) ?_
      refine g_icmp_ge X e4_5 (show (40 : Int32).toInt = 40 by decide) (tgt := 38) dX6_pick_9 (by decide) (fun cq1 => ?_) (fun cq1 => ?_)
      · refine g_iconst X (-1) dX6_pick_38 (by decide) ?_
        exact g_iret X dX6_pick_39 ⟨_, _, rfl, (show ((-1) : Int32).toInt = (-1) by decide), (by exfalso; rw [show b4_5 = 40 by omega, show (40 : Int).toNat = 40 from rfl] at i2; omega), rfl⟩
      · refine g_lload_n X 2 rfl dX6_pick_12 ?_
        refine g_iload X 0 rfl dX6_pick_13 ?_
        refine g_callS X m_X6_115 (c_X6_bit_E ad Mq x1 t1 y4_5 e4_5 (by omega)) rfl (by decide) (Nat.le_of_ble_eq_true rfl) rfl dX6_pick_15 ?_
        rintro _ _ ⟨rq2, aq3, rfl, tq4, hq5, rfl⟩
        have hbb := hq5
        show G Γ Mq 18 [(4, .int y4_5), (3, .int y3_5), (0, .long x1), (2, .int x2)] [.int rq2]
        refine g_iconst X 1 dX6_pick_18 (by decide) ?_
        refine g_icmp_ne X tq4 (show (1 : Int32).toInt = 1 by decide) (tgt := 32) dX6_pick_19 (by decide) (fun cq6 => ?_) (fun cq6 => ?_)
        · refine g_iinc X 0 (fun v => [(4, .int v), (3, .int y3_5), (0, .long x1), (2, .int x2)]) dX6_pick_32 rfl (by decide) (fun _ => rfl) (fun zq7 eq8 => ?_)
          have tq9 : zq7.toInt = b4_5 + 1 := add_nw eq8 e4_5 (show (Int32.ofInt 1).toInt = 1 by decide) (by omega)
          refine g_goto X (tgt := 5) dX6_pick_35 (by decide) ?_
          refine g_sub [0, 1, 2, 3] rfl ?_
          exact ih5 zq7 _ tq9 y3_5 _ e3_5 (by omega) (by first | exact pick_n i2 i1.1 (bb0 hbb (by omega)) | (have z := pick_y i2 i1.1 (bb1 hbb (by omega)); omega)) (by omega) (by omega)
        · refine g_iload_n X 1 rfl dX6_pick_22 ?_
          refine g_if_ne X e3_5 (tgt := 29) dX6_pick_23 (by decide) (fun cq10 => ?_) (fun cq10 => ?_)
          · refine g_iinc X 1 (fun v => [(3, .int v), (4, .int y4_5), (0, .long x1), (2, .int x2)]) dX6_pick_29 rfl (by decide) (fun _ => rfl) (fun zq11 eq12 => ?_)
            have tq13 : zq11.toInt = b3_5 + (-1) := add_nw eq12 e3_5 (show (Int32.ofInt (-1)).toInt = (-1) by decide) (by omega)
            refine g_iinc X 1 (fun v => [(4, .int v), (3, .int zq11), (0, .long x1), (2, .int x2)]) dX6_pick_32 rfl (by decide) (fun _ => rfl) (fun zq14 eq15 => ?_)
            have tq16 : zq14.toInt = b4_5 + 1 := add_nw eq15 e4_5 (show (Int32.ofInt 1).toInt = 1 by decide) (by omega)
            refine g_goto X (tgt := 5) dX6_pick_35 (by decide) ?_
            refine g_sub [0, 1, 2, 3] rfl ?_
            exact ih5 zq14 _ tq16 zq11 _ tq13 (by omega) (by first | exact pick_n i2 i1.1 (bb0 hbb (by omega)) | (have z := pick_y i2 i1.1 (bb1 hbb (by omega)); omega)) (by omega) (by omega)
          · refine g_iload X 0 rfl dX6_pick_26 ?_
            exact g_iret X dX6_pick_28 ⟨_, _, rfl, e4_5, ⟨(by rw [nthN_of (bb1 hbb (by omega)) (show _ = a2 by omega) 40 (by omega)]; omega), by omega, by omega⟩, rfl⟩
  refine g_sub [0, 1, 2, 3] rfl ?_
  exact lp5 _ 0 _ (show (0 : Int32).toInt = 0 by decide) x2 _ t2 (by omega) (by show a2 = a2 - ((0 : Nat) : Int); omega) h2.1 (Nat.lt_succ_self _)
abbrev W_X4_choose_F : List (Nat × Nat) := [(33, 12)]
set_option maxHeartbeats 4000000 in
set_option maxRecDepth 4000 in
theorem c_X4_choose_F (ad : Nat → Nat) (Mq : Mem) (x1 : Int32) {a1 : Int} (t1 : x1.toInt = a1) (Iq0 : Iv TX Mq) (h1 : 1 ≤ a1) (h0 : 0 ≤ (Mq.2 33 12).toInt) (cy0 : 0 ≤ (Mq.2 33 12).toInt) : Ctr ad yX4_choose cX4_choose 3 (some .int) 0 [.ref (ad 33), .int x1] Mq (fun v M' => ∃ (r : Int32) (a : Int), v = some (.int r) ∧ r.toInt = a ∧ (a = (Mq.2 33 12).toInt % a1 ∧ 0 ≤ a ∧ a < a1) ∧ (0 ≤ (M'.2 33 12).toInt) ∧ ((M'.2 33 12).toInt = (Mq.2 33 12).toInt / a1) ∧ Iv TX M' ∧ Fr W_X4_choose_F Mq M') := by
  refine ctr_of (L := [(0, .ref (ad 33)), (1, .int x1)]) (by decide) (Nat.le_of_ble_eq_true rfl) rfl ?_
  intro Γ X
  have X : gX Γ cX4_choose RX4 3 (some .int) 0 ad _ := X
  have frq0 : Fr W_X4_choose_F Mq Mq := Fr.rf
  have m1 := Int.emod_nonneg (Mq.2 33 12).toInt (show a1 ≠ 0 by omega)
  have m2 := Int.emod_lt_of_pos (Mq.2 33 12).toInt (show 0 < a1 by omega)
  refine g_iload_n X 1 rfl dX4_choose_0 ?_
  refine g_iconst X 1 dX4_choose_1 (by decide) ?_
  refine g_icmp_ge X t1 (show (1 : Int32).toInt = 1 by decide) (tgt := 7) dX4_choose_2 (by decide) (fun cq1 => ?_) (fun cq1 => ?_)
  · refine g_aload_n X 0 rfl dX4_choose_7 ?_
    refine g_getl X f_X4_44 dX4_choose_8 (x := Mq.2 33 12) rfl ?_
    refine g_iload_n X 1 rfl dX4_choose_11 ?_
    refine g_i2l X dX4_choose_12 (fun zq2 eq3 => ?_)
    have tq4 : zq2.toInt = a1 := i2l_nw eq3 t1
    refine g_lrem X dX4_choose_13 (ne0L tq4 (by omega)) (fun zq5 eq6 => ?_)
    have kb1 := lrem_ex eq6 rfl tq4 (by omega)
    refine g_l2i X dX4_choose_14 (fun zq7 eq8 => ?_)
    have kb2 : zq7.toInt = zq5.toInt := l2i_nw eq8 rfl (by have := i_rng x1; omega)
    refine g_istore_n X (i := 2) [(2, .int zq7), (0, .ref (ad 33)), (1, .int x1)] dX4_choose_15 rfl (by decide) rfl ?_
    refine g_aload_n X 1 rfl dX4_choose_16 ?_
    refine g_dup X dX4_choose_17 rfl ?_
    refine g_getl X f_X4_44 dX4_choose_18 (x := Mq.2 33 12) rfl ?_
    refine g_iload_n X 2 rfl dX4_choose_21 ?_
    refine g_i2l X dX4_choose_22 (fun zq9 eq10 => ?_)
    have tq11 : zq9.toInt = a1 := i2l_nw eq10 t1
    refine g_ldiv X dX4_choose_23 (ne0L tq11 (by omega)) (fun zq12 eq13 => ?_)
    have kb3 := ldiv_ex eq13 rfl tq11 (by omega)
    have kb4 := Int.ediv_nonneg h0 (show 0 ≤ a1 by omega)
    refine g_putl X p_X4_44 dX4_choose_24 ?_
    have Iq14 : Iv TX (ul Mq 33 12 zq12) := Iq0.long
    have frq15 : Fr W_X4_choose_F Mq (ul Mq 33 12 zq12) := frq0.ul rfl
    have cyq16 : 0 ≤ ((ul Mq 33 12 zq12).2 33 12).toInt := (by rw [ul_eq]; omega)
    refine g_iload_n X 0 rfl dX4_choose_27 ?_
    exact g_iret X dX4_choose_28 ⟨_, _, rfl, rfl, (by omega), cyq16, (by first | (exfalso; omega) | (rw [ul_eq]; exact kb3)), Iq14, frq15⟩
  · refine g_iconst X 0 dX4_choose_5 (by decide) ?_
    exact g_iret X dX4_choose_6 ⟨_, _, rfl, (show (0 : Int32).toInt = 0 by decide), (by omega), cy0, (by first | (exfalso; omega) | (rw [ul_eq]; exact kb3)), Iq0, frq0⟩
abbrev W_X4_enterScene_F : List (Nat × Nat) := [(33, 8), (33, 9)]
set_option maxHeartbeats 4000000 in
set_option maxRecDepth 4000 in
theorem c_X4_enterScene_F (ad : Nat → Nat) (Mq : Mem) (x1 : Int32) {a1 : Int} (t1 : x1.toInt = a1) (Iq0 : Iv TX Mq) (h1 : 0 ≤ a1 ∧ a1 ≤ 7) : Ctr ad yX4_enterScene cX4_enterScene 2 none 0 [.ref (ad 33), .int x1] Mq (fun v M' => v = none ∧ (True) ∧ ((M'.1 33 8).toInt = a1 ∧ (M'.1 33 9).toInt = 2) ∧ Iv TX M' ∧ Fr W_X4_enterScene_F Mq M') := by
  refine ctr_of (L := [(0, .ref (ad 33)), (1, .int x1)]) (by decide) (Nat.le_of_ble_eq_true rfl) rfl ?_
  intro Γ X
  have X : gX Γ cX4_enterScene RX4 2 none 0 ad _ := X
  have frq0 : Fr W_X4_enterScene_F Mq Mq := Fr.rf
  refine g_aload_n X 0 rfl dX4_enterScene_0 ?_
  refine g_iload_n X 1 rfl dX4_enterScene_1 ?_
  refine g_puti X p_X4_31 dX4_enterScene_2 ?_
  have Iq1 : Iv TX (ui Mq 33 8 x1) := Iq0.put 0 7 t1 (by omega) rfl
  have frq2 : Fr W_X4_enterScene_F Mq (ui Mq 33 8 x1) := frq0.ui rfl
  refine g_aload_n X 0 rfl dX4_enterScene_5 ?_
  refine g_iconst X 2 dX4_enterScene_6 (by decide) ?_
  refine g_puti X p_X4_34 dX4_enterScene_7 ?_
  have ltq3 : (2 : Int32).toInt = 2 := by decide
  have Iq4 : Iv TX (ui (ui Mq 33 8 x1) 33 9 2) := Iq1.put 0 60 (show (2 : Int32).toInt = 2 by decide) (by omega) rfl
  have frq5 : Fr W_X4_enterScene_F Mq (ui (ui Mq 33 8 x1) 33 9 2) := frq2.ui rfl
  exact g_vret X dX4_enterScene_10 ⟨rfl, trivial, (⟨by rw [ui_nj (by decide), ui_eq]; exact t1, by rw [ui_eq]; decide⟩), Iq4, frq5⟩
abbrev W_X4_goBack_F : List (Nat × Nat) := [(33, 7), (33, 8), (33, 9)]
set_option maxHeartbeats 4000000 in
set_option maxRecDepth 4000 in
theorem c_X4_goBack_F (ad : Nat → Nat) (Mq : Mem) (Iq0 : Iv TX Mq) (h1 : 1 ≤ (Mq.1 33 7).toInt) : Ctr ad yX4_goBack cX4_goBack 1 none 0 [.ref (ad 33)] Mq (fun v M' => v = none ∧ (True) ∧ (GBX Mq M') ∧ Iv TX M' ∧ Fr W_X4_goBack_F Mq M') := by
  refine ctr_of (L := [(0, .ref (ad 33))]) (by decide) (Nat.le_of_ble_eq_true rfl) rfl ?_
  intro Γ X
  have X : gX Γ cX4_goBack RX4 1 none 0 ad _ := X
  have frq0 : Fr W_X4_goBack_F Mq Mq := Fr.rf
  refine g_aload_n X 0 rfl dX4_goBack_0 ?_
  refine g_dup X dX4_goBack_1 rfl ?_
  refine g_geti X f_X4_28 dX4_goBack_2 (x := Mq.1 33 7) rfl ?_
  have bq1 := ig_33_7 Iq0
  refine g_iconst X 1 dX4_goBack_5 (by decide) ?_
  refine g_isub X dX4_goBack_6 (fun zq2 eq3 => ?_)
  have tq4 : zq2.toInt = ((Mq.1 33 7).toInt) - 1 := sub_nw eq3 rfl (show (1 : Int32).toInt = 1 by decide) (by omega)
  refine g_puti X p_X4_28 dX4_goBack_7 ?_
  have Iq5 : Iv TX (ui Mq 33 7 zq2) := Iq0.put 0 256 tq4 (by omega) rfl
  have frq6 : Fr W_X4_goBack_F Mq (ui Mq 33 7 zq2) := frq0.ui rfl
  refine g_aload_n X 0 rfl dX4_goBack_10 ?_
  refine g_aload_n X 0 rfl dX4_goBack_11 ?_
  refine g_getr X f_X4_25 dX4_goBack_12 ?_
  refine g_aload_n X 0 rfl dX4_goBack_15 ?_
  refine g_geti X f_X4_28 dX4_goBack_16 (x := zq2) rfl ?_
  refine g_iald X la_36 tq4 dX4_goBack_19 (by omega) (x := Mq.1 36 ((((Mq.1 33 7).toInt) - 1).toNat)) rfl ?_
  have bq7 := ig_36 Iq0 ((((Mq.1 33 7).toInt) - 1).toNat) (by omega)
  refine g_bipush X 60 dX4_goBack_20 (by decide) ?_
  refine g_idiv X dX4_goBack_22 (ne0 (show (60 : Int32).toInt = 60 by decide) (by omega)) (fun zq8 eq9 => ?_)
  have tq10 : zq8.toInt = ((Mq.1 36 ((((Mq.1 33 7).toInt) - 1).toNat)).toInt) / 60 := div_nw eq9 rfl (show (60 : Int32).toInt = 60 by decide) (by omega)
  refine g_puti X p_X4_31 dX4_goBack_23 ?_
  have Iq11 : Iv TX (ui (ui Mq 33 7 zq2) 33 8 zq8) := Iq5.put 0 7 tq10 (by omega) rfl
  have frq12 : Fr W_X4_goBack_F Mq (ui (ui Mq 33 7 zq2) 33 8 zq8) := frq6.ui rfl
  refine g_aload_n X 0 rfl dX4_goBack_26 ?_
  refine g_aload_n X 0 rfl dX4_goBack_27 ?_
  refine g_getr X f_X4_25 dX4_goBack_28 ?_
  refine g_aload_n X 0 rfl dX4_goBack_31 ?_
  refine g_geti X f_X4_28 dX4_goBack_32 (x := zq2) rfl ?_
  refine g_iald X la_36 tq4 dX4_goBack_35 (by omega) (x := Mq.1 36 ((((Mq.1 33 7).toInt) - 1).toNat)) rfl ?_
  have bq13 := ig_36 Iq0 ((((Mq.1 33 7).toInt) - 1).toNat) (by omega)
  refine g_bipush X 60 dX4_goBack_36 (by decide) ?_
  refine g_irem X dX4_goBack_38 (ne0 (show (60 : Int32).toInt = 60 by decide) (by omega)) (fun zq14 eq15 => ?_)
  have tq16 : zq14.toInt = ((Mq.1 36 ((((Mq.1 33 7).toInt) - 1).toNat)).toInt) % 60 := rem_nw eq15 rfl (show (60 : Int32).toInt = 60 by decide) (by omega)
  refine g_iconst X 1 dX4_goBack_39 (by decide) ?_
  refine g_iadd X dX4_goBack_40 (fun zq17 eq18 => ?_)
  have tq19 : zq17.toInt = (((Mq.1 36 ((((Mq.1 33 7).toInt) - 1).toNat)).toInt) % 60) + 1 := add_nw eq18 tq16 (show (1 : Int32).toInt = 1 by decide) (by omega)
  refine g_puti X p_X4_34 dX4_goBack_41 ?_
  have Iq20 : Iv TX (ui (ui (ui Mq 33 7 zq2) 33 8 zq8) 33 9 zq17) := Iq11.put 0 60 tq19 (by omega) rfl
  have frq21 : Fr W_X4_goBack_F Mq (ui (ui (ui Mq 33 7 zq2) 33 8 zq8) 33 9 zq17) := frq12.ui rfl
  exact g_vret X dX4_goBack_44 ⟨rfl, trivial, (⟨by rw [ui_nj (by decide), ui_nj (by decide), ui_eq]; omega, by rw [ui_nj (by decide), ui_eq]; omega, by rw [ui_eq]; omega⟩), Iq20, frq21⟩
abbrev W_X4_await_F : List (Nat × Nat) := [(33, 7), (36, 99)]
set_option maxHeartbeats 4000000 in
set_option maxRecDepth 4000 in
theorem c_X4_await_F (ad : Nat → Nat) (Mq : Mem) (x1 : Int32) {a1 : Int} (t1 : x1.toInt = a1) (Iq0 : Iv TX Mq) (h1 : 0 ≤ a1 ∧ a1 ≤ 479) (h2 : (Mq.1 33 7).toInt < 256) : Ctr ad yX4_await cX4_await 2 (some .boolean) 0 [.ref (ad 33), .int x1] Mq (fun v M' => ∃ (r : Int32) (a : Int), v = some (.int r) ∧ r.toInt = a ∧ (a = 1) ∧ (AWX Mq M' x1) ∧ Iv TX M' ∧ Fr W_X4_await_F Mq M') := by
  refine ctr_of (L := [(0, .ref (ad 33)), (1, .int x1)]) (by decide) (Nat.le_of_ble_eq_true rfl) rfl ?_
  intro Γ X
  have X : gX Γ cX4_await RX4 2 (some .boolean) 0 ad _ := X
  have frq0 : Fr W_X4_await_F Mq Mq := Fr.rf
  refine g_aload_n X 0 rfl dX4_await_0 ?_
  refine g_geti X f_X4_28 dX4_await_1 (x := Mq.1 33 7) rfl ?_
  have bq1 := ig_33_7 Iq0
  refine g_sipush X 256 dX4_await_4 (by decide) ?_
  refine g_icmp_lt X rfl (show (256 : Int32).toInt = 256 by decide) (tgt := 12) dX4_await_7 (by decide) (fun cq2 => ?_) (fun cq2 => ?_)
  · refine g_aload_n X 0 rfl dX4_await_12 ?_
    refine g_getr X f_X4_25 dX4_await_13 ?_
    refine g_aload_n X 0 rfl dX4_await_16 ?_
    refine g_geti X f_X4_28 dX4_await_17 (x := Mq.1 33 7) rfl ?_
    have bq3 := ig_33_7 Iq0
    refine g_iload_n X 1 rfl dX4_await_20 ?_
    refine g_iast X la_36 rfl dX4_await_21 (by omega) ?_
    have Iq4 : Iv TX (ui Mq 36 (((Mq.1 33 7).toInt).toNat) x1) := Iq0.putA 0 479 t1 (by omega) rfl
    have frq5 : Fr W_X4_await_F Mq (ui Mq 36 (((Mq.1 33 7).toInt).toNat) x1) := frq0.ui rfl
    refine g_aload_n X 0 rfl dX4_await_22 ?_
    refine g_dup X dX4_await_23 rfl ?_
    refine g_geti X f_X4_28 dX4_await_24 (x := Mq.1 33 7) rfl ?_
    have bq6 := ig_33_7 Iq0
    refine g_iconst X 1 dX4_await_27 (by decide) ?_
    refine g_iadd X dX4_await_28 (fun zq7 eq8 => ?_)
    have tq9 : zq7.toInt = ((Mq.1 33 7).toInt) + 1 := add_nw eq8 rfl (show (1 : Int32).toInt = 1 by decide) (by omega)
    refine g_puti X p_X4_28 dX4_await_29 ?_
    have Iq10 : Iv TX (ui (ui Mq 36 (((Mq.1 33 7).toInt).toNat) x1) 33 7 zq7) := Iq4.put 0 256 tq9 (by omega) rfl
    have frq11 : Fr W_X4_await_F Mq (ui (ui Mq 36 (((Mq.1 33 7).toInt).toNat) x1) 33 7 zq7) := frq5.ui rfl
    refine g_iconst X 1 dX4_await_32 (by decide) ?_
    exact g_zret X (b01 (show (1 : Int32).toInt = 1 by decide) (by omega)) dX4_await_33 ⟨_, _, rfl, (show (1 : Int32).toInt = 1 by decide), (by omega), (⟨by rw [ui_eq]; omega, by funext b; simp [ui]⟩), Iq10, frq11⟩
  · refine g_iconst X 0 dX4_await_10 (by decide) ?_
    exact g_zret X (b01 (show (0 : Int32).toInt = 0 by decide) (by omega)) dX4_await_11 ⟨_, _, rfl, (show (0 : Int32).toInt = 0 by decide), (by omega), ((by exfalso; omega)), Iq0, frq0⟩
set_option maxHeartbeats 4000000 in
set_option maxRecDepth 4000 in
theorem c_X2_sign_F (ad : Nat → Nat) (Mq : Mem) (x1 : Int32) {a1 : Int} (t1 : x1.toInt = a1) (x2 : Int32) {a2 : Int} (t2 : x2.toInt = a2) (h1 : 0 ≤ a1 ∧ a1 ≤ 7) (h2 : 0 ≤ a2 ∧ a2 ≤ 59) : Ctr ad yX2_sign cX2_sign 3 (some .int) 0 [.ref (ad 14), .int x1, .int x2] Mq (fun v M' => ∃ (r : Int32) (a : Int), v = some (.int r) ∧ r.toInt = a ∧ (a = (Mq.1 18 (a1 * 60 + a2).toNat).toInt) ∧ Mq = M') := by
  refine ctr_of (L := [(0, .ref (ad 14)), (1, .int x1), (2, .int x2)]) (by decide) (Nat.le_of_ble_eq_true rfl) rfl ?_
  intro Γ X
  have X : gX Γ cX2_sign RX2 3 (some .int) 0 ad _ := X
  refine g_aload_n X 0 rfl dX2_sign_0 ?_
  refine g_getr X f_X2_32 dX2_sign_1 ?_
  refine g_iload_n X 1 rfl dX2_sign_4 ?_
  refine g_bipush X 60 dX2_sign_5 (by decide) ?_
  refine g_imul X dX2_sign_7 (fun zq1 eq2 => ?_)
  have tq3 : zq1.toInt = a1 * 60 := mul_nw eq2 t1 (show (60 : Int32).toInt = 60 by decide) (by omega)
  refine g_iload_n X 2 rfl dX2_sign_8 ?_
  refine g_iadd X dX2_sign_9 (fun zq4 eq5 => ?_)
  have tq6 : zq4.toInt = (a1 * 60) + a2 := add_nw eq5 tq3 t2 (by omega)
  refine g_iald X la_18 tq6 dX2_sign_10 (by omega) (x := Mq.1 18 (((a1 * 60) + a2).toNat)) rfl ?_
  exact g_iret X dX2_sign_11 ⟨_, _, rfl, rfl, (by omega), rfl⟩
set_option maxHeartbeats 4000000 in
set_option maxRecDepth 4000 in
theorem c_X2_mateOf_F (ad : Nat → Nat) (Mq : Mem) (x1 : Int32) {a1 : Int} (t1 : x1.toInt = a1) (x2 : Int32) {a2 : Int} (t2 : x2.toInt = a2) (Iq0 : Iv TX Mq) (h1 : 0 ≤ a1 ∧ a1 ≤ 7) (h2 : 0 ≤ a2 ∧ a2 ≤ 59) : Ctr ad yX2_mateOf cX2_mateOf 3 (some .int) 0 [.ref (ad 14), .int x1, .int x2] Mq (fun v M' => ∃ (r : Int32) (a : Int), v = some (.int r) ∧ r.toInt = a ∧ (a = (Mq.1 19 (a1 * 60 + a2).toNat).toInt ∧ 0 ≤ a ∧ a ≤ 59) ∧ Mq = M') := by
  refine ctr_of (L := [(0, .ref (ad 14)), (1, .int x1), (2, .int x2)]) (by decide) (Nat.le_of_ble_eq_true rfl) rfl ?_
  intro Γ X
  have X : gX Γ cX2_mateOf RX2 3 (some .int) 0 ad _ := X
  refine g_aload_n X 0 rfl dX2_mateOf_0 ?_
  refine g_getr X f_X2_35 dX2_mateOf_1 ?_
  refine g_iload_n X 1 rfl dX2_mateOf_4 ?_
  refine g_bipush X 60 dX2_mateOf_5 (by decide) ?_
  refine g_imul X dX2_mateOf_7 (fun zq1 eq2 => ?_)
  have tq3 : zq1.toInt = a1 * 60 := mul_nw eq2 t1 (show (60 : Int32).toInt = 60 by decide) (by omega)
  refine g_iload_n X 2 rfl dX2_mateOf_8 ?_
  refine g_iadd X dX2_mateOf_9 (fun zq4 eq5 => ?_)
  have tq6 : zq4.toInt = (a1 * 60) + a2 := add_nw eq5 tq3 t2 (by omega)
  refine g_iald X la_19 tq6 dX2_mateOf_10 (by omega) (x := Mq.1 19 (((a1 * 60) + a2).toNat)) rfl ?_
  have bq7 := ig_19 Iq0 (((a1 * 60) + a2).toNat) (by omega)
  exact g_iret X dX2_mateOf_11 ⟨_, _, rfl, rfl, (by omega), rfl⟩
abbrev W_X4_again_F : List (Nat × Nat) := [(33, 7), (33, 9), (36, 99)]
set_option maxHeartbeats 4000000 in
set_option maxRecDepth 4000 in
theorem c_X4_again_F (ad : Nat → Nat) (Mq : Mem) (Iq0 : Iv TX Mq) (h9 : (Mq.1 33 9).toInt ≤ 59) (h1 : 1 ≤ (Mq.1 33 7).toInt) : Ctr ad yX4_again cX4_again 1 (some .boolean) 1 [.ref (ad 33)] Mq (fun v M' => ∃ (r : Int32) (a : Int), v = some (.int r) ∧ r.toInt = a ∧ (a = 1) ∧ (AGX Mq M') ∧ Iv TX M' ∧ Fr W_X4_again_F Mq M') := by
  refine ctr_of (L := [(0, .ref (ad 33))]) (by decide) (Nat.le_of_ble_eq_true rfl) rfl ?_
  intro Γ X
  have X : gX Γ cX4_again RX4 1 (some .boolean) 1 ad _ := X
  have frq0 : Fr W_X4_again_F Mq Mq := Fr.rf
  refine g_aload_n X 0 rfl dX4_again_0 ?_
  refine g_geti X f_X4_28 dX4_again_1 (x := Mq.1 33 7) rfl ?_
  have bq1 := ig_33_7 Iq0
  refine g_if_ne X rfl (tgt := 9) dX4_again_4 (by decide) (fun cq2 => ?_) (fun cq2 => ?_)
  · refine g_aload_n X 0 rfl dX4_again_9 ?_
    refine g_getr X f_X4_25 dX4_again_10 ?_
    refine g_aload_n X 0 rfl dX4_again_13 ?_
    refine g_geti X f_X4_28 dX4_again_14 (x := Mq.1 33 7) rfl ?_
    have bq3 := ig_33_7 Iq0
    refine g_iconst X 1 dX4_again_17 (by decide) ?_
    refine g_isub X dX4_again_18 (fun zq4 eq5 => ?_)
    have tq6 : zq4.toInt = ((Mq.1 33 7).toInt) - 1 := sub_nw eq5 rfl (show (1 : Int32).toInt = 1 by decide) (by omega)
    refine g_iald X la_36 tq6 dX4_again_19 (by omega) (x := Mq.1 36 ((((Mq.1 33 7).toInt) - 1).toNat)) rfl ?_
    have bq7 := ig_36 Iq0 ((((Mq.1 33 7).toInt) - 1).toNat) (by omega)
    refine g_if_le X rfl (tgt := 62) dX4_again_20 (by decide) (fun cq8 => ?_) (fun cq8 => ?_)
    · refine g_aload_n X 0 rfl dX4_again_62 ?_
      refine g_dup X dX4_again_63 rfl ?_
      refine g_geti X f_X4_28 dX4_again_64 (x := Mq.1 33 7) rfl ?_
      have bq9 := ig_33_7 Iq0
      refine g_iconst X 1 dX4_again_67 (by decide) ?_
      refine g_isub X dX4_again_68 (fun zq10 eq11 => ?_)
      have tq12 : zq10.toInt = ((Mq.1 33 7).toInt) - 1 := sub_nw eq11 rfl (show (1 : Int32).toInt = 1 by decide) (by omega)
      refine g_puti X p_X4_28 dX4_again_69 ?_
      have Iq13 : Iv TX (ui Mq 33 7 zq10) := Iq0.put 0 256 tq12 (by omega) rfl
      have frq14 : Fr W_X4_again_F Mq (ui Mq 33 7 zq10) := frq0.ui rfl
      refine g_aload_n X 0 rfl dX4_again_72 ?_
      refine g_dup X dX4_again_73 rfl ?_
      refine g_geti X f_X4_34 dX4_again_74 (x := Mq.1 33 9) rfl ?_
      have bq15 := ig_33_9 Iq0
      refine g_iconst X 1 dX4_again_77 (by decide) ?_
      refine g_iadd X dX4_again_78 (fun zq16 eq17 => ?_)
      have tq18 : zq16.toInt = ((Mq.1 33 9).toInt) + 1 := add_nw eq17 rfl (show (1 : Int32).toInt = 1 by decide) (by omega)
      refine g_puti X p_X4_34 dX4_again_79 ?_
      have Iq19 : Iv TX (ui (ui Mq 33 7 zq10) 33 9 zq16) := Iq13.put 0 60 tq18 (by omega) rfl
      have frq20 : Fr W_X4_again_F Mq (ui (ui Mq 33 7 zq10) 33 9 zq16) := frq14.ui rfl
      refine g_iconst X 1 dX4_again_82 (by decide) ?_
      exact g_zret X (b01 (show (1 : Int32).toInt = 1 by decide) (by omega)) dX4_again_83 ⟨_, _, rfl, (show (1 : Int32).toInt = 1 by decide), (by omega), ((by first | exact Or.inl ⟨by omega, by rw [ui_nj (by decide), ui_nk (by decide)], by rw [ui_nk (by decide), ui_eq]; omega, fun i hi => by rw [ui_nk (by decide), ui_nj hi], by rw [ui_eq]; omega⟩ | exact Or.inr ⟨by omega, by rw [ui_nj (by decide), ui_eq]; omega, by rw [ui_cell (k := 33) (a := 36) (by decide), ui_cell (k := 33) (a := 36) (by decide)], by rw [ui_eq]; omega⟩)), Iq19, frq20⟩
    · refine g_aload_n X 0 rfl dX4_again_23 ?_
      refine g_getr X f_X4_25 dX4_again_24 ?_
      refine g_aload_n X 0 rfl dX4_again_27 ?_
      refine g_geti X f_X4_28 dX4_again_28 (x := Mq.1 33 7) rfl ?_
      have bq21 := ig_33_7 Iq0
      refine g_iconst X 1 dX4_again_31 (by decide) ?_
      refine g_isub X dX4_again_32 (fun zq22 eq23 => ?_)
      have tq24 : zq22.toInt = ((Mq.1 33 7).toInt) - 1 := sub_nw eq23 rfl (show (1 : Int32).toInt = 1 by decide) (by omega)
      refine g_dup2 X dX4_again_33 rfl rfl ?_
      refine g_iald X la_36 tq24 dX4_again_34 (by omega) (x := Mq.1 36 ((((Mq.1 33 7).toInt) - 1).toNat)) rfl ?_
      have bq25 := ig_36 Iq0 ((((Mq.1 33 7).toInt) - 1).toNat) (by omega)
      refine g_iconst X 1 dX4_again_35 (by decide) ?_
      refine g_isub X dX4_again_36 (fun zq26 eq27 => ?_)
      have tq28 : zq26.toInt = ((Mq.1 36 ((((Mq.1 33 7).toInt) - 1).toNat)).toInt) - 1 := sub_nw eq27 rfl (show (1 : Int32).toInt = 1 by decide) (by omega)
      refine g_iast X la_36 tq24 dX4_again_37 (by omega) ?_
      have Iq29 : Iv TX (ui Mq 36 ((((Mq.1 33 7).toInt) - 1).toNat) zq26) := Iq0.putA 0 479 tq28 (by omega) rfl
      have frq30 : Fr W_X4_again_F Mq (ui Mq 36 ((((Mq.1 33 7).toInt) - 1).toNat) zq26) := frq0.ui rfl
      refine g_aload_n X 0 rfl dX4_again_38 ?_
      refine g_aload_n X 0 rfl dX4_again_39 ?_
      refine g_getr X f_X4_51 dX4_again_40 ?_
      refine g_aload_n X 0 rfl dX4_again_43 ?_
      refine g_geti X f_X4_31 dX4_again_44 (x := Mq.1 33 8) rfl ?_
      have bq31 := ig_33_8 Iq0
      refine g_aload_n X 0 rfl dX4_again_47 ?_
      refine g_geti X f_X4_34 dX4_again_48 (x := Mq.1 33 9) rfl ?_
      have bq32 := ig_33_9 Iq0
      refine g_callV X m_X4_86 (c_X2_mateOf_F ad (ui Mq 36 ((((Mq.1 33 7).toInt) - 1).toNat) zq26) (Mq.1 33 8) rfl (Mq.1 33 9) rfl Iq29 (by omega) (by omega)) rfl (by decide) (Nat.le_of_ble_eq_true rfl) rfl dX4_again_51 ?_
      rintro _ _ ⟨rq33, aq34, rfl, tq35, hq36, rfl⟩
      have hq37 : aq34 = (Mq.1 19 (((Mq.1 33 8).toInt) * 60 + ((Mq.1 33 9).toInt)).toNat).toInt ∧ 0 ≤ aq34 ∧ aq34 ≤ 59 := hq36
      clear hq36
      have hmt : aq34 = (Mq.1 19 ((Mq.1 33 8).toInt * 60 + (Mq.1 33 9).toInt).toNat).toInt := hq37.1
      show G Γ (ui Mq 36 ((((Mq.1 33 7).toInt) - 1).toNat) zq26) 54 [(0, .ref (ad 33))] [.int rq33, .ref (ad 33)]
      refine g_iconst X 1 dX4_again_54 (by decide) ?_
      refine g_iadd X dX4_again_55 (fun zq38 eq39 => ?_)
      have tq40 : zq38.toInt = aq34 + 1 := add_nw eq39 tq35 (show (1 : Int32).toInt = 1 by decide) (by omega)
      refine g_puti X p_X4_34 dX4_again_56 ?_
      have Iq41 : Iv TX (ui (ui Mq 36 ((((Mq.1 33 7).toInt) - 1).toNat) zq26) 33 9 zq38) := Iq29.put 0 60 tq40 (by omega) rfl
      have frq42 : Fr W_X4_again_F Mq (ui (ui Mq 36 ((((Mq.1 33 7).toInt) - 1).toNat) zq26) 33 9 zq38) := frq30.ui rfl
      refine g_goto X (tgt := 82) dX4_again_59 (by decide) ?_
      refine g_iconst X 1 dX4_again_82 (by decide) ?_
      exact g_zret X (b01 (show (1 : Int32).toInt = 1 by decide) (by omega)) dX4_again_83 ⟨_, _, rfl, (show (1 : Int32).toInt = 1 by decide), (by omega), ((by first | exact Or.inl ⟨by omega, by rw [ui_nj (by decide), ui_nk (by decide)], by rw [ui_nk (by decide), ui_eq]; omega, fun i hi => by rw [ui_nk (by decide), ui_nj hi], by rw [ui_eq]; omega⟩ | exact Or.inr ⟨by omega, by rw [ui_nj (by decide), ui_eq]; omega, by rw [ui_cell (k := 33) (a := 36) (by decide), ui_cell (k := 33) (a := 36) (by decide)], by rw [ui_eq]; omega⟩)), Iq41, frq42⟩
  · refine g_iconst X 0 dX4_again_7 (by decide) ?_
    exact g_zret X (b01 (show (0 : Int32).toInt = 0 by decide) (by omega)) dX4_again_8 ⟨_, _, rfl, (show (0 : Int32).toInt = 0 by decide), (by omega), ((by exfalso; omega)), Iq0, frq0⟩
abbrev W_X4_singLine_F : List (Nat × Nat) := [(33, 5), (33, 9), (33, 12), (35, 99)]
set_option maxHeartbeats 4000000 in
set_option maxRecDepth 4000 in
theorem c_X4_singLine_F (ad : Nat → Nat) (Mq : Mem) (x1 : Int32) {a1 : Int} (t1 : x1.toInt = a1) (Iq0 : Iv TX Mq) (h1 : 0 ≤ a1 ∧ a1 ≤ 7) (h9 : (Mq.1 33 9).toInt ≤ 59) (h0 : 0 ≤ (Mq.2 33 12).toInt) (hz : ∀ l, 40 ≤ l → l < 64 → b64 (Mq.2 33 11 &&& Mq.2 11 a1.toNat) l = false) (cy0 : 0 ≤ (Mq.2 33 12).toInt) : Ctr ad yX4_singLine cX4_singLine 4 (some .boolean) 2 [.ref (ad 33), .int x1] Mq (fun v M' => ∃ (r : Int32) (a : Int), v = some (.int r) ∧ r.toInt = a ∧ (a = 0 ∨ a = 1) ∧ (0 ≤ (M'.2 33 12).toInt) ∧ (SLX Mq M' a1 a) ∧ Iv TX M' ∧ Fr W_X4_singLine_F Mq M') := by
  refine ctr_of (L := [(0, .ref (ad 33)), (1, .int x1)]) (by decide) (Nat.le_of_ble_eq_true rfl) rfl ?_
  intro Γ X
  have X : gX Γ cX4_singLine RX4 4 (some .boolean) 2 ad _ := X
  have frq0 : Fr W_X4_singLine_F Mq Mq := Fr.rf
  refine g_aload_n X 0 rfl dX4_singLine_0 ?_
  refine g_getl X f_X4_40 dX4_singLine_1 (x := Mq.2 33 11) rfl ?_
  refine g_aload_n X 0 rfl dX4_singLine_4 ?_
  refine g_getr X f_X4_47 dX4_singLine_5 ?_
  refine g_getr X f_X4_114 dX4_singLine_8 ?_
  refine g_iload_n X 1 rfl dX4_singLine_11 ?_
  refine g_lald X la_11 t1 dX4_singLine_12 (by omega) (x := Mq.2 11 a1.toNat) rfl ?_
  refine g_land X dX4_singLine_13 (fun zq1 eq2 => ?_)
  have kx13 : zq1 = (Mq.2 33 11 &&& Mq.2 11 a1.toNat) := eq2
  have kz : zq1.toInt = 0 ↔ ((ctb (b64 (Mq.2 33 11 &&& Mq.2 11 a1.toNat)) 64 : Nat) : Int) = 0 := by rw [kx13, ctb_64]; omega
  refine g_lstore_n X (i := 2) [(2, .long zq1), (0, .ref (ad 33)), (1, .int x1)] dX4_singLine_14 rfl (by decide) rfl ?_
  refine g_lload_n X 0 rfl dX4_singLine_15 ?_
  refine g_lconst X 0 dX4_singLine_16 (by decide) ?_
  refine g_lcmp X rfl (show (0 : Int64).toInt = 0 by decide) dX4_singLine_17 (fun zq3 eq4 => ?_)
  refine g_if_eq X rfl (tgt := 30) dX4_singLine_18 (by decide) (fun cq5 => ?_) (fun cq5 => ?_)
  · refine g_iconst X 0 dX4_singLine_30 (by decide) ?_
    exact g_zret X (b01 (show (0 : Int32).toInt = 0 by decide) (by omega)) dX4_singLine_31 ⟨_, _, rfl, (show (0 : Int32).toInt = 0 by decide), (by omega), cy0, (Or.inl ⟨rfl, by omega⟩), Iq0, frq0⟩
  · refine g_aload_n X 1 rfl dX4_singLine_21 ?_
    refine g_geti X f_X4_22 dX4_singLine_22 (x := Mq.1 33 5) rfl ?_
    have bq6 := ig_33_5 Iq0
    refine g_bipush X 40 dX4_singLine_25 (by decide) ?_
    refine g_icmp_lt X rfl (show (40 : Int32).toInt = 40 by decide) (tgt := 32) dX4_singLine_27 (by decide) (fun cq7 => ?_) (fun cq7 => ?_)
    · refine g_aload_n X 1 rfl dX4_singLine_32 ?_
      refine g_getr X f_X4_19 dX4_singLine_33 ?_
      refine g_aload_n X 1 rfl dX4_singLine_36 ?_
      refine g_geti X f_X4_22 dX4_singLine_37 (x := Mq.1 33 5) rfl ?_
      have bq8 := ig_33_5 Iq0
      refine g_lload_n X 0 rfl dX4_singLine_40 ?_
      refine g_aload_n X 1 rfl dX4_singLine_41 ?_
      refine g_lload_n X 0 rfl dX4_singLine_42 ?_
      refine g_callS X m_X4_120 (c_J13_bitCount_95d88_E ad Mq zq1 rfl) rfl (by decide) (Nat.le_of_ble_eq_true rfl) rfl dX4_singLine_43 ?_
      rintro _ _ ⟨rq9, aq10, rfl, tq11, hq12, rfl⟩
      have hbc := hq12
      rw [kx13] at hbc
      show G Γ Mq 46 [(2, .long zq1), (0, .ref (ad 33)), (1, .int x1)] [.int rq9, .ref (ad 33), .long zq1, .int (Mq.1 33 5), .ref (ad 35)]
      refine g_callV X m_X4_110 (c_X4_choose_F ad Mq rq9 tq11 Iq0 (by omega) h0 cy0) rfl (by decide) (Nat.le_of_ble_eq_true rfl) rfl dX4_singLine_46 ?_
      rintro _ Mq19 ⟨rq13, aq14, rfl, tq15, hq16, cyq17, hq18, Iq20, frq21⟩
      have frq22 : Fr W_X4_singLine_F Mq Mq19 := frq0.trans frq21 rfl
      have hch := hq16
      have hcm := hq18
      have q33_5 : (Mq19.1 33 5).toInt = (Mq.1 33 5).toInt := congrArg Int32.toInt (frq21.at 33 5 rfl)
      have q33_9 : (Mq19.1 33 9).toInt = (Mq.1 33 9).toInt := congrArg Int32.toInt (frq21.at 33 9 rfl)
      have h35c : Mq19.1 35 = Mq.1 35 := row_fr frq21 (by decide)
      show G Γ Mq19 49 [(2, .long zq1), (0, .ref (ad 33)), (1, .int x1)] [.int rq13, .long zq1, .int (Mq.1 33 5), .ref (ad 35)]
      refine g_callS X m_X4_126 (c_X6_pick_F ad Mq19 zq1 rfl rq13 tq15 (pick_pre kx13 hz hbc hch.2)) rfl (by decide) (Nat.le_of_ble_eq_true rfl) rfl dX4_singLine_49 ?_
      rintro _ _ ⟨rq23, aq24, rfl, tq25, hq26, rfl⟩
      have hpk := hq26.1
      rw [kx13, hch.1, hbc] at hpk
      show G Γ Mq19 52 [(2, .long zq1), (0, .ref (ad 33)), (1, .int x1)] [.int rq23, .int (Mq.1 33 5), .ref (ad 35)]
      refine g_iast X la_35 rfl dX4_singLine_52 (by omega) ?_
      have Iq27 : Iv TX (ui Mq19 35 (((Mq.1 33 5).toInt).toNat) rq23) := Iq20.otherA rfl
      have frq28 : Fr W_X4_singLine_F Mq (ui Mq19 35 (((Mq.1 33 5).toInt).toNat) rq23) := frq22.ui rfl
      have cyq29 : 0 ≤ ((ui Mq19 35 (((Mq.1 33 5).toInt).toNat) rq23).2 33 12).toInt := num_fr cyq17 (Fr.ui (W := [(35, 99)]) Fr.rf rfl) rfl
      refine g_aload_n X 1 rfl dX4_singLine_53 ?_
      refine g_dup X dX4_singLine_54 rfl ?_
      refine g_geti X f_X4_22 dX4_singLine_55 (x := Mq19.1 33 5) rfl ?_
      have bq30 := ig_33_5 Iq20
      refine g_iconst X 1 dX4_singLine_58 (by decide) ?_
      refine g_iadd X dX4_singLine_59 (fun zq31 eq32 => ?_)
      have tq33 : zq31.toInt = ((Mq19.1 33 5).toInt) + 1 := add_nw eq32 rfl (show (1 : Int32).toInt = 1 by decide) (by omega)
      refine g_puti X p_X4_22 dX4_singLine_60 ?_
      have Iq34 : Iv TX (ui (ui Mq19 35 (((Mq.1 33 5).toInt).toNat) rq23) 33 5 zq31) := Iq27.put 0 40 tq33 (by omega) rfl
      have frq35 : Fr W_X4_singLine_F Mq (ui (ui Mq19 35 (((Mq.1 33 5).toInt).toNat) rq23) 33 5 zq31) := frq28.ui rfl
      have cyq36 : 0 ≤ ((ui (ui Mq19 35 (((Mq.1 33 5).toInt).toNat) rq23) 33 5 zq31).2 33 12).toInt := num_fr cyq29 (Fr.ui (W := [(33, 5)]) Fr.rf rfl) rfl
      refine g_aload_n X 1 rfl dX4_singLine_63 ?_
      refine g_dup X dX4_singLine_64 rfl ?_
      refine g_geti X f_X4_34 dX4_singLine_65 (x := Mq19.1 33 9) rfl ?_
      have bq37 := ig_33_9 Iq20
      refine g_iconst X 1 dX4_singLine_68 (by decide) ?_
      refine g_iadd X dX4_singLine_69 (fun zq38 eq39 => ?_)
      have tq40 : zq38.toInt = ((Mq19.1 33 9).toInt) + 1 := add_nw eq39 rfl (show (1 : Int32).toInt = 1 by decide) (by omega)
      refine g_puti X p_X4_34 dX4_singLine_70 ?_
      have Iq41 : Iv TX (ui (ui (ui Mq19 35 (((Mq.1 33 5).toInt).toNat) rq23) 33 5 zq31) 33 9 zq38) := Iq34.put 0 60 tq40 (by omega) rfl
      have frq42 : Fr W_X4_singLine_F Mq (ui (ui (ui Mq19 35 (((Mq.1 33 5).toInt).toNat) rq23) 33 5 zq31) 33 9 zq38) := frq35.ui rfl
      have cyq43 : 0 ≤ ((ui (ui (ui Mq19 35 (((Mq.1 33 5).toInt).toNat) rq23) 33 5 zq31) 33 9 zq38).2 33 12).toInt := num_fr cyq36 (Fr.ui (W := [(33, 9)]) Fr.rf rfl) rfl
      refine g_iconst X 1 dX4_singLine_73 (by decide) ?_
      exact g_zret X (b01 (show (1 : Int32).toInt = 1 by decide) (by omega)) dX4_singLine_74 ⟨_, _, rfl, (show (1 : Int32).toInt = 1 by decide), (by omega), cyq43, (Or.inr ⟨rfl, by omega, by rw [ui_nj (by decide), ui_eq]; omega, by rw [ui_eq]; omega, hcm.trans (by rw [hbc]), _, by rw [ui_cell (k := 33) (a := 35) (by decide), ui_cell (k := 33) (a := 35) (by decide)]; exact ui_row h35c, by omega⟩), Iq41, frq42⟩
    · refine g_iconst X 0 dX4_singLine_30 (by decide) ?_
      exact g_zret X (b01 (show (0 : Int32).toInt = 0 by decide) (by omega)) dX4_singLine_31 ⟨_, _, rfl, (show (0 : Int32).toInt = 0 by decide), (by omega), cy0, (Or.inl ⟨rfl, by omega⟩), Iq0, frq0⟩
abbrev W_X4_takeItem_F : List (Nat × Nat) := [(33, 5), (33, 7), (33, 8), (33, 9), (33, 12), (35, 99), (36, 99)]
set_option maxHeartbeats 4000000 in
set_option maxRecDepth 4000 in
theorem c_X4_takeItem_F (ad : Nat → Nat) (Mq : Mem) (x1 : Int32) {a1 : Int} (t1 : x1.toInt = a1) (Iq0 : Iv TX Mq) {pp : PaT} {td : Nat → Int} {xq : Nat} {kq nq gq : Int} {Lq : List (Int × Int)} {Rq : List FrT} {oq : List Int} (hT : TVp pp td) (hX : PX Mq pp (Mq.2 33 11) td) (hI : SgI pp td ((xq, kq, Lq) :: Rq, nq, gq - 1, oq)) (hR : RX Mq xq kq Lq Rq nq gq oq) (hk : kq < pp.2.1 xq) (hb : pp.1 xq kq.toNat = a1) (hc : a1 ≠ 93 ∧ a1 ≠ 41 ∧ a1 ≠ 124 ∧ a1 ≠ 125) (cy0 : 0 ≤ (Mq.2 33 12).toInt) : Ctr ad yX4_takeItem cX4_takeItem 5 (some .boolean) 3 [.ref (ad 33), .int x1] Mq (fun v M' => ∃ (r : Int32) (a : Int), v = some (.int r) ∧ r.toInt = a ∧ (a = 0 ∨ a = 1) ∧ (0 ≤ (M'.2 33 12).toInt) ∧ (OKX M' (sgI pp a1 xq kq Lq Rq nq (gq - 1) oq) a) ∧ Iv TX M' ∧ Fr W_X4_takeItem_F Mq M') := by
  refine ctr_of (L := [(0, .ref (ad 33)), (1, .int x1)]) (by decide) (Nat.le_of_ble_eq_true rfl) rfl ?_
  intro Γ X
  have X : gX Γ cX4_takeItem RX4 5 (some .boolean) 3 ad _ := X
  have frq0 : Fr W_X4_takeItem_F Mq Mq := Fr.rf
  obtain ⟨fx, ft, fk, fF, fn, fg⟩ := SG_fr hI
  obtain ⟨r8, r9, r7, r36, r12, r10, r5, r35⟩ := id hR
  obtain ⟨m20, m18, m19, m125⟩ := PX_mate hX fx ft ⟨fk.1, hk⟩
  have hw := RX_wait hT fF hR
  obtain ⟨sz, sV, -⟩ := hT xq fx ft
  have hhl := hX.1
  have hch := SG_ch hT hI hk hb hc
  refine g_iload_n X 1 rfl dX4_takeItem_0 ?_
  refine g_callS X m_X4_95 (c_X6_isSlot ad Mq x1 t1) rfl (by decide) (Nat.le_of_ble_eq_true rfl) rfl dX4_takeItem_1 ?_
  rintro _ _ ⟨rq1, aq2, rfl, tq3, hq4, rfl⟩
  show G Γ Mq 4 [(0, .ref (ad 33)), (1, .int x1)] [.int rq1]
  refine g_if_eq X tq3 (tgt := 16) dX4_takeItem_4 (by decide) (fun cq5 => ?_) (fun cq5 => ?_)
  · have pq6 : ¬ (97 ≤ a1 ∧ a1 ≤ 104) := by first | omega | (rcases hq4 with ⟨z1, z2⟩ | ⟨z1, z2⟩ <;> first | exact z2 | (exfalso; omega))
    refine g_iload_n X 1 rfl dX4_takeItem_16 ?_
    refine g_callS X m_X4_101 (c_X6_isScene ad Mq x1 t1) rfl (by decide) (Nat.le_of_ble_eq_true rfl) rfl dX4_takeItem_17 ?_
    rintro _ _ ⟨rq7, aq8, rfl, tq9, hq10, rfl⟩
    show G Γ Mq 20 [(0, .ref (ad 33)), (1, .int x1)] [.int rq7]
    refine g_if_eq X tq9 (tgt := 54) dX4_takeItem_20 (by decide) (fun cq11 => ?_) (fun cq11 => ?_)
    · have pq12 : ¬ (65 ≤ a1 ∧ a1 ≤ 72) := by first | omega | (rcases hq10 with ⟨z1, z2⟩ | ⟨z1, z2⟩ <;> first | exact z2 | (exfalso; omega))
      refine g_aload_n X 0 rfl dX4_takeItem_54 ?_
      refine g_geti X f_X4_34 dX4_takeItem_55 (x := Mq.1 33 9) rfl ?_
      have bq13 := ig_33_9 Iq0
      refine g_iconst X 1 dX4_takeItem_58 (by decide) ?_
      refine g_iadd X dX4_takeItem_59 (fun zq14 eq15 => ?_)
      have tq16 : zq14.toInt = ((Mq.1 33 9).toInt) + 1 := add_nw eq15 rfl (show (1 : Int32).toInt = 1 by decide) (by omega)
      refine g_istore_n X (i := 2) [(2, .int zq14), (0, .ref (ad 33)), (1, .int x1)] dX4_takeItem_60 rfl (by decide) rfl ?_
      refine g_aload_n X 1 rfl dX4_takeItem_61 ?_
      refine g_getr X f_X4_51 dX4_takeItem_62 ?_
      refine g_aload_n X 1 rfl dX4_takeItem_65 ?_
      refine g_geti X f_X4_31 dX4_takeItem_66 (x := Mq.1 33 8) rfl ?_
      have bq17 := ig_33_8 Iq0
      refine g_aload_n X 1 rfl dX4_takeItem_69 ?_
      refine g_geti X f_X4_34 dX4_takeItem_70 (x := Mq.1 33 9) rfl ?_
      have bq18 := ig_33_9 Iq0
      refine g_callV X m_X4_86 (c_X2_mateOf_F ad Mq (Mq.1 33 8) rfl (Mq.1 33 9) rfl Iq0 (by omega) (by omega)) rfl (by decide) (Nat.le_of_ble_eq_true rfl) rfl dX4_takeItem_73 ?_
      rintro _ _ ⟨rq19, aq20, rfl, tq21, hq22, rfl⟩
      have hmt : aq20 = (Mq.1 19 ((Mq.1 33 8).toInt * 60 + (Mq.1 33 9).toInt).toNat).toInt := hq22.1
      rw [r8, r9] at hmt
      have hmo : aq20 = pp.2.2.1 xq kq.toNat + 2 := by rw [hmt]; exact m19 (by rw [hb]; unfold obC; omega)
      show G Γ Mq 76 [(2, .int zq14), (0, .ref (ad 33)), (1, .int x1)] [.int rq19]
      refine g_iconst X 1 dX4_takeItem_76 (by decide) ?_
      refine g_iadd X dX4_takeItem_77 (fun zq23 eq24 => ?_)
      have tq25 : zq23.toInt = aq20 + 1 := add_nw eq24 tq21 (show (1 : Int32).toInt = 1 by decide) (by omega)
      refine g_istore_n X (i := 3) [(3, .int zq23), (2, .int zq14), (0, .ref (ad 33)), (1, .int x1)] dX4_takeItem_78 rfl (by decide) rfl ?_
      refine g_iload_n X 3 rfl dX4_takeItem_79 ?_
      refine g_bipush X 123 dX4_takeItem_80 (by decide) ?_
      refine g_icmp_ne X t1 (show (123 : Int32).toInt = 123 by decide) (tgt := 136) dX4_takeItem_82 (by decide) (fun cq26 => ?_) (fun cq26 => ?_)
      · refine g_aload_n X 2 rfl dX4_takeItem_136 ?_
        refine g_iconst X 2 dX4_takeItem_137 (by decide) ?_
        refine g_callV X m_X4_110 (c_X4_choose_F ad Mq 2 (show (2 : Int32).toInt = 2 by decide) Iq0 (by omega) (by omega) cy0) rfl (by decide) (Nat.le_of_ble_eq_true rfl) rfl dX4_takeItem_138 ?_
        rintro _ Mq33 ⟨rq27, aq28, rfl, tq29, hq30, cyq31, hq32, Iq34, frq35⟩
        have frq36 : Fr W_X4_takeItem_F Mq Mq33 := frq0.trans frq35 rfl
        have hc1 := hq30
        have hc2 := hq32
        have hfc := frq35
        have q33_7 : (Mq33.1 33 7).toInt = (Mq.1 33 7).toInt := congrArg Int32.toInt (frq35.at 33 7 rfl)
        have hc4 : (Mq33.2 33 12).toInt = nq / 2 := by rw [← r12]; exact hc2
        have hc3 : aq28 = nq % 2 := by rw [← r12]; exact hc1.1
        show G Γ Mq33 141 [(3, .int zq23), (2, .int zq14), (0, .ref (ad 33)), (1, .int x1)] [.int rq27]
        refine g_iload_n X 3 rfl dX4_takeItem_141 ?_
        refine g_bipush X 91 dX4_takeItem_142 (by decide) ?_
        refine g_icmp_ne X t1 (show (91 : Int32).toInt = 91 by decide) (tgt := 151) dX4_takeItem_144 (by decide) (fun cq37 => ?_) (fun cq37 => ?_)
        · refine g_iconst X 0 dX4_takeItem_151 (by decide) ?_
          refine g_icmp_ne X tq29 (show (0 : Int32).toInt = 0 by decide) (tgt := 159) dX4_takeItem_152 (by decide) (fun cq38 => ?_) (fun cq38 => ?_)
          · refine g_iconst X 0 dX4_takeItem_159 (by decide) ?_
            refine g_istore X [(4, .int 0), (3, .int zq23), (2, .int zq14), (0, .ref (ad 33)), (1, .int x1)] dX4_takeItem_160 (by decide) rfl ?_
            refine g_aload_n X 3 rfl dX4_takeItem_162 ?_
            refine g_iload X 0 rfl dX4_takeItem_163 ?_
            refine g_if_eq X (show (0 : Int32).toInt = 0 by decide) (tgt := 172) dX4_takeItem_165 (by decide) (fun cq39 => ?_) (fun cq39 => ?_)
            · refine g_iload_n X 1 rfl dX4_takeItem_172 ?_
              refine g_puti X p_X4_34 dX4_takeItem_173 ?_
              have Iq40 : Iv TX (ui Mq33 33 9 zq23) := Iq34.put 0 60 tq25 (by omega) rfl
              have frq41 : Fr W_X4_takeItem_F Mq (ui Mq33 33 9 zq23) := frq36.ui rfl
              have cyq42 : 0 ≤ ((ui Mq33 33 9 zq23).2 33 12).toInt := num_fr cyq31 (Fr.ui (W := [(33, 9)]) Fr.rf rfl) rfl
              refine g_iconst X 1 dX4_takeItem_176 (by decide) ?_
              exact g_zret X (b01 (show (1 : Int32).toInt = 1 by decide) (by omega)) dX4_takeItem_177 ⟨_, _, rfl, (show (1 : Int32).toInt = 1 by decide), (by omega), cyq42, ((by rcases (show a1 = 91 ∨ a1 = 40 by omega) with q | q <;> first | (rw [sgI_91 q, if_pos (by omega)]; exact OKX_y rfl rfl (RX_ch hR hfc (by omega) hc4 (by omega))) | (rw [sgI_91 q, if_neg (by omega)]; exact OKX_y rfl rfl (RX_ch hR hfc (by omega) hc4 (by omega))) | (rw [sgI_40 q, if_pos (by omega)]; exact OKX_y rfl rfl (RX_ch hR hfc (by omega) hc4 (by omega))) | (rw [sgI_40 q, if_neg (by omega)]; exact OKX_y rfl rfl (RX_ch hR hfc (by omega) hc4 (by omega))) | (exfalso; omega))), Iq40, frq41⟩
            · refine g_iload_n X 2 rfl dX4_takeItem_168 ?_
              refine g_goto X (tgt := 173) dX4_takeItem_169 (by decide) ?_
              refine g_puti X p_X4_34 dX4_takeItem_173 ?_
              have Iq43 : Iv TX (ui Mq33 33 9 zq14) := Iq34.put 0 60 tq16 (by omega) rfl
              have frq44 : Fr W_X4_takeItem_F Mq (ui Mq33 33 9 zq14) := frq36.ui rfl
              have cyq45 : 0 ≤ ((ui Mq33 33 9 zq14).2 33 12).toInt := num_fr cyq31 (Fr.ui (W := [(33, 9)]) Fr.rf rfl) rfl
              refine g_iconst X 1 dX4_takeItem_176 (by decide) ?_
              exact g_zret X (b01 (show (1 : Int32).toInt = 1 by decide) (by omega)) dX4_takeItem_177 ⟨_, _, rfl, (show (1 : Int32).toInt = 1 by decide), (by omega), cyq45, ((by rcases (show a1 = 91 ∨ a1 = 40 by omega) with q | q <;> first | (rw [sgI_91 q, if_pos (by omega)]; exact OKX_y rfl rfl (RX_ch hR hfc (by omega) hc4 (by omega))) | (rw [sgI_91 q, if_neg (by omega)]; exact OKX_y rfl rfl (RX_ch hR hfc (by omega) hc4 (by omega))) | (rw [sgI_40 q, if_pos (by omega)]; exact OKX_y rfl rfl (RX_ch hR hfc (by omega) hc4 (by omega))) | (rw [sgI_40 q, if_neg (by omega)]; exact OKX_y rfl rfl (RX_ch hR hfc (by omega) hc4 (by omega))) | (exfalso; omega))), Iq43, frq44⟩
          · refine g_iconst X 1 dX4_takeItem_155 (by decide) ?_
            refine g_goto X (tgt := 160) dX4_takeItem_156 (by decide) ?_
            refine g_istore X [(4, .int 1), (3, .int zq23), (2, .int zq14), (0, .ref (ad 33)), (1, .int x1)] dX4_takeItem_160 (by decide) rfl ?_
            refine g_aload_n X 3 rfl dX4_takeItem_162 ?_
            refine g_iload X 0 rfl dX4_takeItem_163 ?_
            refine g_if_eq X (show (1 : Int32).toInt = 1 by decide) (tgt := 172) dX4_takeItem_165 (by decide) (fun cq46 => ?_) (fun cq46 => ?_)
            · refine g_iload_n X 1 rfl dX4_takeItem_172 ?_
              refine g_puti X p_X4_34 dX4_takeItem_173 ?_
              have Iq47 : Iv TX (ui Mq33 33 9 zq23) := Iq34.put 0 60 tq25 (by omega) rfl
              have frq48 : Fr W_X4_takeItem_F Mq (ui Mq33 33 9 zq23) := frq36.ui rfl
              have cyq49 : 0 ≤ ((ui Mq33 33 9 zq23).2 33 12).toInt := num_fr cyq31 (Fr.ui (W := [(33, 9)]) Fr.rf rfl) rfl
              refine g_iconst X 1 dX4_takeItem_176 (by decide) ?_
              exact g_zret X (b01 (show (1 : Int32).toInt = 1 by decide) (by omega)) dX4_takeItem_177 ⟨_, _, rfl, (show (1 : Int32).toInt = 1 by decide), (by omega), cyq49, ((by rcases (show a1 = 91 ∨ a1 = 40 by omega) with q | q <;> first | (rw [sgI_91 q, if_pos (by omega)]; exact OKX_y rfl rfl (RX_ch hR hfc (by omega) hc4 (by omega))) | (rw [sgI_91 q, if_neg (by omega)]; exact OKX_y rfl rfl (RX_ch hR hfc (by omega) hc4 (by omega))) | (rw [sgI_40 q, if_pos (by omega)]; exact OKX_y rfl rfl (RX_ch hR hfc (by omega) hc4 (by omega))) | (rw [sgI_40 q, if_neg (by omega)]; exact OKX_y rfl rfl (RX_ch hR hfc (by omega) hc4 (by omega))) | (exfalso; omega))), Iq47, frq48⟩
            · refine g_iload_n X 2 rfl dX4_takeItem_168 ?_
              refine g_goto X (tgt := 173) dX4_takeItem_169 (by decide) ?_
              refine g_puti X p_X4_34 dX4_takeItem_173 ?_
              have Iq50 : Iv TX (ui Mq33 33 9 zq14) := Iq34.put 0 60 tq16 (by omega) rfl
              have frq51 : Fr W_X4_takeItem_F Mq (ui Mq33 33 9 zq14) := frq36.ui rfl
              have cyq52 : 0 ≤ ((ui Mq33 33 9 zq14).2 33 12).toInt := num_fr cyq31 (Fr.ui (W := [(33, 9)]) Fr.rf rfl) rfl
              refine g_iconst X 1 dX4_takeItem_176 (by decide) ?_
              exact g_zret X (b01 (show (1 : Int32).toInt = 1 by decide) (by omega)) dX4_takeItem_177 ⟨_, _, rfl, (show (1 : Int32).toInt = 1 by decide), (by omega), cyq52, ((by rcases (show a1 = 91 ∨ a1 = 40 by omega) with q | q <;> first | (rw [sgI_91 q, if_pos (by omega)]; exact OKX_y rfl rfl (RX_ch hR hfc (by omega) hc4 (by omega))) | (rw [sgI_91 q, if_neg (by omega)]; exact OKX_y rfl rfl (RX_ch hR hfc (by omega) hc4 (by omega))) | (rw [sgI_40 q, if_pos (by omega)]; exact OKX_y rfl rfl (RX_ch hR hfc (by omega) hc4 (by omega))) | (rw [sgI_40 q, if_neg (by omega)]; exact OKX_y rfl rfl (RX_ch hR hfc (by omega) hc4 (by omega))) | (exfalso; omega))), Iq50, frq51⟩
        · refine g_iconst X 1 dX4_takeItem_147 (by decide) ?_
          refine g_goto X (tgt := 152) dX4_takeItem_148 (by decide) ?_
          refine g_icmp_ne X tq29 (show (1 : Int32).toInt = 1 by decide) (tgt := 159) dX4_takeItem_152 (by decide) (fun cq53 => ?_) (fun cq53 => ?_)
          · refine g_iconst X 0 dX4_takeItem_159 (by decide) ?_
            refine g_istore X [(4, .int 0), (3, .int zq23), (2, .int zq14), (0, .ref (ad 33)), (1, .int x1)] dX4_takeItem_160 (by decide) rfl ?_
            refine g_aload_n X 3 rfl dX4_takeItem_162 ?_
            refine g_iload X 0 rfl dX4_takeItem_163 ?_
            refine g_if_eq X (show (0 : Int32).toInt = 0 by decide) (tgt := 172) dX4_takeItem_165 (by decide) (fun cq54 => ?_) (fun cq54 => ?_)
            · refine g_iload_n X 1 rfl dX4_takeItem_172 ?_
              refine g_puti X p_X4_34 dX4_takeItem_173 ?_
              have Iq55 : Iv TX (ui Mq33 33 9 zq23) := Iq34.put 0 60 tq25 (by omega) rfl
              have frq56 : Fr W_X4_takeItem_F Mq (ui Mq33 33 9 zq23) := frq36.ui rfl
              have cyq57 : 0 ≤ ((ui Mq33 33 9 zq23).2 33 12).toInt := num_fr cyq31 (Fr.ui (W := [(33, 9)]) Fr.rf rfl) rfl
              refine g_iconst X 1 dX4_takeItem_176 (by decide) ?_
              exact g_zret X (b01 (show (1 : Int32).toInt = 1 by decide) (by omega)) dX4_takeItem_177 ⟨_, _, rfl, (show (1 : Int32).toInt = 1 by decide), (by omega), cyq57, ((by rcases (show a1 = 91 ∨ a1 = 40 by omega) with q | q <;> first | (rw [sgI_91 q, if_pos (by omega)]; exact OKX_y rfl rfl (RX_ch hR hfc (by omega) hc4 (by omega))) | (rw [sgI_91 q, if_neg (by omega)]; exact OKX_y rfl rfl (RX_ch hR hfc (by omega) hc4 (by omega))) | (rw [sgI_40 q, if_pos (by omega)]; exact OKX_y rfl rfl (RX_ch hR hfc (by omega) hc4 (by omega))) | (rw [sgI_40 q, if_neg (by omega)]; exact OKX_y rfl rfl (RX_ch hR hfc (by omega) hc4 (by omega))) | (exfalso; omega))), Iq55, frq56⟩
            · refine g_iload_n X 2 rfl dX4_takeItem_168 ?_
              refine g_goto X (tgt := 173) dX4_takeItem_169 (by decide) ?_
              refine g_puti X p_X4_34 dX4_takeItem_173 ?_
              have Iq58 : Iv TX (ui Mq33 33 9 zq14) := Iq34.put 0 60 tq16 (by omega) rfl
              have frq59 : Fr W_X4_takeItem_F Mq (ui Mq33 33 9 zq14) := frq36.ui rfl
              have cyq60 : 0 ≤ ((ui Mq33 33 9 zq14).2 33 12).toInt := num_fr cyq31 (Fr.ui (W := [(33, 9)]) Fr.rf rfl) rfl
              refine g_iconst X 1 dX4_takeItem_176 (by decide) ?_
              exact g_zret X (b01 (show (1 : Int32).toInt = 1 by decide) (by omega)) dX4_takeItem_177 ⟨_, _, rfl, (show (1 : Int32).toInt = 1 by decide), (by omega), cyq60, ((by rcases (show a1 = 91 ∨ a1 = 40 by omega) with q | q <;> first | (rw [sgI_91 q, if_pos (by omega)]; exact OKX_y rfl rfl (RX_ch hR hfc (by omega) hc4 (by omega))) | (rw [sgI_91 q, if_neg (by omega)]; exact OKX_y rfl rfl (RX_ch hR hfc (by omega) hc4 (by omega))) | (rw [sgI_40 q, if_pos (by omega)]; exact OKX_y rfl rfl (RX_ch hR hfc (by omega) hc4 (by omega))) | (rw [sgI_40 q, if_neg (by omega)]; exact OKX_y rfl rfl (RX_ch hR hfc (by omega) hc4 (by omega))) | (exfalso; omega))), Iq58, frq59⟩
          · refine g_iconst X 1 dX4_takeItem_155 (by decide) ?_
            refine g_goto X (tgt := 160) dX4_takeItem_156 (by decide) ?_
            refine g_istore X [(4, .int 1), (3, .int zq23), (2, .int zq14), (0, .ref (ad 33)), (1, .int x1)] dX4_takeItem_160 (by decide) rfl ?_
            refine g_aload_n X 3 rfl dX4_takeItem_162 ?_
            refine g_iload X 0 rfl dX4_takeItem_163 ?_
            refine g_if_eq X (show (1 : Int32).toInt = 1 by decide) (tgt := 172) dX4_takeItem_165 (by decide) (fun cq61 => ?_) (fun cq61 => ?_)
            · refine g_iload_n X 1 rfl dX4_takeItem_172 ?_
              refine g_puti X p_X4_34 dX4_takeItem_173 ?_
              have Iq62 : Iv TX (ui Mq33 33 9 zq23) := Iq34.put 0 60 tq25 (by omega) rfl
              have frq63 : Fr W_X4_takeItem_F Mq (ui Mq33 33 9 zq23) := frq36.ui rfl
              have cyq64 : 0 ≤ ((ui Mq33 33 9 zq23).2 33 12).toInt := num_fr cyq31 (Fr.ui (W := [(33, 9)]) Fr.rf rfl) rfl
              refine g_iconst X 1 dX4_takeItem_176 (by decide) ?_
              exact g_zret X (b01 (show (1 : Int32).toInt = 1 by decide) (by omega)) dX4_takeItem_177 ⟨_, _, rfl, (show (1 : Int32).toInt = 1 by decide), (by omega), cyq64, ((by rcases (show a1 = 91 ∨ a1 = 40 by omega) with q | q <;> first | (rw [sgI_91 q, if_pos (by omega)]; exact OKX_y rfl rfl (RX_ch hR hfc (by omega) hc4 (by omega))) | (rw [sgI_91 q, if_neg (by omega)]; exact OKX_y rfl rfl (RX_ch hR hfc (by omega) hc4 (by omega))) | (rw [sgI_40 q, if_pos (by omega)]; exact OKX_y rfl rfl (RX_ch hR hfc (by omega) hc4 (by omega))) | (rw [sgI_40 q, if_neg (by omega)]; exact OKX_y rfl rfl (RX_ch hR hfc (by omega) hc4 (by omega))) | (exfalso; omega))), Iq62, frq63⟩
            · refine g_iload_n X 2 rfl dX4_takeItem_168 ?_
              refine g_goto X (tgt := 173) dX4_takeItem_169 (by decide) ?_
              refine g_puti X p_X4_34 dX4_takeItem_173 ?_
              have Iq65 : Iv TX (ui Mq33 33 9 zq14) := Iq34.put 0 60 tq16 (by omega) rfl
              have frq66 : Fr W_X4_takeItem_F Mq (ui Mq33 33 9 zq14) := frq36.ui rfl
              have cyq67 : 0 ≤ ((ui Mq33 33 9 zq14).2 33 12).toInt := num_fr cyq31 (Fr.ui (W := [(33, 9)]) Fr.rf rfl) rfl
              refine g_iconst X 1 dX4_takeItem_176 (by decide) ?_
              exact g_zret X (b01 (show (1 : Int32).toInt = 1 by decide) (by omega)) dX4_takeItem_177 ⟨_, _, rfl, (show (1 : Int32).toInt = 1 by decide), (by omega), cyq67, ((by rcases (show a1 = 91 ∨ a1 = 40 by omega) with q | q <;> first | (rw [sgI_91 q, if_pos (by omega)]; exact OKX_y rfl rfl (RX_ch hR hfc (by omega) hc4 (by omega))) | (rw [sgI_91 q, if_neg (by omega)]; exact OKX_y rfl rfl (RX_ch hR hfc (by omega) hc4 (by omega))) | (rw [sgI_40 q, if_pos (by omega)]; exact OKX_y rfl rfl (RX_ch hR hfc (by omega) hc4 (by omega))) | (rw [sgI_40 q, if_neg (by omega)]; exact OKX_y rfl rfl (RX_ch hR hfc (by omega) hc4 (by omega))) | (exfalso; omega))), Iq65, frq66⟩
      · refine g_aload_n X 2 rfl dX4_takeItem_85 ?_
        refine g_aload_n X 2 rfl dX4_takeItem_86 ?_
        refine g_getr X f_X4_51 dX4_takeItem_87 ?_
        refine g_geti X f_X4_107 dX4_takeItem_90 (x := Mq.1 14 12) rfl ?_
        have bq68 := ig_14_12 Iq0
        refine g_iconst X 1 dX4_takeItem_93 (by decide) ?_
        refine g_iadd X dX4_takeItem_94 (fun zq69 eq70 => ?_)
        have tq71 : zq69.toInt = ((Mq.1 14 12).toInt) + 1 := add_nw eq70 rfl (show (1 : Int32).toInt = 1 by decide) (by omega)
        refine g_callV X m_X4_110 (c_X4_choose_F ad Mq zq69 tq71 Iq0 (by omega) (by omega) cy0) rfl (by decide) (Nat.le_of_ble_eq_true rfl) rfl dX4_takeItem_95 ?_
        rintro _ Mq78 ⟨rq72, aq73, rfl, tq74, hq75, cyq76, hq77, Iq79, frq80⟩
        have frq81 : Fr W_X4_takeItem_F Mq Mq78 := frq0.trans frq80 rfl
        have hc1 := hq75
        have hc2 := hq77
        have hfc := frq80
        have q33_7 : (Mq78.1 33 7).toInt = (Mq.1 33 7).toInt := congrArg Int32.toInt (frq80.at 33 7 rfl)
        have hc4 : (Mq78.2 33 12).toInt = nq / (pp.2.2.2.1 + 1) := by rw [← r12, ← hhl]; exact hc2
        have hc3 : aq73 = nq % (pp.2.2.2.1 + 1) := by rw [← r12, ← hhl]; exact hc1.1
        show G Γ Mq78 98 [(3, .int zq23), (2, .int zq14), (0, .ref (ad 33)), (1, .int x1)] [.int rq72]
        refine g_istore X [(4, .int rq72), (3, .int zq23), (2, .int zq14), (0, .ref (ad 33)), (1, .int x1)] dX4_takeItem_98 (by decide) rfl ?_
        refine g_aload_n X 3 rfl dX4_takeItem_100 ?_
        refine g_iload X 0 rfl dX4_takeItem_101 ?_
        refine g_if_ne X tq74 (tgt := 110) dX4_takeItem_103 (by decide) (fun cq82 => ?_) (fun cq82 => ?_)
        · refine g_iload_n X 2 rfl dX4_takeItem_110 ?_
          refine g_puti X p_X4_34 dX4_takeItem_111 ?_
          have Iq83 : Iv TX (ui Mq78 33 9 zq14) := Iq79.put 0 60 tq16 (by omega) rfl
          have frq84 : Fr W_X4_takeItem_F Mq (ui Mq78 33 9 zq14) := frq81.ui rfl
          have cyq85 : 0 ≤ ((ui Mq78 33 9 zq14).2 33 12).toInt := num_fr cyq76 (Fr.ui (W := [(33, 9)]) Fr.rf rfl) rfl
          refine g_iload X 0 rfl dX4_takeItem_114 ?_
          refine g_if_eq X tq74 (tgt := 130) dX4_takeItem_116 (by decide) (fun cq86 => ?_) (fun cq86 => ?_)
          · refine g_iconst X 1 dX4_takeItem_130 (by decide) ?_
            refine g_goto X (tgt := 135) dX4_takeItem_131 (by decide) ?_
            exact g_zret X (b01 (show (1 : Int32).toInt = 1 by decide) (by omega)) dX4_takeItem_135 ⟨_, _, rfl, (show (1 : Int32).toInt = 1 by decide), (by omega), cyq85, ((by first | (exfalso; omega) | exact OKX_y rfl (sgI_0 (by omega) (by omega)) (RX_ch hR hfc (by omega) hc4 (by omega)) | exact OKX_y rfl (sgI_1 (by omega) (by omega)) (RX_aw (RX_ch (k' := kq + 1) hR hfc (by omega) hc4 (by omega)) haw hf1 (by omega)))), Iq83, frq84⟩
          · refine g_aload_n X 3 rfl dX4_takeItem_119 ?_
            refine g_iload X 0 rfl dX4_takeItem_120 ?_
            refine g_iconst X 1 dX4_takeItem_122 (by decide) ?_
            refine g_isub X dX4_takeItem_123 (fun zq87 eq88 => ?_)
            have tq89 : zq87.toInt = aq73 - 1 := sub_nw eq88 tq74 (show (1 : Int32).toInt = 1 by decide) (by omega)
            refine g_callV X m_X4_104 (c_X4_await_F ad (ui Mq78 33 9 zq14) zq87 tq89 Iq83 (by omega) (show ((Mq78.1 33 7)).toInt < 256 by omega)) rfl (by decide) (Nat.le_of_ble_eq_true rfl) rfl dX4_takeItem_124 ?_
            rintro _ Mq95 ⟨rq90, aq91, rfl, tq92, hq93, hq94, Iq96, frq97⟩
            have frq98 : Fr W_X4_takeItem_F Mq Mq95 := frq84.trans frq97 rfl
            have cyq99 : 0 ≤ (Mq95.2 33 12).toInt := num_fr cyq85 frq97 rfl
            have haw := hq94
            have hf1 := frq97
            have ea := hq93
            show G Γ Mq95 127 [(4, .int rq72), (3, .int zq23), (2, .int zq14), (0, .ref (ad 33)), (1, .int x1)] [.int rq90]
            refine g_if_eq X tq92 (tgt := 134) dX4_takeItem_127 (by decide) (fun cq100 => ?_) (fun cq100 => ?_)
            · refine g_iconst X 0 dX4_takeItem_134 (by decide) ?_
              exact g_zret X (b01 (show (0 : Int32).toInt = 0 by decide) (by omega)) dX4_takeItem_135 ⟨_, _, rfl, (show (0 : Int32).toInt = 0 by decide), (by omega), cyq99, ((by first | (exfalso; omega) | exact OKX_y rfl (sgI_0 (by omega) (by omega)) (RX_ch hR hfc (by omega) hc4 (by omega)) | exact OKX_y rfl (sgI_1 (by omega) (by omega)) (RX_aw (RX_ch (k' := kq + 1) hR hfc (by omega) hc4 (by omega)) haw hf1 (by omega)))), Iq96, frq98⟩
            · refine g_iconst X 1 dX4_takeItem_130 (by decide) ?_
              refine g_goto X (tgt := 135) dX4_takeItem_131 (by decide) ?_
              exact g_zret X (b01 (show (1 : Int32).toInt = 1 by decide) (by omega)) dX4_takeItem_135 ⟨_, _, rfl, (show (1 : Int32).toInt = 1 by decide), (by omega), cyq99, ((by first | (exfalso; omega) | exact OKX_y rfl (sgI_0 (by omega) (by omega)) (RX_ch hR hfc (by omega) hc4 (by omega)) | exact OKX_y rfl (sgI_1 (by omega) (by omega)) (RX_aw (RX_ch (k' := kq + 1) hR hfc (by omega) hc4 (by omega)) haw hf1 (by omega)))), Iq96, frq98⟩
        · refine g_iload_n X 1 rfl dX4_takeItem_106 ?_
          refine g_goto X (tgt := 111) dX4_takeItem_107 (by decide) ?_
          refine g_puti X p_X4_34 dX4_takeItem_111 ?_
          have Iq101 : Iv TX (ui Mq78 33 9 zq23) := Iq79.put 0 60 tq25 (by omega) rfl
          have frq102 : Fr W_X4_takeItem_F Mq (ui Mq78 33 9 zq23) := frq81.ui rfl
          have cyq103 : 0 ≤ ((ui Mq78 33 9 zq23).2 33 12).toInt := num_fr cyq76 (Fr.ui (W := [(33, 9)]) Fr.rf rfl) rfl
          refine g_iload X 0 rfl dX4_takeItem_114 ?_
          refine g_if_eq X tq74 (tgt := 130) dX4_takeItem_116 (by decide) (fun cq104 => ?_) (fun cq104 => ?_)
          · refine g_iconst X 1 dX4_takeItem_130 (by decide) ?_
            refine g_goto X (tgt := 135) dX4_takeItem_131 (by decide) ?_
            exact g_zret X (b01 (show (1 : Int32).toInt = 1 by decide) (by omega)) dX4_takeItem_135 ⟨_, _, rfl, (show (1 : Int32).toInt = 1 by decide), (by omega), cyq103, ((by first | (exfalso; omega) | exact OKX_y rfl (sgI_0 (by omega) (by omega)) (RX_ch hR hfc (by omega) hc4 (by omega)) | exact OKX_y rfl (sgI_1 (by omega) (by omega)) (RX_aw (RX_ch (k' := kq + 1) hR hfc (by omega) hc4 (by omega)) haw hf1 (by omega)))), Iq101, frq102⟩
          · refine g_aload_n X 3 rfl dX4_takeItem_119 ?_
            refine g_iload X 0 rfl dX4_takeItem_120 ?_
            refine g_iconst X 1 dX4_takeItem_122 (by decide) ?_
            refine g_isub X dX4_takeItem_123 (fun zq105 eq106 => ?_)
            have tq107 : zq105.toInt = aq73 - 1 := sub_nw eq106 tq74 (show (1 : Int32).toInt = 1 by decide) (by omega)
            refine g_callV X m_X4_104 (c_X4_await_F ad (ui Mq78 33 9 zq23) zq105 tq107 Iq101 (by omega) (show ((Mq78.1 33 7)).toInt < 256 by omega)) rfl (by decide) (Nat.le_of_ble_eq_true rfl) rfl dX4_takeItem_124 ?_
            rintro _ Mq113 ⟨rq108, aq109, rfl, tq110, hq111, hq112, Iq114, frq115⟩
            have frq116 : Fr W_X4_takeItem_F Mq Mq113 := frq102.trans frq115 rfl
            have cyq117 : 0 ≤ (Mq113.2 33 12).toInt := num_fr cyq103 frq115 rfl
            have haw := hq112
            have hf1 := frq115
            have ea := hq111
            show G Γ Mq113 127 [(4, .int rq72), (3, .int zq23), (2, .int zq14), (0, .ref (ad 33)), (1, .int x1)] [.int rq108]
            refine g_if_eq X tq110 (tgt := 134) dX4_takeItem_127 (by decide) (fun cq118 => ?_) (fun cq118 => ?_)
            · refine g_iconst X 0 dX4_takeItem_134 (by decide) ?_
              exact g_zret X (b01 (show (0 : Int32).toInt = 0 by decide) (by omega)) dX4_takeItem_135 ⟨_, _, rfl, (show (0 : Int32).toInt = 0 by decide), (by omega), cyq117, ((by first | (exfalso; omega) | exact OKX_y rfl (sgI_0 (by omega) (by omega)) (RX_ch hR hfc (by omega) hc4 (by omega)) | exact OKX_y rfl (sgI_1 (by omega) (by omega)) (RX_aw (RX_ch (k' := kq + 1) hR hfc (by omega) hc4 (by omega)) haw hf1 (by omega)))), Iq114, frq116⟩
            · refine g_iconst X 1 dX4_takeItem_130 (by decide) ?_
              refine g_goto X (tgt := 135) dX4_takeItem_131 (by decide) ?_
              exact g_zret X (b01 (show (1 : Int32).toInt = 1 by decide) (by omega)) dX4_takeItem_135 ⟨_, _, rfl, (show (1 : Int32).toInt = 1 by decide), (by omega), cyq117, ((by first | (exfalso; omega) | exact OKX_y rfl (sgI_0 (by omega) (by omega)) (RX_ch hR hfc (by omega) hc4 (by omega)) | exact OKX_y rfl (sgI_1 (by omega) (by omega)) (RX_aw (RX_ch (k' := kq + 1) hR hfc (by omega) hc4 (by omega)) haw hf1 (by omega)))), Iq114, frq116⟩
    · have pq119 : (65 ≤ a1 ∧ a1 ≤ 72) := by first | omega | (rcases hq10 with ⟨z1, z2⟩ | ⟨z1, z2⟩ <;> first | exact z2 | (exfalso; omega))
      refine g_aload_n X 0 rfl dX4_takeItem_23 ?_
      refine g_aload_n X 0 rfl dX4_takeItem_24 ?_
      refine g_geti X f_X4_31 dX4_takeItem_25 (x := Mq.1 33 8) rfl ?_
      have bq120 := ig_33_8 Iq0
      refine g_bipush X 60 dX4_takeItem_28 (by decide) ?_
      refine g_imul X dX4_takeItem_30 (fun zq121 eq122 => ?_)
      have tq123 : zq121.toInt = ((Mq.1 33 8).toInt) * 60 := mul_nw eq122 rfl (show (60 : Int32).toInt = 60 by decide) (by omega)
      refine g_aload_n X 0 rfl dX4_takeItem_31 ?_
      refine g_geti X f_X4_34 dX4_takeItem_32 (x := Mq.1 33 9) rfl ?_
      have bq124 := ig_33_9 Iq0
      refine g_iadd X dX4_takeItem_35 (fun zq125 eq126 => ?_)
      have tq127 : zq125.toInt = (((Mq.1 33 8).toInt) * 60) + ((Mq.1 33 9).toInt) := add_nw eq126 tq123 rfl (by omega)
      refine g_callV X m_X4_104 (c_X4_await_F ad Mq zq125 tq127 Iq0 (by omega) (by omega)) rfl (by decide) (Nat.le_of_ble_eq_true rfl) rfl dX4_takeItem_36 ?_
      rintro _ Mq133 ⟨rq128, aq129, rfl, tq130, hq131, hq132, Iq134, frq135⟩
      have frq136 : Fr W_X4_takeItem_F Mq Mq133 := frq0.trans frq135 rfl
      have cyq137 : 0 ≤ (Mq133.2 33 12).toInt := num_fr cy0 frq135 rfl
      have haw := hq132
      have hf1 := frq135
      have ea := hq131
      show G Γ Mq133 39 [(0, .ref (ad 33)), (1, .int x1)] [.int rq128]
      refine g_if_ne X tq130 (tgt := 44) dX4_takeItem_39 (by decide) (fun cq138 => ?_) (fun cq138 => ?_)
      · refine g_aload_n X 0 rfl dX4_takeItem_44 ?_
        refine g_iload_n X 1 rfl dX4_takeItem_45 ?_
        refine g_bipush X 65 dX4_takeItem_46 (by decide) ?_
        refine g_isub X dX4_takeItem_48 (fun zq139 eq140 => ?_)
        have tq141 : zq139.toInt = a1 - 65 := sub_nw eq140 t1 (show (65 : Int32).toInt = 65 by decide) (by omega)
        refine g_callV X m_X4_55 (c_X4_enterScene_F ad Mq133 zq139 tq141 Iq134 (by omega)) rfl (by decide) (Nat.le_of_ble_eq_true rfl) rfl dX4_takeItem_49 ?_
        rintro _ Mq147 ⟨rfl, hq145, hq146, Iq148, frq149⟩
        have frq150 : Fr W_X4_takeItem_F Mq Mq147 := frq136.trans frq149 rfl
        have cyq151 : 0 ≤ (Mq147.2 33 12).toInt := num_fr cyq137 frq149 rfl
        have hE := hq146
        have hf2 := frq149
        show G Γ Mq147 52 [(0, .ref (ad 33)), (1, .int x1)] []
        refine g_iconst X 1 dX4_takeItem_52 (by decide) ?_
        exact g_zret X (b01 (show (1 : Int32).toInt = 1 by decide) (by omega)) dX4_takeItem_53 ⟨_, _, rfl, (show (1 : Int32).toInt = 1 by decide), (by omega), cyq151, (OKX_y rfl (sgI_scene (by omega)) (RX_sc hR haw hf1 (by omega) ⟨by have z := hE.1; omega, hE.2⟩ hf2 (by omega))), Iq148, frq150⟩
      · refine g_iconst X 0 dX4_takeItem_42 (by decide) ?_
        exact g_zret X (b01 (show (0 : Int32).toInt = 0 by decide) (by omega)) dX4_takeItem_43 ⟨_, _, rfl, (show (0 : Int32).toInt = 0 by decide), (by omega), cyq137, ((by exfalso; omega)), Iq134, frq136⟩
  · have pq152 : (97 ≤ a1 ∧ a1 ≤ 104) := by first | omega | (rcases hq4 with ⟨z1, z2⟩ | ⟨z1, z2⟩ <;> first | exact z2 | (exfalso; omega))
    refine g_aload_n X 0 rfl dX4_takeItem_7 ?_
    refine g_iload_n X 1 rfl dX4_takeItem_8 ?_
    refine g_bipush X 97 dX4_takeItem_9 (by decide) ?_
    refine g_isub X dX4_takeItem_11 (fun zq153 eq154 => ?_)
    have tq155 : zq153.toInt = a1 - 97 := sub_nw eq154 t1 (show (97 : Int32).toInt = 97 by decide) (by omega)
    refine g_callV X m_X4_98 (c_X4_singLine_F ad Mq zq153 tq155 Iq0 (by omega) (by omega) (by omega) (hX.2.2 (a1 - 97).toNat (by omega)).2.1 cy0) rfl (by decide) (Nat.le_of_ble_eq_true rfl) rfl dX4_takeItem_12 ?_
    rintro _ Mq162 ⟨rq156, aq157, rfl, tq158, hq159, cyq160, hq161, Iq163, frq164⟩
    have frq165 : Fr W_X4_takeItem_F Mq Mq162 := frq0.trans frq164 rfl
    have hsl := hq161
    have hsf := frq164
    have hsr := hq159
    show G Γ Mq162 15 [(0, .ref (ad 33)), (1, .int x1)] [.int rq156]
    exact g_zret X (b01 tq158 (by omega)) dX4_takeItem_15 ⟨_, _, rfl, tq158, (by omega), cyq160, (IT_slot hX hR (by omega) hsl hsf), Iq163, frq165⟩
abbrev W_X4_takeSign_F : List (Nat × Nat) := [(33, 5), (33, 7), (33, 8), (33, 9), (33, 12), (35, 99), (36, 99), (33, 10)]
set_option maxHeartbeats 4000000 in
set_option maxRecDepth 4000 in
theorem c_X4_takeSign_F (ad : Nat → Nat) (Mq : Mem) (x1 : Int32) {a1 : Int} (t1 : x1.toInt = a1) (Iq0 : Iv TX Mq) {pp : PaT} {td : Nat → Int} {xq : Nat} {kq nq gq : Int} {Lq : List (Int × Int)} {Rq : List FrT} {oq : List Int} (hT : TVp pp td) (hX : PX Mq pp (Mq.2 33 11) td) (hI : SgI pp td ((xq, kq, Lq) :: Rq, nq, gq, oq)) (hR : RX Mq xq kq Lq Rq nq gq oq) (hk : kq < pp.2.1 xq) (hb : pp.1 xq kq.toNat = a1) (cy0 : 0 ≤ (Mq.2 33 12).toInt) : Ctr ad yX4_takeSign cX4_takeSign 2 (some .boolean) 4 [.ref (ad 33), .int x1] Mq (fun v M' => ∃ (r : Int32) (a : Int), v = some (.int r) ∧ r.toInt = a ∧ (a = 0 ∨ a = 1) ∧ (0 ≤ (M'.2 33 12).toInt) ∧ (OKX M' (sgS pp ((xq, kq, Lq) :: Rq, nq, gq, oq)) a) ∧ Iv TX M' ∧ Fr W_X4_takeSign_F Mq M') := by
  refine ctr_of (L := [(0, .ref (ad 33)), (1, .int x1)]) (by decide) (Nat.le_of_ble_eq_true rfl) rfl ?_
  intro Γ X
  have X : gX Γ cX4_takeSign RX4 2 (some .boolean) 4 ad _ := X
  have frq0 : Fr W_X4_takeSign_F Mq Mq := Fr.rf
  obtain ⟨fx, ft, fk, fF, fn, fg⟩ := SG_fr hI
  obtain ⟨r8, r9, r7, r36, r12, r10, r5, r35⟩ := id hR
  obtain ⟨m20, m18, m19, m125⟩ := PX_mate hX fx ft ⟨fk.1, hk⟩
  have hw := RX_wait hT fF hR
  obtain ⟨sz, sV, -⟩ := hT xq fx ft
  have hhl := hX.1
  refine g_iload_n X 1 rfl dX4_takeSign_0 ?_
  rcases (show (a1 ≠ 41 ∧ a1 ≠ 93 ∧ a1 ≠ 124 ∧ a1 ≠ 125) ∨ a1 = 41 ∨ a1 = 93 ∨ a1 = 124 ∨ a1 = 125 by omega) with cq1 | cq1 | cq1 | cq1 | cq1
  · refine g_lookup X dX4_takeSign_1 (by decide) t1 (off := 83) (by simp [Op.lookupswitch.offset, cq1.1.symm, cq1.2.1.symm, cq1.2.2.1.symm, cq1.2.2.2.symm]) (tgt := 84) (by decide) ?_
    refine g_aload_n X 0 rfl dX4_takeSign_84 ?_
    refine g_dup X dX4_takeSign_85 rfl ?_
    refine g_geti X f_X4_37 dX4_takeSign_86 (x := Mq.1 33 10) rfl ?_
    refine g_iconst X 1 dX4_takeSign_89 (by decide) ?_
    refine g_iadd X dX4_takeSign_90 (fun zq2 eq3 => ?_)
    have tq4 : zq2.toInt = ((Mq.1 33 10).toInt) + 1 := add_nw eq3 rfl (show (1 : Int32).toInt = 1 by decide) (by omega)
    refine g_puti X p_X4_37 dX4_takeSign_91 ?_
    have Iq5 : Iv TX (ui Mq 33 10 zq2) := Iq0.other rfl
    have frq6 : Fr W_X4_takeSign_F Mq (ui Mq 33 10 zq2) := frq0.ui rfl
    have cyq7 : 0 ≤ ((ui Mq 33 10 zq2).2 33 12).toInt := num_fr cy0 (Fr.ui (W := [(33, 10)]) Fr.rf rfl) rfl
    refine g_aload_n X 0 rfl dX4_takeSign_94 ?_
    refine g_geti X f_X4_37 dX4_takeSign_95 (x := zq2) rfl ?_
    refine g_sipush X 2000 dX4_takeSign_98 (by decide) ?_
    refine g_icmp_gt X tq4 (show (2000 : Int32).toInt = 2000 by decide) (tgt := 116) dX4_takeSign_101 (by decide) (fun cq8 => ?_) (fun cq8 => ?_)
    · refine g_iconst X 0 dX4_takeSign_116 (by decide) ?_
      exact g_zret X (b01 (show (0 : Int32).toInt = 0 by decide) (by omega)) dX4_takeSign_117 ⟨_, _, rfl, (show (0 : Int32).toInt = 0 by decide), (by omega), cyq7, ((by first | exact Or.inr ⟨rfl, sgS_full (by omega) hb (by omega) (by omega)⟩ | (rw [sgS_it (by omega) hb (by omega) (by omega)]; exact OKX_to hti (by omega)))), Iq5, frq6⟩
    · refine g_aload_n X 0 rfl dX4_takeSign_104 ?_
      refine g_iload_n X 1 rfl dX4_takeSign_105 ?_
      refine g_callV X m_X4_92 (c_X4_takeItem_F ad (ui Mq 33 10 zq2) x1 t1 Iq5 hT (PX_ui hX) (show SgI pp td ((xq, kq, Lq) :: Rq, nq, (gq + 1 - 1), oq) from by rw [show gq + 1 - 1 = gq by omega]; exact hI) (RX_ui10 hR (by omega)) hk hb (by omega) cyq7) rfl (by decide) (Nat.le_of_ble_eq_true rfl) rfl dX4_takeSign_106 ?_
      rintro _ Mq15 ⟨rq9, aq10, rfl, tq11, hq12, cyq13, hq14, Iq16, frq17⟩
      have frq18 : Fr W_X4_takeSign_F Mq Mq15 := frq6.trans frq17 rfl
      have hti := hq14
      rw [show gq + 1 - 1 = gq by omega] at hti
      show G Γ Mq15 109 [(0, .ref (ad 33)), (1, .int x1)] [.int rq9]
      refine g_if_eq X tq11 (tgt := 116) dX4_takeSign_109 (by decide) (fun cq19 => ?_) (fun cq19 => ?_)
      · refine g_iconst X 0 dX4_takeSign_116 (by decide) ?_
        exact g_zret X (b01 (show (0 : Int32).toInt = 0 by decide) (by omega)) dX4_takeSign_117 ⟨_, _, rfl, (show (0 : Int32).toInt = 0 by decide), (by omega), cyq13, ((by first | exact Or.inr ⟨rfl, sgS_full (by omega) hb (by omega) (by omega)⟩ | (rw [sgS_it (by omega) hb (by omega) (by omega)]; exact OKX_to hti (by omega)))), Iq16, frq18⟩
      · refine g_iconst X 1 dX4_takeSign_112 (by decide) ?_
        refine g_goto X (tgt := 117) dX4_takeSign_113 (by decide) ?_
        exact g_zret X (b01 (show (1 : Int32).toInt = 1 by decide) (by omega)) dX4_takeSign_117 ⟨_, _, rfl, (show (1 : Int32).toInt = 1 by decide), (by omega), cyq13, ((by first | exact Or.inr ⟨rfl, sgS_full (by omega) hb (by omega) (by omega)⟩ | (rw [sgS_it (by omega) hb (by omega) (by omega)]; exact OKX_to hti (by omega)))), Iq16, frq18⟩
  · refine g_lookup X dX4_takeSign_1 (by decide) (a := 41) (t1.trans cq1) (off := 43) (by decide) (tgt := 44) (by decide) ?_
    refine g_aload_n X 0 rfl dX4_takeSign_44 ?_
    refine g_dup X dX4_takeSign_45 rfl ?_
    refine g_geti X f_X4_34 dX4_takeSign_46 (x := Mq.1 33 9) rfl ?_
    have bq20 := ig_33_9 Iq0
    refine g_iconst X 1 dX4_takeSign_49 (by decide) ?_
    refine g_iadd X dX4_takeSign_50 (fun zq21 eq22 => ?_)
    have tq23 : zq21.toInt = ((Mq.1 33 9).toInt) + 1 := add_nw eq22 rfl (show (1 : Int32).toInt = 1 by decide) (by omega)
    refine g_puti X p_X4_34 dX4_takeSign_51 ?_
    have Iq24 : Iv TX (ui Mq 33 9 zq21) := Iq0.put 0 60 tq23 (by omega) rfl
    have frq25 : Fr W_X4_takeSign_F Mq (ui Mq 33 9 zq21) := frq0.ui rfl
    have cyq26 : 0 ≤ ((ui Mq 33 9 zq21).2 33 12).toInt := num_fr cy0 (Fr.ui (W := [(33, 9)]) Fr.rf rfl) rfl
    refine g_iconst X 1 dX4_takeSign_54 (by decide) ?_
    exact g_zret X (b01 (show (1 : Int32).toInt = 1 by decide) (by omega)) dX4_takeSign_55 ⟨_, _, rfl, (show (1 : Int32).toInt = 1 by decide), (by omega), cyq26, (OKX_y rfl (sgS_cl (by omega) hb (by omega)) (RX_ui9 hR (by omega))), Iq24, frq25⟩
  · refine g_lookup X dX4_takeSign_1 (by decide) (a := 93) (t1.trans cq1) (off := 43) (by decide) (tgt := 44) (by decide) ?_
    refine g_aload_n X 0 rfl dX4_takeSign_44 ?_
    refine g_dup X dX4_takeSign_45 rfl ?_
    refine g_geti X f_X4_34 dX4_takeSign_46 (x := Mq.1 33 9) rfl ?_
    have bq27 := ig_33_9 Iq0
    refine g_iconst X 1 dX4_takeSign_49 (by decide) ?_
    refine g_iadd X dX4_takeSign_50 (fun zq28 eq29 => ?_)
    have tq30 : zq28.toInt = ((Mq.1 33 9).toInt) + 1 := add_nw eq29 rfl (show (1 : Int32).toInt = 1 by decide) (by omega)
    refine g_puti X p_X4_34 dX4_takeSign_51 ?_
    have Iq31 : Iv TX (ui Mq 33 9 zq28) := Iq0.put 0 60 tq30 (by omega) rfl
    have frq32 : Fr W_X4_takeSign_F Mq (ui Mq 33 9 zq28) := frq0.ui rfl
    have cyq33 : 0 ≤ ((ui Mq 33 9 zq28).2 33 12).toInt := num_fr cy0 (Fr.ui (W := [(33, 9)]) Fr.rf rfl) rfl
    refine g_iconst X 1 dX4_takeSign_54 (by decide) ?_
    exact g_zret X (b01 (show (1 : Int32).toInt = 1 by decide) (by omega)) dX4_takeSign_55 ⟨_, _, rfl, (show (1 : Int32).toInt = 1 by decide), (by omega), cyq33, (OKX_y rfl (sgS_cl (by omega) hb (by omega)) (RX_ui9 hR (by omega))), Iq31, frq32⟩
  · refine g_lookup X dX4_takeSign_1 (by decide) (a := 124) (t1.trans cq1) (off := 55) (by decide) (tgt := 56) (by decide) ?_
    refine g_aload_n X 0 rfl dX4_takeSign_56 ?_
    refine g_aload_n X 0 rfl dX4_takeSign_57 ?_
    refine g_getr X f_X4_51 dX4_takeSign_58 ?_
    refine g_aload_n X 0 rfl dX4_takeSign_61 ?_
    refine g_geti X f_X4_31 dX4_takeSign_62 (x := Mq.1 33 8) rfl ?_
    have bq34 := ig_33_8 Iq0
    refine g_aload_n X 0 rfl dX4_takeSign_65 ?_
    refine g_geti X f_X4_34 dX4_takeSign_66 (x := Mq.1 33 9) rfl ?_
    have bq35 := ig_33_9 Iq0
    refine g_callV X m_X4_86 (c_X2_mateOf_F ad Mq (Mq.1 33 8) rfl (Mq.1 33 9) rfl Iq0 (by omega) (by omega)) rfl (by decide) (Nat.le_of_ble_eq_true rfl) rfl dX4_takeSign_69 ?_
    rintro _ _ ⟨rq36, aq37, rfl, tq38, hq39, rfl⟩
    have hmt : aq37 = (Mq.1 19 ((Mq.1 33 8).toInt * 60 + (Mq.1 33 9).toInt).toNat).toInt := hq39.1
    rw [r8, r9] at hmt
    have hmo : aq37 = pp.2.2.1 xq kq.toNat + 2 := by rw [hmt]; exact m19 (by rw [hb]; unfold obC; omega)
    show G Γ Mq 72 [(0, .ref (ad 33)), (1, .int x1)] [.int rq36, .ref (ad 33)]
    refine g_iconst X 1 dX4_takeSign_72 (by decide) ?_
    refine g_iadd X dX4_takeSign_73 (fun zq40 eq41 => ?_)
    have tq42 : zq40.toInt = aq37 + 1 := add_nw eq41 tq38 (show (1 : Int32).toInt = 1 by decide) (by omega)
    refine g_puti X p_X4_34 dX4_takeSign_74 ?_
    have Iq43 : Iv TX (ui Mq 33 9 zq40) := Iq0.put 0 60 tq42 (by omega) rfl
    have frq44 : Fr W_X4_takeSign_F Mq (ui Mq 33 9 zq40) := frq0.ui rfl
    have cyq45 : 0 ≤ ((ui Mq 33 9 zq40).2 33 12).toInt := num_fr cy0 (Fr.ui (W := [(33, 9)]) Fr.rf rfl) rfl
    refine g_iconst X 1 dX4_takeSign_77 (by decide) ?_
    exact g_zret X (b01 (show (1 : Int32).toInt = 1 by decide) (by omega)) dX4_takeSign_78 ⟨_, _, rfl, (show (1 : Int32).toInt = 1 by decide), (by omega), cyq45, (OKX_y rfl (sgS_bar (by omega) hb (by omega)) (RX_ui9 hR (by omega))), Iq43, frq44⟩
  · refine g_lookup X dX4_takeSign_1 (by decide) (a := 125) (t1.trans cq1) (off := 78) (by decide) (tgt := 79) (by decide) ?_
    refine g_aload_n X 0 rfl dX4_takeSign_79 ?_
    refine g_callV X m_X4_89 (c_X4_again_F ad Mq Iq0 (by omega) (AG_w hT hI hR hk (by omega))) rfl (by decide) (Nat.le_of_ble_eq_true rfl) rfl dX4_takeSign_80 ?_
    rintro _ Mq51 ⟨rq46, aq47, rfl, tq48, hq49, hq50, Iq52, frq53⟩
    have frq54 : Fr W_X4_takeSign_F Mq Mq51 := frq0.trans frq53 rfl
    have cyq55 : 0 ≤ (Mq51.2 33 12).toInt := num_fr cy0 frq53 rfl
    have hag := hq50
    have hf1 := frq53
    have ea := hq49
    show G Γ Mq51 83 [(0, .ref (ad 33)), (1, .int x1)] [.int rq46]
    exact g_zret X (b01 tq48 (by omega)) dX4_takeSign_83 ⟨_, _, rfl, tq48, (by omega), cyq55, ((by rw [sgS_br (by omega) hb (by omega), ea]; exact AG_ok hT hX hI hR hk (by omega) hag hf1)), Iq52, frq54⟩
abbrev W_X4_keepSong_F : List (Nat × Nat) := [(33, 3), (34, 99)]
set_option maxHeartbeats 4000000 in
set_option maxRecDepth 4000 in
theorem c_X4_keepSong_F (ad : Nat → Nat) (Mq : Mem) (Iq0 : Iv TX Mq) : Ctr ad yX4_keepSong cX4_keepSong 1 (some .boolean) 1 [.ref (ad 33)] Mq (fun v M' => ∃ (r : Int32) (a : Int), v = some (.int r) ∧ r.toInt = a ∧ (a = 1) ∧ ((M'.1 33 3).toInt = (Mq.1 33 5).toInt ∧ ordN (M'.1 34) ((Mq.1 33 5).toInt).toNat = ordN (Mq.1 35) ((Mq.1 33 5).toInt).toNat) ∧ Iv TX M' ∧ Fr W_X4_keepSong_F Mq M') := by
  refine ctr_of (L := [(0, .ref (ad 33))]) (by decide) (Nat.le_of_ble_eq_true rfl) rfl ?_
  intro Γ X
  have X : gX Γ cX4_keepSong RX4 1 (some .boolean) 1 ad _ := X
  have frq0 : Fr W_X4_keepSong_F Mq Mq := Fr.rf
  have hD := ig_33_5 Iq0
  refine g_aload_n X 0 rfl dX4_keepSong_0 ?_
  refine g_getr X f_X4_19 dX4_keepSong_1 ?_
  refine g_iconst X 0 dX4_keepSong_4 (by decide) ?_
  refine g_aload_n X 0 rfl dX4_keepSong_5 ?_
  refine g_getr X f_X4_9 dX4_keepSong_6 ?_
  refine g_iconst X 0 dX4_keepSong_9 (by decide) ?_
  refine g_aload_n X 0 rfl dX4_keepSong_10 ?_
  refine g_geti X f_X4_22 dX4_keepSong_11 (x := Mq.1 33 5) rfl ?_
  have bq1 := ig_33_5 Iq0
  refine g_copy X (show (0 : Int32).toInt = 0 by decide) (show (0 : Int32).toInt = 0 by decide) rfl la_35 la_34 cp_X4_80 cp_ok.1 cp_ok.2.1 cp_ok.2.2 (by decide) (Nat.le_of_ble_eq_true rfl) (by omega) dX4_keepSong_14 ?_
  have Iq2 : Iv TX (uc Mq 35 0 34 0 (((Mq.1 33 5).toInt).toNat)) := Iq0.copyO rfl
  have frq3 : Fr W_X4_keepSong_F Mq (uc Mq 35 0 34 0 (((Mq.1 33 5).toInt).toNat)) := frq0.uc rfl
  refine g_aload_n X 0 rfl dX4_keepSong_17 ?_
  refine g_aload_n X 0 rfl dX4_keepSong_18 ?_
  refine g_geti X f_X4_22 dX4_keepSong_19 (x := Mq.1 33 5) rfl ?_
  have bq4 := ig_33_5 Iq0
  refine g_puti X p_X4_15 dX4_keepSong_22 ?_
  have Iq5 : Iv TX (ui (uc Mq 35 0 34 0 (((Mq.1 33 5).toInt).toNat)) 33 3 (Mq.1 33 5)) := Iq2.put 0 40 rfl (by omega) rfl
  have frq6 : Fr W_X4_keepSong_F Mq (ui (uc Mq 35 0 34 0 (((Mq.1 33 5).toInt).toNat)) 33 3 (Mq.1 33 5)) := frq3.ui rfl
  refine g_iconst X 1 dX4_keepSong_25 (by decide) ?_
  exact g_zret X (b01 (show (1 : Int32).toInt = 1 by decide) (by omega)) dX4_keepSong_26 ⟨_, _, rfl, (show (1 : Int32).toInt = 1 by decide), (by omega), (⟨by rw [ui_eq], by rw [ui_cell (k := 33) (a := 34) (by decide)]; exact ordN_cong _ (fun j hj => (uc_row j).trans (by unfold cpR; rw [if_pos (by omega)]; rfl))⟩), Iq5, frq6⟩
abbrev W_X4_perform_F : List (Nat × Nat) := [(33, 5), (33, 7), (33, 8), (33, 9), (33, 12), (35, 99), (36, 99), (33, 10), (33, 11), (33, 3), (34, 99)]
set_option maxHeartbeats 4000000 in
set_option maxRecDepth 4000 in
theorem c_X4_perform_F (ad : Nat → Nat) (Mq : Mem) (x1 : Int32) {a1 : Int} (t1 : x1.toInt = a1) (x2 : Int64) {a2 : Int} (t2 : x2.toInt = a2) (x3 : Int64) {a3 : Int} (t3 : x3.toInt = a3) (Iq0 : Iv TX Mq) {pp : PaT} {td : Nat → Int} (h1 : 0 ≤ a1 ∧ a1 ≤ 7) (h2 : 0 ≤ a3) (hT : TVp pp td) (hX : PX Mq pp x2 td) (ht : 0 < td a1.toNat) (hcn : ∀ s, 0 ≤ pp.2.2.2.2.1 s) (cy0 : 0 ≤ (Mq.2 33 12).toInt) : Ctr ad yX4_perform cX4_perform 7 (some .boolean) 5 [.ref (ad 33), .int x1, .long x2, .long x3] Mq (fun v M' => ∃ (r : Int32) (a : Int), v = some (.int r) ∧ r.toInt = a ∧ (a = 0 ∨ a = 1) ∧ (0 ≤ (M'.2 33 12).toInt) ∧ (SGX Mq M' pp ([(a1.toNat, 0, [])], a3, 0, []) a) ∧ Iv TX M' ∧ Fr W_X4_perform_F Mq M') := by
  refine ctr_of (L := [(0, .ref (ad 33)), (1, .int x1), (2, .long x2), (4, .long x3)]) (by decide) (Nat.le_of_ble_eq_true rfl) rfl ?_
  intro Γ X
  have X : gX Γ cX4_perform RX4 7 (some .boolean) 5 ad _ := X
  have frq0 : Fr W_X4_perform_F Mq Mq := Fr.rf
  have g1412 := ig_14_12 Iq0
  have hh : 0 ≤ pp.2.2.2.1 ∧ pp.2.2.2.1 ≤ 3 := by rw [← hX.1]; exact g1412
  refine g_aload_n X 0 rfl dX4_perform_0 ?_
  refine g_lload_n X 2 rfl dX4_perform_1 ?_
  refine g_putl X p_X4_40 dX4_perform_2 ?_
  have Iq1 : Iv TX (ul Mq 33 11 x2) := Iq0.long
  have frq2 : Fr W_X4_perform_F Mq (ul Mq 33 11 x2) := frq0.ul rfl
  have cyq3 : 0 ≤ ((ul Mq 33 11 x2).2 33 12).toInt := num_fr cy0 (Fr.ul (W := [(33, 11)]) Fr.rf rfl) rfl
  refine g_aload_n X 0 rfl dX4_perform_5 ?_
  refine g_lload X 3 rfl dX4_perform_6 ?_
  refine g_putl X p_X4_44 dX4_perform_8 ?_
  have Iq4 : Iv TX (ul (ul Mq 33 11 x2) 33 12 x3) := Iq1.long
  have frq5 : Fr W_X4_perform_F Mq (ul (ul Mq 33 11 x2) 33 12 x3) := frq2.ul rfl
  have cyq6 : 0 ≤ ((ul (ul Mq 33 11 x2) 33 12 x3).2 33 12).toInt := (by rw [ul_eq]; omega)
  refine g_aload_n X 0 rfl dX4_perform_11 ?_
  refine g_iconst X 0 dX4_perform_12 (by decide) ?_
  refine g_puti X p_X4_22 dX4_perform_13 ?_
  have ltq7 : (0 : Int32).toInt = 0 := by decide
  have Iq8 : Iv TX (ui (ul (ul Mq 33 11 x2) 33 12 x3) 33 5 0) := Iq4.put 0 40 (show (0 : Int32).toInt = 0 by decide) (by omega) rfl
  have frq9 : Fr W_X4_perform_F Mq (ui (ul (ul Mq 33 11 x2) 33 12 x3) 33 5 0) := frq5.ui rfl
  have cyq10 : 0 ≤ ((ui (ul (ul Mq 33 11 x2) 33 12 x3) 33 5 0).2 33 12).toInt := num_fr cyq6 (Fr.ui (W := [(33, 5)]) Fr.rf rfl) rfl
  refine g_aload_n X 0 rfl dX4_perform_16 ?_
  refine g_iconst X 0 dX4_perform_17 (by decide) ?_
  refine g_puti X p_X4_28 dX4_perform_18 ?_
  have ltq11 : (0 : Int32).toInt = 0 := by decide
  have Iq12 : Iv TX (ui (ui (ul (ul Mq 33 11 x2) 33 12 x3) 33 5 0) 33 7 0) := Iq8.put 0 256 (show (0 : Int32).toInt = 0 by decide) (by omega) rfl
  have frq13 : Fr W_X4_perform_F Mq (ui (ui (ul (ul Mq 33 11 x2) 33 12 x3) 33 5 0) 33 7 0) := frq9.ui rfl
  have cyq14 : 0 ≤ ((ui (ui (ul (ul Mq 33 11 x2) 33 12 x3) 33 5 0) 33 7 0).2 33 12).toInt := num_fr cyq10 (Fr.ui (W := [(33, 7)]) Fr.rf rfl) rfl
  refine g_aload_n X 0 rfl dX4_perform_21 ?_
  refine g_iconst X 0 dX4_perform_22 (by decide) ?_
  refine g_puti X p_X4_37 dX4_perform_23 ?_
  have ltq15 : (0 : Int32).toInt = 0 := by decide
  have Iq16 : Iv TX (ui (ui (ui (ul (ul Mq 33 11 x2) 33 12 x3) 33 5 0) 33 7 0) 33 10 0) := Iq12.other rfl
  have frq17 : Fr W_X4_perform_F Mq (ui (ui (ui (ul (ul Mq 33 11 x2) 33 12 x3) 33 5 0) 33 7 0) 33 10 0) := frq13.ui rfl
  have cyq18 : 0 ≤ ((ui (ui (ui (ul (ul Mq 33 11 x2) 33 12 x3) 33 5 0) 33 7 0) 33 10 0).2 33 12).toInt := num_fr cyq14 (Fr.ui (W := [(33, 10)]) Fr.rf rfl) rfl
  refine g_aload_n X 0 rfl dX4_perform_26 ?_
  refine g_iload_n X 1 rfl dX4_perform_27 ?_
  refine g_callV X m_X4_55 (c_X4_enterScene_F ad (ui (ui (ui (ul (ul Mq 33 11 x2) 33 12 x3) 33 5 0) 33 7 0) 33 10 0) x1 t1 Iq16 (by omega)) rfl (by decide) (Nat.le_of_ble_eq_true rfl) rfl dX4_perform_28 ?_
  rintro _ Mq24 ⟨rfl, hq22, hq23, Iq25, frq26⟩
  have frq27 : Fr W_X4_perform_F Mq Mq24 := frq17.trans frq26 rfl
  have cyq28 : 0 ≤ (Mq24.2 33 12).toInt := num_fr cyq18 frq26 rfl
  have hE := hq23
  have hfe := frq26
  show G Γ Mq24 31 [(0, .ref (ad 33)), (1, .int x1), (2, .long x2), (4, .long x3)] []
  refine g_iconst X 0 dX4_perform_31 (by decide) ?_
  refine g_istore X [(6, .int 0), (0, .ref (ad 33)), (1, .int x1), (2, .long x2), (4, .long x3)] dX4_perform_32 (by decide) rfl ?_
  have lp34 : ∀ n : Nat, ∀ (y6_34 : Int32) (b6_34 : Int), y6_34.toInt = b6_34 → ∀ (M_34 : Mem), (0 ≤ b6_34 ∧ b6_34 ≤ 100000) → (SGC pp td ([(a1.toNat, 0, [])], a3, 0, []) M_34 b6_34) → (M_34.2 33 11 = x2) → (M_34.1 34 = Mq.1 34) → (M_34.1 33 3 = Mq.1 33 3) → (Iv TX M_34) → (Fr W_X4_perform_F Mq M_34) → (0 ≤ (M_34.2 33 12).toInt) → (100000 - b6_34).toNat < n → G Γ M_34 34 [(6, .int y6_34), (0, .ref (ad 33)), (1, .int x1), (2, .long x2), (4, .long x3)] [] := by
    intro n
    induction n with
    | zero => intro y6_34 b6_34 e6_34 M_34 i1 i2 i3 i4 i5 I_34 fr_34 cy0_34 hm; exact absurd hm (Nat.not_lt_zero _)
    | succ n ih34 =>
      intro y6_34 b6_34 e6_34 M_34 i1 i2 i3 i4 i5 I_34 fr_34 cy0_34 hm34
      obtain ⟨xq, kq, Lq, Rq, nq, gq, oq, hN, hI, hR, hp⟩ := i2
      obtain ⟨fx, ft, fk, fF, fn, fg⟩ := SG_fr hI
      obtain ⟨r8, r9, r7, r36, r12, r10, r5, r35⟩ := id hR
      have hXM : PX M_34 pp (M_34.2 33 11) td := by rw [i3]; exact PX_fr hX fr_34 (by decide)
      have m20 : (M_34.1 20 xq).toInt = pp.2.1 xq + 2 := (hXM.2.1 xq fx ft).1
      have m18 : kq < pp.2.1 xq → (M_34.1 18 ((xq : Int) * 60 + (kq + 2)).toNat).toInt = pp.1 xq kq.toNat := fun z => (PX_mate hXM fx ft ⟨fk.1, z⟩).2.1
      have hp0 := pot_0 (p := pp) (F := (xq, kq, Lq) :: Rq) fg.2
      have sz := (hT xq fx ft).1
      have ex8 : ((M_34.1 33 8).toInt).toNat = xq := by omega
      have m20b : (M_34.1 20 ((M_34.1 33 8).toInt).toNat).toInt = pp.2.1 xq + 2 := by rw [ex8]; exact m20
      refine g_iload X 0 rfl dX4_perform_34 ?_
      refine g_ldc X k_X4_59 dX4_perform_36 ?_
      refine g_icmp_ge X e6_34 (show (100000 : Int32).toInt = 100000 by decide) (tgt := 109) dX4_perform_38 (by decide) (fun cq29 => ?_) (fun cq29 => ?_)
      · refine g_iconst X 0 dX4_perform_109 (by decide) ?_
        exact g_zret X (b01 (show (0 : Int32).toInt = 0 by decide) (by omega)) dX4_perform_110 ⟨_, _, rfl, (show (0 : Int32).toInt = 0 by decide), (by omega), cy0_34, ((by exfalso; omega)), I_34, fr_34⟩
      · refine g_aload_n X 1 rfl dX4_perform_41 ?_
        refine g_geti X f_X4_34 dX4_perform_42 (x := M_34.1 33 9) rfl ?_
        have bq30 := ig_33_9 I_34
        refine g_aload_n X 1 rfl dX4_perform_45 ?_
        refine g_getr X f_X4_51 dX4_perform_46 ?_
        refine g_getr X f_X4_60 dX4_perform_49 ?_
        refine g_aload_n X 1 rfl dX4_perform_52 ?_
        refine g_geti X f_X4_31 dX4_perform_53 (x := M_34.1 33 8) rfl ?_
        have bq31 := ig_33_8 I_34
        refine g_iald X la_20 rfl dX4_perform_56 (by omega) (x := M_34.1 20 (((M_34.1 33 8).toInt).toNat)) rfl ?_
        have bq32 := ig_20 I_34 (((M_34.1 33 8).toInt).toNat) (by omega)
        refine g_icmp_lt X rfl rfl (tgt := 79) dX4_perform_57 (by decide) (fun cq33 => ?_) (fun cq33 => ?_)
        · have hlt : kq < pp.2.1 xq := by omega
          refine g_aload_n X 1 rfl dX4_perform_79 ?_
          refine g_aload_n X 1 rfl dX4_perform_80 ?_
          refine g_getr X f_X4_51 dX4_perform_81 ?_
          refine g_aload_n X 1 rfl dX4_perform_84 ?_
          refine g_geti X f_X4_31 dX4_perform_85 (x := M_34.1 33 8) rfl ?_
          have bq34 := ig_33_8 I_34
          refine g_aload_n X 1 rfl dX4_perform_88 ?_
          refine g_geti X f_X4_34 dX4_perform_89 (x := M_34.1 33 9) rfl ?_
          have bq35 := ig_33_9 I_34
          refine g_callV X m_X4_72 (c_X2_sign_F ad M_34 (M_34.1 33 8) rfl (M_34.1 33 9) rfl (by omega) (by omega)) rfl (by decide) (Nat.le_of_ble_eq_true rfl) rfl dX4_perform_92 ?_
          rintro _ _ ⟨rq36, aq37, rfl, tq38, hq39, rfl⟩
          have hsi := hq39
          rw [r8, r9, m18 hlt] at hsi
          show G Γ M_34 95 [(6, .int y6_34), (0, .ref (ad 33)), (1, .int x1), (2, .long x2), (4, .long x3)] [.int rq36, .ref (ad 33)]
          refine g_callV X m_X4_76 (c_X4_takeSign_F ad M_34 rq36 tq38 I_34 hT hXM hI hR hlt hsi.symm cy0_34) rfl (by decide) (Nat.le_of_ble_eq_true rfl) rfl dX4_perform_95 ?_
          rintro _ Mq46 ⟨rq40, aq41, rfl, tq42, hq43, cyq44, hq45, Iq47, frq48⟩
          have frq49 : Fr W_X4_perform_F Mq Mq46 := fr_34.trans frq48 rfl
          have hts := hq45
          have p34 : Mq46.1 34 = Mq.1 34 := by rw [row_fr frq48 (by decide)]; exact i4
          have p33 : Mq46.1 33 3 = Mq.1 33 3 := by rw [frq48.at 33 3 rfl]; exact i5
          have p11 : Mq46.2 33 11 = x2 := by rw [frq48.atL 33 11 rfl]; exact i3
          show G Γ Mq46 98 [(6, .int y6_34), (0, .ref (ad 33)), (1, .int x1), (2, .long x2), (4, .long x3)] [.int rq40]
          refine g_if_ne X tq42 (tgt := 103) dX4_perform_98 (by decide) (fun cq50 => ?_) (fun cq50 => ?_)
          · refine g_iinc X 0 (fun v => [(6, .int v), (0, .ref (ad 33)), (1, .int x1), (2, .long x2), (4, .long x3)]) dX4_perform_103 rfl (by decide) (fun _ => rfl) (fun zq51 eq52 => ?_)
            have tq53 : zq51.toInt = b6_34 + 1 := add_nw eq52 e6_34 (show (Int32.ofInt 1).toInt = 1 by decide) (by omega)
            refine g_goto X (tgt := 34) dX4_perform_106 (by decide) ?_
            refine g_sub [0, 1, 2, 3, 4] rfl ?_
            exact ih34 zq51 _ tq53 Mq46 (by omega) (by first | exact SGC_back hT hh hcn i1.1 hN hI hR hp hend (by omega) hgb hfb | exact SGC_step hT hh hcn i1.1 hN hI hp hts (by omega)) p11 p34 p33 Iq47 frq49 cyq44 (by omega)
          · refine g_iconst X 0 dX4_perform_101 (by decide) ?_
            exact g_zret X (b01 (show (0 : Int32).toInt = 0 by decide) (by omega)) dX4_perform_102 ⟨_, _, rfl, (show (0 : Int32).toInt = 0 by decide), (by omega), cyq44, ((by have z := OKX_to (c := 0) hts (by omega); exact Or.inr ⟨rfl, SGC_fail i1.1 hN z, p34, p33⟩)), Iq47, frq49⟩
        · have hend : kq = pp.2.1 xq := by omega
          refine g_aload_n X 1 rfl dX4_perform_60 ?_
          refine g_geti X f_X4_28 dX4_perform_61 (x := M_34.1 33 7) rfl ?_
          have bq54 := ig_33_7 I_34
          refine g_if_ne X rfl (tgt := 72) dX4_perform_64 (by decide) (fun cq55 => ?_) (fun cq55 => ?_)
          · have hw1 : 1 ≤ (M_34.1 33 7).toInt := by have z := r7; omega
            refine g_aload_n X 1 rfl dX4_perform_72 ?_
            refine g_callV X m_X4_69 (c_X4_goBack_F ad M_34 I_34 (by omega)) rfl (by decide) (Nat.le_of_ble_eq_true rfl) rfl dX4_perform_73 ?_
            rintro _ Mq61 ⟨rfl, hq59, hq60, Iq62, frq63⟩
            have frq64 : Fr W_X4_perform_F Mq Mq61 := fr_34.trans frq63 rfl
            have cyq65 : 0 ≤ (Mq61.2 33 12).toInt := num_fr cy0_34 frq63 rfl
            have hgb := hq60
            have hfb := frq63
            have p34 : Mq61.1 34 = Mq.1 34 := by rw [row_fr frq63 (by decide)]; exact i4
            have p33 : Mq61.1 33 3 = Mq.1 33 3 := by rw [frq63.at 33 3 rfl]; exact i5
            have p11 : Mq61.2 33 11 = x2 := by rw [frq63.atL 33 11 rfl]; exact i3
            show G Γ Mq61 76 [(6, .int y6_34), (0, .ref (ad 33)), (1, .int x1), (2, .long x2), (4, .long x3)] []
            refine g_goto X (tgt := 103) dX4_perform_76 (by decide) ?_
            refine g_iinc X 0 (fun v => [(6, .int v), (0, .ref (ad 33)), (1, .int x1), (2, .long x2), (4, .long x3)]) dX4_perform_103 rfl (by decide) (fun _ => rfl) (fun zq66 eq67 => ?_)
            have tq68 : zq66.toInt = b6_34 + 1 := add_nw eq67 e6_34 (show (Int32.ofInt 1).toInt = 1 by decide) (by omega)
            refine g_goto X (tgt := 34) dX4_perform_106 (by decide) ?_
            refine g_sub [0, 1, 2, 3, 4] rfl ?_
            exact ih34 zq66 _ tq68 Mq61 (by omega) (by first | exact SGC_back hT hh hcn i1.1 hN hI hR hp hend (by omega) hgb hfb | exact SGC_step hT hh hcn i1.1 hN hI hp hts (by omega)) p11 p34 p33 Iq62 frq64 cyq65 (by omega)
          · refine g_aload_n X 1 rfl dX4_perform_67 ?_
            refine g_callV X m_X4_65 (c_X4_keepSong_F ad M_34 I_34) rfl (by decide) (Nat.le_of_ble_eq_true rfl) rfl dX4_perform_68 ?_
            rintro _ Mq74 ⟨rq69, aq70, rfl, tq71, hq72, hq73, Iq75, frq76⟩
            have frq77 : Fr W_X4_perform_F Mq Mq74 := fr_34.trans frq76 rfl
            have cyq78 : 0 ≤ (Mq74.2 33 12).toInt := num_fr cy0_34 frq76 rfl
            have hks := hq73
            have hka := hq72
            show G Γ Mq74 71 [(6, .int y6_34), (0, .ref (ad 33)), (1, .int x1), (2, .long x2), (4, .long x3)] [.int rq69]
            exact g_zret X (b01 tq71 (by omega)) dX4_perform_71 ⟨_, _, rfl, tq71, (by omega), cyq78, ((by rw [hka]; exact Or.inl ⟨rfl, oq, SGC_done hT i1.1 hN hI hR hend (by omega), by rw [hks.1]; exact r5, by have z := hks.2; rw [r5, show ((oq.length : Int)).toNat = oq.length by omega] at z; rw [z]; exact r35⟩)), Iq75, frq77⟩
  refine g_sub [0, 1, 2, 3, 4] rfl ?_
  exact lp34 _ 0 _ (show (0 : Int32).toInt = 0 by decide) Mq24 (by omega) (SGC_0 (y := a1.toNat) (by omega) ht hT h2 (by have z := hE.1; omega) hE.2 (by rw [hfe.at 33 7 rfl]; rfl) (by rw [hfe.atL 33 12 rfl]; exact t3) (by rw [hfe.at 33 10 rfl]; rfl) (by rw [hfe.at 33 5 rfl]; rfl)) (by rw [hfe.atL 33 11 rfl]; rfl) (by rw [row_fr hfe (by decide)]; rfl) (by rw [hfe.at 33 3 rfl]; rfl) Iq25 frq27 cyq28 (Nat.lt_succ_self _)
abbrev W_X6_sing_F : List (Nat × Nat) := [(30, 99), (33, 5), (33, 7), (33, 8), (33, 9), (33, 12), (35, 99), (36, 99), (33, 10), (33, 11), (33, 3), (34, 99)]
set_option maxHeartbeats 4000000 in
set_option maxRecDepth 4000 in
theorem c_X6_sing_F (ad : Nat → Nat) (Mq : Mem) (x1 : Int32) {a1 : Int} (t1 : x1.toInt = a1) (x2 : Int32) {a2 : Int} (t2 : x2.toInt = a2) (x3 : Int32) {a3 : Int} (t3 : x3.toInt = a3) (x4 : Int64) {a4 : Int} (t4 : x4.toInt = a4) (Iq0 : Iv TX Mq) {pp : PaT} {td : Nat → Int} (hy : ∀ k : Nat, k < 200 → 0 ≤ (Mq.1 28 k).toInt) (hT : TVp pp td) (hX : ∀ S : Int64, (∀ l : Nat, l < 64 → b64 S l = hsX Mq a2 l a3 ((Mq.1 23 7).toInt).toNat) → PX Mq pp S td) (htd : ∀ x : Nat, x < 8 → 0 < (Mq.1 20 x).toInt → 0 < td x) (hcn : ∀ s, 0 ≤ pp.2.2.2.2.1 s) (cy0 : 0 ≤ (Mq.2 33 12).toInt) : Ctr ad yX6_sing cX6_sing 7 (some .int) 6 [.ref (ad 0), .int x1, .int x2, .int x3, .long x4] Mq (fun v M' => ∃ (r : Int32) (a : Int), v = some (.int r) ∧ r.toInt = a ∧ (True) ∧ (0 ≤ (M'.2 33 12).toInt) ∧ (SNG ((0 ≤ a1 ∧ a1 < 8 ∧ 0 < (Mq.1 20 a1.toNat).toInt) ∧ (0 ≤ a2 ∧ a2 < (Mq.1 23 2).toInt)) ((0 ≤ a3 ∧ a3 ≤ 999) ∧ 0 ≤ a4) pp ([(a1.toNat, 0, [])], a4, 0, []) (Mq.1 33 3).toInt (M'.1 33 3).toInt (Mq.1 34) (M'.1 34) a) ∧ Iv TX M' ∧ Fr W_X6_sing_F Mq M') := by
  refine ctr_of (L := [(0, .ref (ad 0)), (1, .int x1), (2, .int x2), (3, .int x3), (4, .long x4)]) (by decide) (Nat.le_of_ble_eq_true rfl) rfl ?_
  intro Γ X
  have X : gX Γ cX6_sing RX6 7 (some .int) 6 ad _ := X
  have frq0 : Fr W_X6_sing_F Mq Mq := Fr.rf
  have g237 := ig_23_7 Iq0
  refine g_aload_n X 0 rfl dX6_sing_0 ?_
  refine g_getr X f_X6_19 dX6_sing_1 ?_
  refine g_iload_n X 1 rfl dX6_sing_4 ?_
  refine g_callV X m_X6_156 (c_X2_isTold ad Mq x1 t1) rfl (by decide) (Nat.le_of_ble_eq_true rfl) rfl dX6_sing_5 ?_
  rintro _ _ ⟨rq1, aq2, rfl, tq3, hq4, rfl⟩
  show G Γ Mq 8 [(0, .ref (ad 0)), (1, .int x1), (2, .int x2), (3, .int x3), (4, .long x4)] [.int rq1]
  refine g_if_eq X tq3 (tgt := 22) dX6_sing_8 (by decide) (fun cq5 => ?_) (fun cq5 => ?_)
  · have pq6 : ¬ (0 ≤ a1 ∧ a1 < 8 ∧ 0 < (Mq.1 20 a1.toNat).toInt) := by first | omega | (rcases hq4 with ⟨z1, z2⟩ | ⟨z1, z2⟩ <;> first | exact z2 | (exfalso; omega))
    refine g_iconst X (-1) dX6_sing_22 (by decide) ?_
    exact g_iret X dX6_sing_23 ⟨_, _, rfl, (show ((-1) : Int32).toInt = (-1) by decide), trivial, cy0, (Or.inl ⟨by omega, rfl, rfl, rfl⟩), Iq0, frq0⟩
  · have pq7 : (0 ≤ a1 ∧ a1 < 8 ∧ 0 < (Mq.1 20 a1.toNat).toInt) := by first | omega | (rcases hq4 with ⟨z1, z2⟩ | ⟨z1, z2⟩ <;> first | exact z2 | (exfalso; omega))
    refine g_aload_n X 0 rfl dX6_sing_11 ?_
    refine g_getr X f_X6_26 dX6_sing_12 ?_
    refine g_iload_n X 2 rfl dX6_sing_15 ?_
    refine g_callV X m_X6_159 (c_X0_isSinger ad Mq x2 t2) rfl (by decide) (Nat.le_of_ble_eq_true rfl) rfl dX6_sing_16 ?_
    rintro _ _ ⟨rq8, aq9, rfl, tq10, hq11, rfl⟩
    show G Γ Mq 19 [(0, .ref (ad 0)), (1, .int x1), (2, .int x2), (3, .int x3), (4, .long x4)] [.int rq8]
    refine g_if_ne X tq10 (tgt := 24) dX6_sing_19 (by decide) (fun cq12 => ?_) (fun cq12 => ?_)
    · have pq13 : (0 ≤ a2 ∧ a2 < ((Mq.1 23 2)).toInt) := by first | omega | (rcases hq11 with ⟨z1, z2⟩ | ⟨z1, z2⟩ <;> first | exact z2 | (exfalso; omega))
      refine g_iload_n X 3 rfl dX6_sing_24 ?_
      refine g_callS X m_X6_162 (c_X6_isYear ad Mq x3 t3) rfl (by decide) (Nat.le_of_ble_eq_true rfl) rfl dX6_sing_25 ?_
      rintro _ _ ⟨rq14, aq15, rfl, tq16, hq17, rfl⟩
      show G Γ Mq 28 [(0, .ref (ad 0)), (1, .int x1), (2, .int x2), (3, .int x3), (4, .long x4)] [.int rq14]
      refine g_if_eq X tq16 (tgt := 38) dX6_sing_28 (by decide) (fun cq18 => ?_) (fun cq18 => ?_)
      · have pq19 : ¬ (0 ≤ a3 ∧ a3 ≤ 999) := by first | omega | (rcases hq17 with ⟨z1, z2⟩ | ⟨z1, z2⟩ <;> first | exact z2 | (exfalso; omega))
        refine g_bipush X (-2) dX6_sing_38 (by decide) ?_
        exact g_iret X dX6_sing_40 ⟨_, _, rfl, (show ((-2) : Int32).toInt = (-2) by decide), trivial, cy0, (Or.inr (Or.inl ⟨by omega, by omega, rfl, rfl, rfl⟩)), Iq0, frq0⟩
      · have pq20 : (0 ≤ a3 ∧ a3 ≤ 999) := by first | omega | (rcases hq17 with ⟨z1, z2⟩ | ⟨z1, z2⟩ <;> first | exact z2 | (exfalso; omega))
        refine g_lload X 4 rfl dX6_sing_31 ?_
        refine g_lconst X 0 dX6_sing_33 (by decide) ?_
        refine g_lcmp X t4 (show (0 : Int64).toInt = 0 by decide) dX6_sing_34 (fun zq21 eq22 => ?_)
        refine g_if_ge X rfl (tgt := 41) dX6_sing_35 (by decide) (fun cq23 => ?_) (fun cq23 => ?_)
        · refine g_aload_n X 0 rfl dX6_sing_41 ?_
          refine g_getr X f_X6_35 dX6_sing_42 ?_
          refine g_iload_n X 1 rfl dX6_sing_45 ?_
          refine g_aload_n X 0 rfl dX6_sing_46 ?_
          refine g_getr X f_X6_26 dX6_sing_47 ?_
          refine g_iload_n X 2 rfl dX6_sing_50 ?_
          refine g_iload_n X 3 rfl dX6_sing_51 ?_
          refine g_iconst X (-1) dX6_sing_52 (by decide) ?_
          refine g_callV X m_X6_165 (c_X0_stockOf_E ad Mq x2 t2 x3 t3 (-1) (show ((-1) : Int32).toInt = (-1) by decide) Iq0 (by omega) hy) rfl (by decide) (Nat.le_of_ble_eq_true rfl) rfl dX6_sing_53 ?_
          rintro _ Mq28 ⟨rq24, aq25, rfl, tq26, hq27, Iq29, frq30⟩
          have frq31 : Fr W_X6_sing_F Mq Mq28 := frq0.trans frq30 rfl
          have cyq32 : 0 ≤ (Mq28.2 33 12).toInt := num_fr cy0 frq30 rfl
          have hst := hq27
          rw [upk_n (by decide)] at hst
          have hfs := frq30
          have hXs := PX_fr (hX _ hst) frq30 (by decide)
          show G Γ Mq28 56 [(0, .ref (ad 0)), (1, .int x1), (2, .int x2), (3, .int x3), (4, .long x4)] [.long rq24, .int x1, .ref (ad 33)]
          refine g_lload X 4 rfl dX6_sing_56 ?_
          refine g_callV X m_X6_169 (c_X4_perform_F ad Mq28 x1 t1 rq24 tq26 x4 t4 Iq29 (by omega) (by omega) hT hXs (htd a1.toNat (by omega) (by omega)) hcn cyq32) rfl (by decide) (Nat.le_of_ble_eq_true rfl) rfl dX6_sing_58 ?_
          rintro _ Mq39 ⟨rq33, aq34, rfl, tq35, hq36, cyq37, hq38, Iq40, frq41⟩
          have frq42 : Fr W_X6_sing_F Mq Mq39 := frq31.trans frq41 rfl
          have hpf := hq38
          have hpr := hq36
          show G Γ Mq39 61 [(0, .ref (ad 0)), (1, .int x1), (2, .int x2), (3, .int x3), (4, .long x4)] [.int rq33]
          refine g_istore X [(6, .int rq33), (0, .ref (ad 0)), (1, .int x1), (2, .int x2), (3, .int x3), (4, .long x4)] dX6_sing_61 (by decide) rfl ?_
          refine g_iload X 0 rfl dX6_sing_63 ?_
          refine g_if_eq X tq35 (tgt := 78) dX6_sing_65 (by decide) (fun cq43 => ?_) (fun cq43 => ?_)
          · refine g_bipush X (-3) dX6_sing_78 (by decide) ?_
            exact g_iret X dX6_sing_80 ⟨_, _, rfl, (show ((-3) : Int32).toInt = (-3) by decide), trivial, cyq37, ((SNG_ok (by omega) (by omega) hpf (row_fr hfs (by decide)) (hfs.at 33 3 rfl) (by omega))), Iq40, frq42⟩
          · refine g_aload_n X 1 rfl dX6_sing_68 ?_
            refine g_getr X f_X6_35 dX6_sing_69 ?_
            refine g_geti X f_X6_173 dX6_sing_72 (x := Mq39.1 33 3) rfl ?_
            have bq44 := ig_33_3 Iq40
            refine g_goto X (tgt := 80) dX6_sing_75 (by decide) ?_
            exact g_iret X dX6_sing_80 ⟨_, _, rfl, rfl, trivial, cyq37, ((SNG_ok (by omega) (by omega) hpf (row_fr hfs (by decide)) (hfs.at 33 3 rfl) (by omega))), Iq40, frq42⟩
        · refine g_bipush X (-2) dX6_sing_38 (by decide) ?_
          exact g_iret X dX6_sing_40 ⟨_, _, rfl, (show ((-2) : Int32).toInt = (-2) by decide), trivial, cy0, (Or.inr (Or.inl ⟨by omega, by omega, rfl, rfl, rfl⟩)), Iq0, frq0⟩
    · have pq45 : ¬ (0 ≤ a2 ∧ a2 < ((Mq.1 23 2)).toInt) := by first | omega | (rcases hq11 with ⟨z1, z2⟩ | ⟨z1, z2⟩ <;> first | exact z2 | (exfalso; omega))
      refine g_iconst X (-1) dX6_sing_22 (by decide) ?_
      exact g_iret X dX6_sing_23 ⟨_, _, rfl, (show ((-1) : Int32).toInt = (-1) by decide), trivial, cy0, (Or.inl ⟨by omega, rfl, rfl, rfl⟩), Iq0, frq0⟩
set_option maxHeartbeats 4000000 in
set_option maxRecDepth 4000 in
theorem c_X6_sung_F (ad : Nat → Nat) (Mq : Mem) (x1 : Int32) {a1 : Int} (t1 : x1.toInt = a1) (Iq0 : Iv TX Mq) : Ctr ad yX6_sung cX6_sung 2 (some .int) 1 [.ref (ad 0), .int x1] Mq (fun v M' => ∃ (r : Int32) (a : Int), v = some (.int r) ∧ r.toInt = a ∧ ((0 ≤ a1 ∧ a1 < (Mq.1 33 3).toInt ∧ a = (Mq.1 34 a1.toNat).toInt) ∨ (¬ (0 ≤ a1 ∧ a1 < (Mq.1 33 3).toInt) ∧ a = -1)) ∧ Mq = M') := by
  refine ctr_of (L := [(0, .ref (ad 0)), (1, .int x1)]) (by decide) (Nat.le_of_ble_eq_true rfl) rfl ?_
  intro Γ X
  have X : gX Γ cX6_sung RX6 2 (some .int) 1 ad _ := X
  have g333 := ig_33_3 Iq0
  refine g_iload_n X 1 rfl dX6_sung_0 ?_
  refine g_iconst X 0 dX6_sung_1 (by decide) ?_
  refine g_aload_n X 0 rfl dX6_sung_2 ?_
  refine g_getr X f_X6_35 dX6_sung_3 ?_
  refine g_geti X f_X6_173 dX6_sung_6 (x := Mq.1 33 3) rfl ?_
  have bq1 := ig_33_3 Iq0
  refine g_iconst X 1 dX6_sung_9 (by decide) ?_
  refine g_isub X dX6_sung_10 (fun zq2 eq3 => ?_)
  have tq4 : zq2.toInt = ((Mq.1 33 3).toInt) - 1 := sub_nw eq3 rfl (show (1 : Int32).toInt = 1 by decide) (by omega)
  refine g_callS X m_X6_61 (c_X6_inside ad Mq x1 t1 0 (show (0 : Int32).toInt = 0 by decide) zq2 tq4) rfl (by decide) (Nat.le_of_ble_eq_true rfl) rfl dX6_sung_11 ?_
  rintro _ _ ⟨rq5, aq6, rfl, tq7, hq8, rfl⟩
  show G Γ Mq 14 [(0, .ref (ad 0)), (1, .int x1)] [.int rq5]
  refine g_if_eq X tq7 (tgt := 29) dX6_sung_14 (by decide) (fun cq9 => ?_) (fun cq9 => ?_)
  · have pq10 : ¬ (0 ≤ a1 ∧ a1 ≤ (((Mq.1 33 3).toInt) - 1)) := by first | omega | (rcases hq8 with ⟨z1, z2⟩ | ⟨z1, z2⟩ <;> first | exact z2 | (exfalso; omega))
    refine g_iconst X (-1) dX6_sung_29 (by decide) ?_
    exact g_iret X dX6_sung_30 ⟨_, _, rfl, (show ((-1) : Int32).toInt = (-1) by decide), (by omega), rfl⟩
  · have pq11 : (0 ≤ a1 ∧ a1 ≤ (((Mq.1 33 3).toInt) - 1)) := by first | omega | (rcases hq8 with ⟨z1, z2⟩ | ⟨z1, z2⟩ <;> first | exact z2 | (exfalso; omega))
    refine g_aload_n X 0 rfl dX6_sung_17 ?_
    refine g_getr X f_X6_35 dX6_sung_18 ?_
    refine g_getr X f_X6_176 dX6_sung_21 ?_
    refine g_iload_n X 1 rfl dX6_sung_24 ?_
    refine g_iald X la_34 t1 dX6_sung_25 (by omega) (x := Mq.1 34 a1.toNat) rfl ?_
    refine g_goto X (tgt := 30) dX6_sung_26 (by decide) ?_
    exact g_iret X dX6_sung_30 ⟨_, _, rfl, rfl, (by omega), rfl⟩
end
