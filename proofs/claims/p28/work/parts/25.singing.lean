section
theorem num_fr {W : List (Nat × Nat)} {M M' : Mem} (h : 0 ≤ (M.2 33 12).toInt) (fr : Fr W M M') (hw : inW W 33 12 = false) : 0 ≤ (M'.2 33 12).toInt := by
  rw [fr.atL 33 12 hw]; exact h
theorem lrem_bd {x y z : Int64} {a b : Int} (e : z = x - x / y * y) (ha : x.toInt = a) (hb : y.toInt = b) (h : 0 ≤ a ∧ 0 < b) : 0 ≤ z.toInt ∧ z.toInt < b := by
  have hx := Int64.toInt_lt x
  have hy := Int64.toInt_lt y
  have e1 : x = lN a.toNat := Int64.toInt_inj.mp (by rw [pk_lT (by omega), ha]; omega)
  have e2 : y = lN b.toNat := Int64.toInt_inj.mp (by rw [pk_lT (by omega), hb]; omega)
  have h3 := Nat.mod_lt a.toNat (show 0 < b.toNat by omega)
  rw [e, e1, e2, pk_lRem (by omega) (by omega) (by omega), pk_lT (by omega)]
  omega
theorem ldiv_bd {x y z : Int64} {a b : Int} (e : z = x / y) (ha : x.toInt = a) (hb : y.toInt = b) (h : 0 ≤ a ∧ 0 < b) : 0 ≤ z.toInt ∧ z.toInt ≤ a := by
  have hx := Int64.toInt_lt x
  have hy := Int64.toInt_lt y
  have e1 : x = lN a.toNat := Int64.toInt_inj.mp (by rw [pk_lT (by omega), ha]; omega)
  have e2 : y = lN b.toNat := Int64.toInt_inj.mp (by rw [pk_lT (by omega), hb]; omega)
  have h3 := Nat.div_le_self a.toNat b.toNat
  rw [e, e1, e2, pk_lDiv (by omega) (by omega) (by omega)]
  generalize a.toNat / b.toNat = q at h3 ⊢
  rw [pk_lT (by omega)]
  omega
abbrev W_X4_choose : List (Nat × Nat) := [(33, 12)]
set_option maxHeartbeats 4000000 in
set_option maxRecDepth 4000 in
theorem c_X4_choose (ad : Nat → Nat) (Mq : Mem) (x1 : Int32) {a1 : Int} (t1 : x1.toInt = a1) (Iq0 : Iv TX Mq) (cy0 : 0 ≤ (Mq.2 33 12).toInt) : Ctr ad yX4_choose cX4_choose 3 (some .int) 0 [.ref (ad 33), .int x1] Mq (fun v M' => ∃ (r : Int32) (a : Int), v = some (.int r) ∧ r.toInt = a ∧ (0 ≤ a ∧ (a < a1 ∨ a = 0)) ∧ (0 ≤ (M'.2 33 12).toInt) ∧ Iv TX M' ∧ Fr W_X4_choose Mq M') := by
  refine ctr_of (L := [(0, .ref (ad 33)), (1, .int x1)]) (by decide) (Nat.le_of_ble_eq_true rfl) rfl ?_
  intro Γ X
  have X : gX Γ cX4_choose RX4 3 (some .int) 0 ad _ := X
  have frq0 : Fr W_X4_choose Mq Mq := Fr.rf
  refine g_iload_n X 1 rfl dX4_choose_0 ?_
  refine g_iconst X 1 dX4_choose_1 (by decide) ?_
  refine g_icmp_ge X t1 (show (1 : Int32).toInt = 1 by decide) (tgt := 7) dX4_choose_2 (by decide) (fun cq1 => ?_) (fun cq1 => ?_)
  · refine g_aload_n X 0 rfl dX4_choose_7 ?_
    refine g_getl X f_X4_44 dX4_choose_8 (x := Mq.2 33 12) rfl ?_
    refine g_iload_n X 1 rfl dX4_choose_11 ?_
    refine g_i2l X dX4_choose_12 (fun zq2 eq3 => ?_)
    have tq4 : zq2.toInt = a1 := i2l_nw eq3 t1
    refine g_lrem X dX4_choose_13 (ne0L tq4 (by omega)) (fun zq5 eq6 => ?_)
    have hb1 := lrem_bd eq6 rfl tq4 (by omega)
    refine g_l2i X dX4_choose_14 (fun zq7 eq8 => ?_)
    have hb2 : zq7.toInt = zq5.toInt := l2i_nw eq8 rfl (by have := i_rng x1; omega)
    refine g_istore_n X (i := 2) [(2, .int zq7), (0, .ref (ad 33)), (1, .int x1)] dX4_choose_15 rfl (by decide) rfl ?_
    refine g_aload_n X 1 rfl dX4_choose_16 ?_
    refine g_dup X dX4_choose_17 rfl ?_
    refine g_getl X f_X4_44 dX4_choose_18 (x := Mq.2 33 12) rfl ?_
    refine g_iload_n X 2 rfl dX4_choose_21 ?_
    refine g_i2l X dX4_choose_22 (fun zq9 eq10 => ?_)
    have tq11 : zq9.toInt = a1 := i2l_nw eq10 t1
    refine g_ldiv X dX4_choose_23 (ne0L tq11 (by omega)) (fun zq12 eq13 => ?_)
    have hb3 := ldiv_bd eq13 rfl tq11 (by omega)
    refine g_putl X p_X4_44 dX4_choose_24 ?_
    have Iq14 : Iv TX (ul Mq 33 12 zq12) := Iq0.long
    have frq15 : Fr W_X4_choose Mq (ul Mq 33 12 zq12) := frq0.ul rfl
    have cyq16 : 0 ≤ ((ul Mq 33 12 zq12).2 33 12).toInt := (by rw [ul_eq]; omega)
    refine g_iload_n X 0 rfl dX4_choose_27 ?_
    exact g_iret X dX4_choose_28 ⟨_, _, rfl, rfl, (by omega), cyq16, Iq14, frq15⟩
  · refine g_iconst X 0 dX4_choose_5 (by decide) ?_
    exact g_iret X dX4_choose_6 ⟨_, _, rfl, (show (0 : Int32).toInt = 0 by decide), (by omega), cy0, Iq0, frq0⟩
abbrev W_X4_enterScene : List (Nat × Nat) := [(33, 8), (33, 9)]
set_option maxHeartbeats 4000000 in
set_option maxRecDepth 4000 in
theorem c_X4_enterScene (ad : Nat → Nat) (Mq : Mem) (x1 : Int32) {a1 : Int} (t1 : x1.toInt = a1) (Iq0 : Iv TX Mq) (h1 : 0 ≤ a1 ∧ a1 ≤ 7) : Ctr ad yX4_enterScene cX4_enterScene 2 none 0 [.ref (ad 33), .int x1] Mq (fun v M' => v = none ∧ (True) ∧ Iv TX M' ∧ Fr W_X4_enterScene Mq M') := by
  refine ctr_of (L := [(0, .ref (ad 33)), (1, .int x1)]) (by decide) (Nat.le_of_ble_eq_true rfl) rfl ?_
  intro Γ X
  have X : gX Γ cX4_enterScene RX4 2 none 0 ad _ := X
  have frq0 : Fr W_X4_enterScene Mq Mq := Fr.rf
  refine g_aload_n X 0 rfl dX4_enterScene_0 ?_
  refine g_iload_n X 1 rfl dX4_enterScene_1 ?_
  refine g_puti X p_X4_31 dX4_enterScene_2 ?_
  have Iq1 : Iv TX (ui Mq 33 8 x1) := Iq0.put 0 7 t1 (by omega) rfl
  have frq2 : Fr W_X4_enterScene Mq (ui Mq 33 8 x1) := frq0.ui rfl
  refine g_aload_n X 0 rfl dX4_enterScene_5 ?_
  refine g_iconst X 2 dX4_enterScene_6 (by decide) ?_
  refine g_puti X p_X4_34 dX4_enterScene_7 ?_
  have Iq3 : Iv TX (ui (ui Mq 33 8 x1) 33 9 2) := Iq1.put 0 60 (show (2 : Int32).toInt = 2 by decide) (by omega) rfl
  have frq4 : Fr W_X4_enterScene Mq (ui (ui Mq 33 8 x1) 33 9 2) := frq2.ui rfl
  exact g_vret X dX4_enterScene_10 ⟨rfl, trivial, Iq3, frq4⟩
abbrev W_X4_goBack : List (Nat × Nat) := [(33, 7), (33, 8), (33, 9)]
set_option maxHeartbeats 4000000 in
set_option maxRecDepth 4000 in
theorem c_X4_goBack (ad : Nat → Nat) (Mq : Mem) (Iq0 : Iv TX Mq) (h1 : 1 ≤ (Mq.1 33 7).toInt) : Ctr ad yX4_goBack cX4_goBack 1 none 0 [.ref (ad 33)] Mq (fun v M' => v = none ∧ (True) ∧ Iv TX M' ∧ Fr W_X4_goBack Mq M') := by
  refine ctr_of (L := [(0, .ref (ad 33))]) (by decide) (Nat.le_of_ble_eq_true rfl) rfl ?_
  intro Γ X
  have X : gX Γ cX4_goBack RX4 1 none 0 ad _ := X
  have frq0 : Fr W_X4_goBack Mq Mq := Fr.rf
  refine g_aload_n X 0 rfl dX4_goBack_0 ?_
  refine g_dup X dX4_goBack_1 rfl ?_
  refine g_geti X f_X4_28 dX4_goBack_2 (x := Mq.1 33 7) rfl ?_
  have bq1 := ig_33_7 Iq0
  refine g_iconst X 1 dX4_goBack_5 (by decide) ?_
  refine g_isub X dX4_goBack_6 (fun zq2 eq3 => ?_)
  have tq4 : zq2.toInt = ((Mq.1 33 7).toInt) - 1 := sub_nw eq3 rfl (show (1 : Int32).toInt = 1 by decide) (by omega)
  refine g_puti X p_X4_28 dX4_goBack_7 ?_
  have Iq5 : Iv TX (ui Mq 33 7 zq2) := Iq0.put 0 256 tq4 (by omega) rfl
  have frq6 : Fr W_X4_goBack Mq (ui Mq 33 7 zq2) := frq0.ui rfl
  refine g_aload_n X 0 rfl dX4_goBack_10 ?_
  refine g_aload_n X 0 rfl dX4_goBack_11 ?_
  refine g_getr X f_X4_25 dX4_goBack_12 ?_
  refine g_aload_n X 0 rfl dX4_goBack_15 ?_
  refine g_geti X f_X4_28 dX4_goBack_16 (x := zq2) rfl ?_
  refine g_iald X la_36 tq4 dX4_goBack_19 (by omega) (x := Mq.1 36 ((((Mq.1 33 7).toInt) - 1).toNat)) rfl ?_
  have bq7 := ig_36 Iq0 ((((Mq.1 33 7).toInt) - 1).toNat) (by omega)
  refine g_bipush X 60 dX4_goBack_20 (by decide) ?_
  refine g_idiv X dX4_goBack_22 (ne0 (show (60 : Int32).toInt = 60 by decide) (by omega)) (fun zq8 eq9 => ?_)
  have tq10 : zq8.toInt = ((Mq.1 36 ((((Mq.1 33 7).toInt) - 1).toNat)).toInt) / 60 := div_nw eq9 rfl (show (60 : Int32).toInt = 60 by decide) (by omega)
  refine g_puti X p_X4_31 dX4_goBack_23 ?_
  have Iq11 : Iv TX (ui (ui Mq 33 7 zq2) 33 8 zq8) := Iq5.put 0 7 tq10 (by omega) rfl
  have frq12 : Fr W_X4_goBack Mq (ui (ui Mq 33 7 zq2) 33 8 zq8) := frq6.ui rfl
  refine g_aload_n X 0 rfl dX4_goBack_26 ?_
  refine g_aload_n X 0 rfl dX4_goBack_27 ?_
  refine g_getr X f_X4_25 dX4_goBack_28 ?_
  refine g_aload_n X 0 rfl dX4_goBack_31 ?_
  refine g_geti X f_X4_28 dX4_goBack_32 (x := zq2) rfl ?_
  refine g_iald X la_36 tq4 dX4_goBack_35 (by omega) (x := Mq.1 36 ((((Mq.1 33 7).toInt) - 1).toNat)) rfl ?_
  have bq13 := ig_36 Iq0 ((((Mq.1 33 7).toInt) - 1).toNat) (by omega)
  refine g_bipush X 60 dX4_goBack_36 (by decide) ?_
  refine g_irem X dX4_goBack_38 (ne0 (show (60 : Int32).toInt = 60 by decide) (by omega)) (fun zq14 eq15 => ?_)
  have tq16 : zq14.toInt = ((Mq.1 36 ((((Mq.1 33 7).toInt) - 1).toNat)).toInt) % 60 := rem_nw eq15 rfl (show (60 : Int32).toInt = 60 by decide) (by omega)
  refine g_iconst X 1 dX4_goBack_39 (by decide) ?_
  refine g_iadd X dX4_goBack_40 (fun zq17 eq18 => ?_)
  have tq19 : zq17.toInt = (((Mq.1 36 ((((Mq.1 33 7).toInt) - 1).toNat)).toInt) % 60) + 1 := add_nw eq18 tq16 (show (1 : Int32).toInt = 1 by decide) (by omega)
  refine g_puti X p_X4_34 dX4_goBack_41 ?_
  have Iq20 : Iv TX (ui (ui (ui Mq 33 7 zq2) 33 8 zq8) 33 9 zq17) := Iq11.put 0 60 tq19 (by omega) rfl
  have frq21 : Fr W_X4_goBack Mq (ui (ui (ui Mq 33 7 zq2) 33 8 zq8) 33 9 zq17) := frq12.ui rfl
  exact g_vret X dX4_goBack_44 ⟨rfl, trivial, Iq20, frq21⟩
abbrev W_X4_await : List (Nat × Nat) := [(33, 7), (36, 99)]
set_option maxHeartbeats 4000000 in
set_option maxRecDepth 4000 in
theorem c_X4_await (ad : Nat → Nat) (Mq : Mem) (x1 : Int32) {a1 : Int} (t1 : x1.toInt = a1) (Iq0 : Iv TX Mq) (h1 : 0 ≤ a1 ∧ a1 ≤ 479) : Ctr ad yX4_await cX4_await 2 (some .boolean) 0 [.ref (ad 33), .int x1] Mq (fun v M' => ∃ (r : Int32) (a : Int), v = some (.int r) ∧ r.toInt = a ∧ (a = 0 ∨ a = 1) ∧ Iv TX M' ∧ Fr W_X4_await Mq M') := by
  refine ctr_of (L := [(0, .ref (ad 33)), (1, .int x1)]) (by decide) (Nat.le_of_ble_eq_true rfl) rfl ?_
  intro Γ X
  have X : gX Γ cX4_await RX4 2 (some .boolean) 0 ad _ := X
  have frq0 : Fr W_X4_await Mq Mq := Fr.rf
  refine g_aload_n X 0 rfl dX4_await_0 ?_
  refine g_geti X f_X4_28 dX4_await_1 (x := Mq.1 33 7) rfl ?_
  have bq1 := ig_33_7 Iq0
  refine g_sipush X 256 dX4_await_4 (by decide) ?_
  refine g_icmp_lt X rfl (show (256 : Int32).toInt = 256 by decide) (tgt := 12) dX4_await_7 (by decide) (fun cq2 => ?_) (fun cq2 => ?_)
  · refine g_aload_n X 0 rfl dX4_await_12 ?_
    refine g_getr X f_X4_25 dX4_await_13 ?_
    refine g_aload_n X 0 rfl dX4_await_16 ?_
    refine g_geti X f_X4_28 dX4_await_17 (x := Mq.1 33 7) rfl ?_
    have bq3 := ig_33_7 Iq0
    refine g_iload_n X 1 rfl dX4_await_20 ?_
    refine g_iast X la_36 rfl dX4_await_21 (by omega) ?_
    have Iq4 : Iv TX (ui Mq 36 (((Mq.1 33 7).toInt).toNat) x1) := Iq0.putA 0 479 t1 (by omega) rfl
    have frq5 : Fr W_X4_await Mq (ui Mq 36 (((Mq.1 33 7).toInt).toNat) x1) := frq0.ui rfl
    refine g_aload_n X 0 rfl dX4_await_22 ?_
    refine g_dup X dX4_await_23 rfl ?_
    refine g_geti X f_X4_28 dX4_await_24 (x := Mq.1 33 7) rfl ?_
    have bq6 := ig_33_7 Iq0
    refine g_iconst X 1 dX4_await_27 (by decide) ?_
    refine g_iadd X dX4_await_28 (fun zq7 eq8 => ?_)
    have tq9 : zq7.toInt = ((Mq.1 33 7).toInt) + 1 := add_nw eq8 rfl (show (1 : Int32).toInt = 1 by decide) (by omega)
    refine g_puti X p_X4_28 dX4_await_29 ?_
    have Iq10 : Iv TX (ui (ui Mq 36 (((Mq.1 33 7).toInt).toNat) x1) 33 7 zq7) := Iq4.put 0 256 tq9 (by omega) rfl
    have frq11 : Fr W_X4_await Mq (ui (ui Mq 36 (((Mq.1 33 7).toInt).toNat) x1) 33 7 zq7) := frq5.ui rfl
    refine g_iconst X 1 dX4_await_32 (by decide) ?_
    exact g_zret X (b01 (show (1 : Int32).toInt = 1 by decide) (by omega)) dX4_await_33 ⟨_, _, rfl, (show (1 : Int32).toInt = 1 by decide), (by omega), Iq10, frq11⟩
  · refine g_iconst X 0 dX4_await_10 (by decide) ?_
    exact g_zret X (b01 (show (0 : Int32).toInt = 0 by decide) (by omega)) dX4_await_11 ⟨_, _, rfl, (show (0 : Int32).toInt = 0 by decide), (by omega), Iq0, frq0⟩
abbrev W_X4_keepSong : List (Nat × Nat) := [(33, 3), (34, 99)]
set_option maxHeartbeats 4000000 in
set_option maxRecDepth 4000 in
theorem c_X4_keepSong (ad : Nat → Nat) (Mq : Mem) (Iq0 : Iv TX Mq) : Ctr ad yX4_keepSong cX4_keepSong 1 (some .boolean) 1 [.ref (ad 33)] Mq (fun v M' => ∃ (r : Int32) (a : Int), v = some (.int r) ∧ r.toInt = a ∧ (a = 0 ∨ a = 1) ∧ Iv TX M' ∧ Fr W_X4_keepSong Mq M') := by
  refine ctr_of (L := [(0, .ref (ad 33))]) (by decide) (Nat.le_of_ble_eq_true rfl) rfl ?_
  intro Γ X
  have X : gX Γ cX4_keepSong RX4 1 (some .boolean) 1 ad _ := X
  have frq0 : Fr W_X4_keepSong Mq Mq := Fr.rf
  have hD := ig_33_5 Iq0
  refine g_aload_n X 0 rfl dX4_keepSong_0 ?_
  refine g_getr X f_X4_19 dX4_keepSong_1 ?_
  refine g_iconst X 0 dX4_keepSong_4 (by decide) ?_
  refine g_aload_n X 0 rfl dX4_keepSong_5 ?_
  refine g_getr X f_X4_9 dX4_keepSong_6 ?_
  refine g_iconst X 0 dX4_keepSong_9 (by decide) ?_
  refine g_aload_n X 0 rfl dX4_keepSong_10 ?_
  refine g_geti X f_X4_22 dX4_keepSong_11 (x := Mq.1 33 5) rfl ?_
  have bq1 := ig_33_5 Iq0
  refine g_copy X (show (0 : Int32).toInt = 0 by decide) (show (0 : Int32).toInt = 0 by decide) rfl la_35 la_34 cp_X4_80 cp_ok.1 cp_ok.2.1 cp_ok.2.2 (by decide) (Nat.le_of_ble_eq_true rfl) (by omega) dX4_keepSong_14 ?_
  have Iq2 : Iv TX (uc Mq 35 0 34 0 (((Mq.1 33 5).toInt).toNat)) := Iq0.copyO rfl
  have frq3 : Fr W_X4_keepSong Mq (uc Mq 35 0 34 0 (((Mq.1 33 5).toInt).toNat)) := frq0.uc rfl
  refine g_aload_n X 0 rfl dX4_keepSong_17 ?_
  refine g_aload_n X 0 rfl dX4_keepSong_18 ?_
  refine g_geti X f_X4_22 dX4_keepSong_19 (x := Mq.1 33 5) rfl ?_
  have bq4 := ig_33_5 Iq0
  refine g_puti X p_X4_15 dX4_keepSong_22 ?_
  have Iq5 : Iv TX (ui (uc Mq 35 0 34 0 (((Mq.1 33 5).toInt).toNat)) 33 3 (Mq.1 33 5)) := Iq2.put 0 40 rfl (by omega) rfl
  have frq6 : Fr W_X4_keepSong Mq (ui (uc Mq 35 0 34 0 (((Mq.1 33 5).toInt).toNat)) 33 3 (Mq.1 33 5)) := frq3.ui rfl
  refine g_iconst X 1 dX4_keepSong_25 (by decide) ?_
  exact g_zret X (b01 (show (1 : Int32).toInt = 1 by decide) (by omega)) dX4_keepSong_26 ⟨_, _, rfl, (show (1 : Int32).toInt = 1 by decide), (by omega), Iq5, frq6⟩
abbrev W_X4_again : List (Nat × Nat) := [(33, 7), (33, 9), (36, 99)]
set_option maxHeartbeats 4000000 in
set_option maxRecDepth 4000 in
theorem c_X4_again (ad : Nat → Nat) (Mq : Mem) (Iq0 : Iv TX Mq) (h9 : (Mq.1 33 9).toInt ≤ 59) : Ctr ad yX4_again cX4_again 1 (some .boolean) 1 [.ref (ad 33)] Mq (fun v M' => ∃ (r : Int32) (a : Int), v = some (.int r) ∧ r.toInt = a ∧ (a = 0 ∨ a = 1) ∧ Iv TX M' ∧ Fr W_X4_again Mq M') := by
  refine ctr_of (L := [(0, .ref (ad 33))]) (by decide) (Nat.le_of_ble_eq_true rfl) rfl ?_
  intro Γ X
  have X : gX Γ cX4_again RX4 1 (some .boolean) 1 ad _ := X
  have frq0 : Fr W_X4_again Mq Mq := Fr.rf
  refine g_aload_n X 0 rfl dX4_again_0 ?_
  refine g_geti X f_X4_28 dX4_again_1 (x := Mq.1 33 7) rfl ?_
  have bq1 := ig_33_7 Iq0
  refine g_if_ne X rfl (tgt := 9) dX4_again_4 (by decide) (fun cq2 => ?_) (fun cq2 => ?_)
  · refine g_aload_n X 0 rfl dX4_again_9 ?_
    refine g_getr X f_X4_25 dX4_again_10 ?_
    refine g_aload_n X 0 rfl dX4_again_13 ?_
    refine g_geti X f_X4_28 dX4_again_14 (x := Mq.1 33 7) rfl ?_
    have bq3 := ig_33_7 Iq0
    refine g_iconst X 1 dX4_again_17 (by decide) ?_
    refine g_isub X dX4_again_18 (fun zq4 eq5 => ?_)
    have tq6 : zq4.toInt = ((Mq.1 33 7).toInt) - 1 := sub_nw eq5 rfl (show (1 : Int32).toInt = 1 by decide) (by omega)
    refine g_iald X la_36 tq6 dX4_again_19 (by omega) (x := Mq.1 36 ((((Mq.1 33 7).toInt) - 1).toNat)) rfl ?_
    have bq7 := ig_36 Iq0 ((((Mq.1 33 7).toInt) - 1).toNat) (by omega)
    refine g_if_le X rfl (tgt := 62) dX4_again_20 (by decide) (fun cq8 => ?_) (fun cq8 => ?_)
    · refine g_aload_n X 0 rfl dX4_again_62 ?_
      refine g_dup X dX4_again_63 rfl ?_
      refine g_geti X f_X4_28 dX4_again_64 (x := Mq.1 33 7) rfl ?_
      have bq9 := ig_33_7 Iq0
      refine g_iconst X 1 dX4_again_67 (by decide) ?_
      refine g_isub X dX4_again_68 (fun zq10 eq11 => ?_)
      have tq12 : zq10.toInt = ((Mq.1 33 7).toInt) - 1 := sub_nw eq11 rfl (show (1 : Int32).toInt = 1 by decide) (by omega)
      refine g_puti X p_X4_28 dX4_again_69 ?_
      have Iq13 : Iv TX (ui Mq 33 7 zq10) := Iq0.put 0 256 tq12 (by omega) rfl
      have frq14 : Fr W_X4_again Mq (ui Mq 33 7 zq10) := frq0.ui rfl
      refine g_aload_n X 0 rfl dX4_again_72 ?_
      refine g_dup X dX4_again_73 rfl ?_
      refine g_geti X f_X4_34 dX4_again_74 (x := Mq.1 33 9) rfl ?_
      have bq15 := ig_33_9 Iq0
      refine g_iconst X 1 dX4_again_77 (by decide) ?_
      refine g_iadd X dX4_again_78 (fun zq16 eq17 => ?_)
      have tq18 : zq16.toInt = ((Mq.1 33 9).toInt) + 1 := add_nw eq17 rfl (show (1 : Int32).toInt = 1 by decide) (by omega)
      refine g_puti X p_X4_34 dX4_again_79 ?_
      have Iq19 : Iv TX (ui (ui Mq 33 7 zq10) 33 9 zq16) := Iq13.put 0 60 tq18 (by omega) rfl
      have frq20 : Fr W_X4_again Mq (ui (ui Mq 33 7 zq10) 33 9 zq16) := frq14.ui rfl
      refine g_iconst X 1 dX4_again_82 (by decide) ?_
      exact g_zret X (b01 (show (1 : Int32).toInt = 1 by decide) (by omega)) dX4_again_83 ⟨_, _, rfl, (show (1 : Int32).toInt = 1 by decide), (by omega), Iq19, frq20⟩
    · refine g_aload_n X 0 rfl dX4_again_23 ?_
      refine g_getr X f_X4_25 dX4_again_24 ?_
      refine g_aload_n X 0 rfl dX4_again_27 ?_
      refine g_geti X f_X4_28 dX4_again_28 (x := Mq.1 33 7) rfl ?_
      have bq21 := ig_33_7 Iq0
      refine g_iconst X 1 dX4_again_31 (by decide) ?_
      refine g_isub X dX4_again_32 (fun zq22 eq23 => ?_)
      have tq24 : zq22.toInt = ((Mq.1 33 7).toInt) - 1 := sub_nw eq23 rfl (show (1 : Int32).toInt = 1 by decide) (by omega)
      refine g_dup2 X dX4_again_33 rfl rfl ?_
      refine g_iald X la_36 tq24 dX4_again_34 (by omega) (x := Mq.1 36 ((((Mq.1 33 7).toInt) - 1).toNat)) rfl ?_
      have bq25 := ig_36 Iq0 ((((Mq.1 33 7).toInt) - 1).toNat) (by omega)
      refine g_iconst X 1 dX4_again_35 (by decide) ?_
      refine g_isub X dX4_again_36 (fun zq26 eq27 => ?_)
      have tq28 : zq26.toInt = ((Mq.1 36 ((((Mq.1 33 7).toInt) - 1).toNat)).toInt) - 1 := sub_nw eq27 rfl (show (1 : Int32).toInt = 1 by decide) (by omega)
      refine g_iast X la_36 tq24 dX4_again_37 (by omega) ?_
      have Iq29 : Iv TX (ui Mq 36 ((((Mq.1 33 7).toInt) - 1).toNat) zq26) := Iq0.putA 0 479 tq28 (by omega) rfl
      have frq30 : Fr W_X4_again Mq (ui Mq 36 ((((Mq.1 33 7).toInt) - 1).toNat) zq26) := frq0.ui rfl
      refine g_aload_n X 0 rfl dX4_again_38 ?_
      refine g_aload_n X 0 rfl dX4_again_39 ?_
      refine g_getr X f_X4_51 dX4_again_40 ?_
      refine g_aload_n X 0 rfl dX4_again_43 ?_
      refine g_geti X f_X4_31 dX4_again_44 (x := Mq.1 33 8) rfl ?_
      have bq31 := ig_33_8 Iq0
      refine g_aload_n X 0 rfl dX4_again_47 ?_
      refine g_geti X f_X4_34 dX4_again_48 (x := Mq.1 33 9) rfl ?_
      have bq32 := ig_33_9 Iq0
      refine g_callV X m_X4_86 (c_X2_mateOf ad (ui Mq 36 ((((Mq.1 33 7).toInt) - 1).toNat) zq26) (Mq.1 33 8) rfl (Mq.1 33 9) rfl Iq29 (by omega) (by omega)) rfl (by decide) (Nat.le_of_ble_eq_true rfl) rfl dX4_again_51 ?_
      rintro _ _ ⟨rq33, aq34, rfl, tq35, hq36, rfl⟩
      show G Γ (ui Mq 36 ((((Mq.1 33 7).toInt) - 1).toNat) zq26) 54 [(0, .ref (ad 33))] [.int rq33, .ref (ad 33)]
      refine g_iconst X 1 dX4_again_54 (by decide) ?_
      refine g_iadd X dX4_again_55 (fun zq37 eq38 => ?_)
      have tq39 : zq37.toInt = aq34 + 1 := add_nw eq38 tq35 (show (1 : Int32).toInt = 1 by decide) (by omega)
      refine g_puti X p_X4_34 dX4_again_56 ?_
      have Iq40 : Iv TX (ui (ui Mq 36 ((((Mq.1 33 7).toInt) - 1).toNat) zq26) 33 9 zq37) := Iq29.put 0 60 tq39 (by omega) rfl
      have frq41 : Fr W_X4_again Mq (ui (ui Mq 36 ((((Mq.1 33 7).toInt) - 1).toNat) zq26) 33 9 zq37) := frq30.ui rfl
      refine g_goto X (tgt := 82) dX4_again_59 (by decide) ?_
      refine g_iconst X 1 dX4_again_82 (by decide) ?_
      exact g_zret X (b01 (show (1 : Int32).toInt = 1 by decide) (by omega)) dX4_again_83 ⟨_, _, rfl, (show (1 : Int32).toInt = 1 by decide), (by omega), Iq40, frq41⟩
  · refine g_iconst X 0 dX4_again_7 (by decide) ?_
    exact g_zret X (b01 (show (0 : Int32).toInt = 0 by decide) (by omega)) dX4_again_8 ⟨_, _, rfl, (show (0 : Int32).toInt = 0 by decide), (by omega), Iq0, frq0⟩
abbrev W_X4_singLine : List (Nat × Nat) := [(33, 5), (33, 9), (33, 12), (35, 99)]
set_option maxHeartbeats 4000000 in
set_option maxRecDepth 4000 in
theorem c_X4_singLine (ad : Nat → Nat) (Mq : Mem) (x1 : Int32) {a1 : Int} (t1 : x1.toInt = a1) (Iq0 : Iv TX Mq) (h1 : 0 ≤ a1 ∧ a1 ≤ 7) (h9 : (Mq.1 33 9).toInt ≤ 59) (cy0 : 0 ≤ (Mq.2 33 12).toInt) : Ctr ad yX4_singLine cX4_singLine 4 (some .boolean) 2 [.ref (ad 33), .int x1] Mq (fun v M' => ∃ (r : Int32) (a : Int), v = some (.int r) ∧ r.toInt = a ∧ (a = 0 ∨ a = 1) ∧ (0 ≤ (M'.2 33 12).toInt) ∧ Iv TX M' ∧ Fr W_X4_singLine Mq M') := by
  refine ctr_of (L := [(0, .ref (ad 33)), (1, .int x1)]) (by decide) (Nat.le_of_ble_eq_true rfl) rfl ?_
  intro Γ X
  have X : gX Γ cX4_singLine RX4 4 (some .boolean) 2 ad _ := X
  have frq0 : Fr W_X4_singLine Mq Mq := Fr.rf
  refine g_aload_n X 0 rfl dX4_singLine_0 ?_
  refine g_getl X f_X4_40 dX4_singLine_1 (x := Mq.2 33 11) rfl ?_
  refine g_aload_n X 0 rfl dX4_singLine_4 ?_
  refine g_getr X f_X4_47 dX4_singLine_5 ?_
  refine g_getr X f_X4_114 dX4_singLine_8 ?_
  refine g_iload_n X 1 rfl dX4_singLine_11 ?_
  refine g_lald X la_11 t1 dX4_singLine_12 (by omega) (x := Mq.2 11 a1.toNat) rfl ?_
  refine g_land X dX4_singLine_13 (fun zq1 eq2 => ?_)
  refine g_lstore_n X (i := 2) [(2, .long zq1), (0, .ref (ad 33)), (1, .int x1)] dX4_singLine_14 rfl (by decide) rfl ?_
  refine g_lload_n X 0 rfl dX4_singLine_15 ?_
  refine g_lconst X 0 dX4_singLine_16 (by decide) ?_
  refine g_lcmp X rfl (show (0 : Int64).toInt = 0 by decide) dX4_singLine_17 (fun zq3 eq4 => ?_)
  refine g_if_eq X rfl (tgt := 30) dX4_singLine_18 (by decide) (fun cq5 => ?_) (fun cq5 => ?_)
  · refine g_iconst X 0 dX4_singLine_30 (by decide) ?_
    exact g_zret X (b01 (show (0 : Int32).toInt = 0 by decide) (by omega)) dX4_singLine_31 ⟨_, _, rfl, (show (0 : Int32).toInt = 0 by decide), (by omega), cy0, Iq0, frq0⟩
  · refine g_aload_n X 1 rfl dX4_singLine_21 ?_
    refine g_geti X f_X4_22 dX4_singLine_22 (x := Mq.1 33 5) rfl ?_
    have bq6 := ig_33_5 Iq0
    refine g_bipush X 40 dX4_singLine_25 (by decide) ?_
    refine g_icmp_lt X rfl (show (40 : Int32).toInt = 40 by decide) (tgt := 32) dX4_singLine_27 (by decide) (fun cq7 => ?_) (fun cq7 => ?_)
    · refine g_aload_n X 1 rfl dX4_singLine_32 ?_
      refine g_getr X f_X4_19 dX4_singLine_33 ?_
      refine g_aload_n X 1 rfl dX4_singLine_36 ?_
      refine g_geti X f_X4_22 dX4_singLine_37 (x := Mq.1 33 5) rfl ?_
      have bq8 := ig_33_5 Iq0
      refine g_lload_n X 0 rfl dX4_singLine_40 ?_
      refine g_aload_n X 1 rfl dX4_singLine_41 ?_
      refine g_lload_n X 0 rfl dX4_singLine_42 ?_
      refine g_callS X m_X4_120 (c_J13_bitCount_95d88 ad Mq zq1 rfl) rfl (by decide) (Nat.le_of_ble_eq_true rfl) rfl dX4_singLine_43 ?_
      rintro _ _ ⟨rq9, aq10, rfl, tq11, hq12, rfl⟩
      show G Γ Mq 46 [(2, .long zq1), (0, .ref (ad 33)), (1, .int x1)] [.int rq9, .ref (ad 33), .long zq1, .int (Mq.1 33 5), .ref (ad 35)]
      refine g_callV X m_X4_110 (c_X4_choose ad Mq rq9 tq11 Iq0 cy0) rfl (by decide) (Nat.le_of_ble_eq_true rfl) rfl dX4_singLine_46 ?_
      rintro _ Mq18 ⟨rq13, aq14, rfl, tq15, hq16, cyq17, Iq19, frq20⟩
      have frq21 : Fr W_X4_singLine Mq Mq18 := frq0.trans frq20 rfl
      have q33_5 : (Mq18.1 33 5).toInt = (Mq.1 33 5).toInt := congrArg Int32.toInt (frq20.at 33 5 rfl)
      have q33_9 : (Mq18.1 33 9).toInt = (Mq.1 33 9).toInt := congrArg Int32.toInt (frq20.at 33 9 rfl)
      show G Γ Mq18 49 [(2, .long zq1), (0, .ref (ad 33)), (1, .int x1)] [.int rq13, .long zq1, .int (Mq.1 33 5), .ref (ad 35)]
      refine g_callS X m_X4_126 (c_X6_pick ad Mq18 zq1 rfl rq13 tq15) rfl (by decide) (Nat.le_of_ble_eq_true rfl) rfl dX4_singLine_49 ?_
      rintro _ _ ⟨rq22, aq23, rfl, tq24, hq25, rfl⟩
      show G Γ Mq18 52 [(2, .long zq1), (0, .ref (ad 33)), (1, .int x1)] [.int rq22, .int (Mq.1 33 5), .ref (ad 35)]
      refine g_iast X la_35 rfl dX4_singLine_52 (by omega) ?_
      have Iq26 : Iv TX (ui Mq18 35 (((Mq.1 33 5).toInt).toNat) rq22) := Iq19.otherA rfl
      have frq27 : Fr W_X4_singLine Mq (ui Mq18 35 (((Mq.1 33 5).toInt).toNat) rq22) := frq21.ui rfl
      have cyq28 : 0 ≤ ((ui Mq18 35 (((Mq.1 33 5).toInt).toNat) rq22).2 33 12).toInt := num_fr cyq17 (Fr.ui (W := [(35, 99)]) Fr.rf rfl) rfl
      refine g_aload_n X 1 rfl dX4_singLine_53 ?_
      refine g_dup X dX4_singLine_54 rfl ?_
      refine g_geti X f_X4_22 dX4_singLine_55 (x := Mq18.1 33 5) rfl ?_
      have bq29 := ig_33_5 Iq19
      refine g_iconst X 1 dX4_singLine_58 (by decide) ?_
      refine g_iadd X dX4_singLine_59 (fun zq30 eq31 => ?_)
      have tq32 : zq30.toInt = ((Mq18.1 33 5).toInt) + 1 := add_nw eq31 rfl (show (1 : Int32).toInt = 1 by decide) (by omega)
      refine g_puti X p_X4_22 dX4_singLine_60 ?_
      have Iq33 : Iv TX (ui (ui Mq18 35 (((Mq.1 33 5).toInt).toNat) rq22) 33 5 zq30) := Iq26.put 0 40 tq32 (by omega) rfl
      have frq34 : Fr W_X4_singLine Mq (ui (ui Mq18 35 (((Mq.1 33 5).toInt).toNat) rq22) 33 5 zq30) := frq27.ui rfl
      have cyq35 : 0 ≤ ((ui (ui Mq18 35 (((Mq.1 33 5).toInt).toNat) rq22) 33 5 zq30).2 33 12).toInt := num_fr cyq28 (Fr.ui (W := [(33, 5)]) Fr.rf rfl) rfl
      refine g_aload_n X 1 rfl dX4_singLine_63 ?_
      refine g_dup X dX4_singLine_64 rfl ?_
      refine g_geti X f_X4_34 dX4_singLine_65 (x := Mq18.1 33 9) rfl ?_
      have bq36 := ig_33_9 Iq19
      refine g_iconst X 1 dX4_singLine_68 (by decide) ?_
      refine g_iadd X dX4_singLine_69 (fun zq37 eq38 => ?_)
      have tq39 : zq37.toInt = ((Mq18.1 33 9).toInt) + 1 := add_nw eq38 rfl (show (1 : Int32).toInt = 1 by decide) (by omega)
      refine g_puti X p_X4_34 dX4_singLine_70 ?_
      have Iq40 : Iv TX (ui (ui (ui Mq18 35 (((Mq.1 33 5).toInt).toNat) rq22) 33 5 zq30) 33 9 zq37) := Iq33.put 0 60 tq39 (by omega) rfl
      have frq41 : Fr W_X4_singLine Mq (ui (ui (ui Mq18 35 (((Mq.1 33 5).toInt).toNat) rq22) 33 5 zq30) 33 9 zq37) := frq34.ui rfl
      have cyq42 : 0 ≤ ((ui (ui (ui Mq18 35 (((Mq.1 33 5).toInt).toNat) rq22) 33 5 zq30) 33 9 zq37).2 33 12).toInt := num_fr cyq35 (Fr.ui (W := [(33, 9)]) Fr.rf rfl) rfl
      refine g_iconst X 1 dX4_singLine_73 (by decide) ?_
      exact g_zret X (b01 (show (1 : Int32).toInt = 1 by decide) (by omega)) dX4_singLine_74 ⟨_, _, rfl, (show (1 : Int32).toInt = 1 by decide), (by omega), cyq42, Iq40, frq41⟩
    · refine g_iconst X 0 dX4_singLine_30 (by decide) ?_
      exact g_zret X (b01 (show (0 : Int32).toInt = 0 by decide) (by omega)) dX4_singLine_31 ⟨_, _, rfl, (show (0 : Int32).toInt = 0 by decide), (by omega), cy0, Iq0, frq0⟩
abbrev W_X4_takeItem : List (Nat × Nat) := [(33, 5), (33, 7), (33, 8), (33, 9), (33, 12), (35, 99), (36, 99)]
set_option maxHeartbeats 4000000 in
set_option maxRecDepth 4000 in
theorem c_X4_takeItem (ad : Nat → Nat) (Mq : Mem) (x1 : Int32) {a1 : Int} (t1 : x1.toInt = a1) (Iq0 : Iv TX Mq) (h9 : (Mq.1 33 9).toInt ≤ 59) (cy0 : 0 ≤ (Mq.2 33 12).toInt) : Ctr ad yX4_takeItem cX4_takeItem 5 (some .boolean) 3 [.ref (ad 33), .int x1] Mq (fun v M' => ∃ (r : Int32) (a : Int), v = some (.int r) ∧ r.toInt = a ∧ (a = 0 ∨ a = 1) ∧ (0 ≤ (M'.2 33 12).toInt) ∧ Iv TX M' ∧ Fr W_X4_takeItem Mq M') := by
  refine ctr_of (L := [(0, .ref (ad 33)), (1, .int x1)]) (by decide) (Nat.le_of_ble_eq_true rfl) rfl ?_
  intro Γ X
  have X : gX Γ cX4_takeItem RX4 5 (some .boolean) 3 ad _ := X
  have frq0 : Fr W_X4_takeItem Mq Mq := Fr.rf
  refine g_iload_n X 1 rfl dX4_takeItem_0 ?_
  refine g_callS X m_X4_95 (c_X6_isSlot ad Mq x1 t1) rfl (by decide) (Nat.le_of_ble_eq_true rfl) rfl dX4_takeItem_1 ?_
  rintro _ _ ⟨rq1, aq2, rfl, tq3, hq4, rfl⟩
  show G Γ Mq 4 [(0, .ref (ad 33)), (1, .int x1)] [.int rq1]
  refine g_if_eq X tq3 (tgt := 16) dX4_takeItem_4 (by decide) (fun cq5 => ?_) (fun cq5 => ?_)
  · have pq6 : ¬ (97 ≤ a1 ∧ a1 ≤ 104) := by omega
    clear hq4 cq5 tq3
    refine g_iload_n X 1 rfl dX4_takeItem_16 ?_
    refine g_callS X m_X4_101 (c_X6_isScene ad Mq x1 t1) rfl (by decide) (Nat.le_of_ble_eq_true rfl) rfl dX4_takeItem_17 ?_
    rintro _ _ ⟨rq7, aq8, rfl, tq9, hq10, rfl⟩
    show G Γ Mq 20 [(0, .ref (ad 33)), (1, .int x1)] [.int rq7]
    refine g_if_eq X tq9 (tgt := 54) dX4_takeItem_20 (by decide) (fun cq11 => ?_) (fun cq11 => ?_)
    · have pq12 : ¬ (65 ≤ a1 ∧ a1 ≤ 72) := by omega
      clear hq10 cq11 tq9
      refine g_aload_n X 0 rfl dX4_takeItem_54 ?_
      refine g_geti X f_X4_34 dX4_takeItem_55 (x := Mq.1 33 9) rfl ?_
      have bq13 := ig_33_9 Iq0
      refine g_iconst X 1 dX4_takeItem_58 (by decide) ?_
      refine g_iadd X dX4_takeItem_59 (fun zq14 eq15 => ?_)
      have tq16 : zq14.toInt = ((Mq.1 33 9).toInt) + 1 := add_nw eq15 rfl (show (1 : Int32).toInt = 1 by decide) (by omega)
      refine g_istore_n X (i := 2) [(2, .int zq14), (0, .ref (ad 33)), (1, .int x1)] dX4_takeItem_60 rfl (by decide) rfl ?_
      refine g_aload_n X 1 rfl dX4_takeItem_61 ?_
      refine g_getr X f_X4_51 dX4_takeItem_62 ?_
      refine g_aload_n X 1 rfl dX4_takeItem_65 ?_
      refine g_geti X f_X4_31 dX4_takeItem_66 (x := Mq.1 33 8) rfl ?_
      have bq17 := ig_33_8 Iq0
      refine g_aload_n X 1 rfl dX4_takeItem_69 ?_
      refine g_geti X f_X4_34 dX4_takeItem_70 (x := Mq.1 33 9) rfl ?_
      have bq18 := ig_33_9 Iq0
      refine g_callV X m_X4_86 (c_X2_mateOf ad Mq (Mq.1 33 8) rfl (Mq.1 33 9) rfl Iq0 (by omega) (by omega)) rfl (by decide) (Nat.le_of_ble_eq_true rfl) rfl dX4_takeItem_73 ?_
      rintro _ _ ⟨rq19, aq20, rfl, tq21, hq22, rfl⟩
      show G Γ Mq 76 [(2, .int zq14), (0, .ref (ad 33)), (1, .int x1)] [.int rq19]
      refine g_iconst X 1 dX4_takeItem_76 (by decide) ?_
      refine g_iadd X dX4_takeItem_77 (fun zq23 eq24 => ?_)
      have tq25 : zq23.toInt = aq20 + 1 := add_nw eq24 tq21 (show (1 : Int32).toInt = 1 by decide) (by omega)
      refine g_istore_n X (i := 3) [(3, .int zq23), (2, .int zq14), (0, .ref (ad 33)), (1, .int x1)] dX4_takeItem_78 rfl (by decide) rfl ?_
      refine g_iload_n X 3 rfl dX4_takeItem_79 ?_
      refine g_bipush X 123 dX4_takeItem_80 (by decide) ?_
      refine g_icmp_ne X t1 (show (123 : Int32).toInt = 123 by decide) (tgt := 136) dX4_takeItem_82 (by decide) (fun cq26 => ?_) (fun cq26 => ?_)
      · refine g_aload_n X 2 rfl dX4_takeItem_136 ?_
        refine g_iconst X 2 dX4_takeItem_137 (by decide) ?_
        refine g_callV X m_X4_110 (c_X4_choose ad Mq 2 (show (2 : Int32).toInt = 2 by decide) Iq0 cy0) rfl (by decide) (Nat.le_of_ble_eq_true rfl) rfl dX4_takeItem_138 ?_
        rintro _ Mq32 ⟨rq27, aq28, rfl, tq29, hq30, cyq31, Iq33, frq34⟩
        have frq35 : Fr W_X4_takeItem Mq Mq32 := frq0.trans frq34 rfl
        show G Γ Mq32 141 [(3, .int zq23), (2, .int zq14), (0, .ref (ad 33)), (1, .int x1)] [.int rq27]
        refine g_iload_n X 3 rfl dX4_takeItem_141 ?_
        refine g_bipush X 91 dX4_takeItem_142 (by decide) ?_
        refine g_icmp_ne X t1 (show (91 : Int32).toInt = 91 by decide) (tgt := 151) dX4_takeItem_144 (by decide) (fun cq36 => ?_) (fun cq36 => ?_)
        · refine g_iconst X 0 dX4_takeItem_151 (by decide) ?_
          refine g_icmp_ne X tq29 (show (0 : Int32).toInt = 0 by decide) (tgt := 159) dX4_takeItem_152 (by decide) (fun cq37 => ?_) (fun cq37 => ?_)
          · refine g_iconst X 0 dX4_takeItem_159 (by decide) ?_
            refine g_istore X [(4, .int 0), (3, .int zq23), (2, .int zq14), (0, .ref (ad 33)), (1, .int x1)] dX4_takeItem_160 (by decide) rfl ?_
            refine g_aload_n X 3 rfl dX4_takeItem_162 ?_
            refine g_iload X 0 rfl dX4_takeItem_163 ?_
            refine g_if_eq X (show (0 : Int32).toInt = 0 by decide) (tgt := 172) dX4_takeItem_165 (by decide) (fun cq38 => ?_) (fun cq38 => ?_)
            · refine g_iload_n X 1 rfl dX4_takeItem_172 ?_
              refine g_puti X p_X4_34 dX4_takeItem_173 ?_
              have Iq39 : Iv TX (ui Mq32 33 9 zq23) := Iq33.put 0 60 tq25 (by omega) rfl
              have frq40 : Fr W_X4_takeItem Mq (ui Mq32 33 9 zq23) := frq35.ui rfl
              have cyq41 : 0 ≤ ((ui Mq32 33 9 zq23).2 33 12).toInt := num_fr cyq31 (Fr.ui (W := [(33, 9)]) Fr.rf rfl) rfl
              refine g_iconst X 1 dX4_takeItem_176 (by decide) ?_
              exact g_zret X (b01 (show (1 : Int32).toInt = 1 by decide) (by omega)) dX4_takeItem_177 ⟨_, _, rfl, (show (1 : Int32).toInt = 1 by decide), (by omega), cyq41, Iq39, frq40⟩
            · refine g_iload_n X 2 rfl dX4_takeItem_168 ?_
              refine g_goto X (tgt := 173) dX4_takeItem_169 (by decide) ?_
              refine g_puti X p_X4_34 dX4_takeItem_173 ?_
              have Iq42 : Iv TX (ui Mq32 33 9 zq14) := Iq33.put 0 60 tq16 (by omega) rfl
              have frq43 : Fr W_X4_takeItem Mq (ui Mq32 33 9 zq14) := frq35.ui rfl
              have cyq44 : 0 ≤ ((ui Mq32 33 9 zq14).2 33 12).toInt := num_fr cyq31 (Fr.ui (W := [(33, 9)]) Fr.rf rfl) rfl
              refine g_iconst X 1 dX4_takeItem_176 (by decide) ?_
              exact g_zret X (b01 (show (1 : Int32).toInt = 1 by decide) (by omega)) dX4_takeItem_177 ⟨_, _, rfl, (show (1 : Int32).toInt = 1 by decide), (by omega), cyq44, Iq42, frq43⟩
          · refine g_iconst X 1 dX4_takeItem_155 (by decide) ?_
            refine g_goto X (tgt := 160) dX4_takeItem_156 (by decide) ?_
            refine g_istore X [(4, .int 1), (3, .int zq23), (2, .int zq14), (0, .ref (ad 33)), (1, .int x1)] dX4_takeItem_160 (by decide) rfl ?_
            refine g_aload_n X 3 rfl dX4_takeItem_162 ?_
            refine g_iload X 0 rfl dX4_takeItem_163 ?_
            refine g_if_eq X (show (1 : Int32).toInt = 1 by decide) (tgt := 172) dX4_takeItem_165 (by decide) (fun cq45 => ?_) (fun cq45 => ?_)
            · refine g_iload_n X 1 rfl dX4_takeItem_172 ?_
              refine g_puti X p_X4_34 dX4_takeItem_173 ?_
              have Iq46 : Iv TX (ui Mq32 33 9 zq23) := Iq33.put 0 60 tq25 (by omega) rfl
              have frq47 : Fr W_X4_takeItem Mq (ui Mq32 33 9 zq23) := frq35.ui rfl
              have cyq48 : 0 ≤ ((ui Mq32 33 9 zq23).2 33 12).toInt := num_fr cyq31 (Fr.ui (W := [(33, 9)]) Fr.rf rfl) rfl
              refine g_iconst X 1 dX4_takeItem_176 (by decide) ?_
              exact g_zret X (b01 (show (1 : Int32).toInt = 1 by decide) (by omega)) dX4_takeItem_177 ⟨_, _, rfl, (show (1 : Int32).toInt = 1 by decide), (by omega), cyq48, Iq46, frq47⟩
            · refine g_iload_n X 2 rfl dX4_takeItem_168 ?_
              refine g_goto X (tgt := 173) dX4_takeItem_169 (by decide) ?_
              refine g_puti X p_X4_34 dX4_takeItem_173 ?_
              have Iq49 : Iv TX (ui Mq32 33 9 zq14) := Iq33.put 0 60 tq16 (by omega) rfl
              have frq50 : Fr W_X4_takeItem Mq (ui Mq32 33 9 zq14) := frq35.ui rfl
              have cyq51 : 0 ≤ ((ui Mq32 33 9 zq14).2 33 12).toInt := num_fr cyq31 (Fr.ui (W := [(33, 9)]) Fr.rf rfl) rfl
              refine g_iconst X 1 dX4_takeItem_176 (by decide) ?_
              exact g_zret X (b01 (show (1 : Int32).toInt = 1 by decide) (by omega)) dX4_takeItem_177 ⟨_, _, rfl, (show (1 : Int32).toInt = 1 by decide), (by omega), cyq51, Iq49, frq50⟩
        · refine g_iconst X 1 dX4_takeItem_147 (by decide) ?_
          refine g_goto X (tgt := 152) dX4_takeItem_148 (by decide) ?_
          refine g_icmp_ne X tq29 (show (1 : Int32).toInt = 1 by decide) (tgt := 159) dX4_takeItem_152 (by decide) (fun cq52 => ?_) (fun cq52 => ?_)
          · refine g_iconst X 0 dX4_takeItem_159 (by decide) ?_
            refine g_istore X [(4, .int 0), (3, .int zq23), (2, .int zq14), (0, .ref (ad 33)), (1, .int x1)] dX4_takeItem_160 (by decide) rfl ?_
            refine g_aload_n X 3 rfl dX4_takeItem_162 ?_
            refine g_iload X 0 rfl dX4_takeItem_163 ?_
            refine g_if_eq X (show (0 : Int32).toInt = 0 by decide) (tgt := 172) dX4_takeItem_165 (by decide) (fun cq53 => ?_) (fun cq53 => ?_)
            · refine g_iload_n X 1 rfl dX4_takeItem_172 ?_
              refine g_puti X p_X4_34 dX4_takeItem_173 ?_
              have Iq54 : Iv TX (ui Mq32 33 9 zq23) := Iq33.put 0 60 tq25 (by omega) rfl
              have frq55 : Fr W_X4_takeItem Mq (ui Mq32 33 9 zq23) := frq35.ui rfl
              have cyq56 : 0 ≤ ((ui Mq32 33 9 zq23).2 33 12).toInt := num_fr cyq31 (Fr.ui (W := [(33, 9)]) Fr.rf rfl) rfl
              refine g_iconst X 1 dX4_takeItem_176 (by decide) ?_
              exact g_zret X (b01 (show (1 : Int32).toInt = 1 by decide) (by omega)) dX4_takeItem_177 ⟨_, _, rfl, (show (1 : Int32).toInt = 1 by decide), (by omega), cyq56, Iq54, frq55⟩
            · refine g_iload_n X 2 rfl dX4_takeItem_168 ?_
              refine g_goto X (tgt := 173) dX4_takeItem_169 (by decide) ?_
              refine g_puti X p_X4_34 dX4_takeItem_173 ?_
              have Iq57 : Iv TX (ui Mq32 33 9 zq14) := Iq33.put 0 60 tq16 (by omega) rfl
              have frq58 : Fr W_X4_takeItem Mq (ui Mq32 33 9 zq14) := frq35.ui rfl
              have cyq59 : 0 ≤ ((ui Mq32 33 9 zq14).2 33 12).toInt := num_fr cyq31 (Fr.ui (W := [(33, 9)]) Fr.rf rfl) rfl
              refine g_iconst X 1 dX4_takeItem_176 (by decide) ?_
              exact g_zret X (b01 (show (1 : Int32).toInt = 1 by decide) (by omega)) dX4_takeItem_177 ⟨_, _, rfl, (show (1 : Int32).toInt = 1 by decide), (by omega), cyq59, Iq57, frq58⟩
          · refine g_iconst X 1 dX4_takeItem_155 (by decide) ?_
            refine g_goto X (tgt := 160) dX4_takeItem_156 (by decide) ?_
            refine g_istore X [(4, .int 1), (3, .int zq23), (2, .int zq14), (0, .ref (ad 33)), (1, .int x1)] dX4_takeItem_160 (by decide) rfl ?_
            refine g_aload_n X 3 rfl dX4_takeItem_162 ?_
            refine g_iload X 0 rfl dX4_takeItem_163 ?_
            refine g_if_eq X (show (1 : Int32).toInt = 1 by decide) (tgt := 172) dX4_takeItem_165 (by decide) (fun cq60 => ?_) (fun cq60 => ?_)
            · refine g_iload_n X 1 rfl dX4_takeItem_172 ?_
              refine g_puti X p_X4_34 dX4_takeItem_173 ?_
              have Iq61 : Iv TX (ui Mq32 33 9 zq23) := Iq33.put 0 60 tq25 (by omega) rfl
              have frq62 : Fr W_X4_takeItem Mq (ui Mq32 33 9 zq23) := frq35.ui rfl
              have cyq63 : 0 ≤ ((ui Mq32 33 9 zq23).2 33 12).toInt := num_fr cyq31 (Fr.ui (W := [(33, 9)]) Fr.rf rfl) rfl
              refine g_iconst X 1 dX4_takeItem_176 (by decide) ?_
              exact g_zret X (b01 (show (1 : Int32).toInt = 1 by decide) (by omega)) dX4_takeItem_177 ⟨_, _, rfl, (show (1 : Int32).toInt = 1 by decide), (by omega), cyq63, Iq61, frq62⟩
            · refine g_iload_n X 2 rfl dX4_takeItem_168 ?_
              refine g_goto X (tgt := 173) dX4_takeItem_169 (by decide) ?_
              refine g_puti X p_X4_34 dX4_takeItem_173 ?_
              have Iq64 : Iv TX (ui Mq32 33 9 zq14) := Iq33.put 0 60 tq16 (by omega) rfl
              have frq65 : Fr W_X4_takeItem Mq (ui Mq32 33 9 zq14) := frq35.ui rfl
              have cyq66 : 0 ≤ ((ui Mq32 33 9 zq14).2 33 12).toInt := num_fr cyq31 (Fr.ui (W := [(33, 9)]) Fr.rf rfl) rfl
              refine g_iconst X 1 dX4_takeItem_176 (by decide) ?_
              exact g_zret X (b01 (show (1 : Int32).toInt = 1 by decide) (by omega)) dX4_takeItem_177 ⟨_, _, rfl, (show (1 : Int32).toInt = 1 by decide), (by omega), cyq66, Iq64, frq65⟩
      · refine g_aload_n X 2 rfl dX4_takeItem_85 ?_
        refine g_aload_n X 2 rfl dX4_takeItem_86 ?_
        refine g_getr X f_X4_51 dX4_takeItem_87 ?_
        refine g_geti X f_X4_107 dX4_takeItem_90 (x := Mq.1 14 12) rfl ?_
        have bq67 := ig_14_12 Iq0
        refine g_iconst X 1 dX4_takeItem_93 (by decide) ?_
        refine g_iadd X dX4_takeItem_94 (fun zq68 eq69 => ?_)
        have tq70 : zq68.toInt = ((Mq.1 14 12).toInt) + 1 := add_nw eq69 rfl (show (1 : Int32).toInt = 1 by decide) (by omega)
        refine g_callV X m_X4_110 (c_X4_choose ad Mq zq68 tq70 Iq0 cy0) rfl (by decide) (Nat.le_of_ble_eq_true rfl) rfl dX4_takeItem_95 ?_
        rintro _ Mq76 ⟨rq71, aq72, rfl, tq73, hq74, cyq75, Iq77, frq78⟩
        have frq79 : Fr W_X4_takeItem Mq Mq76 := frq0.trans frq78 rfl
        show G Γ Mq76 98 [(3, .int zq23), (2, .int zq14), (0, .ref (ad 33)), (1, .int x1)] [.int rq71]
        refine g_istore X [(4, .int rq71), (3, .int zq23), (2, .int zq14), (0, .ref (ad 33)), (1, .int x1)] dX4_takeItem_98 (by decide) rfl ?_
        refine g_aload_n X 3 rfl dX4_takeItem_100 ?_
        refine g_iload X 0 rfl dX4_takeItem_101 ?_
        refine g_if_ne X tq73 (tgt := 110) dX4_takeItem_103 (by decide) (fun cq80 => ?_) (fun cq80 => ?_)
        · refine g_iload_n X 2 rfl dX4_takeItem_110 ?_
          refine g_puti X p_X4_34 dX4_takeItem_111 ?_
          have Iq81 : Iv TX (ui Mq76 33 9 zq14) := Iq77.put 0 60 tq16 (by omega) rfl
          have frq82 : Fr W_X4_takeItem Mq (ui Mq76 33 9 zq14) := frq79.ui rfl
          have cyq83 : 0 ≤ ((ui Mq76 33 9 zq14).2 33 12).toInt := num_fr cyq75 (Fr.ui (W := [(33, 9)]) Fr.rf rfl) rfl
          refine g_iload X 0 rfl dX4_takeItem_114 ?_
          refine g_if_eq X tq73 (tgt := 130) dX4_takeItem_116 (by decide) (fun cq84 => ?_) (fun cq84 => ?_)
          · refine g_iconst X 1 dX4_takeItem_130 (by decide) ?_
            refine g_goto X (tgt := 135) dX4_takeItem_131 (by decide) ?_
            exact g_zret X (b01 (show (1 : Int32).toInt = 1 by decide) (by omega)) dX4_takeItem_135 ⟨_, _, rfl, (show (1 : Int32).toInt = 1 by decide), (by omega), cyq83, Iq81, frq82⟩
          · refine g_aload_n X 3 rfl dX4_takeItem_119 ?_
            refine g_iload X 0 rfl dX4_takeItem_120 ?_
            refine g_iconst X 1 dX4_takeItem_122 (by decide) ?_
            refine g_isub X dX4_takeItem_123 (fun zq85 eq86 => ?_)
            have tq87 : zq85.toInt = aq72 - 1 := sub_nw eq86 tq73 (show (1 : Int32).toInt = 1 by decide) (by omega)
            refine g_callV X m_X4_104 (c_X4_await ad (ui Mq76 33 9 zq14) zq85 tq87 Iq81 (by omega)) rfl (by decide) (Nat.le_of_ble_eq_true rfl) rfl dX4_takeItem_124 ?_
            rintro _ Mq92 ⟨rq88, aq89, rfl, tq90, hq91, Iq93, frq94⟩
            have frq95 : Fr W_X4_takeItem Mq Mq92 := frq82.trans frq94 rfl
            have cyq96 : 0 ≤ (Mq92.2 33 12).toInt := num_fr cyq83 frq94 rfl
            show G Γ Mq92 127 [(4, .int rq71), (3, .int zq23), (2, .int zq14), (0, .ref (ad 33)), (1, .int x1)] [.int rq88]
            refine g_if_eq X tq90 (tgt := 134) dX4_takeItem_127 (by decide) (fun cq97 => ?_) (fun cq97 => ?_)
            · refine g_iconst X 0 dX4_takeItem_134 (by decide) ?_
              exact g_zret X (b01 (show (0 : Int32).toInt = 0 by decide) (by omega)) dX4_takeItem_135 ⟨_, _, rfl, (show (0 : Int32).toInt = 0 by decide), (by omega), cyq96, Iq93, frq95⟩
            · refine g_iconst X 1 dX4_takeItem_130 (by decide) ?_
              refine g_goto X (tgt := 135) dX4_takeItem_131 (by decide) ?_
              exact g_zret X (b01 (show (1 : Int32).toInt = 1 by decide) (by omega)) dX4_takeItem_135 ⟨_, _, rfl, (show (1 : Int32).toInt = 1 by decide), (by omega), cyq96, Iq93, frq95⟩
        · refine g_iload_n X 1 rfl dX4_takeItem_106 ?_
          refine g_goto X (tgt := 111) dX4_takeItem_107 (by decide) ?_
          refine g_puti X p_X4_34 dX4_takeItem_111 ?_
          have Iq98 : Iv TX (ui Mq76 33 9 zq23) := Iq77.put 0 60 tq25 (by omega) rfl
          have frq99 : Fr W_X4_takeItem Mq (ui Mq76 33 9 zq23) := frq79.ui rfl
          have cyq100 : 0 ≤ ((ui Mq76 33 9 zq23).2 33 12).toInt := num_fr cyq75 (Fr.ui (W := [(33, 9)]) Fr.rf rfl) rfl
          refine g_iload X 0 rfl dX4_takeItem_114 ?_
          refine g_if_eq X tq73 (tgt := 130) dX4_takeItem_116 (by decide) (fun cq101 => ?_) (fun cq101 => ?_)
          · refine g_iconst X 1 dX4_takeItem_130 (by decide) ?_
            refine g_goto X (tgt := 135) dX4_takeItem_131 (by decide) ?_
            exact g_zret X (b01 (show (1 : Int32).toInt = 1 by decide) (by omega)) dX4_takeItem_135 ⟨_, _, rfl, (show (1 : Int32).toInt = 1 by decide), (by omega), cyq100, Iq98, frq99⟩
          · refine g_aload_n X 3 rfl dX4_takeItem_119 ?_
            refine g_iload X 0 rfl dX4_takeItem_120 ?_
            refine g_iconst X 1 dX4_takeItem_122 (by decide) ?_
            refine g_isub X dX4_takeItem_123 (fun zq102 eq103 => ?_)
            have tq104 : zq102.toInt = aq72 - 1 := sub_nw eq103 tq73 (show (1 : Int32).toInt = 1 by decide) (by omega)
            refine g_callV X m_X4_104 (c_X4_await ad (ui Mq76 33 9 zq23) zq102 tq104 Iq98 (by omega)) rfl (by decide) (Nat.le_of_ble_eq_true rfl) rfl dX4_takeItem_124 ?_
            rintro _ Mq109 ⟨rq105, aq106, rfl, tq107, hq108, Iq110, frq111⟩
            have frq112 : Fr W_X4_takeItem Mq Mq109 := frq99.trans frq111 rfl
            have cyq113 : 0 ≤ (Mq109.2 33 12).toInt := num_fr cyq100 frq111 rfl
            show G Γ Mq109 127 [(4, .int rq71), (3, .int zq23), (2, .int zq14), (0, .ref (ad 33)), (1, .int x1)] [.int rq105]
            refine g_if_eq X tq107 (tgt := 134) dX4_takeItem_127 (by decide) (fun cq114 => ?_) (fun cq114 => ?_)
            · refine g_iconst X 0 dX4_takeItem_134 (by decide) ?_
              exact g_zret X (b01 (show (0 : Int32).toInt = 0 by decide) (by omega)) dX4_takeItem_135 ⟨_, _, rfl, (show (0 : Int32).toInt = 0 by decide), (by omega), cyq113, Iq110, frq112⟩
            · refine g_iconst X 1 dX4_takeItem_130 (by decide) ?_
              refine g_goto X (tgt := 135) dX4_takeItem_131 (by decide) ?_
              exact g_zret X (b01 (show (1 : Int32).toInt = 1 by decide) (by omega)) dX4_takeItem_135 ⟨_, _, rfl, (show (1 : Int32).toInt = 1 by decide), (by omega), cyq113, Iq110, frq112⟩
    · have pq115 : (65 ≤ a1 ∧ a1 ≤ 72) := by omega
      clear hq10 cq11 tq9
      refine g_aload_n X 0 rfl dX4_takeItem_23 ?_
      refine g_aload_n X 0 rfl dX4_takeItem_24 ?_
      refine g_geti X f_X4_31 dX4_takeItem_25 (x := Mq.1 33 8) rfl ?_
      have bq116 := ig_33_8 Iq0
      refine g_bipush X 60 dX4_takeItem_28 (by decide) ?_
      refine g_imul X dX4_takeItem_30 (fun zq117 eq118 => ?_)
      have tq119 : zq117.toInt = ((Mq.1 33 8).toInt) * 60 := mul_nw eq118 rfl (show (60 : Int32).toInt = 60 by decide) (by omega)
      refine g_aload_n X 0 rfl dX4_takeItem_31 ?_
      refine g_geti X f_X4_34 dX4_takeItem_32 (x := Mq.1 33 9) rfl ?_
      have bq120 := ig_33_9 Iq0
      refine g_iadd X dX4_takeItem_35 (fun zq121 eq122 => ?_)
      have tq123 : zq121.toInt = (((Mq.1 33 8).toInt) * 60) + ((Mq.1 33 9).toInt) := add_nw eq122 tq119 rfl (by omega)
      refine g_callV X m_X4_104 (c_X4_await ad Mq zq121 tq123 Iq0 (by omega)) rfl (by decide) (Nat.le_of_ble_eq_true rfl) rfl dX4_takeItem_36 ?_
      rintro _ Mq128 ⟨rq124, aq125, rfl, tq126, hq127, Iq129, frq130⟩
      have frq131 : Fr W_X4_takeItem Mq Mq128 := frq0.trans frq130 rfl
      have cyq132 : 0 ≤ (Mq128.2 33 12).toInt := num_fr cy0 frq130 rfl
      show G Γ Mq128 39 [(0, .ref (ad 33)), (1, .int x1)] [.int rq124]
      refine g_if_ne X tq126 (tgt := 44) dX4_takeItem_39 (by decide) (fun cq133 => ?_) (fun cq133 => ?_)
      · refine g_aload_n X 0 rfl dX4_takeItem_44 ?_
        refine g_iload_n X 1 rfl dX4_takeItem_45 ?_
        refine g_bipush X 65 dX4_takeItem_46 (by decide) ?_
        refine g_isub X dX4_takeItem_48 (fun zq134 eq135 => ?_)
        have tq136 : zq134.toInt = a1 - 65 := sub_nw eq135 t1 (show (65 : Int32).toInt = 65 by decide) (by omega)
        refine g_callV X m_X4_55 (c_X4_enterScene ad Mq128 zq134 tq136 Iq129 (by omega)) rfl (by decide) (Nat.le_of_ble_eq_true rfl) rfl dX4_takeItem_49 ?_
        rintro _ Mq141 ⟨rfl, hq140, Iq142, frq143⟩
        have frq144 : Fr W_X4_takeItem Mq Mq141 := frq131.trans frq143 rfl
        have cyq145 : 0 ≤ (Mq141.2 33 12).toInt := num_fr cyq132 frq143 rfl
        show G Γ Mq141 52 [(0, .ref (ad 33)), (1, .int x1)] []
        refine g_iconst X 1 dX4_takeItem_52 (by decide) ?_
        exact g_zret X (b01 (show (1 : Int32).toInt = 1 by decide) (by omega)) dX4_takeItem_53 ⟨_, _, rfl, (show (1 : Int32).toInt = 1 by decide), (by omega), cyq145, Iq142, frq144⟩
      · refine g_iconst X 0 dX4_takeItem_42 (by decide) ?_
        exact g_zret X (b01 (show (0 : Int32).toInt = 0 by decide) (by omega)) dX4_takeItem_43 ⟨_, _, rfl, (show (0 : Int32).toInt = 0 by decide), (by omega), cyq132, Iq129, frq131⟩
  · have pq146 : (97 ≤ a1 ∧ a1 ≤ 104) := by omega
    clear hq4 cq5 tq3
    refine g_aload_n X 0 rfl dX4_takeItem_7 ?_
    refine g_iload_n X 1 rfl dX4_takeItem_8 ?_
    refine g_bipush X 97 dX4_takeItem_9 (by decide) ?_
    refine g_isub X dX4_takeItem_11 (fun zq147 eq148 => ?_)
    have tq149 : zq147.toInt = a1 - 97 := sub_nw eq148 t1 (show (97 : Int32).toInt = 97 by decide) (by omega)
    refine g_callV X m_X4_98 (c_X4_singLine ad Mq zq147 tq149 Iq0 (by omega) (by omega) cy0) rfl (by decide) (Nat.le_of_ble_eq_true rfl) rfl dX4_takeItem_12 ?_
    rintro _ Mq155 ⟨rq150, aq151, rfl, tq152, hq153, cyq154, Iq156, frq157⟩
    have frq158 : Fr W_X4_takeItem Mq Mq155 := frq0.trans frq157 rfl
    show G Γ Mq155 15 [(0, .ref (ad 33)), (1, .int x1)] [.int rq150]
    exact g_zret X (b01 tq152 (by omega)) dX4_takeItem_15 ⟨_, _, rfl, tq152, (by omega), cyq154, Iq156, frq158⟩
abbrev W_X4_takeSign : List (Nat × Nat) := [(33, 5), (33, 7), (33, 8), (33, 9), (33, 12), (35, 99), (36, 99), (33, 10)]
set_option maxHeartbeats 4000000 in
set_option maxRecDepth 4000 in
theorem c_X4_takeSign (ad : Nat → Nat) (Mq : Mem) (x1 : Int32) {a1 : Int} (t1 : x1.toInt = a1) (Iq0 : Iv TX Mq) (h9 : (Mq.1 33 9).toInt ≤ 59) (cy0 : 0 ≤ (Mq.2 33 12).toInt) : Ctr ad yX4_takeSign cX4_takeSign 2 (some .boolean) 4 [.ref (ad 33), .int x1] Mq (fun v M' => ∃ (r : Int32) (a : Int), v = some (.int r) ∧ r.toInt = a ∧ (a = 0 ∨ a = 1) ∧ (0 ≤ (M'.2 33 12).toInt) ∧ Iv TX M' ∧ Fr W_X4_takeSign Mq M') := by
  refine ctr_of (L := [(0, .ref (ad 33)), (1, .int x1)]) (by decide) (Nat.le_of_ble_eq_true rfl) rfl ?_
  intro Γ X
  have X : gX Γ cX4_takeSign RX4 2 (some .boolean) 4 ad _ := X
  have frq0 : Fr W_X4_takeSign Mq Mq := Fr.rf
  refine g_iload_n X 1 rfl dX4_takeSign_0 ?_
  rcases (show (a1 ≠ 41 ∧ a1 ≠ 93 ∧ a1 ≠ 124 ∧ a1 ≠ 125) ∨ a1 = 41 ∨ a1 = 93 ∨ a1 = 124 ∨ a1 = 125 by omega) with cq1 | cq1 | cq1 | cq1 | cq1
  · refine g_lookup X dX4_takeSign_1 (by decide) t1 (off := 83) (by simp [Op.lookupswitch.offset, cq1.1.symm, cq1.2.1.symm, cq1.2.2.1.symm, cq1.2.2.2.symm]) (tgt := 84) (by decide) ?_
    refine g_aload_n X 0 rfl dX4_takeSign_84 ?_
    refine g_dup X dX4_takeSign_85 rfl ?_
    refine g_geti X f_X4_37 dX4_takeSign_86 (x := Mq.1 33 10) rfl ?_
    refine g_iconst X 1 dX4_takeSign_89 (by decide) ?_
    refine g_iadd X dX4_takeSign_90 (fun zq2 eq3 => ?_)
    refine g_puti X p_X4_37 dX4_takeSign_91 ?_
    have Iq5 : Iv TX (ui Mq 33 10 zq2) := Iq0.other rfl
    have frq6 : Fr W_X4_takeSign Mq (ui Mq 33 10 zq2) := frq0.ui rfl
    have cyq7 : 0 ≤ ((ui Mq 33 10 zq2).2 33 12).toInt := num_fr cy0 (Fr.ui (W := [(33, 10)]) Fr.rf rfl) rfl
    refine g_aload_n X 0 rfl dX4_takeSign_94 ?_
    refine g_geti X f_X4_37 dX4_takeSign_95 (x := zq2) rfl ?_
    refine g_sipush X 2000 dX4_takeSign_98 (by decide) ?_
    refine g_icmp_gt X rfl (show (2000 : Int32).toInt = 2000 by decide) (tgt := 116) dX4_takeSign_101 (by decide) (fun cq8 => ?_) (fun cq8 => ?_)
    · refine g_iconst X 0 dX4_takeSign_116 (by decide) ?_
      exact g_zret X (b01 (show (0 : Int32).toInt = 0 by decide) (by omega)) dX4_takeSign_117 ⟨_, _, rfl, (show (0 : Int32).toInt = 0 by decide), (by omega), cyq7, Iq5, frq6⟩
    · refine g_aload_n X 0 rfl dX4_takeSign_104 ?_
      refine g_iload_n X 1 rfl dX4_takeSign_105 ?_
      refine g_callV X m_X4_92 (c_X4_takeItem ad (ui Mq 33 10 zq2) x1 t1 Iq5 (show ((Mq.1 33 9)).toInt ≤ 59 by omega) cyq7) rfl (by decide) (Nat.le_of_ble_eq_true rfl) rfl dX4_takeSign_106 ?_
      rintro _ Mq14 ⟨rq9, aq10, rfl, tq11, hq12, cyq13, Iq15, frq16⟩
      have frq17 : Fr W_X4_takeSign Mq Mq14 := frq6.trans frq16 rfl
      show G Γ Mq14 109 [(0, .ref (ad 33)), (1, .int x1)] [.int rq9]
      refine g_if_eq X tq11 (tgt := 116) dX4_takeSign_109 (by decide) (fun cq18 => ?_) (fun cq18 => ?_)
      · refine g_iconst X 0 dX4_takeSign_116 (by decide) ?_
        exact g_zret X (b01 (show (0 : Int32).toInt = 0 by decide) (by omega)) dX4_takeSign_117 ⟨_, _, rfl, (show (0 : Int32).toInt = 0 by decide), (by omega), cyq13, Iq15, frq17⟩
      · refine g_iconst X 1 dX4_takeSign_112 (by decide) ?_
        refine g_goto X (tgt := 117) dX4_takeSign_113 (by decide) ?_
        exact g_zret X (b01 (show (1 : Int32).toInt = 1 by decide) (by omega)) dX4_takeSign_117 ⟨_, _, rfl, (show (1 : Int32).toInt = 1 by decide), (by omega), cyq13, Iq15, frq17⟩
  · refine g_lookup X dX4_takeSign_1 (by decide) (a := 41) (t1.trans cq1) (off := 43) (by decide) (tgt := 44) (by decide) ?_
    refine g_aload_n X 0 rfl dX4_takeSign_44 ?_
    refine g_dup X dX4_takeSign_45 rfl ?_
    refine g_geti X f_X4_34 dX4_takeSign_46 (x := Mq.1 33 9) rfl ?_
    have bq19 := ig_33_9 Iq0
    refine g_iconst X 1 dX4_takeSign_49 (by decide) ?_
    refine g_iadd X dX4_takeSign_50 (fun zq20 eq21 => ?_)
    have tq22 : zq20.toInt = ((Mq.1 33 9).toInt) + 1 := add_nw eq21 rfl (show (1 : Int32).toInt = 1 by decide) (by omega)
    refine g_puti X p_X4_34 dX4_takeSign_51 ?_
    have Iq23 : Iv TX (ui Mq 33 9 zq20) := Iq0.put 0 60 tq22 (by omega) rfl
    have frq24 : Fr W_X4_takeSign Mq (ui Mq 33 9 zq20) := frq0.ui rfl
    have cyq25 : 0 ≤ ((ui Mq 33 9 zq20).2 33 12).toInt := num_fr cy0 (Fr.ui (W := [(33, 9)]) Fr.rf rfl) rfl
    refine g_iconst X 1 dX4_takeSign_54 (by decide) ?_
    exact g_zret X (b01 (show (1 : Int32).toInt = 1 by decide) (by omega)) dX4_takeSign_55 ⟨_, _, rfl, (show (1 : Int32).toInt = 1 by decide), (by omega), cyq25, Iq23, frq24⟩
  · refine g_lookup X dX4_takeSign_1 (by decide) (a := 93) (t1.trans cq1) (off := 43) (by decide) (tgt := 44) (by decide) ?_
    refine g_aload_n X 0 rfl dX4_takeSign_44 ?_
    refine g_dup X dX4_takeSign_45 rfl ?_
    refine g_geti X f_X4_34 dX4_takeSign_46 (x := Mq.1 33 9) rfl ?_
    have bq26 := ig_33_9 Iq0
    refine g_iconst X 1 dX4_takeSign_49 (by decide) ?_
    refine g_iadd X dX4_takeSign_50 (fun zq27 eq28 => ?_)
    have tq29 : zq27.toInt = ((Mq.1 33 9).toInt) + 1 := add_nw eq28 rfl (show (1 : Int32).toInt = 1 by decide) (by omega)
    refine g_puti X p_X4_34 dX4_takeSign_51 ?_
    have Iq30 : Iv TX (ui Mq 33 9 zq27) := Iq0.put 0 60 tq29 (by omega) rfl
    have frq31 : Fr W_X4_takeSign Mq (ui Mq 33 9 zq27) := frq0.ui rfl
    have cyq32 : 0 ≤ ((ui Mq 33 9 zq27).2 33 12).toInt := num_fr cy0 (Fr.ui (W := [(33, 9)]) Fr.rf rfl) rfl
    refine g_iconst X 1 dX4_takeSign_54 (by decide) ?_
    exact g_zret X (b01 (show (1 : Int32).toInt = 1 by decide) (by omega)) dX4_takeSign_55 ⟨_, _, rfl, (show (1 : Int32).toInt = 1 by decide), (by omega), cyq32, Iq30, frq31⟩
  · refine g_lookup X dX4_takeSign_1 (by decide) (a := 124) (t1.trans cq1) (off := 55) (by decide) (tgt := 56) (by decide) ?_
    refine g_aload_n X 0 rfl dX4_takeSign_56 ?_
    refine g_aload_n X 0 rfl dX4_takeSign_57 ?_
    refine g_getr X f_X4_51 dX4_takeSign_58 ?_
    refine g_aload_n X 0 rfl dX4_takeSign_61 ?_
    refine g_geti X f_X4_31 dX4_takeSign_62 (x := Mq.1 33 8) rfl ?_
    have bq33 := ig_33_8 Iq0
    refine g_aload_n X 0 rfl dX4_takeSign_65 ?_
    refine g_geti X f_X4_34 dX4_takeSign_66 (x := Mq.1 33 9) rfl ?_
    have bq34 := ig_33_9 Iq0
    refine g_callV X m_X4_86 (c_X2_mateOf ad Mq (Mq.1 33 8) rfl (Mq.1 33 9) rfl Iq0 (by omega) (by omega)) rfl (by decide) (Nat.le_of_ble_eq_true rfl) rfl dX4_takeSign_69 ?_
    rintro _ _ ⟨rq35, aq36, rfl, tq37, hq38, rfl⟩
    show G Γ Mq 72 [(0, .ref (ad 33)), (1, .int x1)] [.int rq35, .ref (ad 33)]
    refine g_iconst X 1 dX4_takeSign_72 (by decide) ?_
    refine g_iadd X dX4_takeSign_73 (fun zq39 eq40 => ?_)
    have tq41 : zq39.toInt = aq36 + 1 := add_nw eq40 tq37 (show (1 : Int32).toInt = 1 by decide) (by omega)
    refine g_puti X p_X4_34 dX4_takeSign_74 ?_
    have Iq42 : Iv TX (ui Mq 33 9 zq39) := Iq0.put 0 60 tq41 (by omega) rfl
    have frq43 : Fr W_X4_takeSign Mq (ui Mq 33 9 zq39) := frq0.ui rfl
    have cyq44 : 0 ≤ ((ui Mq 33 9 zq39).2 33 12).toInt := num_fr cy0 (Fr.ui (W := [(33, 9)]) Fr.rf rfl) rfl
    refine g_iconst X 1 dX4_takeSign_77 (by decide) ?_
    exact g_zret X (b01 (show (1 : Int32).toInt = 1 by decide) (by omega)) dX4_takeSign_78 ⟨_, _, rfl, (show (1 : Int32).toInt = 1 by decide), (by omega), cyq44, Iq42, frq43⟩
  · refine g_lookup X dX4_takeSign_1 (by decide) (a := 125) (t1.trans cq1) (off := 78) (by decide) (tgt := 79) (by decide) ?_
    refine g_aload_n X 0 rfl dX4_takeSign_79 ?_
    refine g_callV X m_X4_89 (c_X4_again ad Mq Iq0 (by omega)) rfl (by decide) (Nat.le_of_ble_eq_true rfl) rfl dX4_takeSign_80 ?_
    rintro _ Mq49 ⟨rq45, aq46, rfl, tq47, hq48, Iq50, frq51⟩
    have frq52 : Fr W_X4_takeSign Mq Mq49 := frq0.trans frq51 rfl
    have cyq53 : 0 ≤ (Mq49.2 33 12).toInt := num_fr cy0 frq51 rfl
    show G Γ Mq49 83 [(0, .ref (ad 33)), (1, .int x1)] [.int rq45]
    exact g_zret X (b01 tq47 (by omega)) dX4_takeSign_83 ⟨_, _, rfl, tq47, (by omega), cyq53, Iq50, frq52⟩
abbrev W_X4_perform : List (Nat × Nat) := [(33, 5), (33, 7), (33, 8), (33, 9), (33, 12), (35, 99), (36, 99), (33, 10), (33, 11), (33, 3), (34, 99)]
set_option maxHeartbeats 4000000 in
set_option maxRecDepth 4000 in
theorem c_X4_perform (ad : Nat → Nat) (Mq : Mem) (x1 : Int32) {a1 : Int} (t1 : x1.toInt = a1) (x2 : Int64) {a2 : Int} (t2 : x2.toInt = a2) (x3 : Int64) {a3 : Int} (t3 : x3.toInt = a3) (Iq0 : Iv TX Mq) (h1 : 0 ≤ a1 ∧ a1 ≤ 7) (h2 : 0 ≤ a3) (cy0 : 0 ≤ (Mq.2 33 12).toInt) : Ctr ad yX4_perform cX4_perform 7 (some .boolean) 5 [.ref (ad 33), .int x1, .long x2, .long x3] Mq (fun v M' => ∃ (r : Int32) (a : Int), v = some (.int r) ∧ r.toInt = a ∧ (a = 0 ∨ a = 1) ∧ (0 ≤ (M'.2 33 12).toInt) ∧ Iv TX M' ∧ Fr W_X4_perform Mq M') := by
  refine ctr_of (L := [(0, .ref (ad 33)), (1, .int x1), (2, .long x2), (4, .long x3)]) (by decide) (Nat.le_of_ble_eq_true rfl) rfl ?_
  intro Γ X
  have X : gX Γ cX4_perform RX4 7 (some .boolean) 5 ad _ := X
  have frq0 : Fr W_X4_perform Mq Mq := Fr.rf
  refine g_aload_n X 0 rfl dX4_perform_0 ?_
  refine g_lload_n X 2 rfl dX4_perform_1 ?_
  refine g_putl X p_X4_40 dX4_perform_2 ?_
  have Iq1 : Iv TX (ul Mq 33 11 x2) := Iq0.long
  have frq2 : Fr W_X4_perform Mq (ul Mq 33 11 x2) := frq0.ul rfl
  have cyq3 : 0 ≤ ((ul Mq 33 11 x2).2 33 12).toInt := num_fr cy0 (Fr.ul (W := [(33, 11)]) Fr.rf rfl) rfl
  refine g_aload_n X 0 rfl dX4_perform_5 ?_
  refine g_lload X 3 rfl dX4_perform_6 ?_
  refine g_putl X p_X4_44 dX4_perform_8 ?_
  have Iq4 : Iv TX (ul (ul Mq 33 11 x2) 33 12 x3) := Iq1.long
  have frq5 : Fr W_X4_perform Mq (ul (ul Mq 33 11 x2) 33 12 x3) := frq2.ul rfl
  have cyq6 : 0 ≤ ((ul (ul Mq 33 11 x2) 33 12 x3).2 33 12).toInt := (by rw [ul_eq]; omega)
  refine g_aload_n X 0 rfl dX4_perform_11 ?_
  refine g_iconst X 0 dX4_perform_12 (by decide) ?_
  refine g_puti X p_X4_22 dX4_perform_13 ?_
  have Iq7 : Iv TX (ui (ul (ul Mq 33 11 x2) 33 12 x3) 33 5 0) := Iq4.put 0 40 (show (0 : Int32).toInt = 0 by decide) (by omega) rfl
  have frq8 : Fr W_X4_perform Mq (ui (ul (ul Mq 33 11 x2) 33 12 x3) 33 5 0) := frq5.ui rfl
  have cyq9 : 0 ≤ ((ui (ul (ul Mq 33 11 x2) 33 12 x3) 33 5 0).2 33 12).toInt := num_fr cyq6 (Fr.ui (W := [(33, 5)]) Fr.rf rfl) rfl
  refine g_aload_n X 0 rfl dX4_perform_16 ?_
  refine g_iconst X 0 dX4_perform_17 (by decide) ?_
  refine g_puti X p_X4_28 dX4_perform_18 ?_
  have Iq10 : Iv TX (ui (ui (ul (ul Mq 33 11 x2) 33 12 x3) 33 5 0) 33 7 0) := Iq7.put 0 256 (show (0 : Int32).toInt = 0 by decide) (by omega) rfl
  have frq11 : Fr W_X4_perform Mq (ui (ui (ul (ul Mq 33 11 x2) 33 12 x3) 33 5 0) 33 7 0) := frq8.ui rfl
  have cyq12 : 0 ≤ ((ui (ui (ul (ul Mq 33 11 x2) 33 12 x3) 33 5 0) 33 7 0).2 33 12).toInt := num_fr cyq9 (Fr.ui (W := [(33, 7)]) Fr.rf rfl) rfl
  refine g_aload_n X 0 rfl dX4_perform_21 ?_
  refine g_iconst X 0 dX4_perform_22 (by decide) ?_
  refine g_puti X p_X4_37 dX4_perform_23 ?_
  have Iq13 : Iv TX (ui (ui (ui (ul (ul Mq 33 11 x2) 33 12 x3) 33 5 0) 33 7 0) 33 10 0) := Iq10.other rfl
  have frq14 : Fr W_X4_perform Mq (ui (ui (ui (ul (ul Mq 33 11 x2) 33 12 x3) 33 5 0) 33 7 0) 33 10 0) := frq11.ui rfl
  have cyq15 : 0 ≤ ((ui (ui (ui (ul (ul Mq 33 11 x2) 33 12 x3) 33 5 0) 33 7 0) 33 10 0).2 33 12).toInt := num_fr cyq12 (Fr.ui (W := [(33, 10)]) Fr.rf rfl) rfl
  refine g_aload_n X 0 rfl dX4_perform_26 ?_
  refine g_iload_n X 1 rfl dX4_perform_27 ?_
  refine g_callV X m_X4_55 (c_X4_enterScene ad (ui (ui (ui (ul (ul Mq 33 11 x2) 33 12 x3) 33 5 0) 33 7 0) 33 10 0) x1 t1 Iq13 (by omega)) rfl (by decide) (Nat.le_of_ble_eq_true rfl) rfl dX4_perform_28 ?_
  rintro _ Mq20 ⟨rfl, hq19, Iq21, frq22⟩
  have frq23 : Fr W_X4_perform Mq Mq20 := frq14.trans frq22 rfl
  have cyq24 : 0 ≤ (Mq20.2 33 12).toInt := num_fr cyq15 frq22 rfl
  show G Γ Mq20 31 [(0, .ref (ad 33)), (1, .int x1), (2, .long x2), (4, .long x3)] []
  refine g_iconst X 0 dX4_perform_31 (by decide) ?_
  refine g_istore X [(6, .int 0), (0, .ref (ad 33)), (1, .int x1), (2, .long x2), (4, .long x3)] dX4_perform_32 (by decide) rfl ?_
  have lp34 : ∀ n : Nat, ∀ (y6_34 : Int32) (b6_34 : Int), y6_34.toInt = b6_34 → ∀ (M_34 : Mem), (0 ≤ b6_34 ∧ b6_34 ≤ 100000) → (Iv TX M_34) → (Fr W_X4_perform Mq M_34) → (0 ≤ (M_34.2 33 12).toInt) → (100000 - b6_34).toNat < n → G Γ M_34 34 [(6, .int y6_34), (0, .ref (ad 33)), (1, .int x1), (2, .long x2), (4, .long x3)] [] := by
    intro n
    induction n with
    | zero => intro y6_34 b6_34 e6_34 M_34 i1 I_34 fr_34 cy0_34 hm; exact absurd hm (Nat.not_lt_zero _)
    | succ n ih34 =>
      intro y6_34 b6_34 e6_34 M_34 i1 I_34 fr_34 cy0_34 hm34
      refine g_iload X 0 rfl dX4_perform_34 ?_
      refine g_ldc X k_X4_59 dX4_perform_36 ?_
      refine g_icmp_ge X e6_34 (show (100000 : Int32).toInt = 100000 by decide) (tgt := 109) dX4_perform_38 (by decide) (fun cq25 => ?_) (fun cq25 => ?_)
      · refine g_iconst X 0 dX4_perform_109 (by decide) ?_
        exact g_zret X (b01 (show (0 : Int32).toInt = 0 by decide) (by omega)) dX4_perform_110 ⟨_, _, rfl, (show (0 : Int32).toInt = 0 by decide), (by omega), cy0_34, I_34, fr_34⟩
      · refine g_aload_n X 1 rfl dX4_perform_41 ?_
        refine g_geti X f_X4_34 dX4_perform_42 (x := M_34.1 33 9) rfl ?_
        have bq26 := ig_33_9 I_34
        refine g_aload_n X 1 rfl dX4_perform_45 ?_
        refine g_getr X f_X4_51 dX4_perform_46 ?_
        refine g_getr X f_X4_60 dX4_perform_49 ?_
        refine g_aload_n X 1 rfl dX4_perform_52 ?_
        refine g_geti X f_X4_31 dX4_perform_53 (x := M_34.1 33 8) rfl ?_
        have bq27 := ig_33_8 I_34
        refine g_iald X la_20 rfl dX4_perform_56 (by omega) (x := M_34.1 20 (((M_34.1 33 8).toInt).toNat)) rfl ?_
        have bq28 := ig_20 I_34 (((M_34.1 33 8).toInt).toNat) (by omega)
        refine g_icmp_lt X rfl rfl (tgt := 79) dX4_perform_57 (by decide) (fun cq29 => ?_) (fun cq29 => ?_)
        · refine g_aload_n X 1 rfl dX4_perform_79 ?_
          refine g_aload_n X 1 rfl dX4_perform_80 ?_
          refine g_getr X f_X4_51 dX4_perform_81 ?_
          refine g_aload_n X 1 rfl dX4_perform_84 ?_
          refine g_geti X f_X4_31 dX4_perform_85 (x := M_34.1 33 8) rfl ?_
          have bq30 := ig_33_8 I_34
          refine g_aload_n X 1 rfl dX4_perform_88 ?_
          refine g_geti X f_X4_34 dX4_perform_89 (x := M_34.1 33 9) rfl ?_
          have bq31 := ig_33_9 I_34
          refine g_callV X m_X4_72 (c_X2_sign ad M_34 (M_34.1 33 8) rfl (M_34.1 33 9) rfl (by omega) (by omega)) rfl (by decide) (Nat.le_of_ble_eq_true rfl) rfl dX4_perform_92 ?_
          rintro _ _ ⟨rq32, aq33, rfl, tq34, hq35, rfl⟩
          show G Γ M_34 95 [(6, .int y6_34), (0, .ref (ad 33)), (1, .int x1), (2, .long x2), (4, .long x3)] [.int rq32, .ref (ad 33)]
          refine g_callV X m_X4_76 (c_X4_takeSign ad M_34 rq32 tq34 I_34 (by omega) cy0_34) rfl (by decide) (Nat.le_of_ble_eq_true rfl) rfl dX4_perform_95 ?_
          rintro _ Mq41 ⟨rq36, aq37, rfl, tq38, hq39, cyq40, Iq42, frq43⟩
          have frq44 : Fr W_X4_perform Mq Mq41 := fr_34.trans frq43 rfl
          show G Γ Mq41 98 [(6, .int y6_34), (0, .ref (ad 33)), (1, .int x1), (2, .long x2), (4, .long x3)] [.int rq36]
          refine g_if_ne X tq38 (tgt := 103) dX4_perform_98 (by decide) (fun cq45 => ?_) (fun cq45 => ?_)
          · refine g_iinc X 0 (fun v => [(6, .int v), (0, .ref (ad 33)), (1, .int x1), (2, .long x2), (4, .long x3)]) dX4_perform_103 rfl (by decide) (fun _ => rfl) (fun zq46 eq47 => ?_)
            have tq48 : zq46.toInt = b6_34 + 1 := add_nw eq47 e6_34 (show (Int32.ofInt 1).toInt = 1 by decide) (by omega)
            refine g_goto X (tgt := 34) dX4_perform_106 (by decide) ?_
            refine g_sub [0, 1, 2, 3, 4] rfl ?_
            exact ih34 zq46 _ tq48 Mq41 (by omega) Iq42 frq44 cyq40 (by omega)
          · refine g_iconst X 0 dX4_perform_101 (by decide) ?_
            exact g_zret X (b01 (show (0 : Int32).toInt = 0 by decide) (by omega)) dX4_perform_102 ⟨_, _, rfl, (show (0 : Int32).toInt = 0 by decide), (by omega), cyq40, Iq42, frq44⟩
        · refine g_aload_n X 1 rfl dX4_perform_60 ?_
          refine g_geti X f_X4_28 dX4_perform_61 (x := M_34.1 33 7) rfl ?_
          have bq49 := ig_33_7 I_34
          refine g_if_ne X rfl (tgt := 72) dX4_perform_64 (by decide) (fun cq50 => ?_) (fun cq50 => ?_)
          · refine g_aload_n X 1 rfl dX4_perform_72 ?_
            refine g_callV X m_X4_69 (c_X4_goBack ad M_34 I_34 (by omega)) rfl (by decide) (Nat.le_of_ble_eq_true rfl) rfl dX4_perform_73 ?_
            rintro _ Mq55 ⟨rfl, hq54, Iq56, frq57⟩
            have frq58 : Fr W_X4_perform Mq Mq55 := fr_34.trans frq57 rfl
            have cyq59 : 0 ≤ (Mq55.2 33 12).toInt := num_fr cy0_34 frq57 rfl
            show G Γ Mq55 76 [(6, .int y6_34), (0, .ref (ad 33)), (1, .int x1), (2, .long x2), (4, .long x3)] []
            refine g_goto X (tgt := 103) dX4_perform_76 (by decide) ?_
            refine g_iinc X 0 (fun v => [(6, .int v), (0, .ref (ad 33)), (1, .int x1), (2, .long x2), (4, .long x3)]) dX4_perform_103 rfl (by decide) (fun _ => rfl) (fun zq60 eq61 => ?_)
            have tq62 : zq60.toInt = b6_34 + 1 := add_nw eq61 e6_34 (show (Int32.ofInt 1).toInt = 1 by decide) (by omega)
            refine g_goto X (tgt := 34) dX4_perform_106 (by decide) ?_
            refine g_sub [0, 1, 2, 3, 4] rfl ?_
            exact ih34 zq60 _ tq62 Mq55 (by omega) Iq56 frq58 cyq59 (by omega)
          · refine g_aload_n X 1 rfl dX4_perform_67 ?_
            refine g_callV X m_X4_65 (c_X4_keepSong ad M_34 I_34) rfl (by decide) (Nat.le_of_ble_eq_true rfl) rfl dX4_perform_68 ?_
            rintro _ Mq67 ⟨rq63, aq64, rfl, tq65, hq66, Iq68, frq69⟩
            have frq70 : Fr W_X4_perform Mq Mq67 := fr_34.trans frq69 rfl
            have cyq71 : 0 ≤ (Mq67.2 33 12).toInt := num_fr cy0_34 frq69 rfl
            show G Γ Mq67 71 [(6, .int y6_34), (0, .ref (ad 33)), (1, .int x1), (2, .long x2), (4, .long x3)] [.int rq63]
            exact g_zret X (b01 tq65 (by omega)) dX4_perform_71 ⟨_, _, rfl, tq65, (by omega), cyq71, Iq68, frq70⟩
  refine g_sub [0, 1, 2, 3, 4] rfl ?_
  exact lp34 _ 0 _ (show (0 : Int32).toInt = 0 by decide) Mq20 (by omega) Iq21 frq23 cyq24 (Nat.lt_succ_self _)
end
