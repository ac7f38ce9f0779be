section
set_option maxHeartbeats 4000000 in
set_option maxRecDepth 4000 in
theorem c_X2_isTold (ad : Nat → Nat) (Mq : Mem) (x1 : Int32) {a1 : Int} (t1 : x1.toInt = a1) : Ctr ad yX2_isTold cX2_isTold 2 (some .boolean) 0 [.ref (ad 14), .int x1] Mq (fun v M' => ∃ (r : Int32) (a : Int), v = some (.int r) ∧ r.toInt = a ∧ ((a = 1 ∧ (0 ≤ a1 ∧ a1 < 8 ∧ 0 < (Mq.1 20 a1.toNat).toInt)) ∨ (a = 0 ∧ ¬ (0 ≤ a1 ∧ a1 < 8 ∧ 0 < (Mq.1 20 a1.toNat).toInt))) ∧ Mq = M') := by
  refine ctr_of (L := [(0, .ref (ad 14)), (1, .int x1)]) (by decide) (Nat.le_of_ble_eq_true rfl) rfl ?_
  intro Γ X
  have X : gX Γ cX2_isTold RX2 2 (some .boolean) 0 ad _ := X
  refine g_iload_n X 1 rfl dX2_isTold_0 ?_
  refine g_if_lt X t1 (tgt := 23) dX2_isTold_1 (by decide) (fun cq1 => ?_) (fun cq1 => ?_)
  · refine g_iconst X 0 dX2_isTold_23 (by decide) ?_
    exact g_zret X (b01 (show (0 : Int32).toInt = 0 by decide) (by omega)) dX2_isTold_24 ⟨_, _, rfl, (show (0 : Int32).toInt = 0 by decide), (by omega), rfl⟩
  · refine g_iload_n X 1 rfl dX2_isTold_4 ?_
    refine g_bipush X 8 dX2_isTold_5 (by decide) ?_
    refine g_icmp_ge X t1 (show (8 : Int32).toInt = 8 by decide) (tgt := 23) dX2_isTold_7 (by decide) (fun cq2 => ?_) (fun cq2 => ?_)
    · refine g_iconst X 0 dX2_isTold_23 (by decide) ?_
      exact g_zret X (b01 (show (0 : Int32).toInt = 0 by decide) (by omega)) dX2_isTold_24 ⟨_, _, rfl, (show (0 : Int32).toInt = 0 by decide), (by omega), rfl⟩
    · refine g_aload_n X 0 rfl dX2_isTold_10 ?_
      refine g_getr X f_X2_38 dX2_isTold_11 ?_
      refine g_iload_n X 1 rfl dX2_isTold_14 ?_
      refine g_iald X la_20 t1 dX2_isTold_15 (by omega) (x := Mq.1 20 a1.toNat) rfl ?_
      refine g_if_le X rfl (tgt := 23) dX2_isTold_16 (by decide) (fun cq3 => ?_) (fun cq3 => ?_)
      · refine g_iconst X 0 dX2_isTold_23 (by decide) ?_
        exact g_zret X (b01 (show (0 : Int32).toInt = 0 by decide) (by omega)) dX2_isTold_24 ⟨_, _, rfl, (show (0 : Int32).toInt = 0 by decide), (by omega), rfl⟩
      · refine g_iconst X 1 dX2_isTold_19 (by decide) ?_
        refine g_goto X (tgt := 24) dX2_isTold_20 (by decide) ?_
        exact g_zret X (b01 (show (1 : Int32).toInt = 1 by decide) (by omega)) dX2_isTold_24 ⟨_, _, rfl, (show (1 : Int32).toInt = 1 by decide), (by omega), rfl⟩
set_option maxHeartbeats 4000000 in
set_option maxRecDepth 4000 in
theorem c_X2_sign (ad : Nat → Nat) (Mq : Mem) (x1 : Int32) {a1 : Int} (t1 : x1.toInt = a1) (x2 : Int32) {a2 : Int} (t2 : x2.toInt = a2) (h1 : 0 ≤ a1 ∧ a1 ≤ 7) (h2 : 0 ≤ a2 ∧ a2 ≤ 59) : Ctr ad yX2_sign cX2_sign 3 (some .int) 0 [.ref (ad 14), .int x1, .int x2] Mq (fun v M' => ∃ (r : Int32) (a : Int), v = some (.int r) ∧ r.toInt = a ∧ (True) ∧ Mq = M') := by
  refine ctr_of (L := [(0, .ref (ad 14)), (1, .int x1), (2, .int x2)]) (by decide) (Nat.le_of_ble_eq_true rfl) rfl ?_
  intro Γ X
  have X : gX Γ cX2_sign RX2 3 (some .int) 0 ad _ := X
  refine g_aload_n X 0 rfl dX2_sign_0 ?_
  refine g_getr X f_X2_32 dX2_sign_1 ?_
  refine g_iload_n X 1 rfl dX2_sign_4 ?_
  refine g_bipush X 60 dX2_sign_5 (by decide) ?_
  refine g_imul X dX2_sign_7 (fun zq1 eq2 => ?_)
  have tq3 : zq1.toInt = a1 * 60 := mul_nw eq2 t1 (show (60 : Int32).toInt = 60 by decide) (by omega)
  refine g_iload_n X 2 rfl dX2_sign_8 ?_
  refine g_iadd X dX2_sign_9 (fun zq4 eq5 => ?_)
  have tq6 : zq4.toInt = (a1 * 60) + a2 := add_nw eq5 tq3 t2 (by omega)
  refine g_iald X la_18 tq6 dX2_sign_10 (by omega) (x := Mq.1 18 (((a1 * 60) + a2).toNat)) rfl ?_
  exact g_iret X dX2_sign_11 ⟨_, _, rfl, rfl, trivial, rfl⟩
set_option maxHeartbeats 4000000 in
set_option maxRecDepth 4000 in
theorem c_X2_mateOf (ad : Nat → Nat) (Mq : Mem) (x1 : Int32) {a1 : Int} (t1 : x1.toInt = a1) (x2 : Int32) {a2 : Int} (t2 : x2.toInt = a2) (Iq0 : Iv TX Mq) (h1 : 0 ≤ a1 ∧ a1 ≤ 7) (h2 : 0 ≤ a2 ∧ a2 ≤ 59) : Ctr ad yX2_mateOf cX2_mateOf 3 (some .int) 0 [.ref (ad 14), .int x1, .int x2] Mq (fun v M' => ∃ (r : Int32) (a : Int), v = some (.int r) ∧ r.toInt = a ∧ (0 ≤ a ∧ a ≤ 59) ∧ Mq = M') := by
  refine ctr_of (L := [(0, .ref (ad 14)), (1, .int x1), (2, .int x2)]) (by decide) (Nat.le_of_ble_eq_true rfl) rfl ?_
  intro Γ X
  have X : gX Γ cX2_mateOf RX2 3 (some .int) 0 ad _ := X
  refine g_aload_n X 0 rfl dX2_mateOf_0 ?_
  refine g_getr X f_X2_35 dX2_mateOf_1 ?_
  refine g_iload_n X 1 rfl dX2_mateOf_4 ?_
  refine g_bipush X 60 dX2_mateOf_5 (by decide) ?_
  refine g_imul X dX2_mateOf_7 (fun zq1 eq2 => ?_)
  have tq3 : zq1.toInt = a1 * 60 := mul_nw eq2 t1 (show (60 : Int32).toInt = 60 by decide) (by omega)
  refine g_iload_n X 2 rfl dX2_mateOf_8 ?_
  refine g_iadd X dX2_mateOf_9 (fun zq4 eq5 => ?_)
  have tq6 : zq4.toInt = (a1 * 60) + a2 := add_nw eq5 tq3 t2 (by omega)
  refine g_iald X la_19 tq6 dX2_mateOf_10 (by omega) (x := Mq.1 19 (((a1 * 60) + a2).toNat)) rfl ?_
  have bq7 := ig_19 Iq0 (((a1 * 60) + a2).toNat) (by omega)
  exact g_iret X dX2_mateOf_11 ⟨_, _, rfl, rfl, (by omega), rfl⟩
abbrev W_X2_append : List (Nat × Nat) := [(14, 1), (15, 99)]
set_option maxHeartbeats 4000000 in
set_option maxRecDepth 4000 in
theorem c_X2_append (ad : Nat → Nat) (Mq : Mem) (x1 : Int64) {a1 : Int} (t1 : x1.toInt = a1) (x2 : Int32) {a2 : Int} (t2 : x2.toInt = a2) (Iq0 : Iv TX Mq) (h1 : 1 ≤ a2 ∧ a2 ≤ 8) (h2 : (Mq.1 14 1).toInt + a2 ≤ 60) : Ctr ad yX2_append cX2_append 5 (some .int) 0 [.ref (ad 14), .long x1, .int x2] Mq (fun v M' => ∃ (r : Int32) (a : Int), v = some (.int r) ∧ r.toInt = a ∧ (a = (Mq.1 14 1).toInt + a2) ∧ ((M'.1 14 1).toInt = (Mq.1 14 1).toInt + a2) ∧ Iv TX M' ∧ Fr W_X2_append Mq M') := by
  refine ctr_of (L := [(0, .ref (ad 14)), (1, .long x1), (3, .int x2)]) (by decide) (Nat.le_of_ble_eq_true rfl) rfl ?_
  intro Γ X
  have X : gX Γ cX2_append RX2 5 (some .int) 0 ad _ := X
  have frq0 : Fr W_X2_append Mq Mq := Fr.rf
  have hT := ig_14_1 Iq0
  refine g_iload_n X 2 rfl dX2_append_0 ?_
  refine g_iconst X 1 dX2_append_1 (by decide) ?_
  refine g_isub X dX2_append_2 (fun zq1 eq2 => ?_)
  have tq3 : zq1.toInt = a2 - 1 := sub_nw eq2 t2 (show (1 : Int32).toInt = 1 by decide) (by omega)
  refine g_istore X [(4, .int zq1), (0, .ref (ad 14)), (1, .long x1), (3, .int x2)] dX2_append_3 (by decide) rfl ?_
  have lp5 : ∀ n : Nat, ∀ (y4_5 : Int32) (b4_5 : Int), y4_5.toInt = b4_5 → ∀ (M_5 : Mem), (-1 ≤ b4_5 ∧ b4_5 < a2) → ((M_5.1 14 1).toInt + b4_5 + 1 = (Mq.1 14 1).toInt + a2) → (Iv TX M_5) → (Fr W_X2_append Mq M_5) → (b4_5 + 1).toNat < n → G Γ M_5 5 [(4, .int y4_5), (0, .ref (ad 14)), (1, .long x1), (3, .int x2)] [] := by
    intro n
    induction n with
    | zero => intro y4_5 b4_5 e4_5 M_5 i1 i2 I_5 fr_5 hm; exact absurd hm (Nat.not_lt_zero _)
    | succ n ih5 =>
      intro y4_5 b4_5 e4_5 M_5 i1 i2 I_5 fr_5 hm5
      refine g_iload X 0 rfl dX2_append_5 ?_
      refine g_if_lt X e4_5 (tgt := 47) dX2_append_7 (by decide) (fun cq4 => ?_) (fun cq4 => ?_)
      · refine g_aload_n X 1 rfl dX2_append_47 ?_
        refine g_geti X f_X2_15 dX2_append_48 (x := M_5.1 14 1) rfl ?_
        have bq5 := ig_14_1 I_5
        exact g_iret X dX2_append_51 ⟨_, _, rfl, rfl, (by omega), (by omega), I_5, fr_5⟩
      · refine g_aload_n X 1 rfl dX2_append_10 ?_
        refine g_getr X f_X2_9 dX2_append_11 ?_
        refine g_aload_n X 1 rfl dX2_append_14 ?_
        refine g_geti X f_X2_15 dX2_append_15 (x := M_5.1 14 1) rfl ?_
        have bq6 := ig_14_1 I_5
        refine g_lload_n X 2 rfl dX2_append_18 ?_
        refine g_bipush X 8 dX2_append_19 (by decide) ?_
        refine g_iload X 0 rfl dX2_append_21 ?_
        refine g_imul X dX2_append_23 (fun zq7 eq8 => ?_)
        have tq9 : zq7.toInt = 8 * b4_5 := mul_nw eq8 (show (8 : Int32).toInt = 8 by decide) e4_5 (by omega)
        refine g_lushr X dX2_append_24 (fun zq10 eq11 => ?_)
        refine g_ldc2 X k_X2_53 dX2_append_25 ?_
        refine g_land X dX2_append_28 (fun zq12 eq13 => ?_)
        refine g_l2i X dX2_append_29 (fun zq14 eq15 => ?_)
        refine g_iast X la_15 rfl dX2_append_30 (by omega) ?_
        have Iq16 : Iv TX (ui M_5 15 (((M_5.1 14 1).toInt).toNat) zq14) := I_5.otherA rfl
        have frq17 : Fr W_X2_append Mq (ui M_5 15 (((M_5.1 14 1).toInt).toNat) zq14) := fr_5.ui rfl
        refine g_aload_n X 1 rfl dX2_append_31 ?_
        refine g_dup X dX2_append_32 rfl ?_
        refine g_geti X f_X2_15 dX2_append_33 (x := M_5.1 14 1) rfl ?_
        have bq18 := ig_14_1 I_5
        refine g_iconst X 1 dX2_append_36 (by decide) ?_
        refine g_iadd X dX2_append_37 (fun zq19 eq20 => ?_)
        have tq21 : zq19.toInt = ((M_5.1 14 1).toInt) + 1 := add_nw eq20 rfl (show (1 : Int32).toInt = 1 by decide) (by omega)
        refine g_puti X p_X2_15 dX2_append_38 ?_
        have Iq22 : Iv TX (ui (ui M_5 15 (((M_5.1 14 1).toInt).toNat) zq14) 14 1 zq19) := Iq16.put 0 60 tq21 (by omega) rfl
        have frq23 : Fr W_X2_append Mq (ui (ui M_5 15 (((M_5.1 14 1).toInt).toNat) zq14) 14 1 zq19) := frq17.ui rfl
        refine g_iinc X 0 (fun v => [(4, .int v), (0, .ref (ad 14)), (1, .long x1), (3, .int x2)]) dX2_append_41 rfl (by decide) (fun _ => rfl) (fun zq24 eq25 => ?_)
        have tq26 : zq24.toInt = b4_5 + (-1) := add_nw eq25 e4_5 (show (Int32.ofInt (-1)).toInt = (-1) by decide) (by omega)
        refine g_goto X (tgt := 5) dX2_append_44 (by decide) ?_
        refine g_sub [0, 1, 2, 3] rfl ?_
        exact ih5 zq24 _ tq26 (ui (ui M_5 15 (((M_5.1 14 1).toInt).toNat) zq14) 14 1 zq19) (by omega) (by rw [ui_eq]; omega) Iq22 frq23 (by omega)
  refine g_sub [0, 1, 2, 3] rfl ?_
  exact lp5 _ zq1 _ tq3 Mq (by omega) (by omega) Iq0 frq0 (Nat.lt_succ_self _)
set_option maxHeartbeats 4000000 in
set_option maxRecDepth 4000 in
theorem c_X2_closer (ad : Nat → Nat) (Mq : Mem) (x1 : Int32) {a1 : Int} (t1 : x1.toInt = a1) : Ctr ad yX2_closer cX2_closer 1 (some .int) 0 [.int x1] Mq (fun v M' => ∃ (r : Int32) (a : Int), v = some (.int r) ∧ r.toInt = a ∧ (True) ∧ Mq = M') := by
  refine ctr_of (L := [(0, .int x1)]) (by decide) (Nat.le_of_ble_eq_true rfl) rfl ?_
  intro Γ X
  have X : gX Γ cX2_closer RX2 1 (some .int) 0 ad _ := X
  refine g_iload_n X 0 rfl dX2_closer_0 ?_
  rcases (show (a1 ≠ 91 ∧ a1 ≠ 123 ∧ a1 ≠ 124) ∨ a1 = 91 ∨ a1 = 123 ∨ a1 = 124 by omega) with cq1 | cq1 | cq1 | cq1
  · refine g_lookup X dX2_closer_1 (by decide) t1 (off := 44) (by simp [Op.lookupswitch.offset, cq1.1.symm, cq1.2.1.symm, cq1.2.2.symm]) (tgt := 45) (by decide) ?_
    refine g_iconst X (-1) dX2_closer_45 (by decide) ?_
    exact g_iret X dX2_closer_46 ⟨_, _, rfl, (show ((-1) : Int32).toInt = (-1) by decide), trivial, rfl⟩
  · refine g_lookup X dX2_closer_1 (by decide) (a := 91) (t1.trans cq1) (off := 35) (by decide) (tgt := 36) (by decide) ?_
    refine g_bipush X 93 dX2_closer_36 (by decide) ?_
    exact g_iret X dX2_closer_38 ⟨_, _, rfl, (show (93 : Int32).toInt = 93 by decide), trivial, rfl⟩
  · refine g_lookup X dX2_closer_1 (by decide) (a := 123) (t1.trans cq1) (off := 38) (by decide) (tgt := 39) (by decide) ?_
    refine g_bipush X 125 dX2_closer_39 (by decide) ?_
    exact g_iret X dX2_closer_41 ⟨_, _, rfl, (show (125 : Int32).toInt = 125 by decide), trivial, rfl⟩
  · refine g_lookup X dX2_closer_1 (by decide) (a := 124) (t1.trans cq1) (off := 41) (by decide) (tgt := 42) (by decide) ?_
    refine g_bipush X 41 dX2_closer_42 (by decide) ?_
    exact g_iret X dX2_closer_44 ⟨_, _, rfl, (show (41 : Int32).toInt = 41 by decide), trivial, rfl⟩
abbrev W_X2_opens : List (Nat × Nat) := [(14, 4), (14, 5), (17, 99)]
set_option maxHeartbeats 4000000 in
set_option maxRecDepth 4000 in
theorem c_X2_opens (ad : Nat → Nat) (Mq : Mem) (x1 : Int32) {a1 : Int} (t1 : x1.toInt = a1) (Iq0 : Iv TX Mq) (h1 : 0 ≤ a1 ∧ a1 ≤ 59) : Ctr ad yX2_opens cX2_opens 2 (some .boolean) 0 [.ref (ad 14), .int x1] Mq (fun v M' => ∃ (r : Int32) (a : Int), v = some (.int r) ∧ r.toInt = a ∧ (a = 0 ∨ a = 1) ∧ Iv TX M' ∧ Fr W_X2_opens Mq M') := by
  refine ctr_of (L := [(0, .ref (ad 14)), (1, .int x1)]) (by decide) (Nat.le_of_ble_eq_true rfl) rfl ?_
  intro Γ X
  have X : gX Γ cX2_opens RX2 2 (some .boolean) 0 ad _ := X
  have frq0 : Fr W_X2_opens Mq Mq := Fr.rf
  refine g_aload_n X 0 rfl dX2_opens_0 ?_
  refine g_geti X f_X2_25 dX2_opens_1 (x := Mq.1 14 4) rfl ?_
  have bq1 := ig_14_4 Iq0
  refine g_bipush X 60 dX2_opens_4 (by decide) ?_
  refine g_icmp_lt X rfl (show (60 : Int32).toInt = 60 by decide) (tgt := 11) dX2_opens_6 (by decide) (fun cq2 => ?_) (fun cq2 => ?_)
  · refine g_aload_n X 0 rfl dX2_opens_11 ?_
    refine g_getr X f_X2_22 dX2_opens_12 ?_
    refine g_aload_n X 0 rfl dX2_opens_15 ?_
    refine g_geti X f_X2_25 dX2_opens_16 (x := Mq.1 14 4) rfl ?_
    have bq3 := ig_14_4 Iq0
    refine g_iload_n X 1 rfl dX2_opens_19 ?_
    refine g_iast X la_17 rfl dX2_opens_20 (by omega) ?_
    have Iq4 : Iv TX (ui Mq 17 (((Mq.1 14 4).toInt).toNat) x1) := Iq0.putA 0 59 t1 (by omega) rfl
    have frq5 : Fr W_X2_opens Mq (ui Mq 17 (((Mq.1 14 4).toInt).toNat) x1) := frq0.ui rfl
    refine g_aload_n X 0 rfl dX2_opens_21 ?_
    refine g_dup X dX2_opens_22 rfl ?_
    refine g_geti X f_X2_25 dX2_opens_23 (x := Mq.1 14 4) rfl ?_
    have bq6 := ig_14_4 Iq0
    refine g_iconst X 1 dX2_opens_26 (by decide) ?_
    refine g_iadd X dX2_opens_27 (fun zq7 eq8 => ?_)
    have tq9 : zq7.toInt = ((Mq.1 14 4).toInt) + 1 := add_nw eq8 rfl (show (1 : Int32).toInt = 1 by decide) (by omega)
    refine g_puti X p_X2_25 dX2_opens_28 ?_
    have Iq10 : Iv TX (ui (ui Mq 17 (((Mq.1 14 4).toInt).toNat) x1) 14 4 zq7) := Iq4.put 0 60 tq9 (by omega) rfl
    have frq11 : Fr W_X2_opens Mq (ui (ui Mq 17 (((Mq.1 14 4).toInt).toNat) x1) 14 4 zq7) := frq5.ui rfl
    refine g_aload_n X 0 rfl dX2_opens_31 ?_
    refine g_iconst X 0 dX2_opens_32 (by decide) ?_
    refine g_putz X (b01 (show (0 : Int32).toInt = 0 by decide) (by omega)) p_X2_28 dX2_opens_33 ?_
    have Iq12 : Iv TX (ui (ui (ui Mq 17 (((Mq.1 14 4).toInt).toNat) x1) 14 4 zq7) 14 5 0) := Iq10.put 0 1 (show (0 : Int32).toInt = 0 by decide) (by omega) rfl
    have frq13 : Fr W_X2_opens Mq (ui (ui (ui Mq 17 (((Mq.1 14 4).toInt).toNat) x1) 14 4 zq7) 14 5 0) := frq11.ui rfl
    refine g_iconst X 1 dX2_opens_36 (by decide) ?_
    exact g_zret X (b01 (show (1 : Int32).toInt = 1 by decide) (by omega)) dX2_opens_37 ⟨_, _, rfl, (show (1 : Int32).toInt = 1 by decide), (by omega), Iq12, frq13⟩
  · refine g_iconst X 0 dX2_opens_9 (by decide) ?_
    exact g_zret X (b01 (show (0 : Int32).toInt = 0 by decide) (by omega)) dX2_opens_10 ⟨_, _, rfl, (show (0 : Int32).toInt = 0 by decide), (by omega), Iq0, frq0⟩
abbrev W_X2_closes : List (Nat × Nat) := [(14, 4), (14, 5), (16, 99), (17, 99)]
set_option maxHeartbeats 4000000 in
set_option maxRecDepth 4000 in
theorem c_X2_closes (ad : Nat → Nat) (Mq : Mem) (x1 : Int32) {a1 : Int} (t1 : x1.toInt = a1) (x2 : Int32) {a2 : Int} (t2 : x2.toInt = a2) (Iq0 : Iv TX Mq) (h1 : 0 ≤ a1 ∧ a1 ≤ 59) (h2 : 0 ≤ a2 ∧ a2 ≤ 59) (h3 : 1 ≤ (Mq.1 14 4).toInt) : Ctr ad yX2_closes cX2_closes 3 (some .boolean) 1 [.ref (ad 14), .int x1, .int x2] Mq (fun v M' => ∃ (r : Int32) (a : Int), v = some (.int r) ∧ r.toInt = a ∧ (a = 0 ∨ a = 1) ∧ Iv TX M' ∧ Fr W_X2_closes Mq M') := by
  refine ctr_of (L := [(0, .ref (ad 14)), (1, .int x1), (2, .int x2)]) (by decide) (Nat.le_of_ble_eq_true rfl) rfl ?_
  intro Γ X
  have X : gX Γ cX2_closes RX2 3 (some .boolean) 1 ad _ := X
  have frq0 : Fr W_X2_closes Mq Mq := Fr.rf
  refine g_aload_n X 0 rfl dX2_closes_0 ?_
  refine g_getr X f_X2_9 dX2_closes_1 ?_
  refine g_iload_n X 1 rfl dX2_closes_4 ?_
  refine g_iald X la_15 t1 dX2_closes_5 (by omega) (x := Mq.1 15 a1.toNat) rfl ?_
  refine g_bipush X 124 dX2_closes_6 (by decide) ?_
  refine g_icmp_ne X rfl (show (124 : Int32).toInt = 124 by decide) (tgt := 48) dX2_closes_8 (by decide) (fun cq1 => ?_) (fun cq1 => ?_)
  · refine g_aload_n X 0 rfl dX2_closes_48 ?_
    refine g_getr X f_X2_9 dX2_closes_49 ?_
    refine g_iload_n X 1 rfl dX2_closes_52 ?_
    refine g_iald X la_15 t1 dX2_closes_53 (by omega) (x := Mq.1 15 a1.toNat) rfl ?_
    refine g_aload_n X 0 rfl dX2_closes_54 ?_
    refine g_getr X f_X2_9 dX2_closes_55 ?_
    refine g_iload_n X 2 rfl dX2_closes_58 ?_
    refine g_iald X la_15 t2 dX2_closes_59 (by omega) (x := Mq.1 15 a2.toNat) rfl ?_
    refine g_callS X m_X2_90 (c_X2_closer ad Mq (Mq.1 15 a2.toNat) rfl) rfl (by decide) (Nat.le_of_ble_eq_true rfl) rfl dX2_closes_60 ?_
    rintro _ _ ⟨rq2, aq3, rfl, tq4, hq5, rfl⟩
    show G Γ Mq 63 [(0, .ref (ad 14)), (1, .int x1), (2, .int x2)] [.int rq2, .int (Mq.1 15 a1.toNat)]
    refine g_icmp_eq X rfl tq4 (tgt := 68) dX2_closes_63 (by decide) (fun cq6 => ?_) (fun cq6 => ?_)
    · refine g_aload_n X 0 rfl dX2_closes_68 ?_
      refine g_getr X f_X2_19 dX2_closes_69 ?_
      refine g_iload_n X 2 rfl dX2_closes_72 ?_
      refine g_iload_n X 1 rfl dX2_closes_73 ?_
      refine g_iast X la_16 t2 dX2_closes_74 (by omega) ?_
      have Iq7 : Iv TX (ui Mq 16 a2.toNat x1) := Iq0.putA 0 59 t1 (by omega) rfl
      have frq8 : Fr W_X2_closes Mq (ui Mq 16 a2.toNat x1) := frq0.ui rfl
      refine g_aload_n X 0 rfl dX2_closes_75 ?_
      refine g_getr X f_X2_19 dX2_closes_76 ?_
      refine g_iload_n X 1 rfl dX2_closes_79 ?_
      refine g_iload_n X 2 rfl dX2_closes_80 ?_
      refine g_iast X la_16 t1 dX2_closes_81 (by omega) ?_
      have Iq9 : Iv TX (ui (ui Mq 16 a2.toNat x1) 16 a1.toNat x2) := Iq7.putA 0 59 t2 (by omega) rfl
      have frq10 : Fr W_X2_closes Mq (ui (ui Mq 16 a2.toNat x1) 16 a1.toNat x2) := frq8.ui rfl
      refine g_aload_n X 0 rfl dX2_closes_82 ?_
      refine g_dup X dX2_closes_83 rfl ?_
      refine g_geti X f_X2_25 dX2_closes_84 (x := Mq.1 14 4) rfl ?_
      have bq11 := ig_14_4 Iq0
      refine g_iconst X 1 dX2_closes_87 (by decide) ?_
      refine g_isub X dX2_closes_88 (fun zq12 eq13 => ?_)
      have tq14 : zq12.toInt = ((Mq.1 14 4).toInt) - 1 := sub_nw eq13 rfl (show (1 : Int32).toInt = 1 by decide) (by omega)
      refine g_puti X p_X2_25 dX2_closes_89 ?_
      have Iq15 : Iv TX (ui (ui (ui Mq 16 a2.toNat x1) 16 a1.toNat x2) 14 4 zq12) := Iq9.put 0 60 tq14 (by omega) rfl
      have frq16 : Fr W_X2_closes Mq (ui (ui (ui Mq 16 a2.toNat x1) 16 a1.toNat x2) 14 4 zq12) := frq10.ui rfl
      refine g_iconst X 1 dX2_closes_92 (by decide) ?_
      exact g_zret X (b01 (show (1 : Int32).toInt = 1 by decide) (by omega)) dX2_closes_93 ⟨_, _, rfl, (show (1 : Int32).toInt = 1 by decide), (by omega), Iq15, frq16⟩
    · refine g_iconst X 0 dX2_closes_66 (by decide) ?_
      exact g_zret X (b01 (show (0 : Int32).toInt = 0 by decide) (by omega)) dX2_closes_67 ⟨_, _, rfl, (show (0 : Int32).toInt = 0 by decide), (by omega), Iq0, frq0⟩
  · refine g_aload_n X 0 rfl dX2_closes_11 ?_
    refine g_getr X f_X2_9 dX2_closes_12 ?_
    refine g_iload_n X 2 rfl dX2_closes_15 ?_
    refine g_iald X la_15 t2 dX2_closes_16 (by omega) (x := Mq.1 15 a2.toNat) rfl ?_
    refine g_bipush X 40 dX2_closes_17 (by decide) ?_
    refine g_icmp_ne X rfl (show (40 : Int32).toInt = 40 by decide) (tgt := 48) dX2_closes_19 (by decide) (fun cq17 => ?_) (fun cq17 => ?_)
    · refine g_aload_n X 0 rfl dX2_closes_48 ?_
      refine g_getr X f_X2_9 dX2_closes_49 ?_
      refine g_iload_n X 1 rfl dX2_closes_52 ?_
      refine g_iald X la_15 t1 dX2_closes_53 (by omega) (x := Mq.1 15 a1.toNat) rfl ?_
      refine g_aload_n X 0 rfl dX2_closes_54 ?_
      refine g_getr X f_X2_9 dX2_closes_55 ?_
      refine g_iload_n X 2 rfl dX2_closes_58 ?_
      refine g_iald X la_15 t2 dX2_closes_59 (by omega) (x := Mq.1 15 a2.toNat) rfl ?_
      refine g_callS X m_X2_90 (c_X2_closer ad Mq (Mq.1 15 a2.toNat) rfl) rfl (by decide) (Nat.le_of_ble_eq_true rfl) rfl dX2_closes_60 ?_
      rintro _ _ ⟨rq18, aq19, rfl, tq20, hq21, rfl⟩
      show G Γ Mq 63 [(0, .ref (ad 14)), (1, .int x1), (2, .int x2)] [.int rq18, .int (Mq.1 15 a1.toNat)]
      refine g_icmp_eq X rfl tq20 (tgt := 68) dX2_closes_63 (by decide) (fun cq22 => ?_) (fun cq22 => ?_)
      · refine g_aload_n X 0 rfl dX2_closes_68 ?_
        refine g_getr X f_X2_19 dX2_closes_69 ?_
        refine g_iload_n X 2 rfl dX2_closes_72 ?_
        refine g_iload_n X 1 rfl dX2_closes_73 ?_
        refine g_iast X la_16 t2 dX2_closes_74 (by omega) ?_
        have Iq23 : Iv TX (ui Mq 16 a2.toNat x1) := Iq0.putA 0 59 t1 (by omega) rfl
        have frq24 : Fr W_X2_closes Mq (ui Mq 16 a2.toNat x1) := frq0.ui rfl
        refine g_aload_n X 0 rfl dX2_closes_75 ?_
        refine g_getr X f_X2_19 dX2_closes_76 ?_
        refine g_iload_n X 1 rfl dX2_closes_79 ?_
        refine g_iload_n X 2 rfl dX2_closes_80 ?_
        refine g_iast X la_16 t1 dX2_closes_81 (by omega) ?_
        have Iq25 : Iv TX (ui (ui Mq 16 a2.toNat x1) 16 a1.toNat x2) := Iq23.putA 0 59 t2 (by omega) rfl
        have frq26 : Fr W_X2_closes Mq (ui (ui Mq 16 a2.toNat x1) 16 a1.toNat x2) := frq24.ui rfl
        refine g_aload_n X 0 rfl dX2_closes_82 ?_
        refine g_dup X dX2_closes_83 rfl ?_
        refine g_geti X f_X2_25 dX2_closes_84 (x := Mq.1 14 4) rfl ?_
        have bq27 := ig_14_4 Iq0
        refine g_iconst X 1 dX2_closes_87 (by decide) ?_
        refine g_isub X dX2_closes_88 (fun zq28 eq29 => ?_)
        have tq30 : zq28.toInt = ((Mq.1 14 4).toInt) - 1 := sub_nw eq29 rfl (show (1 : Int32).toInt = 1 by decide) (by omega)
        refine g_puti X p_X2_25 dX2_closes_89 ?_
        have Iq31 : Iv TX (ui (ui (ui Mq 16 a2.toNat x1) 16 a1.toNat x2) 14 4 zq28) := Iq25.put 0 60 tq30 (by omega) rfl
        have frq32 : Fr W_X2_closes Mq (ui (ui (ui Mq 16 a2.toNat x1) 16 a1.toNat x2) 14 4 zq28) := frq26.ui rfl
        refine g_iconst X 1 dX2_closes_92 (by decide) ?_
        exact g_zret X (b01 (show (1 : Int32).toInt = 1 by decide) (by omega)) dX2_closes_93 ⟨_, _, rfl, (show (1 : Int32).toInt = 1 by decide), (by omega), Iq31, frq32⟩
      · refine g_iconst X 0 dX2_closes_66 (by decide) ?_
        exact g_zret X (b01 (show (0 : Int32).toInt = 0 by decide) (by omega)) dX2_closes_67 ⟨_, _, rfl, (show (0 : Int32).toInt = 0 by decide), (by omega), Iq0, frq0⟩
    · refine g_aload_n X 0 rfl dX2_closes_22 ?_
      refine g_getr X f_X2_19 dX2_closes_23 ?_
      refine g_iload_n X 2 rfl dX2_closes_26 ?_
      refine g_iload_n X 1 rfl dX2_closes_27 ?_
      refine g_iast X la_16 t2 dX2_closes_28 (by omega) ?_
      have Iq33 : Iv TX (ui Mq 16 a2.toNat x1) := Iq0.putA 0 59 t1 (by omega) rfl
      have frq34 : Fr W_X2_closes Mq (ui Mq 16 a2.toNat x1) := frq0.ui rfl
      refine g_aload_n X 0 rfl dX2_closes_29 ?_
      refine g_getr X f_X2_22 dX2_closes_30 ?_
      refine g_aload_n X 0 rfl dX2_closes_33 ?_
      refine g_geti X f_X2_25 dX2_closes_34 (x := Mq.1 14 4) rfl ?_
      have bq35 := ig_14_4 Iq0
      refine g_iconst X 1 dX2_closes_37 (by decide) ?_
      refine g_isub X dX2_closes_38 (fun zq36 eq37 => ?_)
      have tq38 : zq36.toInt = ((Mq.1 14 4).toInt) - 1 := sub_nw eq37 rfl (show (1 : Int32).toInt = 1 by decide) (by omega)
      refine g_iload_n X 1 rfl dX2_closes_39 ?_
      refine g_iast X la_17 tq38 dX2_closes_40 (by omega) ?_
      have Iq39 : Iv TX (ui (ui Mq 16 a2.toNat x1) 17 ((((Mq.1 14 4).toInt) - 1).toNat) x1) := Iq33.putA 0 59 t1 (by omega) rfl
      have frq40 : Fr W_X2_closes Mq (ui (ui Mq 16 a2.toNat x1) 17 ((((Mq.1 14 4).toInt) - 1).toNat) x1) := frq34.ui rfl
      refine g_aload_n X 0 rfl dX2_closes_41 ?_
      refine g_iconst X 0 dX2_closes_42 (by decide) ?_
      refine g_putz X (b01 (show (0 : Int32).toInt = 0 by decide) (by omega)) p_X2_28 dX2_closes_43 ?_
      have Iq41 : Iv TX (ui (ui (ui Mq 16 a2.toNat x1) 17 ((((Mq.1 14 4).toInt) - 1).toNat) x1) 14 5 0) := Iq39.put 0 1 (show (0 : Int32).toInt = 0 by decide) (by omega) rfl
      have frq42 : Fr W_X2_closes Mq (ui (ui (ui Mq 16 a2.toNat x1) 17 ((((Mq.1 14 4).toInt) - 1).toNat) x1) 14 5 0) := frq40.ui rfl
      refine g_iconst X 1 dX2_closes_46 (by decide) ?_
      exact g_zret X (b01 (show (1 : Int32).toInt = 1 by decide) (by omega)) dX2_closes_47 ⟨_, _, rfl, (show (1 : Int32).toInt = 1 by decide), (by omega), Iq41, frq42⟩
abbrev W_X2_goesOn : List (Nat × Nat) := [(14, 4), (14, 5), (16, 99), (17, 99)]
set_option maxHeartbeats 4000000 in
set_option maxRecDepth 4000 in
theorem c_X2_goesOn (ad : Nat → Nat) (Mq : Mem) (x1 : Int32) {a1 : Int} (t1 : x1.toInt = a1) (Iq0 : Iv TX Mq) (h1 : 0 ≤ a1 ∧ a1 ≤ 59) : Ctr ad yX2_goesOn cX2_goesOn 3 (some .boolean) 2 [.ref (ad 14), .int x1] Mq (fun v M' => ∃ (r : Int32) (a : Int), v = some (.int r) ∧ r.toInt = a ∧ ((a = 0 ∨ a = 1) ∧ (a1 = 0 → a = 1 → 65 ≤ (Mq.1 15 0).toInt ∧ (Mq.1 15 0).toInt ≤ 72)) ∧ Iv TX M' ∧ Fr W_X2_goesOn Mq M') := by
  refine ctr_of (L := [(0, .ref (ad 14)), (1, .int x1)]) (by decide) (Nat.le_of_ble_eq_true rfl) rfl ?_
  intro Γ X
  have X : gX Γ cX2_goesOn RX2 3 (some .boolean) 2 ad _ := X
  have frq0 : Fr W_X2_goesOn Mq Mq := Fr.rf
  refine g_aload_n X 0 rfl dX2_goesOn_0 ?_
  refine g_getr X f_X2_9 dX2_goesOn_1 ?_
  refine g_iload_n X 1 rfl dX2_goesOn_4 ?_
  refine g_iald X la_15 t1 dX2_goesOn_5 (by omega) (x := Mq.1 15 a1.toNat) rfl ?_
  refine g_istore_n X (i := 2) [(2, .int (Mq.1 15 a1.toNat)), (0, .ref (ad 14)), (1, .int x1)] dX2_goesOn_6 rfl (by decide) rfl ?_
  refine g_iload_n X 2 rfl dX2_goesOn_7 ?_
  refine g_if_ne X t1 (tgt := 16) dX2_goesOn_8 (by decide) (fun cq1 => ?_) (fun cq1 => ?_)
  · refine g_iload_n X 2 rfl dX2_goesOn_16 ?_
    refine g_iconst X 1 dX2_goesOn_17 (by decide) ?_
    refine g_icmp_ne X t1 (show (1 : Int32).toInt = 1 by decide) (tgt := 33) dX2_goesOn_18 (by decide) (fun cq2 => ?_) (fun cq2 => ?_)
    · refine g_iload_n X 0 rfl dX2_goesOn_33 ?_
      refine g_callS X m_X2_80 (c_X6_isSlot ad Mq (Mq.1 15 a1.toNat) rfl) rfl (by decide) (Nat.le_of_ble_eq_true rfl) rfl dX2_goesOn_34 ?_
      rintro _ _ ⟨rq3, aq4, rfl, tq5, hq6, rfl⟩
      show G Γ Mq 37 [(2, .int (Mq.1 15 a1.toNat)), (0, .ref (ad 14)), (1, .int x1)] [.int rq3]
      refine g_if_ne X tq5 (tgt := 47) dX2_goesOn_37 (by decide) (fun cq7 => ?_) (fun cq7 => ?_)
      · have pq8 : (97 ≤ ((Mq.1 15 a1.toNat).toInt) ∧ ((Mq.1 15 a1.toNat).toInt) ≤ 104) := by omega
        clear hq6 cq7 tq5
        refine g_aload_n X 1 rfl dX2_goesOn_47 ?_
        refine g_iconst X 1 dX2_goesOn_48 (by decide) ?_
        refine g_putz X (b01 (show (1 : Int32).toInt = 1 by decide) (by omega)) p_X2_28 dX2_goesOn_49 ?_
        have Iq9 : Iv TX (ui Mq 14 5 1) := Iq0.put 0 1 (show (1 : Int32).toInt = 1 by decide) (by omega) rfl
        have frq10 : Fr W_X2_goesOn Mq (ui Mq 14 5 1) := frq0.ui rfl
        refine g_iconst X 1 dX2_goesOn_52 (by decide) ?_
        exact g_zret X (b01 (show (1 : Int32).toInt = 1 by decide) (by omega)) dX2_goesOn_53 ⟨_, _, rfl, (show (1 : Int32).toInt = 1 by decide), (by omega), Iq9, frq10⟩
      · have pq11 : ¬ (97 ≤ ((Mq.1 15 a1.toNat).toInt) ∧ ((Mq.1 15 a1.toNat).toInt) ≤ 104) := by omega
        clear hq6 cq7 tq5
        refine g_iload_n X 0 rfl dX2_goesOn_40 ?_
        refine g_callS X m_X2_77 (c_X6_isScene ad Mq (Mq.1 15 a1.toNat) rfl) rfl (by decide) (Nat.le_of_ble_eq_true rfl) rfl dX2_goesOn_41 ?_
        rintro _ _ ⟨rq12, aq13, rfl, tq14, hq15, rfl⟩
        show G Γ Mq 44 [(2, .int (Mq.1 15 a1.toNat)), (0, .ref (ad 14)), (1, .int x1)] [.int rq12]
        refine g_if_eq X tq14 (tgt := 54) dX2_goesOn_44 (by decide) (fun cq16 => ?_) (fun cq16 => ?_)
        · have pq17 : ¬ (65 ≤ ((Mq.1 15 a1.toNat).toInt) ∧ ((Mq.1 15 a1.toNat).toInt) ≤ 72) := by omega
          clear hq15 cq16 tq14
          refine g_iload_n X 0 rfl dX2_goesOn_54 ?_
          refine g_bipush X 91 dX2_goesOn_55 (by decide) ?_
          refine g_icmp_eq X rfl (show (91 : Int32).toInt = 91 by decide) (tgt := 72) dX2_goesOn_57 (by decide) (fun cq18 => ?_) (fun cq18 => ?_)
          · refine g_aload_n X 1 rfl dX2_goesOn_72 ?_
            refine g_iload_n X 2 rfl dX2_goesOn_73 ?_
            refine g_callV X m_X2_83 (c_X2_opens ad Mq x1 t1 Iq0 (by omega)) rfl (by decide) (Nat.le_of_ble_eq_true rfl) rfl dX2_goesOn_74 ?_
            rintro _ Mq23 ⟨rq19, aq20, rfl, tq21, hq22, Iq24, frq25⟩
            have frq26 : Fr W_X2_goesOn Mq Mq23 := frq0.trans frq25 rfl
            show G Γ Mq23 77 [(2, .int (Mq.1 15 a1.toNat)), (0, .ref (ad 14)), (1, .int x1)] [.int rq19]
            exact g_zret X (b01 tq21 (by omega)) dX2_goesOn_77 ⟨_, _, rfl, tq21, (by omega), Iq24, frq26⟩
          · refine g_iload_n X 0 rfl dX2_goesOn_60 ?_
            refine g_bipush X 123 dX2_goesOn_61 (by decide) ?_
            refine g_icmp_eq X rfl (show (123 : Int32).toInt = 123 by decide) (tgt := 72) dX2_goesOn_63 (by decide) (fun cq27 => ?_) (fun cq27 => ?_)
            · refine g_aload_n X 1 rfl dX2_goesOn_72 ?_
              refine g_iload_n X 2 rfl dX2_goesOn_73 ?_
              refine g_callV X m_X2_83 (c_X2_opens ad Mq x1 t1 Iq0 (by omega)) rfl (by decide) (Nat.le_of_ble_eq_true rfl) rfl dX2_goesOn_74 ?_
              rintro _ Mq32 ⟨rq28, aq29, rfl, tq30, hq31, Iq33, frq34⟩
              have frq35 : Fr W_X2_goesOn Mq Mq32 := frq0.trans frq34 rfl
              show G Γ Mq32 77 [(2, .int (Mq.1 15 a1.toNat)), (0, .ref (ad 14)), (1, .int x1)] [.int rq28]
              exact g_zret X (b01 tq30 (by omega)) dX2_goesOn_77 ⟨_, _, rfl, tq30, (by omega), Iq33, frq35⟩
            · refine g_iload_n X 0 rfl dX2_goesOn_66 ?_
              refine g_bipush X 40 dX2_goesOn_67 (by decide) ?_
              refine g_icmp_ne X rfl (show (40 : Int32).toInt = 40 by decide) (tgt := 78) dX2_goesOn_69 (by decide) (fun cq36 => ?_) (fun cq36 => ?_)
              · refine g_aload_n X 1 rfl dX2_goesOn_78 ?_
                refine g_geti X f_X2_28 dX2_goesOn_79 (x := Mq.1 14 5) rfl ?_
                have bq37 := ig_14_5 Iq0
                refine g_if_eq X rfl (tgt := 115) dX2_goesOn_82 (by decide) (fun cq38 => ?_) (fun cq38 => ?_)
                · refine g_iconst X 0 dX2_goesOn_115 (by decide) ?_
                  exact g_zret X (b01 (show (0 : Int32).toInt = 0 by decide) (by omega)) dX2_goesOn_116 ⟨_, _, rfl, (show (0 : Int32).toInt = 0 by decide), (by omega), Iq0, frq0⟩
                · refine g_aload_n X 1 rfl dX2_goesOn_85 ?_
                  refine g_geti X f_X2_25 dX2_goesOn_86 (x := Mq.1 14 4) rfl ?_
                  have bq39 := ig_14_4 Iq0
                  refine g_if_le X rfl (tgt := 115) dX2_goesOn_89 (by decide) (fun cq40 => ?_) (fun cq40 => ?_)
                  · refine g_iconst X 0 dX2_goesOn_115 (by decide) ?_
                    exact g_zret X (b01 (show (0 : Int32).toInt = 0 by decide) (by omega)) dX2_goesOn_116 ⟨_, _, rfl, (show (0 : Int32).toInt = 0 by decide), (by omega), Iq0, frq0⟩
                  · refine g_aload_n X 1 rfl dX2_goesOn_92 ?_
                    refine g_iload_n X 2 rfl dX2_goesOn_93 ?_
                    refine g_aload_n X 1 rfl dX2_goesOn_94 ?_
                    refine g_getr X f_X2_22 dX2_goesOn_95 ?_
                    refine g_aload_n X 1 rfl dX2_goesOn_98 ?_
                    refine g_geti X f_X2_25 dX2_goesOn_99 (x := Mq.1 14 4) rfl ?_
                    have bq41 := ig_14_4 Iq0
                    refine g_iconst X 1 dX2_goesOn_102 (by decide) ?_
                    refine g_isub X dX2_goesOn_103 (fun zq42 eq43 => ?_)
                    have tq44 : zq42.toInt = ((Mq.1 14 4).toInt) - 1 := sub_nw eq43 rfl (show (1 : Int32).toInt = 1 by decide) (by omega)
                    refine g_iald X la_17 tq44 dX2_goesOn_104 (by omega) (x := Mq.1 17 ((((Mq.1 14 4).toInt) - 1).toNat)) rfl ?_
                    have bq45 := ig_17 Iq0 ((((Mq.1 14 4).toInt) - 1).toNat) (by omega)
                    refine g_callV X m_X2_86 (c_X2_closes ad Mq x1 t1 (Mq.1 17 ((((Mq.1 14 4).toInt) - 1).toNat)) rfl Iq0 (by omega) (by omega) (by omega)) rfl (by decide) (Nat.le_of_ble_eq_true rfl) rfl dX2_goesOn_105 ?_
                    rintro _ Mq50 ⟨rq46, aq47, rfl, tq48, hq49, Iq51, frq52⟩
                    have frq53 : Fr W_X2_goesOn Mq Mq50 := frq0.trans frq52 rfl
                    show G Γ Mq50 108 [(2, .int (Mq.1 15 a1.toNat)), (0, .ref (ad 14)), (1, .int x1)] [.int rq46]
                    refine g_if_eq X tq48 (tgt := 115) dX2_goesOn_108 (by decide) (fun cq54 => ?_) (fun cq54 => ?_)
                    · refine g_iconst X 0 dX2_goesOn_115 (by decide) ?_
                      exact g_zret X (b01 (show (0 : Int32).toInt = 0 by decide) (by omega)) dX2_goesOn_116 ⟨_, _, rfl, (show (0 : Int32).toInt = 0 by decide), (by omega), Iq51, frq53⟩
                    · refine g_iconst X 1 dX2_goesOn_111 (by decide) ?_
                      refine g_goto X (tgt := 116) dX2_goesOn_112 (by decide) ?_
                      exact g_zret X (b01 (show (1 : Int32).toInt = 1 by decide) (by omega)) dX2_goesOn_116 ⟨_, _, rfl, (show (1 : Int32).toInt = 1 by decide), (by omega), Iq51, frq53⟩
              · refine g_aload_n X 1 rfl dX2_goesOn_72 ?_
                refine g_iload_n X 2 rfl dX2_goesOn_73 ?_
                refine g_callV X m_X2_83 (c_X2_opens ad Mq x1 t1 Iq0 (by omega)) rfl (by decide) (Nat.le_of_ble_eq_true rfl) rfl dX2_goesOn_74 ?_
                rintro _ Mq59 ⟨rq55, aq56, rfl, tq57, hq58, Iq60, frq61⟩
                have frq62 : Fr W_X2_goesOn Mq Mq59 := frq0.trans frq61 rfl
                show G Γ Mq59 77 [(2, .int (Mq.1 15 a1.toNat)), (0, .ref (ad 14)), (1, .int x1)] [.int rq55]
                exact g_zret X (b01 tq57 (by omega)) dX2_goesOn_77 ⟨_, _, rfl, tq57, (by omega), Iq60, frq62⟩
        · have pq63 : (65 ≤ ((Mq.1 15 a1.toNat).toInt) ∧ ((Mq.1 15 a1.toNat).toInt) ≤ 72) := by omega
          clear hq15 cq16 tq14
          refine g_aload_n X 1 rfl dX2_goesOn_47 ?_
          refine g_iconst X 1 dX2_goesOn_48 (by decide) ?_
          refine g_putz X (b01 (show (1 : Int32).toInt = 1 by decide) (by omega)) p_X2_28 dX2_goesOn_49 ?_
          have Iq64 : Iv TX (ui Mq 14 5 1) := Iq0.put 0 1 (show (1 : Int32).toInt = 1 by decide) (by omega) rfl
          have frq65 : Fr W_X2_goesOn Mq (ui Mq 14 5 1) := frq0.ui rfl
          refine g_iconst X 1 dX2_goesOn_52 (by decide) ?_
          exact g_zret X (b01 (show (1 : Int32).toInt = 1 by decide) (by omega)) dX2_goesOn_53 ⟨_, _, rfl, (show (1 : Int32).toInt = 1 by decide), (by omega), Iq64, frq65⟩
    · refine g_iload_n X 0 rfl dX2_goesOn_21 ?_
      refine g_bipush X 61 dX2_goesOn_22 (by decide) ?_
      refine g_icmp_ne X rfl (show (61 : Int32).toInt = 61 by decide) (tgt := 31) dX2_goesOn_24 (by decide) (fun cq66 => ?_) (fun cq66 => ?_)
      · refine g_iconst X 0 dX2_goesOn_31 (by decide) ?_
        exact g_zret X (b01 (show (0 : Int32).toInt = 0 by decide) (by omega)) dX2_goesOn_32 ⟨_, _, rfl, (show (0 : Int32).toInt = 0 by decide), (by omega), Iq0, frq0⟩
      · refine g_iconst X 1 dX2_goesOn_27 (by decide) ?_
        refine g_goto X (tgt := 32) dX2_goesOn_28 (by decide) ?_
        exact g_zret X (b01 (show (1 : Int32).toInt = 1 by decide) (by omega)) dX2_goesOn_32 ⟨_, _, rfl, (show (1 : Int32).toInt = 1 by decide), (by omega), Iq0, frq0⟩
  · refine g_iload_n X 0 rfl dX2_goesOn_11 ?_
    refine g_callS X m_X2_77 (c_X6_isScene ad Mq (Mq.1 15 a1.toNat) rfl) rfl (by decide) (Nat.le_of_ble_eq_true rfl) rfl dX2_goesOn_12 ?_
    rintro _ _ ⟨rq67, aq68, rfl, tq69, hq70, rfl⟩
    show G Γ Mq 15 [(2, .int (Mq.1 15 a1.toNat)), (0, .ref (ad 14)), (1, .int x1)] [.int rq67]
    exact g_zret X (b01 tq69 (by omega)) dX2_goesOn_15 ⟨_, _, rfl, tq69, (by have h0 : a1.toNat = 0 := (by omega); simp only [h0] at *; omega), Iq0, frq0⟩
abbrev W_X2_misfit : List (Nat × Nat) := [(14, 4), (14, 5), (16, 99), (17, 99)]
set_option maxHeartbeats 4000000 in
set_option maxRecDepth 4000 in
theorem c_X2_misfit (ad : Nat → Nat) (Mq : Mem) (Iq0 : Iv TX Mq) : Ctr ad yX2_misfit cX2_misfit 2 (some .int) 3 [.ref (ad 14)] Mq (fun v M' => ∃ (r : Int32) (a : Int), v = some (.int r) ∧ r.toInt = a ∧ (0 ≤ a ∨ (a = -1 ∧ 65 ≤ (Mq.1 15 0).toInt ∧ (Mq.1 15 0).toInt ≤ 72)) ∧ Iv TX M' ∧ Fr W_X2_misfit Mq M') := by
  refine ctr_of (L := [(0, .ref (ad 14))]) (by decide) (Nat.le_of_ble_eq_true rfl) rfl ?_
  intro Γ X
  have X : gX Γ cX2_misfit RX2 2 (some .int) 3 ad _ := X
  have frq0 : Fr W_X2_misfit Mq Mq := Fr.rf
  refine g_aload_n X 0 rfl dX2_misfit_0 ?_
  refine g_iconst X 0 dX2_misfit_1 (by decide) ?_
  refine g_puti X p_X2_25 dX2_misfit_2 ?_
  have Iq1 : Iv TX (ui Mq 14 4 0) := Iq0.put 0 60 (show (0 : Int32).toInt = 0 by decide) (by omega) rfl
  have frq2 : Fr W_X2_misfit Mq (ui Mq 14 4 0) := frq0.ui rfl
  refine g_aload_n X 0 rfl dX2_misfit_5 ?_
  refine g_iconst X 0 dX2_misfit_6 (by decide) ?_
  refine g_putz X (b01 (show (0 : Int32).toInt = 0 by decide) (by omega)) p_X2_28 dX2_misfit_7 ?_
  have Iq3 : Iv TX (ui (ui Mq 14 4 0) 14 5 0) := Iq1.put 0 1 (show (0 : Int32).toInt = 0 by decide) (by omega) rfl
  have frq4 : Fr W_X2_misfit Mq (ui (ui Mq 14 4 0) 14 5 0) := frq2.ui rfl
  refine g_iconst X 0 dX2_misfit_10 (by decide) ?_
  refine g_istore_n X (i := 1) [(1, .int 0), (0, .ref (ad 14))] dX2_misfit_11 rfl (by decide) rfl ?_
  have lp12 : ∀ n : Nat, ∀ (y1_12 : Int32) (b1_12 : Int), y1_12.toInt = b1_12 → ∀ (M_12 : Mem), (0 ≤ b1_12) → (b1_12 = 0 ∨ (65 ≤ (Mq.1 15 0).toInt ∧ (Mq.1 15 0).toInt ≤ 72)) → ((M_12.1 14 5).toInt = 0 ∨ (65 ≤ (Mq.1 15 0).toInt ∧ (Mq.1 15 0).toInt ≤ 72)) → (Iv TX M_12) → (Fr W_X2_misfit Mq M_12) → ((Mq.1 14 1).toInt - b1_12).toNat < n → G Γ M_12 12 [(1, .int y1_12), (0, .ref (ad 14))] [] := by
    intro n
    induction n with
    | zero => intro y1_12 b1_12 e1_12 M_12 i1 i2 i3 I_12 fr_12 hm; exact absurd hm (Nat.not_lt_zero _)
    | succ n ih12 =>
      intro y1_12 b1_12 e1_12 M_12 i1 i2 i3 I_12 fr_12 hm12
      have q14_1 : (M_12.1 14 1).toInt = (Mq.1 14 1).toInt := congrArg Int32.toInt (fr_12.at 14 1 rfl)
      have q15_0 : (M_12.1 15 0).toInt = (Mq.1 15 0).toInt := congrArg Int32.toInt (fr_12.at 15 0 rfl)
      refine g_iload_n X 0 rfl dX2_misfit_12 ?_
      refine g_aload_n X 1 rfl dX2_misfit_13 ?_
      refine g_geti X f_X2_15 dX2_misfit_14 (x := M_12.1 14 1) rfl ?_
      have bq5 := ig_14_1 I_12
      refine g_icmp_ge X e1_12 rfl (tgt := 36) dX2_misfit_17 (by decide) (fun cq6 => ?_) (fun cq6 => ?_)
      · refine g_aload_n X 1 rfl dX2_misfit_36 ?_
        refine g_geti X f_X2_28 dX2_misfit_37 (x := M_12.1 14 5) rfl ?_
        have bq7 := ig_14_5 I_12
        refine g_if_eq X rfl (tgt := 54) dX2_misfit_40 (by decide) (fun cq8 => ?_) (fun cq8 => ?_)
        · refine g_aload_n X 1 rfl dX2_misfit_54 ?_
          refine g_geti X f_X2_15 dX2_misfit_55 (x := M_12.1 14 1) rfl ?_
          have bq9 := ig_14_1 I_12
          exact g_iret X dX2_misfit_58 ⟨_, _, rfl, rfl, (by omega), I_12, fr_12⟩
        · refine g_aload_n X 1 rfl dX2_misfit_43 ?_
          refine g_geti X f_X2_25 dX2_misfit_44 (x := M_12.1 14 4) rfl ?_
          have bq10 := ig_14_4 I_12
          refine g_if_ne X rfl (tgt := 54) dX2_misfit_47 (by decide) (fun cq11 => ?_) (fun cq11 => ?_)
          · refine g_aload_n X 1 rfl dX2_misfit_54 ?_
            refine g_geti X f_X2_15 dX2_misfit_55 (x := M_12.1 14 1) rfl ?_
            have bq12 := ig_14_1 I_12
            exact g_iret X dX2_misfit_58 ⟨_, _, rfl, rfl, (by omega), I_12, fr_12⟩
          · refine g_iconst X (-1) dX2_misfit_50 (by decide) ?_
            refine g_goto X (tgt := 58) dX2_misfit_51 (by decide) ?_
            exact g_iret X dX2_misfit_58 ⟨_, _, rfl, (show ((-1) : Int32).toInt = (-1) by decide), (by omega), I_12, fr_12⟩
      · refine g_aload_n X 1 rfl dX2_misfit_20 ?_
        refine g_iload_n X 0 rfl dX2_misfit_21 ?_
        refine g_callV X m_X2_74 (c_X2_goesOn ad M_12 y1_12 e1_12 I_12 (by omega)) rfl (by decide) (Nat.le_of_ble_eq_true rfl) rfl dX2_misfit_22 ?_
        rintro _ Mq17 ⟨rq13, aq14, rfl, tq15, hq16, Iq18, frq19⟩
        have frq20 : Fr W_X2_misfit Mq Mq17 := fr_12.trans frq19 rfl
        show G Γ Mq17 25 [(1, .int y1_12), (0, .ref (ad 14))] [.int rq13]
        refine g_if_ne X tq15 (tgt := 30) dX2_misfit_25 (by decide) (fun cq21 => ?_) (fun cq21 => ?_)
        · refine g_iinc X 0 (fun v => [(1, .int v), (0, .ref (ad 14))]) dX2_misfit_30 rfl (by decide) (fun _ => rfl) (fun zq22 eq23 => ?_)
          have tq24 : zq22.toInt = b1_12 + 1 := add_nw eq23 e1_12 (show (Int32.ofInt 1).toInt = 1 by decide) (by omega)
          refine g_goto X (tgt := 12) dX2_misfit_33 (by decide) ?_
          refine g_sub [0, 1] rfl ?_
          exact ih12 zq22 _ tq24 Mq17 (by omega) (by omega) (by omega) Iq18 frq20 (by omega)
        · refine g_iload_n X 0 rfl dX2_misfit_28 ?_
          exact g_iret X dX2_misfit_29 ⟨_, _, rfl, e1_12, (by omega), Iq18, frq20⟩
  refine g_sub [0, 1] rfl ?_
  exact lp12 _ 0 _ (show (0 : Int32).toInt = 0 by decide) (ui (ui Mq 14 4 0) 14 5 0) (by omega) (by omega) (Or.inl (by rw [ui_eq]; decide)) Iq3 frq4 (Nat.lt_succ_self _)
set_option maxHeartbeats 4000000 in
set_option maxRecDepth 4000 in
theorem c_X2_untold (ad : Nat → Nat) (Mq : Mem) (x1 : Int32) {a1 : Int} (t1 : x1.toInt = a1) (Iq0 : Iv TX Mq) : Ctr ad yX2_untold cX2_untold 4 (some .int) 1 [.ref (ad 14), .int x1] Mq (fun v M' => ∃ (r : Int32) (a : Int), v = some (.int r) ∧ r.toInt = a ∧ (True) ∧ Mq = M') := by
  refine ctr_of (L := [(0, .ref (ad 14)), (1, .int x1)]) (by decide) (Nat.le_of_ble_eq_true rfl) rfl ?_
  intro Γ X
  have X : gX Γ cX2_untold RX2 4 (some .int) 1 ad _ := X
  refine g_iconst X 2 dX2_untold_0 (by decide) ?_
  refine g_istore_n X (i := 2) [(2, .int 2), (0, .ref (ad 14)), (1, .int x1)] dX2_untold_1 rfl (by decide) rfl ?_
  have lp2 : ∀ n : Nat, ∀ (y2_2 : Int32) (b2_2 : Int), y2_2.toInt = b2_2 → (2 ≤ b2_2) → ((Mq.1 14 1).toInt - b2_2).toNat < n → G Γ Mq 2 [(2, .int y2_2), (0, .ref (ad 14)), (1, .int x1)] [] := by
    intro n
    induction n with
    | zero => intro y2_2 b2_2 e2_2 i1 hm; exact absurd hm (Nat.not_lt_zero _)
    | succ n ih2 =>
      intro y2_2 b2_2 e2_2 i1 hm2
      refine g_iload_n X 0 rfl dX2_untold_2 ?_
      refine g_aload_n X 1 rfl dX2_untold_3 ?_
      refine g_geti X f_X2_15 dX2_untold_4 (x := Mq.1 14 1) rfl ?_
      have bq1 := ig_14_1 Iq0
      refine g_icmp_ge X e2_2 rfl (tgt := 53) dX2_untold_7 (by decide) (fun cq2 => ?_) (fun cq2 => ?_)
      · refine g_iconst X (-1) dX2_untold_53 (by decide) ?_
        exact g_iret X dX2_untold_54 ⟨_, _, rfl, (show ((-1) : Int32).toInt = (-1) by decide), trivial, rfl⟩
      · refine g_aload_n X 1 rfl dX2_untold_10 ?_
        refine g_getr X f_X2_9 dX2_untold_11 ?_
        refine g_iload_n X 0 rfl dX2_untold_14 ?_
        refine g_iald X la_15 e2_2 dX2_untold_15 (by omega) (x := Mq.1 15 b2_2.toNat) rfl ?_
        refine g_callS X m_X2_77 (c_X6_isScene ad Mq (Mq.1 15 b2_2.toNat) rfl) rfl (by decide) (Nat.le_of_ble_eq_true rfl) rfl dX2_untold_16 ?_
        rintro _ _ ⟨rq3, aq4, rfl, tq5, hq6, rfl⟩
        show G Γ Mq 19 [(2, .int y2_2), (0, .ref (ad 14)), (1, .int x1)] [.int rq3]
        refine g_if_eq X tq5 (tgt := 47) dX2_untold_19 (by decide) (fun cq7 => ?_) (fun cq7 => ?_)
        · have pq8 : ¬ (65 ≤ ((Mq.1 15 b2_2.toNat).toInt) ∧ ((Mq.1 15 b2_2.toNat).toInt) ≤ 72) := by omega
          clear hq6 cq7 tq5
          refine g_iinc X 0 (fun v => [(2, .int v), (0, .ref (ad 14)), (1, .int x1)]) dX2_untold_47 rfl (by decide) (fun _ => rfl) (fun zq9 eq10 => ?_)
          have tq11 : zq9.toInt = b2_2 + 1 := add_nw eq10 e2_2 (show (Int32.ofInt 1).toInt = 1 by decide) (by omega)
          refine g_goto X (tgt := 2) dX2_untold_50 (by decide) ?_
          refine g_sub [0, 1, 2] rfl ?_
          exact ih2 zq9 _ tq11 (by omega) (by omega)
        · have pq12 : (65 ≤ ((Mq.1 15 b2_2.toNat).toInt) ∧ ((Mq.1 15 b2_2.toNat).toInt) ≤ 72) := by omega
          clear hq6 cq7 tq5
          refine g_aload_n X 1 rfl dX2_untold_22 ?_
          refine g_getr X f_X2_9 dX2_untold_23 ?_
          refine g_iload_n X 0 rfl dX2_untold_26 ?_
          refine g_iald X la_15 e2_2 dX2_untold_27 (by omega) (x := Mq.1 15 b2_2.toNat) rfl ?_
          refine g_bipush X 65 dX2_untold_28 (by decide) ?_
          refine g_isub X dX2_untold_30 (fun zq13 eq14 => ?_)
          have tq15 : zq13.toInt = ((Mq.1 15 b2_2.toNat).toInt) - 65 := sub_nw eq14 rfl (show (65 : Int32).toInt = 65 by decide) (by omega)
          refine g_istore_n X (i := 3) [(3, .int zq13), (2, .int y2_2), (0, .ref (ad 14)), (1, .int x1)] dX2_untold_31 rfl (by decide) rfl ?_
          refine g_iload_n X 0 rfl dX2_untold_32 ?_
          refine g_iload_n X 3 rfl dX2_untold_33 ?_
          refine g_icmp_eq X tq15 t1 (tgt := 45) dX2_untold_34 (by decide) (fun cq16 => ?_) (fun cq16 => ?_)
          · refine g_iload_n X 1 rfl dX2_untold_45 ?_
            exact g_iret X dX2_untold_46 ⟨_, _, rfl, e2_2, trivial, rfl⟩
          · refine g_aload_n X 2 rfl dX2_untold_37 ?_
            refine g_iload_n X 0 rfl dX2_untold_38 ?_
            refine g_callV X m_X2_93 (c_X2_isTold ad Mq zq13 tq15) rfl (by decide) (Nat.le_of_ble_eq_true rfl) rfl dX2_untold_39 ?_
            rintro _ _ ⟨rq17, aq18, rfl, tq19, hq20, rfl⟩
            show G Γ Mq 42 [(3, .int zq13), (2, .int y2_2), (0, .ref (ad 14)), (1, .int x1)] [.int rq17]
            refine g_if_ne X tq19 (tgt := 47) dX2_untold_42 (by decide) (fun cq21 => ?_) (fun cq21 => ?_)
            · have pq22 : (0 ≤ (((Mq.1 15 b2_2.toNat).toInt) - 65) ∧ (((Mq.1 15 b2_2.toNat).toInt) - 65) < 8 ∧ 0 < (Mq.1 20 (((Mq.1 15 b2_2.toNat).toInt) - 65).toNat).toInt) := by omega
              clear hq20 cq21 tq19
              refine g_iinc X 1 (fun v => [(2, .int v), (3, .int zq13), (0, .ref (ad 14)), (1, .int x1)]) dX2_untold_47 rfl (by decide) (fun _ => rfl) (fun zq23 eq24 => ?_)
              have tq25 : zq23.toInt = b2_2 + 1 := add_nw eq24 e2_2 (show (Int32.ofInt 1).toInt = 1 by decide) (by omega)
              refine g_goto X (tgt := 2) dX2_untold_50 (by decide) ?_
              refine g_sub [0, 2, 3] rfl ?_
              exact ih2 zq23 _ tq25 (by omega) (by omega)
            · have pq26 : ¬ (0 ≤ (((Mq.1 15 b2_2.toNat).toInt) - 65) ∧ (((Mq.1 15 b2_2.toNat).toInt) - 65) < 8 ∧ 0 < (Mq.1 20 (((Mq.1 15 b2_2.toNat).toInt) - 65).toNat).toInt) := by omega
              clear hq20 cq21 tq19
              refine g_iload_n X 1 rfl dX2_untold_45 ?_
              exact g_iret X dX2_untold_46 ⟨_, _, rfl, e2_2, trivial, rfl⟩
  refine g_sub [0, 1, 2] rfl ?_
  exact lp2 _ 2 _ (show (2 : Int32).toInt = 2 by decide) (by omega) (Nat.lt_succ_self _)
set_option maxHeartbeats 4000000 in
set_option maxRecDepth 4000 in
theorem c_X2_standsInAnother (ad : Nat → Nat) (Mq : Mem) (x1 : Int32) {a1 : Int} (t1 : x1.toInt = a1) : Ctr ad yX2_standsInAnother cX2_standsInAnother 3 (some .boolean) 0 [.ref (ad 14), .int x1] Mq (fun v M' => ∃ (r : Int32) (a : Int), v = some (.int r) ∧ r.toInt = a ∧ (a = 0 ∨ a = 1) ∧ Mq = M') := by
  refine ctr_of (L := [(0, .ref (ad 14)), (1, .int x1)]) (by decide) (Nat.le_of_ble_eq_true rfl) rfl ?_
  intro Γ X
  have X : gX Γ cX2_standsInAnother RX2 3 (some .boolean) 0 ad _ := X
  refine g_iconst X 0 dX2_standsInAnother_0 (by decide) ?_
  refine g_istore_n X (i := 2) [(2, .int 0), (0, .ref (ad 14)), (1, .int x1)] dX2_standsInAnother_1 rfl (by decide) rfl ?_
  have lp2 : ∀ n : Nat, ∀ (y2_2 : Int32) (b2_2 : Int), y2_2.toInt = b2_2 → (0 ≤ b2_2 ∧ b2_2 ≤ 8) → (8 - b2_2).toNat < n → G Γ Mq 2 [(2, .int y2_2), (0, .ref (ad 14)), (1, .int x1)] [] := by
    intro n
    induction n with
    | zero => intro y2_2 b2_2 e2_2 i1 hm; exact absurd hm (Nat.not_lt_zero _)
    | succ n ih2 =>
      intro y2_2 b2_2 e2_2 i1 hm2
      refine g_iload_n X 0 rfl dX2_standsInAnother_2 ?_
      refine g_bipush X 8 dX2_standsInAnother_3 (by decide) ?_
      refine g_icmp_ge X e2_2 (show (8 : Int32).toInt = 8 by decide) (tgt := 30) dX2_standsInAnother_5 (by decide) (fun cq1 => ?_) (fun cq1 => ?_)
      · refine g_iconst X 0 dX2_standsInAnother_30 (by decide) ?_
        exact g_zret X (b01 (show (0 : Int32).toInt = 0 by decide) (by omega)) dX2_standsInAnother_31 ⟨_, _, rfl, (show (0 : Int32).toInt = 0 by decide), (by omega), rfl⟩
      · refine g_aload_n X 1 rfl dX2_standsInAnother_8 ?_
        refine g_getr X f_X2_41 dX2_standsInAnother_9 ?_
        refine g_iload_n X 0 rfl dX2_standsInAnother_12 ?_
        refine g_iald X la_21 e2_2 dX2_standsInAnother_13 (by omega) (x := Mq.1 21 b2_2.toNat) rfl ?_
        refine g_iload_n X 2 rfl dX2_standsInAnother_14 ?_
        refine g_ishr X dX2_standsInAnother_15 (fun zq2 eq3 => ?_)
        refine g_iconst X 1 dX2_standsInAnother_16 (by decide) ?_
        refine g_iand X dX2_standsInAnother_17 (fun zq5 eq6 => ?_)
        refine g_iconst X 1 dX2_standsInAnother_18 (by decide) ?_
        refine g_icmp_ne X rfl (show (1 : Int32).toInt = 1 by decide) (tgt := 24) dX2_standsInAnother_19 (by decide) (fun cq8 => ?_) (fun cq8 => ?_)
        · refine g_iinc X 0 (fun v => [(2, .int v), (0, .ref (ad 14)), (1, .int x1)]) dX2_standsInAnother_24 rfl (by decide) (fun _ => rfl) (fun zq9 eq10 => ?_)
          have tq11 : zq9.toInt = b2_2 + 1 := add_nw eq10 e2_2 (show (Int32.ofInt 1).toInt = 1 by decide) (by omega)
          refine g_goto X (tgt := 2) dX2_standsInAnother_27 (by decide) ?_
          refine g_sub [0, 1, 2] rfl ?_
          exact ih2 zq9 _ tq11 (by omega) (by omega)
        · refine g_iconst X 1 dX2_standsInAnother_22 (by decide) ?_
          exact g_zret X (b01 (show (1 : Int32).toInt = 1 by decide) (by omega)) dX2_standsInAnother_23 ⟨_, _, rfl, (show (1 : Int32).toInt = 1 by decide), (by omega), rfl⟩
  refine g_sub [0, 1, 2] rfl ?_
  exact lp2 _ 0 _ (show (0 : Int32).toInt = 0 by decide) (by omega) (Nat.lt_succ_self _)
abbrev W_X2_putLast : List (Nat × Nat) := [(14, 11), (22, 99)]
set_option maxHeartbeats 4000000 in
set_option maxRecDepth 4000 in
theorem c_X2_putLast (ad : Nat → Nat) (Mq : Mem) (x1 : Int32) {a1 : Int} (t1 : x1.toInt = a1) (Iq0 : Iv TX Mq) (h1 : 0 ≤ a1 ∧ a1 ≤ 7) : Ctr ad yX2_putLast cX2_putLast 4 none 0 [.ref (ad 14), .int x1] Mq (fun v M' => v = none ∧ (True) ∧ Iv TX M' ∧ Fr W_X2_putLast Mq M') := by
  refine ctr_of (L := [(0, .ref (ad 14)), (1, .int x1)]) (by decide) (Nat.le_of_ble_eq_true rfl) rfl ?_
  intro Γ X
  have X : gX Γ cX2_putLast RX2 4 none 0 ad _ := X
  have frq0 : Fr W_X2_putLast Mq Mq := Fr.rf
  refine g_iconst X 0 dX2_putLast_0 (by decide) ?_
  refine g_istore_n X (i := 2) [(2, .int 0), (0, .ref (ad 14)), (1, .int x1)] dX2_putLast_1 rfl (by decide) rfl ?_
  refine g_iconst X 0 dX2_putLast_2 (by decide) ?_
  refine g_istore_n X (i := 3) [(3, .int 0), (2, .int 0), (0, .ref (ad 14)), (1, .int x1)] dX2_putLast_3 rfl (by decide) rfl ?_
  have lp4 : ∀ n : Nat, ∀ (y3_4 : Int32) (b3_4 : Int), y3_4.toInt = b3_4 → ∀ (y2_4 : Int32) (b2_4 : Int), y2_4.toInt = b2_4 → ∀ (M_4 : Mem), (0 ≤ b2_4 ∧ b2_4 ≤ b3_4) → ((M_4.1 14 11).toInt = (Mq.1 14 11).toInt) → (Iv TX M_4) → (Fr W_X2_putLast Mq M_4) → ((Mq.1 14 11).toInt - b3_4).toNat < n → G Γ M_4 4 [(3, .int y3_4), (2, .int y2_4), (0, .ref (ad 14)), (1, .int x1)] [] := by
    intro n
    induction n with
    | zero => intro y3_4 b3_4 e3_4 y2_4 b2_4 e2_4 M_4 i1 i2 I_4 fr_4 hm; exact absurd hm (Nat.not_lt_zero _)
    | succ n ih4 =>
      intro y3_4 b3_4 e3_4 y2_4 b2_4 e2_4 M_4 i1 i2 I_4 fr_4 hm4
      refine g_iload_n X 0 rfl dX2_putLast_4 ?_
      refine g_aload_n X 2 rfl dX2_putLast_5 ?_
      refine g_geti X f_X2_47 dX2_putLast_6 (x := M_4.1 14 11) rfl ?_
      have bq1 := ig_14_11 I_4
      refine g_icmp_ge X e3_4 rfl (tgt := 43) dX2_putLast_9 (by decide) (fun cq2 => ?_) (fun cq2 => ?_)
      · refine g_iload_n X 1 rfl dX2_putLast_43 ?_
        refine g_bipush X 8 dX2_putLast_44 (by decide) ?_
        refine g_icmp_ge X e2_4 (show (8 : Int32).toInt = 8 by decide) (tgt := 63) dX2_putLast_46 (by decide) (fun cq3 => ?_) (fun cq3 => ?_)
        · exact g_vret X dX2_putLast_63 ⟨rfl, trivial, I_4, fr_4⟩
        · refine g_aload_n X 2 rfl dX2_putLast_49 ?_
          refine g_getr X f_X2_44 dX2_putLast_50 ?_
          refine g_iload_n X 1 rfl dX2_putLast_53 ?_
          refine g_iload_n X 3 rfl dX2_putLast_54 ?_
          refine g_iast X la_22 e2_4 dX2_putLast_55 (by omega) ?_
          have Iq4 : Iv TX (ui M_4 22 b2_4.toNat x1) := I_4.putA 0 7 t1 (by omega) rfl
          have frq5 : Fr W_X2_putLast Mq (ui M_4 22 b2_4.toNat x1) := fr_4.ui rfl
          refine g_aload_n X 2 rfl dX2_putLast_56 ?_
          refine g_iload_n X 1 rfl dX2_putLast_57 ?_
          refine g_iconst X 1 dX2_putLast_58 (by decide) ?_
          refine g_iadd X dX2_putLast_59 (fun zq6 eq7 => ?_)
          have tq8 : zq6.toInt = b2_4 + 1 := add_nw eq7 e2_4 (show (1 : Int32).toInt = 1 by decide) (by omega)
          refine g_puti X p_X2_47 dX2_putLast_60 ?_
          have Iq9 : Iv TX (ui (ui M_4 22 b2_4.toNat x1) 14 11 zq6) := Iq4.put 0 8 tq8 (by omega) rfl
          have frq10 : Fr W_X2_putLast Mq (ui (ui M_4 22 b2_4.toNat x1) 14 11 zq6) := frq5.ui rfl
          exact g_vret X dX2_putLast_63 ⟨rfl, trivial, Iq9, frq10⟩
      · refine g_aload_n X 2 rfl dX2_putLast_12 ?_
        refine g_getr X f_X2_44 dX2_putLast_13 ?_
        refine g_iload_n X 0 rfl dX2_putLast_16 ?_
        refine g_iald X la_22 e3_4 dX2_putLast_17 (by omega) (x := M_4.1 22 b3_4.toNat) rfl ?_
        have bq11 := ig_22 I_4 b3_4.toNat (by omega)
        refine g_iload_n X 3 rfl dX2_putLast_18 ?_
        refine g_icmp_eq X rfl t1 (tgt := 37) dX2_putLast_19 (by decide) (fun cq12 => ?_) (fun cq12 => ?_)
        · refine g_iinc X 0 (fun v => [(3, .int v), (2, .int y2_4), (0, .ref (ad 14)), (1, .int x1)]) dX2_putLast_37 rfl (by decide) (fun _ => rfl) (fun zq13 eq14 => ?_)
          have tq15 : zq13.toInt = b3_4 + 1 := add_nw eq14 e3_4 (show (Int32.ofInt 1).toInt = 1 by decide) (by omega)
          refine g_goto X (tgt := 4) dX2_putLast_40 (by decide) ?_
          refine g_sub [0, 1, 2, 3] rfl ?_
          exact ih4 zq13 _ tq15 y2_4 _ e2_4 M_4 (by omega) i2 I_4 fr_4 (by omega)
        · refine g_aload_n X 2 rfl dX2_putLast_22 ?_
          refine g_getr X f_X2_44 dX2_putLast_23 ?_
          refine g_iload_n X 1 rfl dX2_putLast_26 ?_
          refine g_aload_n X 2 rfl dX2_putLast_27 ?_
          refine g_getr X f_X2_44 dX2_putLast_28 ?_
          refine g_iload_n X 0 rfl dX2_putLast_31 ?_
          refine g_iald X la_22 e3_4 dX2_putLast_32 (by omega) (x := M_4.1 22 b3_4.toNat) rfl ?_
          have bq16 := ig_22 I_4 b3_4.toNat (by omega)
          refine g_iast X la_22 e2_4 dX2_putLast_33 (by omega) ?_
          have Iq17 : Iv TX (ui M_4 22 b2_4.toNat (M_4.1 22 b3_4.toNat)) := I_4.putA 0 7 rfl (by omega) rfl
          have frq18 : Fr W_X2_putLast Mq (ui M_4 22 b2_4.toNat (M_4.1 22 b3_4.toNat)) := fr_4.ui rfl
          refine g_iinc X 1 (fun v => [(2, .int v), (3, .int y3_4), (0, .ref (ad 14)), (1, .int x1)]) dX2_putLast_34 rfl (by decide) (fun _ => rfl) (fun zq19 eq20 => ?_)
          have tq21 : zq19.toInt = b2_4 + 1 := add_nw eq20 e2_4 (show (Int32.ofInt 1).toInt = 1 by decide) (by omega)
          refine g_iinc X 1 (fun v => [(3, .int v), (2, .int zq19), (0, .ref (ad 14)), (1, .int x1)]) dX2_putLast_37 rfl (by decide) (fun _ => rfl) (fun zq22 eq23 => ?_)
          have tq24 : zq22.toInt = b3_4 + 1 := add_nw eq23 e3_4 (show (Int32.ofInt 1).toInt = 1 by decide) (by omega)
          refine g_goto X (tgt := 4) dX2_putLast_40 (by decide) ?_
          refine g_sub [0, 1, 2, 3] rfl ?_
          exact ih4 zq22 _ tq24 zq19 _ tq21 (ui M_4 22 b2_4.toNat (M_4.1 22 b3_4.toNat)) (by omega) i2 Iq17 frq18 (by omega)
  refine g_sub [0, 1, 2, 3] rfl ?_
  exact lp4 _ 0 _ (show (0 : Int32).toInt = 0 by decide) 0 _ (show (0 : Int32).toInt = 0 by decide) Mq (by omega) rfl Iq0 frq0 (Nat.lt_succ_self _)
abbrev W_X2_keep : List (Nat × Nat) := [(14, 11), (22, 99), (18, 99), (19, 99), (20, 99), (21, 99)]
set_option maxHeartbeats 4000000 in
set_option maxRecDepth 4000 in
theorem c_X2_keep (ad : Nat → Nat) (Mq : Mem) (x1 : Int32) {a1 : Int} (t1 : x1.toInt = a1) (Iq0 : Iv TX Mq) (h1 : 0 ≤ a1 ∧ a1 ≤ 7) : Ctr ad yX2_keep cX2_keep 3 none 1 [.ref (ad 14), .int x1] Mq (fun v M' => v = none ∧ (True) ∧ Iv TX M' ∧ Fr W_X2_keep Mq M') := by
  refine ctr_of (L := [(0, .ref (ad 14)), (1, .int x1)]) (by decide) (Nat.le_of_ble_eq_true rfl) rfl ?_
  intro Γ X
  have X : gX Γ cX2_keep RX2 3 none 1 ad _ := X
  have frq0 : Fr W_X2_keep Mq Mq := Fr.rf
  have hT := ig_14_1 Iq0
  refine g_aload_n X 0 rfl dX2_keep_0 ?_
  refine g_getr X f_X2_9 dX2_keep_1 ?_
  refine g_iconst X 0 dX2_keep_4 (by decide) ?_
  refine g_aload_n X 0 rfl dX2_keep_5 ?_
  refine g_getr X f_X2_32 dX2_keep_6 ?_
  refine g_iload_n X 1 rfl dX2_keep_9 ?_
  refine g_bipush X 60 dX2_keep_10 (by decide) ?_
  refine g_imul X dX2_keep_12 (fun zq1 eq2 => ?_)
  have tq3 : zq1.toInt = a1 * 60 := mul_nw eq2 t1 (show (60 : Int32).toInt = 60 by decide) (by omega)
  refine g_aload_n X 0 rfl dX2_keep_13 ?_
  refine g_geti X f_X2_15 dX2_keep_14 (x := Mq.1 14 1) rfl ?_
  have bq4 := ig_14_1 Iq0
  refine g_copy X (show (0 : Int32).toInt = 0 by decide) tq3 rfl la_15 la_18 cp_X2_96 cp_ok.1 cp_ok.2.1 cp_ok.2.2 (by decide) (Nat.le_of_ble_eq_true rfl) (by omega) dX2_keep_17 ?_
  have Iq5 : Iv TX (uc Mq 15 0 18 ((a1 * 60).toNat) (((Mq.1 14 1).toInt).toNat)) := Iq0.copyO rfl
  have frq6 : Fr W_X2_keep Mq (uc Mq 15 0 18 ((a1 * 60).toNat) (((Mq.1 14 1).toInt).toNat)) := frq0.uc rfl
  refine g_aload_n X 0 rfl dX2_keep_20 ?_
  refine g_getr X f_X2_19 dX2_keep_21 ?_
  refine g_iconst X 0 dX2_keep_24 (by decide) ?_
  refine g_aload_n X 0 rfl dX2_keep_25 ?_
  refine g_getr X f_X2_35 dX2_keep_26 ?_
  refine g_iload_n X 1 rfl dX2_keep_29 ?_
  refine g_bipush X 60 dX2_keep_30 (by decide) ?_
  refine g_imul X dX2_keep_32 (fun zq7 eq8 => ?_)
  have tq9 : zq7.toInt = a1 * 60 := mul_nw eq8 t1 (show (60 : Int32).toInt = 60 by decide) (by omega)
  refine g_aload_n X 0 rfl dX2_keep_33 ?_
  refine g_geti X f_X2_15 dX2_keep_34 (x := Mq.1 14 1) rfl ?_
  have bq10 := ig_14_1 Iq0
  refine g_copy X (show (0 : Int32).toInt = 0 by decide) tq9 rfl la_16 la_19 cp_X2_96 cp_ok.1 cp_ok.2.1 cp_ok.2.2 (by decide) (Nat.le_of_ble_eq_true rfl) (by omega) dX2_keep_37 ?_
  have Iq11 : Iv TX (uc (uc Mq 15 0 18 ((a1 * 60).toNat) (((Mq.1 14 1).toInt).toNat)) 16 0 19 ((a1 * 60).toNat) (((Mq.1 14 1).toInt).toNat)) := Iq5.copy 0 59 (fun j hj => ig_16 Iq5 (0 + j) (by omega)) rfl
  have frq12 : Fr W_X2_keep Mq (uc (uc Mq 15 0 18 ((a1 * 60).toNat) (((Mq.1 14 1).toInt).toNat)) 16 0 19 ((a1 * 60).toNat) (((Mq.1 14 1).toInt).toNat)) := frq6.uc rfl
  refine g_aload_n X 0 rfl dX2_keep_40 ?_
  refine g_getr X f_X2_38 dX2_keep_41 ?_
  refine g_iload_n X 1 rfl dX2_keep_44 ?_
  refine g_aload_n X 0 rfl dX2_keep_45 ?_
  refine g_geti X f_X2_15 dX2_keep_46 (x := Mq.1 14 1) rfl ?_
  have bq13 := ig_14_1 Iq0
  refine g_iast X la_20 t1 dX2_keep_49 (by omega) ?_
  have Iq14 : Iv TX (ui (uc (uc Mq 15 0 18 ((a1 * 60).toNat) (((Mq.1 14 1).toInt).toNat)) 16 0 19 ((a1 * 60).toNat) (((Mq.1 14 1).toInt).toNat)) 20 a1.toNat (Mq.1 14 1)) := Iq11.putA 0 60 rfl (by omega) rfl
  have frq15 : Fr W_X2_keep Mq (ui (uc (uc Mq 15 0 18 ((a1 * 60).toNat) (((Mq.1 14 1).toInt).toNat)) 16 0 19 ((a1 * 60).toNat) (((Mq.1 14 1).toInt).toNat)) 20 a1.toNat (Mq.1 14 1)) := frq12.ui rfl
  refine g_aload_n X 0 rfl dX2_keep_50 ?_
  refine g_getr X f_X2_41 dX2_keep_51 ?_
  refine g_iload_n X 1 rfl dX2_keep_54 ?_
  refine g_iconst X 0 dX2_keep_55 (by decide) ?_
  refine g_iast X la_21 t1 dX2_keep_56 (by omega) ?_
  have Iq16 : Iv TX (ui (ui (uc (uc Mq 15 0 18 ((a1 * 60).toNat) (((Mq.1 14 1).toInt).toNat)) 16 0 19 ((a1 * 60).toNat) (((Mq.1 14 1).toInt).toNat)) 20 a1.toNat (Mq.1 14 1)) 21 a1.toNat 0) := Iq14.otherA rfl
  have frq17 : Fr W_X2_keep Mq (ui (ui (uc (uc Mq 15 0 18 ((a1 * 60).toNat) (((Mq.1 14 1).toInt).toNat)) 16 0 19 ((a1 * 60).toNat) (((Mq.1 14 1).toInt).toNat)) 20 a1.toNat (Mq.1 14 1)) 21 a1.toNat 0) := frq15.ui rfl
  refine g_iconst X 2 dX2_keep_57 (by decide) ?_
  refine g_istore_n X (i := 2) [(2, .int 2), (0, .ref (ad 14)), (1, .int x1)] dX2_keep_58 rfl (by decide) rfl ?_
  have lp59 : ∀ n : Nat, ∀ (y2_59 : Int32) (b2_59 : Int), y2_59.toInt = b2_59 → ∀ (M_59 : Mem), (2 ≤ b2_59) → (Iv TX M_59) → (Fr W_X2_keep Mq M_59) → ((Mq.1 14 1).toInt - b2_59).toNat < n → G Γ M_59 59 [(2, .int y2_59), (0, .ref (ad 14)), (1, .int x1)] [] := by
    intro n
    induction n with
    | zero => intro y2_59 b2_59 e2_59 M_59 i1 I_59 fr_59 hm; exact absurd hm (Nat.not_lt_zero _)
    | succ n ih59 =>
      intro y2_59 b2_59 e2_59 M_59 i1 I_59 fr_59 hm59
      have q14_1 : (M_59.1 14 1).toInt = (Mq.1 14 1).toInt := congrArg Int32.toInt (fr_59.at 14 1 rfl)
      refine g_iload_n X 0 rfl dX2_keep_59 ?_
      refine g_aload_n X 1 rfl dX2_keep_60 ?_
      refine g_geti X f_X2_15 dX2_keep_61 (x := M_59.1 14 1) rfl ?_
      have bq18 := ig_14_1 I_59
      refine g_icmp_ge X e2_59 rfl (tgt := 105) dX2_keep_64 (by decide) (fun cq19 => ?_) (fun cq19 => ?_)
      · refine g_aload_n X 1 rfl dX2_keep_105 ?_
        refine g_iload_n X 2 rfl dX2_keep_106 ?_
        refine g_callV X m_X2_102 (c_X2_putLast ad M_59 x1 t1 I_59 (by omega)) rfl (by decide) (Nat.le_of_ble_eq_true rfl) rfl dX2_keep_107 ?_
        rintro _ Mq24 ⟨rfl, hq23, Iq25, frq26⟩
        have frq27 : Fr W_X2_keep Mq Mq24 := fr_59.trans frq26 rfl
        show G Γ Mq24 110 [(2, .int y2_59), (0, .ref (ad 14)), (1, .int x1)] []
        exact g_vret X dX2_keep_110 ⟨rfl, trivial, Iq25, frq27⟩
      · refine g_aload_n X 1 rfl dX2_keep_67 ?_
        refine g_getr X f_X2_9 dX2_keep_68 ?_
        refine g_iload_n X 0 rfl dX2_keep_71 ?_
        refine g_iald X la_15 e2_59 dX2_keep_72 (by omega) (x := M_59.1 15 b2_59.toNat) rfl ?_
        refine g_callS X m_X2_77 (c_X6_isScene ad M_59 (M_59.1 15 b2_59.toNat) rfl) rfl (by decide) (Nat.le_of_ble_eq_true rfl) rfl dX2_keep_73 ?_
        rintro _ _ ⟨rq28, aq29, rfl, tq30, hq31, rfl⟩
        show G Γ M_59 76 [(2, .int y2_59), (0, .ref (ad 14)), (1, .int x1)] [.int rq28]
        refine g_if_eq X tq30 (tgt := 99) dX2_keep_76 (by decide) (fun cq32 => ?_) (fun cq32 => ?_)
        · have pq33 : ¬ (65 ≤ ((M_59.1 15 b2_59.toNat).toInt) ∧ ((M_59.1 15 b2_59.toNat).toInt) ≤ 72) := by omega
          clear hq31 cq32 tq30
          refine g_iinc X 0 (fun v => [(2, .int v), (0, .ref (ad 14)), (1, .int x1)]) dX2_keep_99 rfl (by decide) (fun _ => rfl) (fun zq34 eq35 => ?_)
          have tq36 : zq34.toInt = b2_59 + 1 := add_nw eq35 e2_59 (show (Int32.ofInt 1).toInt = 1 by decide) (by omega)
          refine g_goto X (tgt := 59) dX2_keep_102 (by decide) ?_
          refine g_sub [0, 1, 2] rfl ?_
          exact ih59 zq34 _ tq36 M_59 (by omega) I_59 fr_59 (by omega)
        · have pq37 : (65 ≤ ((M_59.1 15 b2_59.toNat).toInt) ∧ ((M_59.1 15 b2_59.toNat).toInt) ≤ 72) := by omega
          clear hq31 cq32 tq30
          refine g_aload_n X 1 rfl dX2_keep_79 ?_
          refine g_getr X f_X2_41 dX2_keep_80 ?_
          refine g_iload_n X 2 rfl dX2_keep_83 ?_
          refine g_dup2 X dX2_keep_84 rfl rfl ?_
          refine g_iald X la_21 t1 dX2_keep_85 (by omega) (x := M_59.1 21 a1.toNat) rfl ?_
          refine g_iconst X 1 dX2_keep_86 (by decide) ?_
          refine g_aload_n X 1 rfl dX2_keep_87 ?_
          refine g_getr X f_X2_9 dX2_keep_88 ?_
          refine g_iload_n X 0 rfl dX2_keep_91 ?_
          refine g_iald X la_15 e2_59 dX2_keep_92 (by omega) (x := M_59.1 15 b2_59.toNat) rfl ?_
          refine g_bipush X 65 dX2_keep_93 (by decide) ?_
          refine g_isub X dX2_keep_95 (fun zq38 eq39 => ?_)
          have tq40 : zq38.toInt = ((M_59.1 15 b2_59.toNat).toInt) - 65 := sub_nw eq39 rfl (show (65 : Int32).toInt = 65 by decide) (by omega)
          refine g_ishl X dX2_keep_96 (fun zq41 eq42 => ?_)
          refine g_ior X dX2_keep_97 (fun zq44 eq45 => ?_)
          refine g_iast X la_21 t1 dX2_keep_98 (by omega) ?_
          have Iq47 : Iv TX (ui M_59 21 a1.toNat zq44) := I_59.otherA rfl
          have frq48 : Fr W_X2_keep Mq (ui M_59 21 a1.toNat zq44) := fr_59.ui rfl
          refine g_iinc X 0 (fun v => [(2, .int v), (0, .ref (ad 14)), (1, .int x1)]) dX2_keep_99 rfl (by decide) (fun _ => rfl) (fun zq49 eq50 => ?_)
          have tq51 : zq49.toInt = b2_59 + 1 := add_nw eq50 e2_59 (show (Int32.ofInt 1).toInt = 1 by decide) (by omega)
          refine g_goto X (tgt := 59) dX2_keep_102 (by decide) ?_
          refine g_sub [0, 1, 2] rfl ?_
          exact ih59 zq49 _ tq51 (ui M_59 21 a1.toNat zq44) (by omega) Iq47 frq48 (by omega)
  refine g_sub [0, 1, 2] rfl ?_
  exact lp59 _ 2 _ (show (2 : Int32).toInt = 2 by decide) (ui (ui (uc (uc Mq 15 0 18 ((a1 * 60).toNat) (((Mq.1 14 1).toInt).toNat)) 16 0 19 ((a1 * 60).toNat) (((Mq.1 14 1).toInt).toNat)) 20 a1.toNat (Mq.1 14 1)) 21 a1.toNat 0) (by omega) Iq16 frq17 (Nat.lt_succ_self _)
abbrev W_X2_readTape : List (Nat × Nat) := [(14, 4), (14, 5), (16, 99), (17, 99), (14, 11), (22, 99), (18, 99), (19, 99), (20, 99), (21, 99)]
set_option maxHeartbeats 4000000 in
set_option maxRecDepth 4000 in
theorem c_X2_readTape (ad : Nat → Nat) (Mq : Mem) (Iq0 : Iv TX Mq) : Ctr ad yX2_readTape cX2_readTape 3 (some .int) 4 [.ref (ad 14)] Mq (fun v M' => ∃ (r : Int32) (a : Int), v = some (.int r) ∧ r.toInt = a ∧ (True) ∧ Iv TX M' ∧ Fr W_X2_readTape Mq M') := by
  refine ctr_of (L := [(0, .ref (ad 14))]) (by decide) (Nat.le_of_ble_eq_true rfl) rfl ?_
  intro Γ X
  have X : gX Γ cX2_readTape RX2 3 (some .int) 4 ad _ := X
  have frq0 : Fr W_X2_readTape Mq Mq := Fr.rf
  refine g_aload_n X 0 rfl dX2_readTape_0 ?_
  refine g_callV X m_X2_59 (c_X2_misfit ad Mq Iq0) rfl (by decide) (Nat.le_of_ble_eq_true rfl) rfl dX2_readTape_1 ?_
  rintro _ Mq5 ⟨rq1, aq2, rfl, tq3, hq4, Iq6, frq7⟩
  have frq8 : Fr W_X2_readTape Mq Mq5 := frq0.trans frq7 rfl
  have qt : (Mq5.1 15 0).toInt = (Mq.1 15 0).toInt := congrArg Int32.toInt (frq7.at 15 0 rfl)
  show G Γ Mq5 4 [(0, .ref (ad 14))] [.int rq1]
  refine g_istore_n X (i := 1) [(1, .int rq1), (0, .ref (ad 14))] dX2_readTape_4 rfl (by decide) rfl ?_
  refine g_iload_n X 0 rfl dX2_readTape_5 ?_
  refine g_if_lt X tq3 (tgt := 15) dX2_readTape_6 (by decide) (fun cq9 => ?_) (fun cq9 => ?_)
  · refine g_aload_n X 1 rfl dX2_readTape_15 ?_
    refine g_getr X f_X2_9 dX2_readTape_16 ?_
    refine g_iconst X 0 dX2_readTape_19 (by decide) ?_
    refine g_iald X la_15 (show (0 : Int32).toInt = 0 by decide) dX2_readTape_20 (by omega) (x := Mq5.1 15 0) rfl ?_
    refine g_bipush X 65 dX2_readTape_21 (by decide) ?_
    refine g_isub X dX2_readTape_23 (fun zq10 eq11 => ?_)
    have tq12 : zq10.toInt = ((Mq5.1 15 0).toInt) - 65 := sub_nw eq11 rfl (show (65 : Int32).toInt = 65 by decide) (by omega)
    refine g_istore_n X (i := 2) [(2, .int zq10), (1, .int rq1), (0, .ref (ad 14))] dX2_readTape_24 rfl (by decide) rfl ?_
    refine g_aload_n X 2 rfl dX2_readTape_25 ?_
    refine g_iload_n X 0 rfl dX2_readTape_26 ?_
    refine g_callV X m_X2_62 (c_X2_untold ad Mq5 zq10 tq12 Iq6) rfl (by decide) (Nat.le_of_ble_eq_true rfl) rfl dX2_readTape_27 ?_
    rintro _ _ ⟨rq13, aq14, rfl, tq15, hq16, rfl⟩
    show G Γ Mq5 30 [(2, .int zq10), (1, .int rq1), (0, .ref (ad 14))] [.int rq13]
    refine g_istore_n X (i := 1) [(1, .int rq13), (2, .int zq10), (0, .ref (ad 14))] dX2_readTape_30 rfl (by decide) rfl ?_
    refine g_iload_n X 0 rfl dX2_readTape_31 ?_
    refine g_if_lt X tq15 (tgt := 41) dX2_readTape_32 (by decide) (fun cq17 => ?_) (fun cq17 => ?_)
    · refine g_aload_n X 2 rfl dX2_readTape_41 ?_
      refine g_iload_n X 1 rfl dX2_readTape_42 ?_
      refine g_callV X m_X2_66 (c_X2_standsInAnother ad Mq5 zq10 tq12) rfl (by decide) (Nat.le_of_ble_eq_true rfl) rfl dX2_readTape_43 ?_
      rintro _ _ ⟨rq18, aq19, rfl, tq20, hq21, rfl⟩
      show G Γ Mq5 46 [(1, .int rq13), (2, .int zq10), (0, .ref (ad 14))] [.int rq18]
      refine g_if_eq X tq20 (tgt := 53) dX2_readTape_46 (by decide) (fun cq22 => ?_) (fun cq22 => ?_)
      · refine g_aload_n X 2 rfl dX2_readTape_53 ?_
        refine g_iload_n X 1 rfl dX2_readTape_54 ?_
        refine g_callV X m_X2_70 (c_X2_keep ad Mq5 zq10 tq12 Iq6 (by omega)) rfl (by decide) (Nat.le_of_ble_eq_true rfl) rfl dX2_readTape_55 ?_
        rintro _ Mq27 ⟨rfl, hq26, Iq28, frq29⟩
        have frq30 : Fr W_X2_readTape Mq Mq27 := frq8.trans frq29 rfl
        show G Γ Mq27 58 [(1, .int rq13), (2, .int zq10), (0, .ref (ad 14))] []
        refine g_iload_n X 1 rfl dX2_readTape_58 ?_
        exact g_iret X dX2_readTape_59 ⟨_, _, rfl, tq12, trivial, Iq28, frq30⟩
      · refine g_sipush X (-3000) dX2_readTape_49 (by decide) ?_
        exact g_iret X dX2_readTape_52 ⟨_, _, rfl, (show ((-3000) : Int32).toInt = (-3000) by decide), trivial, Iq6, frq8⟩
    · refine g_sipush X (-2000) dX2_readTape_35 (by decide) ?_
      refine g_iload_n X 0 rfl dX2_readTape_38 ?_
      refine g_isub X dX2_readTape_39 (fun zq31 eq32 => ?_)
      exact g_iret X dX2_readTape_40 ⟨_, _, rfl, rfl, trivial, Iq6, frq8⟩
  · refine g_sipush X (-1000) dX2_readTape_9 (by decide) ?_
    refine g_iload_n X 0 rfl dX2_readTape_12 ?_
    refine g_isub X dX2_readTape_13 (fun zq34 eq35 => ?_)
    exact g_iret X dX2_readTape_14 ⟨_, _, rfl, rfl, trivial, Iq6, frq8⟩
abbrev W_X2_tellTape : List (Nat × Nat) := [(14, 4), (14, 5), (16, 99), (17, 99), (14, 11), (22, 99), (18, 99), (19, 99), (20, 99), (21, 99), (14, 1)]
set_option maxHeartbeats 4000000 in
set_option maxRecDepth 4000 in
theorem c_X2_tellTape (ad : Nat → Nat) (Mq : Mem) (Iq0 : Iv TX Mq) : Ctr ad yX2_tellTape cX2_tellTape 2 (some .int) 5 [.ref (ad 14)] Mq (fun v M' => ∃ (r : Int32) (a : Int), v = some (.int r) ∧ r.toInt = a ∧ (True) ∧ ((M'.1 14 1).toInt = 0) ∧ Iv TX M' ∧ Fr W_X2_tellTape Mq M') := by
  refine ctr_of (L := [(0, .ref (ad 14))]) (by decide) (Nat.le_of_ble_eq_true rfl) rfl ?_
  intro Γ X
  have X : gX Γ cX2_tellTape RX2 2 (some .int) 5 ad _ := X
  have frq0 : Fr W_X2_tellTape Mq Mq := Fr.rf
  refine g_aload_n X 0 rfl dX2_tellTape_0 ?_
  refine g_callV X m_X2_55 (c_X2_readTape ad Mq Iq0) rfl (by decide) (Nat.le_of_ble_eq_true rfl) rfl dX2_tellTape_1 ?_
  rintro _ Mq5 ⟨rq1, aq2, rfl, tq3, hq4, Iq6, frq7⟩
  have frq8 : Fr W_X2_tellTape Mq Mq5 := frq0.trans frq7 rfl
  show G Γ Mq5 4 [(0, .ref (ad 14))] [.int rq1]
  refine g_istore_n X (i := 1) [(1, .int rq1), (0, .ref (ad 14))] dX2_tellTape_4 rfl (by decide) rfl ?_
  refine g_aload_n X 1 rfl dX2_tellTape_5 ?_
  refine g_iconst X 0 dX2_tellTape_6 (by decide) ?_
  refine g_puti X p_X2_15 dX2_tellTape_7 ?_
  have Iq9 : Iv TX (ui Mq5 14 1 0) := Iq6.put 0 60 (show (0 : Int32).toInt = 0 by decide) (by omega) rfl
  have frq10 : Fr W_X2_tellTape Mq (ui Mq5 14 1 0) := frq8.ui rfl
  refine g_iload_n X 0 rfl dX2_tellTape_10 ?_
  exact g_iret X dX2_tellTape_11 ⟨_, _, rfl, tq3, trivial, (by rw [ui_eq]; decide), Iq9, frq10⟩
set_option maxHeartbeats 4000000 in
set_option maxRecDepth 4000 in
theorem c_X2_within (ad : Nat → Nat) (Mq : Mem) (x1 : Int32) {a1 : Int} (t1 : x1.toInt = a1) (Iq0 : Iv TX Mq) : Ctr ad yX2_within cX2_within 4 (some .int) 0 [.ref (ad 14), .int x1] Mq (fun v M' => ∃ (r : Int32) (a : Int), v = some (.int r) ∧ r.toInt = a ∧ (True) ∧ Mq = M') := by
  refine ctr_of (L := [(0, .ref (ad 14)), (1, .int x1)]) (by decide) (Nat.le_of_ble_eq_true rfl) rfl ?_
  intro Γ X
  have X : gX Γ cX2_within RX2 4 (some .int) 0 ad _ := X
  have hT := ig_14_11 Iq0
  refine g_iconst X 1 dX2_within_0 (by decide) ?_
  refine g_iload_n X 1 rfl dX2_within_1 ?_
  refine g_ishl X dX2_within_2 (fun zq1 eq2 => ?_)
  refine g_istore_n X (i := 2) [(2, .int zq1), (0, .ref (ad 14)), (1, .int x1)] dX2_within_3 rfl (by decide) rfl ?_
  refine g_aload_n X 1 rfl dX2_within_4 ?_
  refine g_geti X f_X2_47 dX2_within_5 (x := Mq.1 14 11) rfl ?_
  have bq4 := ig_14_11 Iq0
  refine g_iconst X 1 dX2_within_8 (by decide) ?_
  refine g_isub X dX2_within_9 (fun zq5 eq6 => ?_)
  have tq7 : zq5.toInt = ((Mq.1 14 11).toInt) - 1 := sub_nw eq6 rfl (show (1 : Int32).toInt = 1 by decide) (by omega)
  refine g_istore_n X (i := 3) [(3, .int zq5), (2, .int zq1), (0, .ref (ad 14)), (1, .int x1)] dX2_within_10 rfl (by decide) rfl ?_
  have lp11 : ∀ n : Nat, ∀ (y3_11 : Int32) (b3_11 : Int), y3_11.toInt = b3_11 → ∀ (y2_11 : Int32) (b2_11 : Int), y2_11.toInt = b2_11 → (-1 ≤ b3_11 ∧ b3_11 ≤ 7) → (b3_11 + 1).toNat < n → G Γ Mq 11 [(3, .int y3_11), (2, .int y2_11), (0, .ref (ad 14)), (1, .int x1)] [] := by
    intro n
    induction n with
    | zero => intro y3_11 b3_11 e3_11 y2_11 b2_11 e2_11 i1 hm; exact absurd hm (Nat.not_lt_zero _)
    | succ n ih11 =>
      intro y3_11 b3_11 e3_11 y2_11 b2_11 e2_11 i1 hm11
      refine g_iload_n X 0 rfl dX2_within_11 ?_
      refine g_if_lt X e3_11 (tgt := 49) dX2_within_12 (by decide) (fun cq8 => ?_) (fun cq8 => ?_)
      · refine g_iload_n X 1 rfl dX2_within_49 ?_
        exact g_iret X dX2_within_50 ⟨_, _, rfl, e2_11, trivial, rfl⟩
      · refine g_iload_n X 1 rfl dX2_within_15 ?_
        refine g_aload_n X 2 rfl dX2_within_16 ?_
        refine g_getr X f_X2_44 dX2_within_17 ?_
        refine g_iload_n X 0 rfl dX2_within_20 ?_
        refine g_iald X la_22 e3_11 dX2_within_21 (by omega) (x := Mq.1 22 b3_11.toNat) rfl ?_
        have bq9 := ig_22 Iq0 b3_11.toNat (by omega)
        refine g_ishr X dX2_within_22 (fun zq10 eq11 => ?_)
        refine g_iconst X 1 dX2_within_23 (by decide) ?_
        refine g_iand X dX2_within_24 (fun zq13 eq14 => ?_)
        refine g_iconst X 1 dX2_within_25 (by decide) ?_
        refine g_icmp_ne X rfl (show (1 : Int32).toInt = 1 by decide) (tgt := 43) dX2_within_26 (by decide) (fun cq16 => ?_) (fun cq16 => ?_)
        · refine g_iinc X 0 (fun v => [(3, .int v), (2, .int y2_11), (0, .ref (ad 14)), (1, .int x1)]) dX2_within_43 rfl (by decide) (fun _ => rfl) (fun zq17 eq18 => ?_)
          have tq19 : zq17.toInt = b3_11 + (-1) := add_nw eq18 e3_11 (show (Int32.ofInt (-1)).toInt = (-1) by decide) (by omega)
          refine g_goto X (tgt := 11) dX2_within_46 (by decide) ?_
          refine g_sub [0, 1, 2, 3] rfl ?_
          exact ih11 zq17 _ tq19 y2_11 _ e2_11 (by omega) (by omega)
        · refine g_iload_n X 1 rfl dX2_within_29 ?_
          refine g_aload_n X 2 rfl dX2_within_30 ?_
          refine g_getr X f_X2_41 dX2_within_31 ?_
          refine g_aload_n X 2 rfl dX2_within_34 ?_
          refine g_getr X f_X2_44 dX2_within_35 ?_
          refine g_iload_n X 0 rfl dX2_within_38 ?_
          refine g_iald X la_22 e3_11 dX2_within_39 (by omega) (x := Mq.1 22 b3_11.toNat) rfl ?_
          have bq20 := ig_22 Iq0 b3_11.toNat (by omega)
          refine g_iald X la_21 rfl dX2_within_40 (by omega) (x := Mq.1 21 (((Mq.1 22 b3_11.toNat).toInt).toNat)) rfl ?_
          refine g_ior X dX2_within_41 (fun zq21 eq22 => ?_)
          refine g_istore_n X (i := 2) [(2, .int zq21), (3, .int y3_11), (0, .ref (ad 14)), (1, .int x1)] dX2_within_42 rfl (by decide) rfl ?_
          refine g_iinc X 1 (fun v => [(3, .int v), (2, .int zq21), (0, .ref (ad 14)), (1, .int x1)]) dX2_within_43 rfl (by decide) (fun _ => rfl) (fun zq24 eq25 => ?_)
          have tq26 : zq24.toInt = b3_11 + (-1) := add_nw eq25 e3_11 (show (Int32.ofInt (-1)).toInt = (-1) by decide) (by omega)
          refine g_goto X (tgt := 11) dX2_within_46 (by decide) ?_
          refine g_sub [0, 1, 2, 3] rfl ?_
          exact ih11 zq24 _ tq26 zq21 _ rfl (by omega) (by omega)
  refine g_sub [0, 1, 2, 3] rfl ?_
  exact lp11 _ zq5 _ tq7 zq1 _ rfl (by omega) (Nat.lt_succ_self _)
end
