section
abbrev W_X2_append_E : List (Nat × Nat) := [(14, 1), (15, 99)]
set_option maxHeartbeats 4000000 in
set_option maxRecDepth 4000 in
theorem c_X2_append_E (ad : Nat → Nat) (Mq : Mem) (x1 : Int64) {a1 : Int} (t1 : x1.toInt = a1) (x2 : Int32) {a2 : Int} (t2 : x2.toInt = a2) (Iq0 : Iv TX Mq) (h1 : 1 ≤ a2 ∧ a2 ≤ 8) (h2 : (Mq.1 14 1).toInt + a2 ≤ 60) : Ctr ad yX2_append cX2_append 5 (some .int) 0 [.ref (ad 14), .long x1, .int x2] Mq (fun v M' => ∃ (r : Int32) (a : Int), v = some (.int r) ∧ r.toInt = a ∧ (a = (Mq.1 14 1).toInt + a2) ∧ ((M'.1 14 1).toInt = (Mq.1 14 1).toInt + a2 ∧ (∀ j, M'.1 15 j = fdR x1 (Mq.1 14 1).toInt a2 a2 (Mq.1 15) j)) ∧ Iv TX M' ∧ Fr W_X2_append_E Mq M') := by
  refine ctr_of (L := [(0, .ref (ad 14)), (1, .long x1), (3, .int x2)]) (by decide) (Nat.le_of_ble_eq_true rfl) rfl ?_
  intro Γ X
  have X : gX Γ cX2_append RX2 5 (some .int) 0 ad _ := X
  have frq0 : Fr W_X2_append_E Mq Mq := Fr.rf
  have hT := ig_14_1 Iq0
  refine g_iload_n X 2 rfl dX2_append_0 ?_
  refine g_iconst X 1 dX2_append_1 (by decide) ?_
  refine g_isub X dX2_append_2 (fun zq1 eq2 => ?_)
  have tq3 : zq1.toInt = a2 - 1 := sub_nw eq2 t2 (show (1 : Int32).toInt = 1 by decide) (by omega)
  refine g_istore X [(4, .int zq1), (0, .ref (ad 14)), (1, .long x1), (3, .int x2)] dX2_append_3 (by decide) rfl ?_
  have lp5 : ∀ n : Nat, ∀ (y4_5 : Int32) (b4_5 : Int), y4_5.toInt = b4_5 → ∀ (M_5 : Mem), (-1 ≤ b4_5 ∧ b4_5 < a2) → ((M_5.1 14 1).toInt + b4_5 + 1 = (Mq.1 14 1).toInt + a2) → (∀ j, M_5.1 15 j = fdR x1 (Mq.1 14 1).toInt a2 (a2 - 1 - b4_5) (Mq.1 15) j) → (Iv TX M_5) → (Fr W_X2_append_E Mq M_5) → (b4_5 + 1).toNat < n → G Γ M_5 5 [(4, .int y4_5), (0, .ref (ad 14)), (1, .long x1), (3, .int x2)] [] := by
    intro n
    induction n with
    | zero => intro y4_5 b4_5 e4_5 M_5 i1 i2 i3 I_5 fr_5 hm; exact absurd hm (Nat.not_lt_zero _)
    | succ n ih5 =>
      intro y4_5 b4_5 e4_5 M_5 i1 i2 i3 I_5 fr_5 hm5
      refine g_iload X 0 rfl dX2_append_5 ?_
      refine g_if_lt X e4_5 (tgt := 47) dX2_append_7 (by decide) (fun cq4 => ?_) (fun cq4 => ?_)
      · refine g_aload_n X 1 rfl dX2_append_47 ?_
        refine g_geti X f_X2_15 dX2_append_48 (x := M_5.1 14 1) rfl ?_
        have bq5 := ig_14_1 I_5
        exact g_iret X dX2_append_51 ⟨_, _, rfl, rfl, (by omega), (⟨by omega, fun j => by rw [i3 j, show a2 - 1 - b4_5 = a2 by omega]⟩), I_5, fr_5⟩
      · refine g_aload_n X 1 rfl dX2_append_10 ?_
        refine g_getr X f_X2_9 dX2_append_11 ?_
        refine g_aload_n X 1 rfl dX2_append_14 ?_
        refine g_geti X f_X2_15 dX2_append_15 (x := M_5.1 14 1) rfl ?_
        have bq6 := ig_14_1 I_5
        refine g_lload_n X 2 rfl dX2_append_18 ?_
        refine g_bipush X 8 dX2_append_19 (by decide) ?_
        refine g_iload X 0 rfl dX2_append_21 ?_
        refine g_imul X dX2_append_23 (fun zq7 eq8 => ?_)
        have tq9 : zq7.toInt = 8 * b4_5 := mul_nw eq8 (show (8 : Int32).toInt = 8 by decide) e4_5 (by omega)
        refine g_lushr X dX2_append_24 (fun zq10 eq11 => ?_)
        have kx24 := eq11
        have ky24 := tq9
        refine g_ldc2 X k_X2_53 dX2_append_25 ?_
        refine g_land X dX2_append_28 (fun zq12 eq13 => ?_)
        have kx28 := eq13
        refine g_l2i X dX2_append_29 (fun zq14 eq15 => ?_)
        have kx29 := bw_X ky24 ⟨by omega, by omega⟩ kx24 kx28 eq15
        refine g_iast X la_15 rfl dX2_append_30 (by omega) ?_
        have Iq16 : Iv TX (ui M_5 15 (((M_5.1 14 1).toInt).toNat) zq14) := I_5.otherA rfl
        have frq17 : Fr W_X2_append_E Mq (ui M_5 15 (((M_5.1 14 1).toInt).toNat) zq14) := fr_5.ui rfl
        refine g_aload_n X 1 rfl dX2_append_31 ?_
        refine g_dup X dX2_append_32 rfl ?_
        refine g_geti X f_X2_15 dX2_append_33 (x := M_5.1 14 1) rfl ?_
        have bq18 := ig_14_1 I_5
        refine g_iconst X 1 dX2_append_36 (by decide) ?_
        refine g_iadd X dX2_append_37 (fun zq19 eq20 => ?_)
        have tq21 : zq19.toInt = ((M_5.1 14 1).toInt) + 1 := add_nw eq20 rfl (show (1 : Int32).toInt = 1 by decide) (by omega)
        refine g_puti X p_X2_15 dX2_append_38 ?_
        have Iq22 : Iv TX (ui (ui M_5 15 (((M_5.1 14 1).toInt).toNat) zq14) 14 1 zq19) := Iq16.put 0 60 tq21 (by omega) rfl
        have frq23 : Fr W_X2_append_E Mq (ui (ui M_5 15 (((M_5.1 14 1).toInt).toNat) zq14) 14 1 zq19) := frq17.ui rfl
        refine g_iinc X 0 (fun v => [(4, .int v), (0, .ref (ad 14)), (1, .long x1), (3, .int x2)]) dX2_append_41 rfl (by decide) (fun _ => rfl) (fun zq24 eq25 => ?_)
        have tq26 : zq24.toInt = b4_5 + (-1) := add_nw eq25 e4_5 (show (Int32.ofInt (-1)).toInt = (-1) by decide) (by omega)
        refine g_goto X (tgt := 5) dX2_append_44 (by decide) ?_
        refine g_sub [0, 1, 2, 3] rfl ?_
        exact ih5 zq24 _ tq26 (ui (ui M_5 15 (((M_5.1 14 1).toInt).toNat) zq14) 14 1 zq19) (by omega) (by rw [ui_eq]; omega) (fun j => fdR_b i3 ⟨by omega, by omega, by omega⟩ (by omega) kx29 (by omega) j) Iq22 frq23 (by omega)
  refine g_sub [0, 1, 2, 3] rfl ?_
  exact lp5 _ zq1 _ tq3 Mq (by omega) (by omega) (fun j => by rw [show a2 - 1 - (a2 - 1) = 0 by omega]; exact fdR_0 j) Iq0 frq0 (Nat.lt_succ_self _)
abbrev W_X6_feed_E : List (Nat × Nat) := [(14, 1), (15, 99)]
set_option maxHeartbeats 4000000 in
set_option maxRecDepth 4000 in
theorem c_X6_feed_E (ad : Nat → Nat) (Mq : Mem) (x1 : Int64) {a1 : Int} (t1 : x1.toInt = a1) (x2 : Int32) {a2 : Int} (t2 : x2.toInt = a2) (Iq0 : Iv TX Mq) : Ctr ad yX6_feed cX6_feed 4 (some .int) 1 [.ref (ad 0), .long x1, .int x2] Mq (fun v M' => ∃ (r : Int32) (a : Int), v = some (.int r) ∧ r.toInt = a ∧ (((¬ (1 ≤ a2 ∧ a2 ≤ 8)) ∧ (a = -2)) ∨ (¬ (¬ (1 ≤ a2 ∧ a2 ≤ 8)) ∧ (60 < (Mq.1 14 1).toInt + a2) ∧ (a = -4)) ∨ (¬ (¬ (1 ≤ a2 ∧ a2 ≤ 8)) ∧ ¬ (60 < (Mq.1 14 1).toInt + a2) ∧ (a = (Mq.1 14 1).toInt + a2))) ∧ ((((1 ≤ a2 ∧ a2 ≤ 8) ∧ (Mq.1 14 1).toInt + a2 ≤ 60 ∧ (M'.1 14 1).toInt = (Mq.1 14 1).toInt + a2) ∨ (¬ ((1 ≤ a2 ∧ a2 ≤ 8) ∧ (Mq.1 14 1).toInt + a2 ≤ 60) ∧ (M'.1 14 1).toInt = (Mq.1 14 1).toInt)) ∧ ((¬ ((1 ≤ a2 ∧ a2 ≤ 8) ∧ (Mq.1 14 1).toInt + a2 ≤ 60) → M'.1 15 = Mq.1 15) ∧ ((1 ≤ a2 ∧ a2 ≤ 8) ∧ (Mq.1 14 1).toInt + a2 ≤ 60 → ∀ j, M'.1 15 j = fdR x1 (Mq.1 14 1).toInt a2 a2 (Mq.1 15) j))) ∧ Iv TX M' ∧ Fr W_X6_feed_E Mq M') := by
  refine ctr_of (L := [(0, .ref (ad 0)), (1, .long x1), (3, .int x2)]) (by decide) (Nat.le_of_ble_eq_true rfl) rfl ?_
  intro Γ X
  have X : gX Γ cX6_feed RX6 4 (some .int) 1 ad _ := X
  have frq0 : Fr W_X6_feed_E Mq Mq := Fr.rf
  have hT := ig_14_1 Iq0
  refine g_iload_n X 2 rfl dX6_feed_0 ?_
  refine g_iconst X 1 dX6_feed_1 (by decide) ?_
  refine g_bipush X 8 dX6_feed_2 (by decide) ?_
  refine g_callS X m_X6_61 (c_X6_inside ad Mq x2 t2 1 (show (1 : Int32).toInt = 1 by decide) 8 (show (8 : Int32).toInt = 8 by decide)) rfl (by decide) (Nat.le_of_ble_eq_true rfl) rfl dX6_feed_4 ?_
  rintro _ _ ⟨rq1, aq2, rfl, tq3, hq4, rfl⟩
  show G Γ Mq 7 [(0, .ref (ad 0)), (1, .long x1), (3, .int x2)] [.int rq1]
  refine g_if_ne X tq3 (tgt := 13) dX6_feed_7 (by decide) (fun cq5 => ?_) (fun cq5 => ?_)
  · have pq6 : (1 ≤ a2 ∧ a2 ≤ 8) := by first | omega | (rcases hq4 with ⟨z1, z2⟩ | ⟨z1, z2⟩ <;> first | exact z2 | (exfalso; omega))
    refine g_aload_n X 0 rfl dX6_feed_13 ?_
    refine g_getr X f_X6_19 dX6_feed_14 ?_
    refine g_geti X f_X6_143 dX6_feed_17 (x := Mq.1 14 1) rfl ?_
    have bq7 := ig_14_1 Iq0
    refine g_bipush X 60 dX6_feed_20 (by decide) ?_
    refine g_iload_n X 2 rfl dX6_feed_22 ?_
    refine g_isub X dX6_feed_23 (fun zq8 eq9 => ?_)
    have tq10 : zq8.toInt = 60 - a2 := sub_nw eq9 (show (60 : Int32).toInt = 60 by decide) t2 (by omega)
    refine g_icmp_le X rfl tq10 (tgt := 30) dX6_feed_24 (by decide) (fun cq11 => ?_) (fun cq11 => ?_)
    · refine g_aload_n X 0 rfl dX6_feed_30 ?_
      refine g_getr X f_X6_19 dX6_feed_31 ?_
      refine g_lload_n X 1 rfl dX6_feed_34 ?_
      refine g_iload_n X 2 rfl dX6_feed_35 ?_
      refine g_callV X m_X6_146 (c_X2_append_E ad Mq x1 t1 x2 t2 Iq0 (by omega) (by omega)) rfl (by decide) (Nat.le_of_ble_eq_true rfl) rfl dX6_feed_36 ?_
      rintro _ Mq17 ⟨rq12, aq13, rfl, tq14, hq15, hq16, Iq18, frq19⟩
      have frq20 : Fr W_X6_feed_E Mq Mq17 := frq0.trans frq19 rfl
      show G Γ Mq17 39 [(0, .ref (ad 0)), (1, .long x1), (3, .int x2)] [.int rq12]
      exact g_iret X dX6_feed_39 ⟨_, _, rfl, tq14, (by omega), (⟨by first | omega | (have z := hq16.1; omega), ⟨fun h => by first | rfl | exact absurd (by omega) h, fun h => by first | exact hq16.2 | exact absurd h (by omega)⟩⟩), Iq18, frq20⟩
    · refine g_bipush X (-4) dX6_feed_27 (by decide) ?_
      exact g_iret X dX6_feed_29 ⟨_, _, rfl, (show ((-4) : Int32).toInt = (-4) by decide), (by omega), (⟨by first | omega | (have z := trivial.1; omega), ⟨fun h => by first | rfl | exact absurd (by omega) h, fun h => by first | exact trivial.2 | exact absurd h (by omega)⟩⟩), Iq0, frq0⟩
  · have pq21 : ¬ (1 ≤ a2 ∧ a2 ≤ 8) := by first | omega | (rcases hq4 with ⟨z1, z2⟩ | ⟨z1, z2⟩ <;> first | exact z2 | (exfalso; omega))
    refine g_bipush X (-2) dX6_feed_10 (by decide) ?_
    exact g_iret X dX6_feed_12 ⟨_, _, rfl, (show ((-2) : Int32).toInt = (-2) by decide), (by omega), (⟨by first | omega | (have z := trivial.1; omega), ⟨fun h => by first | rfl | exact absurd (by omega) h, fun h => by first | exact trivial.2 | exact absurd h (by omega)⟩⟩), Iq0, frq0⟩
set_option maxHeartbeats 4000000 in
set_option maxRecDepth 4000 in
theorem c_X2_closer_E (ad : Nat → Nat) (Mq : Mem) (x1 : Int32) {a1 : Int} (t1 : x1.toInt = a1) : Ctr ad yX2_closer cX2_closer 1 (some .int) 0 [.int x1] Mq (fun v M' => ∃ (r : Int32) (a : Int), v = some (.int r) ∧ r.toInt = a ∧ ((a1 = 91 ∧ a = 93) ∨ (a1 = 123 ∧ a = 125) ∨ (a1 = 124 ∧ a = 41) ∨ (a1 ≠ 91 ∧ a1 ≠ 123 ∧ a1 ≠ 124 ∧ a = -1)) ∧ Mq = M') := by
  refine ctr_of (L := [(0, .int x1)]) (by decide) (Nat.le_of_ble_eq_true rfl) rfl ?_
  intro Γ X
  have X : gX Γ cX2_closer RX2 1 (some .int) 0 ad _ := X
  refine g_iload_n X 0 rfl dX2_closer_0 ?_
  rcases (show (a1 ≠ 91 ∧ a1 ≠ 123 ∧ a1 ≠ 124) ∨ a1 = 91 ∨ a1 = 123 ∨ a1 = 124 by omega) with cq1 | cq1 | cq1 | cq1
  · refine g_lookup X dX2_closer_1 (by decide) t1 (off := 44) (by simp [Op.lookupswitch.offset, cq1.1.symm, cq1.2.1.symm, cq1.2.2.symm]) (tgt := 45) (by decide) ?_
    refine g_iconst X (-1) dX2_closer_45 (by decide) ?_
    exact g_iret X dX2_closer_46 ⟨_, _, rfl, (show ((-1) : Int32).toInt = (-1) by decide), (by omega), rfl⟩
  · refine g_lookup X dX2_closer_1 (by decide) (a := 91) (t1.trans cq1) (off := 35) (by decide) (tgt := 36) (by decide) ?_
    refine g_bipush X 93 dX2_closer_36 (by decide) ?_
    exact g_iret X dX2_closer_38 ⟨_, _, rfl, (show (93 : Int32).toInt = 93 by decide), (by omega), rfl⟩
  · refine g_lookup X dX2_closer_1 (by decide) (a := 123) (t1.trans cq1) (off := 38) (by decide) (tgt := 39) (by decide) ?_
    refine g_bipush X 125 dX2_closer_39 (by decide) ?_
    exact g_iret X dX2_closer_41 ⟨_, _, rfl, (show (125 : Int32).toInt = 125 by decide), (by omega), rfl⟩
  · refine g_lookup X dX2_closer_1 (by decide) (a := 124) (t1.trans cq1) (off := 41) (by decide) (tgt := 42) (by decide) ?_
    refine g_bipush X 41 dX2_closer_42 (by decide) ?_
    exact g_iret X dX2_closer_44 ⟨_, _, rfl, (show (41 : Int32).toInt = 41 by decide), (by omega), rfl⟩
abbrev W_X2_opens_E : List (Nat × Nat) := [(14, 4), (14, 5), (17, 99)]
set_option maxHeartbeats 4000000 in
set_option maxRecDepth 4000 in
theorem c_X2_opens_E (ad : Nat → Nat) (Mq : Mem) (x1 : Int32) {a1 : Int} (t1 : x1.toInt = a1) (Iq0 : Iv TX Mq) (h1 : 0 ≤ a1 ∧ a1 ≤ 59) (h2 : (Mq.1 14 4).toInt < 60) : Ctr ad yX2_opens cX2_opens 2 (some .boolean) 0 [.ref (ad 14), .int x1] Mq (fun v M' => ∃ (r : Int32) (a : Int), v = some (.int r) ∧ r.toInt = a ∧ (a = 1) ∧ ((M'.1 14 4).toInt = (Mq.1 14 4).toInt + 1 ∧ (M'.1 14 5).toInt = 0 ∧ M'.1 17 = (ui Mq 17 ((Mq.1 14 4).toInt).toNat x1).1 17) ∧ Iv TX M' ∧ Fr W_X2_opens_E Mq M') := by
  refine ctr_of (L := [(0, .ref (ad 14)), (1, .int x1)]) (by decide) (Nat.le_of_ble_eq_true rfl) rfl ?_
  intro Γ X
  have X : gX Γ cX2_opens RX2 2 (some .boolean) 0 ad _ := X
  have frq0 : Fr W_X2_opens_E Mq Mq := Fr.rf
  refine g_aload_n X 0 rfl dX2_opens_0 ?_
  refine g_geti X f_X2_25 dX2_opens_1 (x := Mq.1 14 4) rfl ?_
  have bq1 := ig_14_4 Iq0
  refine g_bipush X 60 dX2_opens_4 (by decide) ?_
  refine g_icmp_lt X rfl (show (60 : Int32).toInt = 60 by decide) (tgt := 11) dX2_opens_6 (by decide) (fun cq2 => ?_) (fun cq2 => ?_)
  · refine g_aload_n X 0 rfl dX2_opens_11 ?_
    refine g_getr X f_X2_22 dX2_opens_12 ?_
    refine g_aload_n X 0 rfl dX2_opens_15 ?_
    refine g_geti X f_X2_25 dX2_opens_16 (x := Mq.1 14 4) rfl ?_
    have bq3 := ig_14_4 Iq0
    refine g_iload_n X 1 rfl dX2_opens_19 ?_
    refine g_iast X la_17 rfl dX2_opens_20 (by omega) ?_
    have Iq4 : Iv TX (ui Mq 17 (((Mq.1 14 4).toInt).toNat) x1) := Iq0.putA 0 59 t1 (by omega) rfl
    have frq5 : Fr W_X2_opens_E Mq (ui Mq 17 (((Mq.1 14 4).toInt).toNat) x1) := frq0.ui rfl
    refine g_aload_n X 0 rfl dX2_opens_21 ?_
    refine g_dup X dX2_opens_22 rfl ?_
    refine g_geti X f_X2_25 dX2_opens_23 (x := Mq.1 14 4) rfl ?_
    have bq6 := ig_14_4 Iq0
    refine g_iconst X 1 dX2_opens_26 (by decide) ?_
    refine g_iadd X dX2_opens_27 (fun zq7 eq8 => ?_)
    have tq9 : zq7.toInt = ((Mq.1 14 4).toInt) + 1 := add_nw eq8 rfl (show (1 : Int32).toInt = 1 by decide) (by omega)
    refine g_puti X p_X2_25 dX2_opens_28 ?_
    have Iq10 : Iv TX (ui (ui Mq 17 (((Mq.1 14 4).toInt).toNat) x1) 14 4 zq7) := Iq4.put 0 60 tq9 (by omega) rfl
    have frq11 : Fr W_X2_opens_E Mq (ui (ui Mq 17 (((Mq.1 14 4).toInt).toNat) x1) 14 4 zq7) := frq5.ui rfl
    refine g_aload_n X 0 rfl dX2_opens_31 ?_
    refine g_iconst X 0 dX2_opens_32 (by decide) ?_
    refine g_putz X (b01 (show (0 : Int32).toInt = 0 by decide) (by omega)) p_X2_28 dX2_opens_33 ?_
    have ltq12 : (0 : Int32).toInt = 0 := by decide
    have Iq13 : Iv TX (ui (ui (ui Mq 17 (((Mq.1 14 4).toInt).toNat) x1) 14 4 zq7) 14 5 0) := Iq10.put 0 1 (show (0 : Int32).toInt = 0 by decide) (by omega) rfl
    have frq14 : Fr W_X2_opens_E Mq (ui (ui (ui Mq 17 (((Mq.1 14 4).toInt).toNat) x1) 14 4 zq7) 14 5 0) := frq11.ui rfl
    refine g_iconst X 1 dX2_opens_36 (by decide) ?_
    exact g_zret X (b01 (show (1 : Int32).toInt = 1 by decide) (by omega)) dX2_opens_37 ⟨_, _, rfl, (show (1 : Int32).toInt = 1 by decide), (by omega), (⟨by rw [ui_nj (by decide), ui_eq]; omega, by rw [ui_eq]; decide, by funext b; simp [ui]⟩), Iq13, frq14⟩
  · refine g_iconst X 0 dX2_opens_9 (by decide) ?_
    exact g_zret X (b01 (show (0 : Int32).toInt = 0 by decide) (by omega)) dX2_opens_10 ⟨_, _, rfl, (show (0 : Int32).toInt = 0 by decide), (by omega), (by omega), Iq0, frq0⟩
abbrev W_X2_closes_E : List (Nat × Nat) := [(14, 4), (14, 5), (16, 99), (17, 99)]
set_option maxHeartbeats 4000000 in
set_option maxRecDepth 4000 in
theorem c_X2_closes_E (ad : Nat → Nat) (Mq : Mem) (x1 : Int32) {a1 : Int} (t1 : x1.toInt = a1) (x2 : Int32) {a2 : Int} (t2 : x2.toInt = a2) (Iq0 : Iv TX Mq) (h1 : 0 ≤ a1 ∧ a1 ≤ 59) (h2 : 0 ≤ a2 ∧ a2 ≤ 59) (h3 : 1 ≤ (Mq.1 14 4).toInt) (h4 : 0 ≤ (Mq.1 15 a1.toNat).toInt) : Ctr ad yX2_closes cX2_closes 3 (some .boolean) 1 [.ref (ad 14), .int x1, .int x2] Mq (fun v M' => ∃ (r : Int32) (a : Int), v = some (.int r) ∧ r.toInt = a ∧ (a = 0 ∨ a = 1) ∧ ((a = 1 ∧ ((Mq.1 15 a1.toNat).toInt = 124 ∧ (Mq.1 15 a2.toNat).toInt = 40) ∧ (M'.1 14 4).toInt = (Mq.1 14 4).toInt ∧ (M'.1 14 5).toInt = 0 ∧ M'.1 17 = (ui Mq 17 ((Mq.1 14 4).toInt - 1).toNat x1).1 17) ∨ (a = 1 ∧ ¬ ((Mq.1 15 a1.toNat).toInt = 124 ∧ (Mq.1 15 a2.toNat).toInt = 40) ∧ prC (Mq.1 15 a2.toNat).toInt (Mq.1 15 a1.toNat).toInt ∧ (M'.1 14 4).toInt = (Mq.1 14 4).toInt - 1 ∧ (M'.1 14 5).toInt = (Mq.1 14 5).toInt ∧ M'.1 17 = Mq.1 17) ∨ (a = 0 ∧ ¬ ((Mq.1 15 a1.toNat).toInt = 124 ∧ (Mq.1 15 a2.toNat).toInt = 40) ∧ ¬ prC (Mq.1 15 a2.toNat).toInt (Mq.1 15 a1.toNat).toInt ∧ (M'.1 14 4).toInt = (Mq.1 14 4).toInt)) ∧ Iv TX M' ∧ Fr W_X2_closes_E Mq M') := by
  refine ctr_of (L := [(0, .ref (ad 14)), (1, .int x1), (2, .int x2)]) (by decide) (Nat.le_of_ble_eq_true rfl) rfl ?_
  intro Γ X
  have X : gX Γ cX2_closes RX2 3 (some .boolean) 1 ad _ := X
  have frq0 : Fr W_X2_closes_E Mq Mq := Fr.rf
  refine g_aload_n X 0 rfl dX2_closes_0 ?_
  refine g_getr X f_X2_9 dX2_closes_1 ?_
  refine g_iload_n X 1 rfl dX2_closes_4 ?_
  refine g_iald X la_15 t1 dX2_closes_5 (by omega) (x := Mq.1 15 a1.toNat) rfl ?_
  refine g_bipush X 124 dX2_closes_6 (by decide) ?_
  refine g_icmp_ne X rfl (show (124 : Int32).toInt = 124 by decide) (tgt := 48) dX2_closes_8 (by decide) (fun cq1 => ?_) (fun cq1 => ?_)
  · refine g_aload_n X 0 rfl dX2_closes_48 ?_
    refine g_getr X f_X2_9 dX2_closes_49 ?_
    refine g_iload_n X 1 rfl dX2_closes_52 ?_
    refine g_iald X la_15 t1 dX2_closes_53 (by omega) (x := Mq.1 15 a1.toNat) rfl ?_
    refine g_aload_n X 0 rfl dX2_closes_54 ?_
    refine g_getr X f_X2_9 dX2_closes_55 ?_
    refine g_iload_n X 2 rfl dX2_closes_58 ?_
    refine g_iald X la_15 t2 dX2_closes_59 (by omega) (x := Mq.1 15 a2.toNat) rfl ?_
    refine g_callS X m_X2_90 (c_X2_closer_E ad Mq (Mq.1 15 a2.toNat) rfl) rfl (by decide) (Nat.le_of_ble_eq_true rfl) rfl dX2_closes_60 ?_
    rintro _ _ ⟨rq2, aq3, rfl, tq4, hq5, rfl⟩
    show G Γ Mq 63 [(0, .ref (ad 14)), (1, .int x1), (2, .int x2)] [.int rq2, .int (Mq.1 15 a1.toNat)]
    refine g_icmp_eq X rfl tq4 (tgt := 68) dX2_closes_63 (by decide) (fun cq6 => ?_) (fun cq6 => ?_)
    · refine g_aload_n X 0 rfl dX2_closes_68 ?_
      refine g_getr X f_X2_19 dX2_closes_69 ?_
      refine g_iload_n X 2 rfl dX2_closes_72 ?_
      refine g_iload_n X 1 rfl dX2_closes_73 ?_
      refine g_iast X la_16 t2 dX2_closes_74 (by omega) ?_
      have Iq7 : Iv TX (ui Mq 16 a2.toNat x1) := Iq0.putA 0 59 t1 (by omega) rfl
      have frq8 : Fr W_X2_closes_E Mq (ui Mq 16 a2.toNat x1) := frq0.ui rfl
      refine g_aload_n X 0 rfl dX2_closes_75 ?_
      refine g_getr X f_X2_19 dX2_closes_76 ?_
      refine g_iload_n X 1 rfl dX2_closes_79 ?_
      refine g_iload_n X 2 rfl dX2_closes_80 ?_
      refine g_iast X la_16 t1 dX2_closes_81 (by omega) ?_
      have Iq9 : Iv TX (ui (ui Mq 16 a2.toNat x1) 16 a1.toNat x2) := Iq7.putA 0 59 t2 (by omega) rfl
      have frq10 : Fr W_X2_closes_E Mq (ui (ui Mq 16 a2.toNat x1) 16 a1.toNat x2) := frq8.ui rfl
      refine g_aload_n X 0 rfl dX2_closes_82 ?_
      refine g_dup X dX2_closes_83 rfl ?_
      refine g_geti X f_X2_25 dX2_closes_84 (x := Mq.1 14 4) rfl ?_
      have bq11 := ig_14_4 Iq0
      refine g_iconst X 1 dX2_closes_87 (by decide) ?_
      refine g_isub X dX2_closes_88 (fun zq12 eq13 => ?_)
      have tq14 : zq12.toInt = ((Mq.1 14 4).toInt) - 1 := sub_nw eq13 rfl (show (1 : Int32).toInt = 1 by decide) (by omega)
      refine g_puti X p_X2_25 dX2_closes_89 ?_
      have Iq15 : Iv TX (ui (ui (ui Mq 16 a2.toNat x1) 16 a1.toNat x2) 14 4 zq12) := Iq9.put 0 60 tq14 (by omega) rfl
      have frq16 : Fr W_X2_closes_E Mq (ui (ui (ui Mq 16 a2.toNat x1) 16 a1.toNat x2) 14 4 zq12) := frq10.ui rfl
      refine g_iconst X 1 dX2_closes_92 (by decide) ?_
      exact g_zret X (b01 (show (1 : Int32).toInt = 1 by decide) (by omega)) dX2_closes_93 ⟨_, _, rfl, (show (1 : Int32).toInt = 1 by decide), (by omega), (Or.inr (Or.inl ⟨rfl, by omega, by unfold prC; omega, by rw [ui_eq]; omega, by simp [ui], by funext b; simp [ui]⟩)), Iq15, frq16⟩
    · refine g_iconst X 0 dX2_closes_66 (by decide) ?_
      exact g_zret X (b01 (show (0 : Int32).toInt = 0 by decide) (by omega)) dX2_closes_67 ⟨_, _, rfl, (show (0 : Int32).toInt = 0 by decide), (by omega), (Or.inr (Or.inr ⟨rfl, by omega, by unfold prC; omega, rfl⟩)), Iq0, frq0⟩
  · refine g_aload_n X 0 rfl dX2_closes_11 ?_
    refine g_getr X f_X2_9 dX2_closes_12 ?_
    refine g_iload_n X 2 rfl dX2_closes_15 ?_
    refine g_iald X la_15 t2 dX2_closes_16 (by omega) (x := Mq.1 15 a2.toNat) rfl ?_
    refine g_bipush X 40 dX2_closes_17 (by decide) ?_
    refine g_icmp_ne X rfl (show (40 : Int32).toInt = 40 by decide) (tgt := 48) dX2_closes_19 (by decide) (fun cq17 => ?_) (fun cq17 => ?_)
    · refine g_aload_n X 0 rfl dX2_closes_48 ?_
      refine g_getr X f_X2_9 dX2_closes_49 ?_
      refine g_iload_n X 1 rfl dX2_closes_52 ?_
      refine g_iald X la_15 t1 dX2_closes_53 (by omega) (x := Mq.1 15 a1.toNat) rfl ?_
      refine g_aload_n X 0 rfl dX2_closes_54 ?_
      refine g_getr X f_X2_9 dX2_closes_55 ?_
      refine g_iload_n X 2 rfl dX2_closes_58 ?_
      refine g_iald X la_15 t2 dX2_closes_59 (by omega) (x := Mq.1 15 a2.toNat) rfl ?_
      refine g_callS X m_X2_90 (c_X2_closer_E ad Mq (Mq.1 15 a2.toNat) rfl) rfl (by decide) (Nat.le_of_ble_eq_true rfl) rfl dX2_closes_60 ?_
      rintro _ _ ⟨rq18, aq19, rfl, tq20, hq21, rfl⟩
      show G Γ Mq 63 [(0, .ref (ad 14)), (1, .int x1), (2, .int x2)] [.int rq18, .int (Mq.1 15 a1.toNat)]
      refine g_icmp_eq X rfl tq20 (tgt := 68) dX2_closes_63 (by decide) (fun cq22 => ?_) (fun cq22 => ?_)
      · refine g_aload_n X 0 rfl dX2_closes_68 ?_
        refine g_getr X f_X2_19 dX2_closes_69 ?_
        refine g_iload_n X 2 rfl dX2_closes_72 ?_
        refine g_iload_n X 1 rfl dX2_closes_73 ?_
        refine g_iast X la_16 t2 dX2_closes_74 (by omega) ?_
        have Iq23 : Iv TX (ui Mq 16 a2.toNat x1) := Iq0.putA 0 59 t1 (by omega) rfl
        have frq24 : Fr W_X2_closes_E Mq (ui Mq 16 a2.toNat x1) := frq0.ui rfl
        refine g_aload_n X 0 rfl dX2_closes_75 ?_
        refine g_getr X f_X2_19 dX2_closes_76 ?_
        refine g_iload_n X 1 rfl dX2_closes_79 ?_
        refine g_iload_n X 2 rfl dX2_closes_80 ?_
        refine g_iast X la_16 t1 dX2_closes_81 (by omega) ?_
        have Iq25 : Iv TX (ui (ui Mq 16 a2.toNat x1) 16 a1.toNat x2) := Iq23.putA 0 59 t2 (by omega) rfl
        have frq26 : Fr W_X2_closes_E Mq (ui (ui Mq 16 a2.toNat x1) 16 a1.toNat x2) := frq24.ui rfl
        refine g_aload_n X 0 rfl dX2_closes_82 ?_
        refine g_dup X dX2_closes_83 rfl ?_
        refine g_geti X f_X2_25 dX2_closes_84 (x := Mq.1 14 4) rfl ?_
        have bq27 := ig_14_4 Iq0
        refine g_iconst X 1 dX2_closes_87 (by decide) ?_
        refine g_isub X dX2_closes_88 (fun zq28 eq29 => ?_)
        have tq30 : zq28.toInt = ((Mq.1 14 4).toInt) - 1 := sub_nw eq29 rfl (show (1 : Int32).toInt = 1 by decide) (by omega)
        refine g_puti X p_X2_25 dX2_closes_89 ?_
        have Iq31 : Iv TX (ui (ui (ui Mq 16 a2.toNat x1) 16 a1.toNat x2) 14 4 zq28) := Iq25.put 0 60 tq30 (by omega) rfl
        have frq32 : Fr W_X2_closes_E Mq (ui (ui (ui Mq 16 a2.toNat x1) 16 a1.toNat x2) 14 4 zq28) := frq26.ui rfl
        refine g_iconst X 1 dX2_closes_92 (by decide) ?_
        exact g_zret X (b01 (show (1 : Int32).toInt = 1 by decide) (by omega)) dX2_closes_93 ⟨_, _, rfl, (show (1 : Int32).toInt = 1 by decide), (by omega), (Or.inr (Or.inl ⟨rfl, by omega, by unfold prC; omega, by rw [ui_eq]; omega, by simp [ui], by funext b; simp [ui]⟩)), Iq31, frq32⟩
      · refine g_iconst X 0 dX2_closes_66 (by decide) ?_
        exact g_zret X (b01 (show (0 : Int32).toInt = 0 by decide) (by omega)) dX2_closes_67 ⟨_, _, rfl, (show (0 : Int32).toInt = 0 by decide), (by omega), (Or.inr (Or.inr ⟨rfl, by omega, by unfold prC; omega, rfl⟩)), Iq0, frq0⟩
    · refine g_aload_n X 0 rfl dX2_closes_22 ?_
      refine g_getr X f_X2_19 dX2_closes_23 ?_
      refine g_iload_n X 2 rfl dX2_closes_26 ?_
      refine g_iload_n X 1 rfl dX2_closes_27 ?_
      refine g_iast X la_16 t2 dX2_closes_28 (by omega) ?_
      have Iq33 : Iv TX (ui Mq 16 a2.toNat x1) := Iq0.putA 0 59 t1 (by omega) rfl
      have frq34 : Fr W_X2_closes_E Mq (ui Mq 16 a2.toNat x1) := frq0.ui rfl
      refine g_aload_n X 0 rfl dX2_closes_29 ?_
      refine g_getr X f_X2_22 dX2_closes_30 ?_
      refine g_aload_n X 0 rfl dX2_closes_33 ?_
      refine g_geti X f_X2_25 dX2_closes_34 (x := Mq.1 14 4) rfl ?_
      have bq35 := ig_14_4 Iq0
      refine g_iconst X 1 dX2_closes_37 (by decide) ?_
      refine g_isub X dX2_closes_38 (fun zq36 eq37 => ?_)
      have tq38 : zq36.toInt = ((Mq.1 14 4).toInt) - 1 := sub_nw eq37 rfl (show (1 : Int32).toInt = 1 by decide) (by omega)
      refine g_iload_n X 1 rfl dX2_closes_39 ?_
      refine g_iast X la_17 tq38 dX2_closes_40 (by omega) ?_
      have Iq39 : Iv TX (ui (ui Mq 16 a2.toNat x1) 17 ((((Mq.1 14 4).toInt) - 1).toNat) x1) := Iq33.putA 0 59 t1 (by omega) rfl
      have frq40 : Fr W_X2_closes_E Mq (ui (ui Mq 16 a2.toNat x1) 17 ((((Mq.1 14 4).toInt) - 1).toNat) x1) := frq34.ui rfl
      refine g_aload_n X 0 rfl dX2_closes_41 ?_
      refine g_iconst X 0 dX2_closes_42 (by decide) ?_
      refine g_putz X (b01 (show (0 : Int32).toInt = 0 by decide) (by omega)) p_X2_28 dX2_closes_43 ?_
      have ltq41 : (0 : Int32).toInt = 0 := by decide
      have Iq42 : Iv TX (ui (ui (ui Mq 16 a2.toNat x1) 17 ((((Mq.1 14 4).toInt) - 1).toNat) x1) 14 5 0) := Iq39.put 0 1 (show (0 : Int32).toInt = 0 by decide) (by omega) rfl
      have frq43 : Fr W_X2_closes_E Mq (ui (ui (ui Mq 16 a2.toNat x1) 17 ((((Mq.1 14 4).toInt) - 1).toNat) x1) 14 5 0) := frq40.ui rfl
      refine g_iconst X 1 dX2_closes_46 (by decide) ?_
      exact g_zret X (b01 (show (1 : Int32).toInt = 1 by decide) (by omega)) dX2_closes_47 ⟨_, _, rfl, (show (1 : Int32).toInt = 1 by decide), (by omega), (Or.inl ⟨rfl, ⟨by omega, by omega⟩, by simp [ui], by rw [ui_eq]; decide, by funext b; simp [ui]⟩), Iq42, frq43⟩
abbrev W_X2_goesOn_E : List (Nat × Nat) := [(14, 4), (14, 5), (16, 99), (17, 99)]
set_option maxHeartbeats 4000000 in
set_option maxRecDepth 4000 in
theorem c_X2_goesOn_E (ad : Nat → Nat) (Mq : Mem) (x1 : Int32) {a1 : Int} (t1 : x1.toInt = a1) (Iq0 : Iv TX Mq) (h1 : 0 ≤ a1 ∧ a1 ≤ 59) (h2 : 0 ≤ (Mq.1 14 4).toInt ∧ (Mq.1 14 4).toInt ≤ a1) (h3 : 0 ≤ (Mq.1 15 a1.toNat).toInt) : Ctr ad yX2_goesOn cX2_goesOn 3 (some .boolean) 2 [.ref (ad 14), .int x1] Mq (fun v M' => ∃ (r : Int32) (a : Int), v = some (.int r) ∧ r.toInt = a ∧ ((a = 0 ∨ a = 1) ∧ (a1 = 0 → (a = 1 ↔ (65 ≤ (Mq.1 15 a1.toNat).toInt ∧ (Mq.1 15 a1.toNat).toInt ≤ 72))) ∧ (a1 = 1 → (a = 1 ↔ (Mq.1 15 a1.toNat).toInt = 61))) ∧ ((a1 < 2 → M' = Mq) ∧ (2 ≤ a1 → GO Mq M' (Mq.1 15 a1.toNat).toInt a ∧ 0 ≤ (M'.1 14 4).toInt ∧ (M'.1 14 4).toInt ≤ (Mq.1 14 4).toInt + 1)) ∧ Iv TX M' ∧ Fr W_X2_goesOn_E Mq M') := by
  refine ctr_of (L := [(0, .ref (ad 14)), (1, .int x1)]) (by decide) (Nat.le_of_ble_eq_true rfl) rfl ?_
  intro Γ X
  have X : gX Γ cX2_goesOn RX2 3 (some .boolean) 2 ad _ := X
  have frq0 : Fr W_X2_goesOn_E Mq Mq := Fr.rf
  have g145 := ig_14_5 Iq0
  refine g_aload_n X 0 rfl dX2_goesOn_0 ?_
  refine g_getr X f_X2_9 dX2_goesOn_1 ?_
  refine g_iload_n X 1 rfl dX2_goesOn_4 ?_
  refine g_iald X la_15 t1 dX2_goesOn_5 (by omega) (x := Mq.1 15 a1.toNat) rfl ?_
  refine g_istore_n X (i := 2) [(2, .int (Mq.1 15 a1.toNat)), (0, .ref (ad 14)), (1, .int x1)] dX2_goesOn_6 rfl (by decide) rfl ?_
  refine g_iload_n X 2 rfl dX2_goesOn_7 ?_
  refine g_if_ne X t1 (tgt := 16) dX2_goesOn_8 (by decide) (fun cq1 => ?_) (fun cq1 => ?_)
  · refine g_iload_n X 2 rfl dX2_goesOn_16 ?_
    refine g_iconst X 1 dX2_goesOn_17 (by decide) ?_
    refine g_icmp_ne X t1 (show (1 : Int32).toInt = 1 by decide) (tgt := 33) dX2_goesOn_18 (by decide) (fun cq2 => ?_) (fun cq2 => ?_)
    · refine g_iload_n X 0 rfl dX2_goesOn_33 ?_
      refine g_callS X m_X2_80 (c_X6_isSlot ad Mq (Mq.1 15 a1.toNat) rfl) rfl (by decide) (Nat.le_of_ble_eq_true rfl) rfl dX2_goesOn_34 ?_
      rintro _ _ ⟨rq3, aq4, rfl, tq5, hq6, rfl⟩
      show G Γ Mq 37 [(2, .int (Mq.1 15 a1.toNat)), (0, .ref (ad 14)), (1, .int x1)] [.int rq3]
      refine g_if_ne X tq5 (tgt := 47) dX2_goesOn_37 (by decide) (fun cq7 => ?_) (fun cq7 => ?_)
      · have pq8 : (97 ≤ ((Mq.1 15 a1.toNat).toInt) ∧ ((Mq.1 15 a1.toNat).toInt) ≤ 104) := by first | omega | (rcases hq6 with ⟨z1, z2⟩ | ⟨z1, z2⟩ <;> first | exact z2 | (exfalso; omega))
        refine g_aload_n X 1 rfl dX2_goesOn_47 ?_
        refine g_iconst X 1 dX2_goesOn_48 (by decide) ?_
        refine g_putz X (b01 (show (1 : Int32).toInt = 1 by decide) (by omega)) p_X2_28 dX2_goesOn_49 ?_
        have ltq9 : (1 : Int32).toInt = 1 := by decide
        have Iq10 : Iv TX (ui Mq 14 5 1) := Iq0.put 0 1 (show (1 : Int32).toInt = 1 by decide) (by omega) rfl
        have frq11 : Fr W_X2_goesOn_E Mq (ui Mq 14 5 1) := frq0.ui rfl
        refine g_iconst X 1 dX2_goesOn_52 (by decide) ?_
        exact g_zret X (b01 (show (1 : Int32).toInt = 1 by decide) (by omega)) dX2_goesOn_53 ⟨_, _, rfl, (show (1 : Int32).toInt = 1 by decide), (by omega), (⟨fun h => absurd h (by omega), fun _ => ⟨GO_let (by omega) (ui_cell (by decide)) (ui_cell (by decide)) (by rw [ui_nj (by decide)]) (by rw [ui_eq]; decide), by rw [ui_nj (by decide)]; omega, by rw [ui_nj (by decide)]; omega⟩⟩), Iq10, frq11⟩
      · have pq12 : ¬ (97 ≤ ((Mq.1 15 a1.toNat).toInt) ∧ ((Mq.1 15 a1.toNat).toInt) ≤ 104) := by first | omega | (rcases hq6 with ⟨z1, z2⟩ | ⟨z1, z2⟩ <;> first | exact z2 | (exfalso; omega))
        refine g_iload_n X 0 rfl dX2_goesOn_40 ?_
        refine g_callS X m_X2_77 (c_X6_isScene ad Mq (Mq.1 15 a1.toNat) rfl) rfl (by decide) (Nat.le_of_ble_eq_true rfl) rfl dX2_goesOn_41 ?_
        rintro _ _ ⟨rq13, aq14, rfl, tq15, hq16, rfl⟩
        show G Γ Mq 44 [(2, .int (Mq.1 15 a1.toNat)), (0, .ref (ad 14)), (1, .int x1)] [.int rq13]
        refine g_if_eq X tq15 (tgt := 54) dX2_goesOn_44 (by decide) (fun cq17 => ?_) (fun cq17 => ?_)
        · have pq18 : ¬ (65 ≤ ((Mq.1 15 a1.toNat).toInt) ∧ ((Mq.1 15 a1.toNat).toInt) ≤ 72) := by first | omega | (rcases hq16 with ⟨z1, z2⟩ | ⟨z1, z2⟩ <;> first | exact z2 | (exfalso; omega))
          refine g_iload_n X 0 rfl dX2_goesOn_54 ?_
          refine g_bipush X 91 dX2_goesOn_55 (by decide) ?_
          refine g_icmp_eq X rfl (show (91 : Int32).toInt = 91 by decide) (tgt := 72) dX2_goesOn_57 (by decide) (fun cq19 => ?_) (fun cq19 => ?_)
          · refine g_aload_n X 1 rfl dX2_goesOn_72 ?_
            refine g_iload_n X 2 rfl dX2_goesOn_73 ?_
            refine g_callV X m_X2_83 (c_X2_opens_E ad Mq x1 t1 Iq0 (by omega) (by omega)) rfl (by decide) (Nat.le_of_ble_eq_true rfl) rfl dX2_goesOn_74 ?_
            rintro _ Mq25 ⟨rq20, aq21, rfl, tq22, hq23, hq24, Iq26, frq27⟩
            have frq28 : Fr W_X2_goesOn_E Mq Mq25 := frq0.trans frq27 rfl
            have oa := hq23
            have ohm := hq24
            have o15 : Mq25.1 15 = Mq.1 15 := row_fr frq27 (by decide)
            show G Γ Mq25 77 [(2, .int (Mq.1 15 a1.toNat)), (0, .ref (ad 14)), (1, .int x1)] [.int rq20]
            exact g_zret X (b01 tq22 (by omega)) dX2_goesOn_77 ⟨_, _, rfl, tq22, (by omega), (⟨fun h => absurd h (by omega), fun _ => ⟨by rw [oa]; exact GO_open (by omega) rfl (by omega) t1 rfl o15 ohm.2.2 ohm.1 ohm.2.1, by omega, by omega⟩⟩), Iq26, frq28⟩
          · refine g_iload_n X 0 rfl dX2_goesOn_60 ?_
            refine g_bipush X 123 dX2_goesOn_61 (by decide) ?_
            refine g_icmp_eq X rfl (show (123 : Int32).toInt = 123 by decide) (tgt := 72) dX2_goesOn_63 (by decide) (fun cq29 => ?_) (fun cq29 => ?_)
            · refine g_aload_n X 1 rfl dX2_goesOn_72 ?_
              refine g_iload_n X 2 rfl dX2_goesOn_73 ?_
              refine g_callV X m_X2_83 (c_X2_opens_E ad Mq x1 t1 Iq0 (by omega) (by omega)) rfl (by decide) (Nat.le_of_ble_eq_true rfl) rfl dX2_goesOn_74 ?_
              rintro _ Mq35 ⟨rq30, aq31, rfl, tq32, hq33, hq34, Iq36, frq37⟩
              have frq38 : Fr W_X2_goesOn_E Mq Mq35 := frq0.trans frq37 rfl
              have oa := hq33
              have ohm := hq34
              have o15 : Mq35.1 15 = Mq.1 15 := row_fr frq37 (by decide)
              show G Γ Mq35 77 [(2, .int (Mq.1 15 a1.toNat)), (0, .ref (ad 14)), (1, .int x1)] [.int rq30]
              exact g_zret X (b01 tq32 (by omega)) dX2_goesOn_77 ⟨_, _, rfl, tq32, (by omega), (⟨fun h => absurd h (by omega), fun _ => ⟨by rw [oa]; exact GO_open (by omega) rfl (by omega) t1 rfl o15 ohm.2.2 ohm.1 ohm.2.1, by omega, by omega⟩⟩), Iq36, frq38⟩
            · refine g_iload_n X 0 rfl dX2_goesOn_66 ?_
              refine g_bipush X 40 dX2_goesOn_67 (by decide) ?_
              refine g_icmp_ne X rfl (show (40 : Int32).toInt = 40 by decide) (tgt := 78) dX2_goesOn_69 (by decide) (fun cq39 => ?_) (fun cq39 => ?_)
              · refine g_aload_n X 1 rfl dX2_goesOn_78 ?_
                refine g_geti X f_X2_28 dX2_goesOn_79 (x := Mq.1 14 5) rfl ?_
                have bq40 := ig_14_5 Iq0
                refine g_if_eq X rfl (tgt := 115) dX2_goesOn_82 (by decide) (fun cq41 => ?_) (fun cq41 => ?_)
                · refine g_iconst X 0 dX2_goesOn_115 (by decide) ?_
                  exact g_zret X (b01 (show (0 : Int32).toInt = 0 by decide) (by omega)) dX2_goesOn_116 ⟨_, _, rfl, (show (0 : Int32).toInt = 0 by decide), (by omega), (⟨fun h => absurd h (by omega), fun _ => by first | exact ⟨GO_n1 (by omega) (by omega) (by omega), by omega, by omega⟩ | exact ⟨GO_n2 (by omega) (by omega) (by omega), by omega, by omega⟩ | (rcases chm with ⟨q0, q1, q2, q3, q4⟩ | ⟨q0, q1, q2, q3, q4, q5⟩ | ⟨q0, q1, q2, q3⟩ <;> first | (exfalso; omega) | exact ⟨by rw [q1.1]; exact GO_bar rfl (by omega) (by omega) rfl q1.2 t1 q1.1 c15 q4 q2 q3, by omega, by omega⟩ | exact ⟨GO_close rfl (by omega) (by omega) rfl q2 c15 q5 q3 q4, by omega, by omega⟩ | exact ⟨GO_n3 (by omega) (by omega) rfl (by omega) rfl q1 q2, by omega, by omega⟩)⟩), Iq0, frq0⟩
                · refine g_aload_n X 1 rfl dX2_goesOn_85 ?_
                  refine g_geti X f_X2_25 dX2_goesOn_86 (x := Mq.1 14 4) rfl ?_
                  have bq42 := ig_14_4 Iq0
                  refine g_if_le X rfl (tgt := 115) dX2_goesOn_89 (by decide) (fun cq43 => ?_) (fun cq43 => ?_)
                  · refine g_iconst X 0 dX2_goesOn_115 (by decide) ?_
                    exact g_zret X (b01 (show (0 : Int32).toInt = 0 by decide) (by omega)) dX2_goesOn_116 ⟨_, _, rfl, (show (0 : Int32).toInt = 0 by decide), (by omega), (⟨fun h => absurd h (by omega), fun _ => by first | exact ⟨GO_n1 (by omega) (by omega) (by omega), by omega, by omega⟩ | exact ⟨GO_n2 (by omega) (by omega) (by omega), by omega, by omega⟩ | (rcases chm with ⟨q0, q1, q2, q3, q4⟩ | ⟨q0, q1, q2, q3, q4, q5⟩ | ⟨q0, q1, q2, q3⟩ <;> first | (exfalso; omega) | exact ⟨by rw [q1.1]; exact GO_bar rfl (by omega) (by omega) rfl q1.2 t1 q1.1 c15 q4 q2 q3, by omega, by omega⟩ | exact ⟨GO_close rfl (by omega) (by omega) rfl q2 c15 q5 q3 q4, by omega, by omega⟩ | exact ⟨GO_n3 (by omega) (by omega) rfl (by omega) rfl q1 q2, by omega, by omega⟩)⟩), Iq0, frq0⟩
                  · refine g_aload_n X 1 rfl dX2_goesOn_92 ?_
                    refine g_iload_n X 2 rfl dX2_goesOn_93 ?_
                    refine g_aload_n X 1 rfl dX2_goesOn_94 ?_
                    refine g_getr X f_X2_22 dX2_goesOn_95 ?_
                    refine g_aload_n X 1 rfl dX2_goesOn_98 ?_
                    refine g_geti X f_X2_25 dX2_goesOn_99 (x := Mq.1 14 4) rfl ?_
                    have bq44 := ig_14_4 Iq0
                    refine g_iconst X 1 dX2_goesOn_102 (by decide) ?_
                    refine g_isub X dX2_goesOn_103 (fun zq45 eq46 => ?_)
                    have tq47 : zq45.toInt = ((Mq.1 14 4).toInt) - 1 := sub_nw eq46 rfl (show (1 : Int32).toInt = 1 by decide) (by omega)
                    refine g_iald X la_17 tq47 dX2_goesOn_104 (by omega) (x := Mq.1 17 ((((Mq.1 14 4).toInt) - 1).toNat)) rfl ?_
                    have bq48 := ig_17 Iq0 ((((Mq.1 14 4).toInt) - 1).toNat) (by omega)
                    refine g_callV X m_X2_86 (c_X2_closes_E ad Mq x1 t1 (Mq.1 17 ((((Mq.1 14 4).toInt) - 1).toNat)) rfl Iq0 (by omega) (by omega) (by omega) (by omega)) rfl (by decide) (Nat.le_of_ble_eq_true rfl) rfl dX2_goesOn_105 ?_
                    rintro _ Mq54 ⟨rq49, aq50, rfl, tq51, hq52, hq53, Iq55, frq56⟩
                    have frq57 : Fr W_X2_goesOn_E Mq Mq54 := frq0.trans frq56 rfl
                    have chm := hq53
                    have c15 : Mq54.1 15 = Mq.1 15 := row_fr frq56 (by decide)
                    show G Γ Mq54 108 [(2, .int (Mq.1 15 a1.toNat)), (0, .ref (ad 14)), (1, .int x1)] [.int rq49]
                    refine g_if_eq X tq51 (tgt := 115) dX2_goesOn_108 (by decide) (fun cq58 => ?_) (fun cq58 => ?_)
                    · refine g_iconst X 0 dX2_goesOn_115 (by decide) ?_
                      exact g_zret X (b01 (show (0 : Int32).toInt = 0 by decide) (by omega)) dX2_goesOn_116 ⟨_, _, rfl, (show (0 : Int32).toInt = 0 by decide), (by omega), (⟨fun h => absurd h (by omega), fun _ => by first | exact ⟨GO_n1 (by omega) (by omega) (by omega), by omega, by omega⟩ | exact ⟨GO_n2 (by omega) (by omega) (by omega), by omega, by omega⟩ | (rcases chm with ⟨q0, q1, q2, q3, q4⟩ | ⟨q0, q1, q2, q3, q4, q5⟩ | ⟨q0, q1, q2, q3⟩ <;> first | (exfalso; omega) | exact ⟨by rw [q1.1]; exact GO_bar rfl (by omega) (by omega) rfl q1.2 t1 q1.1 c15 q4 q2 q3, by omega, by omega⟩ | exact ⟨GO_close rfl (by omega) (by omega) rfl q2 c15 q5 q3 q4, by omega, by omega⟩ | exact ⟨GO_n3 (by omega) (by omega) rfl (by omega) rfl q1 q2, by omega, by omega⟩)⟩), Iq55, frq57⟩
                    · refine g_iconst X 1 dX2_goesOn_111 (by decide) ?_
                      refine g_goto X (tgt := 116) dX2_goesOn_112 (by decide) ?_
                      exact g_zret X (b01 (show (1 : Int32).toInt = 1 by decide) (by omega)) dX2_goesOn_116 ⟨_, _, rfl, (show (1 : Int32).toInt = 1 by decide), (by omega), (⟨fun h => absurd h (by omega), fun _ => by first | exact ⟨GO_n1 (by omega) (by omega) (by omega), by omega, by omega⟩ | exact ⟨GO_n2 (by omega) (by omega) (by omega), by omega, by omega⟩ | (rcases chm with ⟨q0, q1, q2, q3, q4⟩ | ⟨q0, q1, q2, q3, q4, q5⟩ | ⟨q0, q1, q2, q3⟩ <;> first | (exfalso; omega) | exact ⟨by rw [q1.1]; exact GO_bar rfl (by omega) (by omega) rfl q1.2 t1 q1.1 c15 q4 q2 q3, by omega, by omega⟩ | exact ⟨GO_close rfl (by omega) (by omega) rfl q2 c15 q5 q3 q4, by omega, by omega⟩ | exact ⟨GO_n3 (by omega) (by omega) rfl (by omega) rfl q1 q2, by omega, by omega⟩)⟩), Iq55, frq57⟩
              · refine g_aload_n X 1 rfl dX2_goesOn_72 ?_
                refine g_iload_n X 2 rfl dX2_goesOn_73 ?_
                refine g_callV X m_X2_83 (c_X2_opens_E ad Mq x1 t1 Iq0 (by omega) (by omega)) rfl (by decide) (Nat.le_of_ble_eq_true rfl) rfl dX2_goesOn_74 ?_
                rintro _ Mq64 ⟨rq59, aq60, rfl, tq61, hq62, hq63, Iq65, frq66⟩
                have frq67 : Fr W_X2_goesOn_E Mq Mq64 := frq0.trans frq66 rfl
                have oa := hq62
                have ohm := hq63
                have o15 : Mq64.1 15 = Mq.1 15 := row_fr frq66 (by decide)
                show G Γ Mq64 77 [(2, .int (Mq.1 15 a1.toNat)), (0, .ref (ad 14)), (1, .int x1)] [.int rq59]
                exact g_zret X (b01 tq61 (by omega)) dX2_goesOn_77 ⟨_, _, rfl, tq61, (by omega), (⟨fun h => absurd h (by omega), fun _ => ⟨by rw [oa]; exact GO_open (by omega) rfl (by omega) t1 rfl o15 ohm.2.2 ohm.1 ohm.2.1, by omega, by omega⟩⟩), Iq65, frq67⟩
        · have pq68 : (65 ≤ ((Mq.1 15 a1.toNat).toInt) ∧ ((Mq.1 15 a1.toNat).toInt) ≤ 72) := by first | omega | (rcases hq16 with ⟨z1, z2⟩ | ⟨z1, z2⟩ <;> first | exact z2 | (exfalso; omega))
          refine g_aload_n X 1 rfl dX2_goesOn_47 ?_
          refine g_iconst X 1 dX2_goesOn_48 (by decide) ?_
          refine g_putz X (b01 (show (1 : Int32).toInt = 1 by decide) (by omega)) p_X2_28 dX2_goesOn_49 ?_
          have ltq69 : (1 : Int32).toInt = 1 := by decide
          have Iq70 : Iv TX (ui Mq 14 5 1) := Iq0.put 0 1 (show (1 : Int32).toInt = 1 by decide) (by omega) rfl
          have frq71 : Fr W_X2_goesOn_E Mq (ui Mq 14 5 1) := frq0.ui rfl
          refine g_iconst X 1 dX2_goesOn_52 (by decide) ?_
          exact g_zret X (b01 (show (1 : Int32).toInt = 1 by decide) (by omega)) dX2_goesOn_53 ⟨_, _, rfl, (show (1 : Int32).toInt = 1 by decide), (by omega), (⟨fun h => absurd h (by omega), fun _ => ⟨GO_let (by omega) (ui_cell (by decide)) (ui_cell (by decide)) (by rw [ui_nj (by decide)]) (by rw [ui_eq]; decide), by rw [ui_nj (by decide)]; omega, by rw [ui_nj (by decide)]; omega⟩⟩), Iq70, frq71⟩
    · refine g_iload_n X 0 rfl dX2_goesOn_21 ?_
      refine g_bipush X 61 dX2_goesOn_22 (by decide) ?_
      refine g_icmp_ne X rfl (show (61 : Int32).toInt = 61 by decide) (tgt := 31) dX2_goesOn_24 (by decide) (fun cq72 => ?_) (fun cq72 => ?_)
      · refine g_iconst X 0 dX2_goesOn_31 (by decide) ?_
        exact g_zret X (b01 (show (0 : Int32).toInt = 0 by decide) (by omega)) dX2_goesOn_32 ⟨_, _, rfl, (show (0 : Int32).toInt = 0 by decide), (by omega), (⟨fun _ => rfl, fun h => absurd h (by omega)⟩), Iq0, frq0⟩
      · refine g_iconst X 1 dX2_goesOn_27 (by decide) ?_
        refine g_goto X (tgt := 32) dX2_goesOn_28 (by decide) ?_
        exact g_zret X (b01 (show (1 : Int32).toInt = 1 by decide) (by omega)) dX2_goesOn_32 ⟨_, _, rfl, (show (1 : Int32).toInt = 1 by decide), (by omega), (⟨fun _ => rfl, fun h => absurd h (by omega)⟩), Iq0, frq0⟩
  · refine g_iload_n X 0 rfl dX2_goesOn_11 ?_
    refine g_callS X m_X2_77 (c_X6_isScene ad Mq (Mq.1 15 a1.toNat) rfl) rfl (by decide) (Nat.le_of_ble_eq_true rfl) rfl dX2_goesOn_12 ?_
    rintro _ _ ⟨rq73, aq74, rfl, tq75, hq76, rfl⟩
    show G Γ Mq 15 [(2, .int (Mq.1 15 a1.toNat)), (0, .ref (ad 14)), (1, .int x1)] [.int rq73]
    exact g_zret X (b01 tq75 (by omega)) dX2_goesOn_15 ⟨_, _, rfl, tq75, (by omega), (⟨fun _ => rfl, fun h => absurd h (by omega)⟩), Iq0, frq0⟩
abbrev W_X2_misfit_E : List (Nat × Nat) := [(14, 4), (14, 5), (16, 99), (17, 99)]
set_option maxHeartbeats 4000000 in
set_option maxRecDepth 4000 in
theorem c_X2_misfit_E (ad : Nat → Nat) (Mq : Mem) (Iq0 : Iv TX Mq) (hp : ∀ j : Nat, (j : Int) < (Mq.1 14 1).toInt → 0 ≤ (Mq.1 15 j).toInt) : Ctr ad yX2_misfit cX2_misfit 2 (some .int) 3 [.ref (ad 14)] Mq (fun v M' => ∃ (r : Int32) (a : Int), v = some (.int r) ∧ r.toInt = a ∧ (MF (Mq.1 15 0).toInt (Mq.1 15 1).toInt (tX Mq) (Mq.1 14 1).toInt a) ∧ Iv TX M' ∧ Fr W_X2_misfit_E Mq M') := by
  refine ctr_of (L := [(0, .ref (ad 14))]) (by decide) (Nat.le_of_ble_eq_true rfl) rfl ?_
  intro Γ X
  have X : gX Γ cX2_misfit RX2 2 (some .int) 3 ad _ := X
  have frq0 : Fr W_X2_misfit_E Mq Mq := Fr.rf
  have hT := ig_14_1 Iq0
  refine g_aload_n X 0 rfl dX2_misfit_0 ?_
  refine g_iconst X 0 dX2_misfit_1 (by decide) ?_
  refine g_puti X p_X2_25 dX2_misfit_2 ?_
  have ltq1 : (0 : Int32).toInt = 0 := by decide
  have Iq2 : Iv TX (ui Mq 14 4 0) := Iq0.put 0 60 (show (0 : Int32).toInt = 0 by decide) (by omega) rfl
  have frq3 : Fr W_X2_misfit_E Mq (ui Mq 14 4 0) := frq0.ui rfl
  refine g_aload_n X 0 rfl dX2_misfit_5 ?_
  refine g_iconst X 0 dX2_misfit_6 (by decide) ?_
  refine g_putz X (b01 (show (0 : Int32).toInt = 0 by decide) (by omega)) p_X2_28 dX2_misfit_7 ?_
  have ltq4 : (0 : Int32).toInt = 0 := by decide
  have Iq5 : Iv TX (ui (ui Mq 14 4 0) 14 5 0) := Iq2.put 0 1 (show (0 : Int32).toInt = 0 by decide) (by omega) rfl
  have frq6 : Fr W_X2_misfit_E Mq (ui (ui Mq 14 4 0) 14 5 0) := frq3.ui rfl
  refine g_iconst X 0 dX2_misfit_10 (by decide) ?_
  refine g_istore_n X (i := 1) [(1, .int 0), (0, .ref (ad 14))] dX2_misfit_11 rfl (by decide) rfl ?_
  have lp12 : ∀ n : Nat, ∀ (y1_12 : Int32) (b1_12 : Int), y1_12.toInt = b1_12 → ∀ (M_12 : Mem), (0 ≤ b1_12 ∧ b1_12 ≤ (Mq.1 14 1).toInt) → (MFI Mq M_12 b1_12) → (Iv TX M_12) → (Fr W_X2_misfit_E Mq M_12) → ((Mq.1 14 1).toInt - b1_12).toNat < n → G Γ M_12 12 [(1, .int y1_12), (0, .ref (ad 14))] [] := by
    intro n
    induction n with
    | zero => intro y1_12 b1_12 e1_12 M_12 i1 i2 I_12 fr_12 hm; exact absurd hm (Nat.not_lt_zero _)
    | succ n ih12 =>
      intro y1_12 b1_12 e1_12 M_12 i1 i2 I_12 fr_12 hm12
      have q14_1 : (M_12.1 14 1).toInt = (Mq.1 14 1).toInt := congrArg Int32.toInt (fr_12.at 14 1 rfl)
      have r15 : M_12.1 15 = Mq.1 15 := row_fr fr_12 (by decide)
      refine g_iload_n X 0 rfl dX2_misfit_12 ?_
      refine g_aload_n X 1 rfl dX2_misfit_13 ?_
      refine g_geti X f_X2_15 dX2_misfit_14 (x := M_12.1 14 1) rfl ?_
      have bq7 := ig_14_1 I_12
      refine g_icmp_ge X e1_12 rfl (tgt := 36) dX2_misfit_17 (by decide) (fun cq8 => ?_) (fun cq8 => ?_)
      · refine g_aload_n X 1 rfl dX2_misfit_36 ?_
        refine g_geti X f_X2_28 dX2_misfit_37 (x := M_12.1 14 5) rfl ?_
        have bq9 := ig_14_5 I_12
        refine g_if_eq X rfl (tgt := 54) dX2_misfit_40 (by decide) (fun cq10 => ?_) (fun cq10 => ?_)
        · refine g_aload_n X 1 rfl dX2_misfit_54 ?_
          refine g_geti X f_X2_15 dX2_misfit_55 (x := M_12.1 14 1) rfl ?_
          have bq11 := ig_14_1 I_12
          exact g_iret X dX2_misfit_58 ⟨_, _, rfl, rfl, (MFI_end i2 i1.1 (by omega) (by omega)), I_12, fr_12⟩
        · refine g_aload_n X 1 rfl dX2_misfit_43 ?_
          refine g_geti X f_X2_25 dX2_misfit_44 (x := M_12.1 14 4) rfl ?_
          have bq12 := ig_14_4 I_12
          refine g_if_ne X rfl (tgt := 54) dX2_misfit_47 (by decide) (fun cq13 => ?_) (fun cq13 => ?_)
          · refine g_aload_n X 1 rfl dX2_misfit_54 ?_
            refine g_geti X f_X2_15 dX2_misfit_55 (x := M_12.1 14 1) rfl ?_
            have bq14 := ig_14_1 I_12
            exact g_iret X dX2_misfit_58 ⟨_, _, rfl, rfl, (MFI_end i2 i1.1 (by omega) (by omega)), I_12, fr_12⟩
          · refine g_iconst X (-1) dX2_misfit_50 (by decide) ?_
            refine g_goto X (tgt := 58) dX2_misfit_51 (by decide) ?_
            exact g_iret X dX2_misfit_58 ⟨_, _, rfl, (show ((-1) : Int32).toInt = (-1) by decide), (MFI_end i2 i1.1 (by omega) (by omega)), I_12, fr_12⟩
      · refine g_aload_n X 1 rfl dX2_misfit_20 ?_
        refine g_iload_n X 0 rfl dX2_misfit_21 ?_
        refine g_callV X m_X2_74 (c_X2_goesOn_E ad M_12 y1_12 e1_12 I_12 (by omega) ⟨i2.2.2.2.2.1, i2.2.2.2.2.2⟩ (by rw [r15]; exact hp _ (by omega))) rfl (by decide) (Nat.le_of_ble_eq_true rfl) rfl dX2_misfit_22 ?_
        rintro _ Mq20 ⟨rq15, aq16, rfl, tq17, hq18, hq19, Iq21, frq22⟩
        have frq23 : Fr W_X2_misfit_E Mq Mq20 := fr_12.trans frq22 rfl
        have gr := hq18
        have gm := hq19
        show G Γ Mq20 25 [(1, .int y1_12), (0, .ref (ad 14))] [.int rq15]
        refine g_if_ne X tq17 (tgt := 30) dX2_misfit_25 (by decide) (fun cq24 => ?_) (fun cq24 => ?_)
        · refine g_iinc X 0 (fun v => [(1, .int v), (0, .ref (ad 14))]) dX2_misfit_30 rfl (by decide) (fun _ => rfl) (fun zq25 eq26 => ?_)
          have tq27 : zq25.toInt = b1_12 + 1 := add_nw eq26 e1_12 (show (Int32.ofInt 1).toInt = 1 by decide) (by omega)
          refine g_goto X (tgt := 12) dX2_misfit_33 (by decide) ?_
          refine g_sub [0, 1] rfl ?_
          exact ih12 zq25 _ tq27 Mq20 (by omega) (MFI_good i2 i1.1 r15 gr gm (by omega)) Iq21 frq23 (by omega)
        · refine g_iload_n X 0 rfl dX2_misfit_28 ?_
          exact g_iret X dX2_misfit_29 ⟨_, _, rfl, e1_12, (MFI_bad i2 i1.1 (by omega) r15 gr gm (by omega)), Iq21, frq23⟩
  refine g_sub [0, 1] rfl ?_
  exact lp12 _ 0 _ (show (0 : Int32).toInt = 0 by decide) (ui (ui Mq 14 4 0) 14 5 0) (by omega) (MFI_0 (by rw [ui_nj (by decide), ui_eq]; decide) (by rw [ui_eq]; decide)) Iq5 frq6 (Nat.lt_succ_self _)
set_option maxHeartbeats 4000000 in
set_option maxRecDepth 4000 in
theorem c_X2_untold_E (ad : Nat → Nat) (Mq : Mem) (x1 : Int32) {a1 : Int} (t1 : x1.toInt = a1) (Iq0 : Iv TX Mq) : Ctr ad yX2_untold cX2_untold 4 (some .int) 1 [.ref (ad 14), .int x1] Mq (fun v M' => ∃ (r : Int32) (a : Int), v = some (.int r) ∧ r.toInt = a ∧ (UT (tX Mq) (bdX Mq a1) (Mq.1 14 1).toInt a) ∧ Mq = M') := by
  refine ctr_of (L := [(0, .ref (ad 14)), (1, .int x1)]) (by decide) (Nat.le_of_ble_eq_true rfl) rfl ?_
  intro Γ X
  have X : gX Γ cX2_untold RX2 4 (some .int) 1 ad _ := X
  have hT := ig_14_1 Iq0
  refine g_iconst X 2 dX2_untold_0 (by decide) ?_
  refine g_istore_n X (i := 2) [(2, .int 2), (0, .ref (ad 14)), (1, .int x1)] dX2_untold_1 rfl (by decide) rfl ?_
  have lp2 : ∀ n : Nat, ∀ (y2_2 : Int32) (b2_2 : Int), y2_2.toInt = b2_2 → (2 ≤ b2_2) → (∀ k : Nat, (k : Int) < b2_2 - 2 → ¬ bdX Mq a1 (tX Mq k)) → ((Mq.1 14 1).toInt - b2_2).toNat < n → G Γ Mq 2 [(2, .int y2_2), (0, .ref (ad 14)), (1, .int x1)] [] := by
    intro n
    induction n with
    | zero => intro y2_2 b2_2 e2_2 i1 i2 hm; exact absurd hm (Nat.not_lt_zero _)
    | succ n ih2 =>
      intro y2_2 b2_2 e2_2 i1 i2 hm2
      refine g_iload_n X 0 rfl dX2_untold_2 ?_
      refine g_aload_n X 1 rfl dX2_untold_3 ?_
      refine g_geti X f_X2_15 dX2_untold_4 (x := Mq.1 14 1) rfl ?_
      have bq1 := ig_14_1 Iq0
      refine g_icmp_ge X e2_2 rfl (tgt := 53) dX2_untold_7 (by decide) (fun cq2 => ?_) (fun cq2 => ?_)
      · refine g_iconst X (-1) dX2_untold_53 (by decide) ?_
        exact g_iret X dX2_untold_54 ⟨_, _, rfl, (show ((-1) : Int32).toInt = (-1) by decide), (Or.inl ⟨rfl, fun k hk => i2 k (by omega)⟩), rfl⟩
      · refine g_aload_n X 1 rfl dX2_untold_10 ?_
        refine g_getr X f_X2_9 dX2_untold_11 ?_
        refine g_iload_n X 0 rfl dX2_untold_14 ?_
        refine g_iald X la_15 e2_2 dX2_untold_15 (by omega) (x := Mq.1 15 b2_2.toNat) rfl ?_
        refine g_callS X m_X2_77 (c_X6_isScene ad Mq (Mq.1 15 b2_2.toNat) rfl) rfl (by decide) (Nat.le_of_ble_eq_true rfl) rfl dX2_untold_16 ?_
        rintro _ _ ⟨rq3, aq4, rfl, tq5, hq6, rfl⟩
        show G Γ Mq 19 [(2, .int y2_2), (0, .ref (ad 14)), (1, .int x1)] [.int rq3]
        refine g_if_eq X tq5 (tgt := 47) dX2_untold_19 (by decide) (fun cq7 => ?_) (fun cq7 => ?_)
        · have pq8 : ¬ (65 ≤ ((Mq.1 15 b2_2.toNat).toInt) ∧ ((Mq.1 15 b2_2.toNat).toInt) ≤ 72) := by first | omega | (rcases hq6 with ⟨z1, z2⟩ | ⟨z1, z2⟩ <;> first | exact z2 | (exfalso; omega))
          refine g_iinc X 0 (fun v => [(2, .int v), (0, .ref (ad 14)), (1, .int x1)]) dX2_untold_47 rfl (by decide) (fun _ => rfl) (fun zq9 eq10 => ?_)
          have tq11 : zq9.toInt = b2_2 + 1 := add_nw eq10 e2_2 (show (Int32.ofInt 1).toInt = 1 by decide) (by omega)
          refine g_goto X (tgt := 2) dX2_untold_50 (by decide) ?_
          refine g_sub [0, 1, 2] rfl ?_
          exact ih2 zq9 _ tq11 (by omega) (ut_s i2 i1 (by rw [tX_at i1]; unfold bdX; omega)) (by omega)
        · have pq12 : (65 ≤ ((Mq.1 15 b2_2.toNat).toInt) ∧ ((Mq.1 15 b2_2.toNat).toInt) ≤ 72) := by first | omega | (rcases hq6 with ⟨z1, z2⟩ | ⟨z1, z2⟩ <;> first | exact z2 | (exfalso; omega))
          refine g_aload_n X 1 rfl dX2_untold_22 ?_
          refine g_getr X f_X2_9 dX2_untold_23 ?_
          refine g_iload_n X 0 rfl dX2_untold_26 ?_
          refine g_iald X la_15 e2_2 dX2_untold_27 (by omega) (x := Mq.1 15 b2_2.toNat) rfl ?_
          refine g_bipush X 65 dX2_untold_28 (by decide) ?_
          refine g_isub X dX2_untold_30 (fun zq13 eq14 => ?_)
          have tq15 : zq13.toInt = ((Mq.1 15 b2_2.toNat).toInt) - 65 := sub_nw eq14 rfl (show (65 : Int32).toInt = 65 by decide) (by omega)
          refine g_istore_n X (i := 3) [(3, .int zq13), (2, .int y2_2), (0, .ref (ad 14)), (1, .int x1)] dX2_untold_31 rfl (by decide) rfl ?_
          refine g_iload_n X 0 rfl dX2_untold_32 ?_
          refine g_iload_n X 3 rfl dX2_untold_33 ?_
          refine g_icmp_eq X tq15 t1 (tgt := 45) dX2_untold_34 (by decide) (fun cq16 => ?_) (fun cq16 => ?_)
          · refine g_iload_n X 1 rfl dX2_untold_45 ?_
            exact g_iret X dX2_untold_46 ⟨_, _, rfl, e2_2, (Or.inr ⟨(b2_2 - 2).toNat, by omega, by omega, by rw [tX_at i1]; unfold bdX; omega, fun j hj => i2 j (by omega)⟩), rfl⟩
          · refine g_aload_n X 2 rfl dX2_untold_37 ?_
            refine g_iload_n X 0 rfl dX2_untold_38 ?_
            refine g_callV X m_X2_93 (c_X2_isTold ad Mq zq13 tq15) rfl (by decide) (Nat.le_of_ble_eq_true rfl) rfl dX2_untold_39 ?_
            rintro _ _ ⟨rq17, aq18, rfl, tq19, hq20, rfl⟩
            show G Γ Mq 42 [(3, .int zq13), (2, .int y2_2), (0, .ref (ad 14)), (1, .int x1)] [.int rq17]
            refine g_if_ne X tq19 (tgt := 47) dX2_untold_42 (by decide) (fun cq21 => ?_) (fun cq21 => ?_)
            · have pq22 : (0 ≤ (((Mq.1 15 b2_2.toNat).toInt) - 65) ∧ (((Mq.1 15 b2_2.toNat).toInt) - 65) < 8 ∧ 0 < (Mq.1 20 (((Mq.1 15 b2_2.toNat).toInt) - 65).toNat).toInt) := by first | omega | (rcases hq20 with ⟨z1, z2⟩ | ⟨z1, z2⟩ <;> first | exact z2 | (exfalso; omega))
              refine g_iinc X 1 (fun v => [(2, .int v), (3, .int zq13), (0, .ref (ad 14)), (1, .int x1)]) dX2_untold_47 rfl (by decide) (fun _ => rfl) (fun zq23 eq24 => ?_)
              have tq25 : zq23.toInt = b2_2 + 1 := add_nw eq24 e2_2 (show (Int32.ofInt 1).toInt = 1 by decide) (by omega)
              refine g_goto X (tgt := 2) dX2_untold_50 (by decide) ?_
              refine g_sub [0, 2, 3] rfl ?_
              exact ih2 zq23 _ tq25 (by omega) (ut_s i2 i1 (by rw [tX_at i1]; unfold bdX; omega)) (by omega)
            · have pq26 : ¬ (0 ≤ (((Mq.1 15 b2_2.toNat).toInt) - 65) ∧ (((Mq.1 15 b2_2.toNat).toInt) - 65) < 8 ∧ 0 < (Mq.1 20 (((Mq.1 15 b2_2.toNat).toInt) - 65).toNat).toInt) := by first | omega | (rcases hq20 with ⟨z1, z2⟩ | ⟨z1, z2⟩ <;> first | exact z2 | (exfalso; omega))
              refine g_iload_n X 1 rfl dX2_untold_45 ?_
              exact g_iret X dX2_untold_46 ⟨_, _, rfl, e2_2, (Or.inr ⟨(b2_2 - 2).toNat, by omega, by omega, by rw [tX_at i1]; unfold bdX; omega, fun j hj => i2 j (by omega)⟩), rfl⟩
  refine g_sub [0, 1, 2] rfl ?_
  exact lp2 _ 2 _ (show (2 : Int32).toInt = 2 by decide) (by omega) (fun k hk => absurd hk (by omega)) (Nat.lt_succ_self _)
set_option maxHeartbeats 4000000 in
set_option maxRecDepth 4000 in
theorem c_X2_standsInAnother_E (ad : Nat → Nat) (Mq : Mem) (x1 : Int32) {a1 : Int} (t1 : x1.toInt = a1) (h1 : 0 ≤ a1 ∧ a1 ≤ 7) : Ctr ad yX2_standsInAnother cX2_standsInAnother 3 (some .boolean) 0 [.ref (ad 14), .int x1] Mq (fun v M' => ∃ (r : Int32) (a : Int), v = some (.int r) ∧ r.toInt = a ∧ ((a = 1 ∧ (STX Mq a1)) ∨ (a = 0 ∧ ¬ (STX Mq a1))) ∧ Mq = M') := by
  refine ctr_of (L := [(0, .ref (ad 14)), (1, .int x1)]) (by decide) (Nat.le_of_ble_eq_true rfl) rfl ?_
  intro Γ X
  have X : gX Γ cX2_standsInAnother RX2 3 (some .boolean) 0 ad _ := X
  refine g_iconst X 0 dX2_standsInAnother_0 (by decide) ?_
  refine g_istore_n X (i := 2) [(2, .int 0), (0, .ref (ad 14)), (1, .int x1)] dX2_standsInAnother_1 rfl (by decide) rfl ?_
  have lp2 : ∀ n : Nat, ∀ (y2_2 : Int32) (b2_2 : Int), y2_2.toInt = b2_2 → (0 ≤ b2_2 ∧ b2_2 ≤ 8) → (∀ x : Nat, (x : Int) < b2_2 → ¬ (bt (Mq.1 21 x) a1.toNat = true)) → (8 - b2_2).toNat < n → G Γ Mq 2 [(2, .int y2_2), (0, .ref (ad 14)), (1, .int x1)] [] := by
    intro n
    induction n with
    | zero => intro y2_2 b2_2 e2_2 i1 i2 hm; exact absurd hm (Nat.not_lt_zero _)
    | succ n ih2 =>
      intro y2_2 b2_2 e2_2 i1 i2 hm2
      refine g_iload_n X 0 rfl dX2_standsInAnother_2 ?_
      refine g_bipush X 8 dX2_standsInAnother_3 (by decide) ?_
      refine g_icmp_ge X e2_2 (show (8 : Int32).toInt = 8 by decide) (tgt := 30) dX2_standsInAnother_5 (by decide) (fun cq1 => ?_) (fun cq1 => ?_)
      · refine g_iconst X 0 dX2_standsInAnother_30 (by decide) ?_
        exact g_zret X (b01 (show (0 : Int32).toInt = 0 by decide) (by omega)) dX2_standsInAnother_31 ⟨_, _, rfl, (show (0 : Int32).toInt = 0 by decide), (Or.inr ⟨rfl, fun ⟨x, h, h2⟩ => i2 x (by omega) h2⟩), rfl⟩
      · refine g_aload_n X 1 rfl dX2_standsInAnother_8 ?_
        refine g_getr X f_X2_41 dX2_standsInAnother_9 ?_
        refine g_iload_n X 0 rfl dX2_standsInAnother_12 ?_
        refine g_iald X la_21 e2_2 dX2_standsInAnother_13 (by omega) (x := Mq.1 21 b2_2.toNat) rfl ?_
        refine g_iload_n X 2 rfl dX2_standsInAnother_14 ?_
        refine g_ishr X dX2_standsInAnother_15 (fun zq2 eq3 => ?_)
        have kx15 := eq3
        refine g_iconst X 1 dX2_standsInAnother_16 (by decide) ?_
        refine g_iand X dX2_standsInAnother_17 (fun zq5 eq6 => ?_)
        have kb := bit1 t1 ⟨by omega, by omega⟩ kx15 eq6
        refine g_iconst X 1 dX2_standsInAnother_18 (by decide) ?_
        refine g_icmp_ne X rfl (show (1 : Int32).toInt = 1 by decide) (tgt := 24) dX2_standsInAnother_19 (by decide) (fun cq8 => ?_) (fun cq8 => ?_)
        · refine g_iinc X 0 (fun v => [(2, .int v), (0, .ref (ad 14)), (1, .int x1)]) dX2_standsInAnother_24 rfl (by decide) (fun _ => rfl) (fun zq9 eq10 => ?_)
          have tq11 : zq9.toInt = b2_2 + 1 := add_nw eq10 e2_2 (show (Int32.ofInt 1).toInt = 1 by decide) (by omega)
          refine g_goto X (tgt := 2) dX2_standsInAnother_27 (by decide) ?_
          refine g_sub [0, 1, 2] rfl ?_
          exact ih2 zq9 _ tq11 (by omega) (ok_s (ok := fun x => ¬ (bt (Mq.1 21 x) a1.toNat = true)) i2 (fun z => absurd (kb.mpr z) (by omega)) i1.1) (by omega)
        · refine g_iconst X 1 dX2_standsInAnother_22 (by decide) ?_
          exact g_zret X (b01 (show (1 : Int32).toInt = 1 by decide) (by omega)) dX2_standsInAnother_23 ⟨_, _, rfl, (show (1 : Int32).toInt = 1 by decide), (Or.inl ⟨rfl, (b2_2).toNat, by omega, kb.mp (by omega)⟩), rfl⟩
  refine g_sub [0, 1, 2] rfl ?_
  exact lp2 _ 0 _ (show (0 : Int32).toInt = 0 by decide) (by omega) (fun x hx => absurd hx (by omega)) (Nat.lt_succ_self _)
abbrev W_X2_putLast_E : List (Nat × Nat) := [(14, 11), (22, 99)]
set_option maxHeartbeats 4000000 in
set_option maxRecDepth 4000 in
theorem c_X2_putLast_E (ad : Nat → Nat) (Mq : Mem) (x1 : Int32) {a1 : Int} (t1 : x1.toInt = a1) (Iq0 : Iv TX Mq) (h1 : 0 ≤ a1 ∧ a1 ≤ 7) : Ctr ad yX2_putLast cX2_putLast 4 none 0 [.ref (ad 14), .int x1] Mq (fun v M' => v = none ∧ (True) ∧ ((noS a1 (ordN (Mq.1 22) ((Mq.1 14 11).toInt).toNat)).length < 8 → ordN (M'.1 22) ((M'.1 14 11).toInt).toNat = noS a1 (ordN (Mq.1 22) ((Mq.1 14 11).toInt).toNat) ++ [a1] ∧ (M'.1 14 11).toInt = ((noS a1 (ordN (Mq.1 22) ((Mq.1 14 11).toInt).toNat)).length : Int) + 1) ∧ Iv TX M' ∧ Fr W_X2_putLast_E Mq M') := by
  refine ctr_of (L := [(0, .ref (ad 14)), (1, .int x1)]) (by decide) (Nat.le_of_ble_eq_true rfl) rfl ?_
  intro Γ X
  have X : gX Γ cX2_putLast RX2 4 none 0 ad _ := X
  have frq0 : Fr W_X2_putLast_E Mq Mq := Fr.rf
  have hO := ig_14_11 Iq0
  refine g_iconst X 0 dX2_putLast_0 (by decide) ?_
  refine g_istore_n X (i := 2) [(2, .int 0), (0, .ref (ad 14)), (1, .int x1)] dX2_putLast_1 rfl (by decide) rfl ?_
  refine g_iconst X 0 dX2_putLast_2 (by decide) ?_
  refine g_istore_n X (i := 3) [(3, .int 0), (2, .int 0), (0, .ref (ad 14)), (1, .int x1)] dX2_putLast_3 rfl (by decide) rfl ?_
  have lp4 : ∀ n : Nat, ∀ (y3_4 : Int32) (b3_4 : Int), y3_4.toInt = b3_4 → ∀ (y2_4 : Int32) (b2_4 : Int), y2_4.toInt = b2_4 → ∀ (M_4 : Mem), (0 ≤ b2_4 ∧ b2_4 ≤ b3_4 ∧ b3_4 ≤ (Mq.1 14 11).toInt) → ((M_4.1 14 11).toInt = (Mq.1 14 11).toInt) → (OLI Mq M_4 a1 b2_4 b3_4) → (Iv TX M_4) → (Fr W_X2_putLast_E Mq M_4) → ((Mq.1 14 11).toInt - b3_4).toNat < n → G Γ M_4 4 [(3, .int y3_4), (2, .int y2_4), (0, .ref (ad 14)), (1, .int x1)] [] := by
    intro n
    induction n with
    | zero => intro y3_4 b3_4 e3_4 y2_4 b2_4 e2_4 M_4 i1 i2 i3 I_4 fr_4 hm; exact absurd hm (Nat.not_lt_zero _)
    | succ n ih4 =>
      intro y3_4 b3_4 e3_4 y2_4 b2_4 e2_4 M_4 i1 i2 i3 I_4 fr_4 hm4
      refine g_iload_n X 0 rfl dX2_putLast_4 ?_
      refine g_aload_n X 2 rfl dX2_putLast_5 ?_
      refine g_geti X f_X2_47 dX2_putLast_6 (x := M_4.1 14 11) rfl ?_
      have bq1 := ig_14_11 I_4
      refine g_icmp_ge X e3_4 rfl (tgt := 43) dX2_putLast_9 (by decide) (fun cq2 => ?_) (fun cq2 => ?_)
      · refine g_iload_n X 1 rfl dX2_putLast_43 ?_
        refine g_bipush X 8 dX2_putLast_44 (by decide) ?_
        refine g_icmp_ge X e2_4 (show (8 : Int32).toInt = 8 by decide) (tgt := 63) dX2_putLast_46 (by decide) (fun cq3 => ?_) (fun cq3 => ?_)
        · exact g_vret X dX2_putLast_63 ⟨rfl, trivial, (fun h => by have e := OLI_len i3 i1.1; rw [show b3_4 = (Mq.1 14 11).toInt by omega] at e; first | (exfalso; omega) | (have z := OLI_end i3 i1.1 t1; rw [show b3_4 = (Mq.1 14 11).toInt by omega] at z; have e11 : ((M_4).1 14 11).toInt = b2_4 + 1 := (by rw [ui_eq]; omega); rw [e11, ui_cell (k := 14) (a := 22) (by decide)]; exact ⟨z, by omega⟩)), I_4, fr_4⟩
        · refine g_aload_n X 2 rfl dX2_putLast_49 ?_
          refine g_getr X f_X2_44 dX2_putLast_50 ?_
          refine g_iload_n X 1 rfl dX2_putLast_53 ?_
          refine g_iload_n X 3 rfl dX2_putLast_54 ?_
          refine g_iast X la_22 e2_4 dX2_putLast_55 (by omega) ?_
          have Iq4 : Iv TX (ui M_4 22 b2_4.toNat x1) := I_4.putA 0 7 t1 (by omega) rfl
          have frq5 : Fr W_X2_putLast_E Mq (ui M_4 22 b2_4.toNat x1) := fr_4.ui rfl
          refine g_aload_n X 2 rfl dX2_putLast_56 ?_
          refine g_iload_n X 1 rfl dX2_putLast_57 ?_
          refine g_iconst X 1 dX2_putLast_58 (by decide) ?_
          refine g_iadd X dX2_putLast_59 (fun zq6 eq7 => ?_)
          have tq8 : zq6.toInt = b2_4 + 1 := add_nw eq7 e2_4 (show (1 : Int32).toInt = 1 by decide) (by omega)
          refine g_puti X p_X2_47 dX2_putLast_60 ?_
          have Iq9 : Iv TX (ui (ui M_4 22 b2_4.toNat x1) 14 11 zq6) := Iq4.put 0 8 tq8 (by omega) rfl
          have frq10 : Fr W_X2_putLast_E Mq (ui (ui M_4 22 b2_4.toNat x1) 14 11 zq6) := frq5.ui rfl
          exact g_vret X dX2_putLast_63 ⟨rfl, trivial, (fun h => by have e := OLI_len i3 i1.1; rw [show b3_4 = (Mq.1 14 11).toInt by omega] at e; first | (exfalso; omega) | (have z := OLI_end i3 i1.1 t1; rw [show b3_4 = (Mq.1 14 11).toInt by omega] at z; have e11 : (((ui (ui M_4 22 b2_4.toNat x1) 14 11 zq6)).1 14 11).toInt = b2_4 + 1 := (by rw [ui_eq]; omega); rw [e11, ui_cell (k := 14) (a := 22) (by decide)]; exact ⟨z, by omega⟩)), Iq9, frq10⟩
      · refine g_aload_n X 2 rfl dX2_putLast_12 ?_
        refine g_getr X f_X2_44 dX2_putLast_13 ?_
        refine g_iload_n X 0 rfl dX2_putLast_16 ?_
        refine g_iald X la_22 e3_4 dX2_putLast_17 (by omega) (x := M_4.1 22 b3_4.toNat) rfl ?_
        have bq11 := ig_22 I_4 b3_4.toNat (by omega)
        refine g_iload_n X 3 rfl dX2_putLast_18 ?_
        refine g_icmp_eq X rfl t1 (tgt := 37) dX2_putLast_19 (by decide) (fun cq12 => ?_) (fun cq12 => ?_)
        · refine g_iinc X 0 (fun v => [(3, .int v), (2, .int y2_4), (0, .ref (ad 14)), (1, .int x1)]) dX2_putLast_37 rfl (by decide) (fun _ => rfl) (fun zq13 eq14 => ?_)
          have tq15 : zq13.toInt = b3_4 + 1 := add_nw eq14 e3_4 (show (Int32.ofInt 1).toInt = 1 by decide) (by omega)
          refine g_goto X (tgt := 4) dX2_putLast_40 (by decide) ?_
          refine g_sub [0, 1, 2, 3] rfl ?_
          exact ih4 zq13 _ tq15 y2_4 _ e2_4 M_4 (by omega) i2 (by first | exact OLI_skip i3 (by omega) (by first | assumption | omega) | exact OLI_take i3 (by omega) (by omega) (by first | assumption | omega) rfl) I_4 fr_4 (by omega)
        · refine g_aload_n X 2 rfl dX2_putLast_22 ?_
          refine g_getr X f_X2_44 dX2_putLast_23 ?_
          refine g_iload_n X 1 rfl dX2_putLast_26 ?_
          refine g_aload_n X 2 rfl dX2_putLast_27 ?_
          refine g_getr X f_X2_44 dX2_putLast_28 ?_
          refine g_iload_n X 0 rfl dX2_putLast_31 ?_
          refine g_iald X la_22 e3_4 dX2_putLast_32 (by omega) (x := M_4.1 22 b3_4.toNat) rfl ?_
          have bq16 := ig_22 I_4 b3_4.toNat (by omega)
          refine g_iast X la_22 e2_4 dX2_putLast_33 (by omega) ?_
          have Iq17 : Iv TX (ui M_4 22 b2_4.toNat (M_4.1 22 b3_4.toNat)) := I_4.putA 0 7 rfl (by omega) rfl
          have frq18 : Fr W_X2_putLast_E Mq (ui M_4 22 b2_4.toNat (M_4.1 22 b3_4.toNat)) := fr_4.ui rfl
          refine g_iinc X 1 (fun v => [(2, .int v), (3, .int y3_4), (0, .ref (ad 14)), (1, .int x1)]) dX2_putLast_34 rfl (by decide) (fun _ => rfl) (fun zq19 eq20 => ?_)
          have tq21 : zq19.toInt = b2_4 + 1 := add_nw eq20 e2_4 (show (Int32.ofInt 1).toInt = 1 by decide) (by omega)
          refine g_iinc X 1 (fun v => [(3, .int v), (2, .int zq19), (0, .ref (ad 14)), (1, .int x1)]) dX2_putLast_37 rfl (by decide) (fun _ => rfl) (fun zq22 eq23 => ?_)
          have tq24 : zq22.toInt = b3_4 + 1 := add_nw eq23 e3_4 (show (Int32.ofInt 1).toInt = 1 by decide) (by omega)
          refine g_goto X (tgt := 4) dX2_putLast_40 (by decide) ?_
          refine g_sub [0, 1, 2, 3] rfl ?_
          exact ih4 zq22 _ tq24 zq19 _ tq21 (ui M_4 22 b2_4.toNat (M_4.1 22 b3_4.toNat)) (by omega) i2 (by first | exact OLI_skip i3 (by omega) (by first | assumption | omega) | exact OLI_take i3 (by omega) (by omega) (by first | assumption | omega) rfl) Iq17 frq18 (by omega)
  refine g_sub [0, 1, 2, 3] rfl ?_
  exact lp4 _ 0 _ (show (0 : Int32).toInt = 0 by decide) 0 _ (show (0 : Int32).toInt = 0 by decide) Mq (by omega) rfl OLI_0 Iq0 frq0 (Nat.lt_succ_self _)
abbrev W_X2_keep_E : List (Nat × Nat) := [(14, 11), (22, 99), (18, 99), (19, 99), (20, 99), (21, 99)]
set_option maxHeartbeats 4000000 in
set_option maxRecDepth 4000 in
theorem c_X2_keep_E (ad : Nat → Nat) (Mq : Mem) (x1 : Int32) {a1 : Int} (t1 : x1.toInt = a1) (Iq0 : Iv TX Mq) (h1 : 0 ≤ a1 ∧ a1 ≤ 7) (h2 : 2 ≤ (Mq.1 14 1).toInt) : Ctr ad yX2_keep cX2_keep 3 none 1 [.ref (ad 14), .int x1] Mq (fun v M' => v = none ∧ (True) ∧ ((∀ j, M'.1 18 j = cpR (Mq.1 15) (Mq.1 18) (a1 * 60).toNat ((Mq.1 14 1).toInt).toNat j) ∧ (∀ j, M'.1 19 j = cpR (Mq.1 16) (Mq.1 19) (a1 * 60).toNat ((Mq.1 14 1).toInt).toNat j) ∧ (M'.1 20 = (ui Mq 20 a1.toNat (Mq.1 14 1)).1 20) ∧ (∀ x, x ≠ a1.toNat → M'.1 21 x = Mq.1 21 x) ∧ USI Mq (M'.1 21 a1.toNat) (Mq.1 14 1).toInt ∧ ((noS a1 (ordN (Mq.1 22) ((Mq.1 14 11).toInt).toNat)).length < 8 → ordN (M'.1 22) ((M'.1 14 11).toInt).toNat = noS a1 (ordN (Mq.1 22) ((Mq.1 14 11).toInt).toNat) ++ [a1] ∧ (M'.1 14 11).toInt = ((noS a1 (ordN (Mq.1 22) ((Mq.1 14 11).toInt).toNat)).length : Int) + 1)) ∧ Iv TX M' ∧ Fr W_X2_keep_E Mq M') := by
  refine ctr_of (L := [(0, .ref (ad 14)), (1, .int x1)]) (by decide) (Nat.le_of_ble_eq_true rfl) rfl ?_
  intro Γ X
  have X : gX Γ cX2_keep RX2 3 none 1 ad _ := X
  have frq0 : Fr W_X2_keep_E Mq Mq := Fr.rf
  have hT := ig_14_1 Iq0
  refine g_aload_n X 0 rfl dX2_keep_0 ?_
  refine g_getr X f_X2_9 dX2_keep_1 ?_
  refine g_iconst X 0 dX2_keep_4 (by decide) ?_
  refine g_aload_n X 0 rfl dX2_keep_5 ?_
  refine g_getr X f_X2_32 dX2_keep_6 ?_
  refine g_iload_n X 1 rfl dX2_keep_9 ?_
  refine g_bipush X 60 dX2_keep_10 (by decide) ?_
  refine g_imul X dX2_keep_12 (fun zq1 eq2 => ?_)
  have tq3 : zq1.toInt = a1 * 60 := mul_nw eq2 t1 (show (60 : Int32).toInt = 60 by decide) (by omega)
  refine g_aload_n X 0 rfl dX2_keep_13 ?_
  refine g_geti X f_X2_15 dX2_keep_14 (x := Mq.1 14 1) rfl ?_
  have bq4 := ig_14_1 Iq0
  refine g_copy X (show (0 : Int32).toInt = 0 by decide) tq3 rfl la_15 la_18 cp_X2_96 cp_ok.1 cp_ok.2.1 cp_ok.2.2 (by decide) (Nat.le_of_ble_eq_true rfl) (by omega) dX2_keep_17 ?_
  have Iq5 : Iv TX (uc Mq 15 0 18 ((a1 * 60).toNat) (((Mq.1 14 1).toInt).toNat)) := Iq0.copyO rfl
  have frq6 : Fr W_X2_keep_E Mq (uc Mq 15 0 18 ((a1 * 60).toNat) (((Mq.1 14 1).toInt).toNat)) := frq0.uc rfl
  refine g_aload_n X 0 rfl dX2_keep_20 ?_
  refine g_getr X f_X2_19 dX2_keep_21 ?_
  refine g_iconst X 0 dX2_keep_24 (by decide) ?_
  refine g_aload_n X 0 rfl dX2_keep_25 ?_
  refine g_getr X f_X2_35 dX2_keep_26 ?_
  refine g_iload_n X 1 rfl dX2_keep_29 ?_
  refine g_bipush X 60 dX2_keep_30 (by decide) ?_
  refine g_imul X dX2_keep_32 (fun zq7 eq8 => ?_)
  have tq9 : zq7.toInt = a1 * 60 := mul_nw eq8 t1 (show (60 : Int32).toInt = 60 by decide) (by omega)
  refine g_aload_n X 0 rfl dX2_keep_33 ?_
  refine g_geti X f_X2_15 dX2_keep_34 (x := Mq.1 14 1) rfl ?_
  have bq10 := ig_14_1 Iq0
  refine g_copy X (show (0 : Int32).toInt = 0 by decide) tq9 rfl la_16 la_19 cp_X2_96 cp_ok.1 cp_ok.2.1 cp_ok.2.2 (by decide) (Nat.le_of_ble_eq_true rfl) (by omega) dX2_keep_37 ?_
  have Iq11 : Iv TX (uc (uc Mq 15 0 18 ((a1 * 60).toNat) (((Mq.1 14 1).toInt).toNat)) 16 0 19 ((a1 * 60).toNat) (((Mq.1 14 1).toInt).toNat)) := Iq5.copy 0 59 (fun j hj => ig_16 Iq5 (0 + j) (by omega)) rfl
  have frq12 : Fr W_X2_keep_E Mq (uc (uc Mq 15 0 18 ((a1 * 60).toNat) (((Mq.1 14 1).toInt).toNat)) 16 0 19 ((a1 * 60).toNat) (((Mq.1 14 1).toInt).toNat)) := frq6.uc rfl
  refine g_aload_n X 0 rfl dX2_keep_40 ?_
  refine g_getr X f_X2_38 dX2_keep_41 ?_
  refine g_iload_n X 1 rfl dX2_keep_44 ?_
  refine g_aload_n X 0 rfl dX2_keep_45 ?_
  refine g_geti X f_X2_15 dX2_keep_46 (x := Mq.1 14 1) rfl ?_
  have bq13 := ig_14_1 Iq0
  refine g_iast X la_20 t1 dX2_keep_49 (by omega) ?_
  have Iq14 : Iv TX (ui (uc (uc Mq 15 0 18 ((a1 * 60).toNat) (((Mq.1 14 1).toInt).toNat)) 16 0 19 ((a1 * 60).toNat) (((Mq.1 14 1).toInt).toNat)) 20 a1.toNat (Mq.1 14 1)) := Iq11.putA 0 60 rfl (by omega) rfl
  have frq15 : Fr W_X2_keep_E Mq (ui (uc (uc Mq 15 0 18 ((a1 * 60).toNat) (((Mq.1 14 1).toInt).toNat)) 16 0 19 ((a1 * 60).toNat) (((Mq.1 14 1).toInt).toNat)) 20 a1.toNat (Mq.1 14 1)) := frq12.ui rfl
  refine g_aload_n X 0 rfl dX2_keep_50 ?_
  refine g_getr X f_X2_41 dX2_keep_51 ?_
  refine g_iload_n X 1 rfl dX2_keep_54 ?_
  refine g_iconst X 0 dX2_keep_55 (by decide) ?_
  refine g_iast X la_21 t1 dX2_keep_56 (by omega) ?_
  have ltq16 : (0 : Int32).toInt = 0 := by decide
  have Iq17 : Iv TX (ui (ui (uc (uc Mq 15 0 18 ((a1 * 60).toNat) (((Mq.1 14 1).toInt).toNat)) 16 0 19 ((a1 * 60).toNat) (((Mq.1 14 1).toInt).toNat)) 20 a1.toNat (Mq.1 14 1)) 21 a1.toNat 0) := Iq14.otherA rfl
  have frq18 : Fr W_X2_keep_E Mq (ui (ui (uc (uc Mq 15 0 18 ((a1 * 60).toNat) (((Mq.1 14 1).toInt).toNat)) 16 0 19 ((a1 * 60).toNat) (((Mq.1 14 1).toInt).toNat)) 20 a1.toNat (Mq.1 14 1)) 21 a1.toNat 0) := frq15.ui rfl
  refine g_iconst X 2 dX2_keep_57 (by decide) ?_
  refine g_istore_n X (i := 2) [(2, .int 2), (0, .ref (ad 14)), (1, .int x1)] dX2_keep_58 rfl (by decide) rfl ?_
  have lp59 : ∀ n : Nat, ∀ (y2_59 : Int32) (b2_59 : Int), y2_59.toInt = b2_59 → ∀ (M_59 : Mem), (2 ≤ b2_59 ∧ b2_59 ≤ (Mq.1 14 1).toInt) → (USI Mq (M_59.1 21 a1.toNat) b2_59) → (∀ x, x ≠ a1.toNat → M_59.1 21 x = Mq.1 21 x) → (∀ j, M_59.1 18 j = cpR (Mq.1 15) (Mq.1 18) (a1 * 60).toNat ((Mq.1 14 1).toInt).toNat j) → (∀ j, M_59.1 19 j = cpR (Mq.1 16) (Mq.1 19) (a1 * 60).toNat ((Mq.1 14 1).toInt).toNat j) → (M_59.1 20 = (ui Mq 20 a1.toNat (Mq.1 14 1)).1 20) → (M_59.1 22 = Mq.1 22) → (M_59.1 14 11 = Mq.1 14 11) → (Iv TX M_59) → (Fr W_X2_keep_E Mq M_59) → ((Mq.1 14 1).toInt - b2_59).toNat < n → G Γ M_59 59 [(2, .int y2_59), (0, .ref (ad 14)), (1, .int x1)] [] := by
    intro n
    induction n with
    | zero => intro y2_59 b2_59 e2_59 M_59 i1 i2 i3 i4 i5 i6 i7 i8 I_59 fr_59 hm; exact absurd hm (Nat.not_lt_zero _)
    | succ n ih59 =>
      intro y2_59 b2_59 e2_59 M_59 i1 i2 i3 i4 i5 i6 i7 i8 I_59 fr_59 hm59
      have q14_1 : (M_59.1 14 1).toInt = (Mq.1 14 1).toInt := congrArg Int32.toInt (fr_59.at 14 1 rfl)
      have r15 : (M_59.1 15 (b2_59).toNat).toInt = (Mq.1 15 (b2_59).toNat).toInt := congrArg Int32.toInt (fr_59.at 15 _ rfl)
      refine g_iload_n X 0 rfl dX2_keep_59 ?_
      refine g_aload_n X 1 rfl dX2_keep_60 ?_
      refine g_geti X f_X2_15 dX2_keep_61 (x := M_59.1 14 1) rfl ?_
      have bq19 := ig_14_1 I_59
      refine g_icmp_ge X e2_59 rfl (tgt := 105) dX2_keep_64 (by decide) (fun cq20 => ?_) (fun cq20 => ?_)
      · refine g_aload_n X 1 rfl dX2_keep_105 ?_
        refine g_iload_n X 2 rfl dX2_keep_106 ?_
        refine g_callV X m_X2_102 (c_X2_putLast_E ad M_59 x1 t1 I_59 (by omega)) rfl (by decide) (Nat.le_of_ble_eq_true rfl) rfl dX2_keep_107 ?_
        rintro _ Mq26 ⟨rfl, hq24, hq25, Iq27, frq28⟩
        have frq29 : Fr W_X2_keep_E Mq Mq26 := fr_59.trans frq28 rfl
        have hpl := hq25
        rw [i7, i8] at hpl
        have p18 := row_fr frq28 (c := 18) (by decide)
        have p19 := row_fr frq28 (c := 19) (by decide)
        have p20 := row_fr frq28 (c := 20) (by decide)
        have p21 := row_fr frq28 (c := 21) (by decide)
        show G Γ Mq26 110 [(2, .int y2_59), (0, .ref (ad 14)), (1, .int x1)] []
        exact g_vret X dX2_keep_110 ⟨rfl, trivial, (⟨fun j => by rw [p18]; exact i4 j, fun j => by rw [p19]; exact i5 j, by rw [p20]; exact i6, fun x q => by rw [p21]; exact i3 x q, by rw [p21]; have z := i2; rw [show b2_59 = (Mq.1 14 1).toInt by omega] at z; exact z, hpl⟩), Iq27, frq29⟩
      · refine g_aload_n X 1 rfl dX2_keep_67 ?_
        refine g_getr X f_X2_9 dX2_keep_68 ?_
        refine g_iload_n X 0 rfl dX2_keep_71 ?_
        refine g_iald X la_15 e2_59 dX2_keep_72 (by omega) (x := M_59.1 15 b2_59.toNat) rfl ?_
        refine g_callS X m_X2_77 (c_X6_isScene ad M_59 (M_59.1 15 b2_59.toNat) rfl) rfl (by decide) (Nat.le_of_ble_eq_true rfl) rfl dX2_keep_73 ?_
        rintro _ _ ⟨rq30, aq31, rfl, tq32, hq33, rfl⟩
        show G Γ M_59 76 [(2, .int y2_59), (0, .ref (ad 14)), (1, .int x1)] [.int rq30]
        refine g_if_eq X tq32 (tgt := 99) dX2_keep_76 (by decide) (fun cq34 => ?_) (fun cq34 => ?_)
        · have pq35 : ¬ (65 ≤ ((M_59.1 15 b2_59.toNat).toInt) ∧ ((M_59.1 15 b2_59.toNat).toInt) ≤ 72) := by first | omega | (rcases hq33 with ⟨z1, z2⟩ | ⟨z1, z2⟩ <;> first | exact z2 | (exfalso; omega))
          refine g_iinc X 0 (fun v => [(2, .int v), (0, .ref (ad 14)), (1, .int x1)]) dX2_keep_99 rfl (by decide) (fun _ => rfl) (fun zq36 eq37 => ?_)
          have tq38 : zq36.toInt = b2_59 + 1 := add_nw eq37 e2_59 (show (Int32.ofInt 1).toInt = 1 by decide) (by omega)
          refine g_goto X (tgt := 59) dX2_keep_102 (by decide) ?_
          refine g_sub [0, 1, 2] rfl ?_
          exact ih59 zq36 _ tq38 M_59 (by omega) (by first | exact USI_skip i2 (by omega) (by omega) | (rw [ui_eq]; exact USI_put i2 (by omega) r15.symm (by omega) ky96 kx96 kx97)) (fun x q => by first | exact i3 x q | (rw [ui_nj q]; exact i3 x q)) (fun j => i4 j) (fun j => i5 j) (by first | exact i6 | (rw [ui_cell (k := 21) (a := 20) (by decide)]; exact i6)) (by first | exact i7 | (rw [ui_cell (k := 21) (a := 22) (by decide)]; exact i7)) i8 I_59 fr_59 (by omega)
        · have pq39 : (65 ≤ ((M_59.1 15 b2_59.toNat).toInt) ∧ ((M_59.1 15 b2_59.toNat).toInt) ≤ 72) := by first | omega | (rcases hq33 with ⟨z1, z2⟩ | ⟨z1, z2⟩ <;> first | exact z2 | (exfalso; omega))
          refine g_aload_n X 1 rfl dX2_keep_79 ?_
          refine g_getr X f_X2_41 dX2_keep_80 ?_
          refine g_iload_n X 2 rfl dX2_keep_83 ?_
          refine g_dup2 X dX2_keep_84 rfl rfl ?_
          refine g_iald X la_21 t1 dX2_keep_85 (by omega) (x := M_59.1 21 a1.toNat) rfl ?_
          refine g_iconst X 1 dX2_keep_86 (by decide) ?_
          refine g_aload_n X 1 rfl dX2_keep_87 ?_
          refine g_getr X f_X2_9 dX2_keep_88 ?_
          refine g_iload_n X 0 rfl dX2_keep_91 ?_
          refine g_iald X la_15 e2_59 dX2_keep_92 (by omega) (x := M_59.1 15 b2_59.toNat) rfl ?_
          refine g_bipush X 65 dX2_keep_93 (by decide) ?_
          refine g_isub X dX2_keep_95 (fun zq40 eq41 => ?_)
          have tq42 : zq40.toInt = ((M_59.1 15 b2_59.toNat).toInt) - 65 := sub_nw eq41 rfl (show (65 : Int32).toInt = 65 by decide) (by omega)
          refine g_ishl X dX2_keep_96 (fun zq43 eq44 => ?_)
          have kx96 := eq44
          have ky96 := tq42
          refine g_ior X dX2_keep_97 (fun zq46 eq47 => ?_)
          have kx97 := eq47
          refine g_iast X la_21 t1 dX2_keep_98 (by omega) ?_
          have Iq49 : Iv TX (ui M_59 21 a1.toNat zq46) := I_59.otherA rfl
          have frq50 : Fr W_X2_keep_E Mq (ui M_59 21 a1.toNat zq46) := fr_59.ui rfl
          refine g_iinc X 0 (fun v => [(2, .int v), (0, .ref (ad 14)), (1, .int x1)]) dX2_keep_99 rfl (by decide) (fun _ => rfl) (fun zq51 eq52 => ?_)
          have tq53 : zq51.toInt = b2_59 + 1 := add_nw eq52 e2_59 (show (Int32.ofInt 1).toInt = 1 by decide) (by omega)
          refine g_goto X (tgt := 59) dX2_keep_102 (by decide) ?_
          refine g_sub [0, 1, 2] rfl ?_
          exact ih59 zq51 _ tq53 (ui M_59 21 a1.toNat zq46) (by omega) (by first | exact USI_skip i2 (by omega) (by omega) | (rw [ui_eq]; exact USI_put i2 (by omega) r15.symm (by omega) ky96 kx96 kx97)) (fun x q => by first | exact i3 x q | (rw [ui_nj q]; exact i3 x q)) (fun j => i4 j) (fun j => i5 j) (by first | exact i6 | (rw [ui_cell (k := 21) (a := 20) (by decide)]; exact i6)) (by first | exact i7 | (rw [ui_cell (k := 21) (a := 22) (by decide)]; exact i7)) i8 Iq49 frq50 (by omega)
  refine g_sub [0, 1, 2] rfl ?_
  exact lp59 _ 2 _ (show (2 : Int32).toInt = 2 by decide) (ui (ui (uc (uc Mq 15 0 18 ((a1 * 60).toNat) (((Mq.1 14 1).toInt).toNat)) 16 0 19 ((a1 * 60).toNat) (((Mq.1 14 1).toInt).toNat)) 20 a1.toNat (Mq.1 14 1)) 21 a1.toNat 0) (by omega) (by rw [ui_eq]; exact USI_0) (fun x q => by simp [ui, uc, q]) (fun j => by rw [ui_cell (k := 21) (a := 18) (by decide), ui_cell (k := 20) (a := 18) (by decide), uc_cell (k := 19) (a := 18) (by decide)]; exact uc_row j) (fun j => by rw [ui_cell (k := 21) (a := 19) (by decide), ui_cell (k := 20) (a := 19) (by decide)]; exact (uc_row j).trans (by rw [uc_cell (k := 18) (a := 16) (by decide), uc_cell (k := 18) (a := 19) (by decide)])) (by funext b; simp [ui, uc]) (by funext b; simp [ui, uc]) (by simp [ui, uc]) Iq17 frq18 (Nat.lt_succ_self _)
abbrev W_X2_readTape_E : List (Nat × Nat) := [(14, 4), (14, 5), (16, 99), (17, 99), (14, 11), (22, 99), (18, 99), (19, 99), (20, 99), (21, 99)]
set_option maxHeartbeats 4000000 in
set_option maxRecDepth 4000 in
theorem c_X2_readTape_E (ad : Nat → Nat) (Mq : Mem) (Iq0 : Iv TX Mq) (hp : ∀ j : Nat, (j : Int) < (Mq.1 14 1).toInt → 0 ≤ (Mq.1 15 j).toInt) : Ctr ad yX2_readTape cX2_readTape 3 (some .int) 4 [.ref (ad 14)] Mq (fun v M' => ∃ (r : Int32) (a : Int), v = some (.int r) ∧ r.toInt = a ∧ (True) ∧ (SCX Mq M' a) ∧ Iv TX M' ∧ Fr W_X2_readTape_E Mq M') := by
  refine ctr_of (L := [(0, .ref (ad 14))]) (by decide) (Nat.le_of_ble_eq_true rfl) rfl ?_
  intro Γ X
  have X : gX Γ cX2_readTape RX2 3 (some .int) 4 ad _ := X
  have frq0 : Fr W_X2_readTape_E Mq Mq := Fr.rf
  have hT := ig_14_1 Iq0
  refine g_aload_n X 0 rfl dX2_readTape_0 ?_
  refine g_callV X m_X2_59 (c_X2_misfit_E ad Mq Iq0 (by omega)) rfl (by decide) (Nat.le_of_ble_eq_true rfl) rfl dX2_readTape_1 ?_
  rintro _ Mq5 ⟨rq1, aq2, rfl, tq3, hq4, Iq6, frq7⟩
  have frq8 : Fr W_X2_readTape_E Mq Mq5 := frq0.trans frq7 rfl
  have hmf := hq4
  have f1 := frq7
  have r15 : Mq5.1 15 = Mq.1 15 := row_fr frq7 (by decide)
  have r150 : (Mq5.1 15 0).toInt = (Mq.1 15 0).toInt := congrArg Int32.toInt (frq7.at 15 0 rfl)
  have r1 : (Mq5.1 14 1).toInt = (Mq.1 14 1).toInt := congrArg Int32.toInt (frq7.at 14 1 rfl)
  have r1i : Mq5.1 14 1 = Mq.1 14 1 := frq7.at 14 1 rfl
  have hmr := MF_rng hmf (by omega)
  have s1 : SMX Mq Mq5 := SMX_rf frq7 (by decide)
  have etX : tX Mq5 = tX Mq := by funext k; unfold tX; rw [r15]
  have ebd : bdX Mq5 = bdX Mq := by funext x y; unfold bdX; rw [s1.2.2.1]
  show G Γ Mq5 4 [(0, .ref (ad 14))] [.int rq1]
  refine g_istore_n X (i := 1) [(1, .int rq1), (0, .ref (ad 14))] dX2_readTape_4 rfl (by decide) rfl ?_
  refine g_iload_n X 0 rfl dX2_readTape_5 ?_
  refine g_if_lt X tq3 (tgt := 15) dX2_readTape_6 (by decide) (fun cq9 => ?_) (fun cq9 => ?_)
  · have hmk := MF_ok hmf (by omega)
    refine g_aload_n X 1 rfl dX2_readTape_15 ?_
    refine g_getr X f_X2_9 dX2_readTape_16 ?_
    refine g_iconst X 0 dX2_readTape_19 (by decide) ?_
    refine g_iald X la_15 (show (0 : Int32).toInt = 0 by decide) dX2_readTape_20 (by omega) (x := Mq5.1 15 0) rfl ?_
    refine g_bipush X 65 dX2_readTape_21 (by decide) ?_
    refine g_isub X dX2_readTape_23 (fun zq10 eq11 => ?_)
    have tq12 : zq10.toInt = ((Mq5.1 15 0).toInt) - 65 := sub_nw eq11 rfl (show (65 : Int32).toInt = 65 by decide) (by omega)
    refine g_istore_n X (i := 2) [(2, .int zq10), (1, .int rq1), (0, .ref (ad 14))] dX2_readTape_24 rfl (by decide) rfl ?_
    refine g_aload_n X 2 rfl dX2_readTape_25 ?_
    refine g_iload_n X 0 rfl dX2_readTape_26 ?_
    refine g_callV X m_X2_62 (c_X2_untold_E ad Mq5 zq10 tq12 Iq6) rfl (by decide) (Nat.le_of_ble_eq_true rfl) rfl dX2_readTape_27 ?_
    rintro _ _ ⟨rq13, aq14, rfl, tq15, hq16, rfl⟩
    have hut := hq16
    rw [etX, ebd, r1, r150] at hut
    have hur := UT_rng hut
    show G Γ Mq5 30 [(2, .int zq10), (1, .int rq1), (0, .ref (ad 14))] [.int rq13]
    refine g_istore_n X (i := 1) [(1, .int rq13), (2, .int zq10), (0, .ref (ad 14))] dX2_readTape_30 rfl (by decide) rfl ?_
    refine g_iload_n X 0 rfl dX2_readTape_31 ?_
    refine g_if_lt X tq15 (tgt := 41) dX2_readTape_32 (by decide) (fun cq17 => ?_) (fun cq17 => ?_)
    · refine g_aload_n X 2 rfl dX2_readTape_41 ?_
      refine g_iload_n X 1 rfl dX2_readTape_42 ?_
      refine g_callV X m_X2_66 (c_X2_standsInAnother_E ad Mq5 zq10 tq12 (by have z := MF_ok hmf (by omega); omega)) rfl (by decide) (Nat.le_of_ble_eq_true rfl) rfl dX2_readTape_43 ?_
      rintro _ _ ⟨rq18, aq19, rfl, tq20, hq21, rfl⟩
      have hst := hq21
      have est : STX Mq5 = STX Mq := by funext x; unfold STX; rw [s1.2.2.2.1]
      rw [est, r150] at hst
      show G Γ Mq5 46 [(1, .int rq13), (2, .int zq10), (0, .ref (ad 14))] [.int rq18]
      refine g_if_eq X tq20 (tgt := 53) dX2_readTape_46 (by decide) (fun cq22 => ?_) (fun cq22 => ?_)
      · have pq23 : ¬ (STX Mq5 (((Mq5.1 15 0).toInt) - 65)) := by first | omega | (rcases hq21 with ⟨z1, z2⟩ | ⟨z1, z2⟩ <;> first | exact z2 | (exfalso; omega))
        refine g_aload_n X 2 rfl dX2_readTape_53 ?_
        refine g_iload_n X 1 rfl dX2_readTape_54 ?_
        refine g_callV X m_X2_70 (c_X2_keep_E ad Mq5 zq10 tq12 Iq6 (by have z := MF_ok hmf (by omega); omega) (by have z := MF_ok hmf (by omega); omega)) rfl (by decide) (Nat.le_of_ble_eq_true rfl) rfl dX2_readTape_55 ?_
        rintro _ Mq29 ⟨rfl, hq27, hq28, Iq30, frq31⟩
        have frq32 : Fr W_X2_readTape_E Mq Mq29 := frq8.trans frq31 rfl
        have hk := hq28
        rw [r150] at hk
        show G Γ Mq29 58 [(1, .int rq13), (2, .int zq10), (0, .ref (ad 14))] []
        refine g_iload_n X 1 rfl dX2_readTape_58 ?_
        exact g_iret X dX2_readTape_59 ⟨_, _, rfl, tq12, trivial, (⟨_, hmf, Or.inr ⟨by omega, _, hut, Or.inr ⟨by omega, Or.inr ⟨bb0 hst (by omega), by omega, KPX_of r15 r1i s1 hk⟩⟩⟩⟩), Iq30, frq32⟩
      · have pq33 : (STX Mq5 (((Mq5.1 15 0).toInt) - 65)) := by first | omega | (rcases hq21 with ⟨z1, z2⟩ | ⟨z1, z2⟩ <;> first | exact z2 | (exfalso; omega))
        refine g_sipush X (-3000) dX2_readTape_49 (by decide) ?_
        exact g_iret X dX2_readTape_52 ⟨_, _, rfl, (show ((-3000) : Int32).toInt = (-3000) by decide), trivial, (⟨_, hmf, Or.inr ⟨by omega, _, hut, Or.inr ⟨by omega, Or.inl ⟨bb1 hst (by omega), rfl, s1⟩⟩⟩⟩), Iq6, frq8⟩
    · refine g_sipush X (-2000) dX2_readTape_35 (by decide) ?_
      refine g_iload_n X 0 rfl dX2_readTape_38 ?_
      refine g_isub X dX2_readTape_39 (fun zq34 eq35 => ?_)
      have tq36 : zq34.toInt = (-2000) - aq14 := sub_nw eq35 (show ((-2000) : Int32).toInt = (-2000) by decide) tq15 (by omega)
      exact g_iret X dX2_readTape_40 ⟨_, _, rfl, tq36, trivial, (⟨_, hmf, Or.inr ⟨by omega, _, hut, Or.inl ⟨by omega, by omega, s1⟩⟩⟩), Iq6, frq8⟩
  · refine g_sipush X (-1000) dX2_readTape_9 (by decide) ?_
    refine g_iload_n X 0 rfl dX2_readTape_12 ?_
    refine g_isub X dX2_readTape_13 (fun zq37 eq38 => ?_)
    have tq39 : zq37.toInt = (-1000) - aq2 := sub_nw eq38 (show ((-1000) : Int32).toInt = (-1000) by decide) tq3 (by omega)
    exact g_iret X dX2_readTape_14 ⟨_, _, rfl, tq39, trivial, (⟨_, hmf, Or.inl ⟨by omega, by omega, s1⟩⟩), Iq6, frq8⟩
abbrev W_X2_tellTape_E : List (Nat × Nat) := [(14, 4), (14, 5), (16, 99), (17, 99), (14, 11), (22, 99), (18, 99), (19, 99), (20, 99), (21, 99), (14, 1)]
set_option maxHeartbeats 4000000 in
set_option maxRecDepth 4000 in
theorem c_X2_tellTape_E (ad : Nat → Nat) (Mq : Mem) (Iq0 : Iv TX Mq) (hp : ∀ j : Nat, (j : Int) < (Mq.1 14 1).toInt → 0 ≤ (Mq.1 15 j).toInt) : Ctr ad yX2_tellTape cX2_tellTape 2 (some .int) 5 [.ref (ad 14)] Mq (fun v M' => ∃ (r : Int32) (a : Int), v = some (.int r) ∧ r.toInt = a ∧ (True) ∧ (SCX Mq M' a ∧ (M'.1 14 1).toInt = 0) ∧ Iv TX M' ∧ Fr W_X2_tellTape_E Mq M') := by
  refine ctr_of (L := [(0, .ref (ad 14))]) (by decide) (Nat.le_of_ble_eq_true rfl) rfl ?_
  intro Γ X
  have X : gX Γ cX2_tellTape RX2 2 (some .int) 5 ad _ := X
  have frq0 : Fr W_X2_tellTape_E Mq Mq := Fr.rf
  refine g_aload_n X 0 rfl dX2_tellTape_0 ?_
  refine g_callV X m_X2_55 (c_X2_readTape_E ad Mq Iq0 (by omega)) rfl (by decide) (Nat.le_of_ble_eq_true rfl) rfl dX2_tellTape_1 ?_
  rintro _ Mq6 ⟨rq1, aq2, rfl, tq3, hq4, hq5, Iq7, frq8⟩
  have frq9 : Fr W_X2_tellTape_E Mq Mq6 := frq0.trans frq8 rfl
  have hsx := hq5
  show G Γ Mq6 4 [(0, .ref (ad 14))] [.int rq1]
  refine g_istore_n X (i := 1) [(1, .int rq1), (0, .ref (ad 14))] dX2_tellTape_4 rfl (by decide) rfl ?_
  refine g_aload_n X 1 rfl dX2_tellTape_5 ?_
  refine g_iconst X 0 dX2_tellTape_6 (by decide) ?_
  refine g_puti X p_X2_15 dX2_tellTape_7 ?_
  have ltq10 : (0 : Int32).toInt = 0 := by decide
  have Iq11 : Iv TX (ui Mq6 14 1 0) := Iq7.put 0 60 (show (0 : Int32).toInt = 0 by decide) (by omega) rfl
  have frq12 : Fr W_X2_tellTape_E Mq (ui Mq6 14 1 0) := frq9.ui rfl
  refine g_iload_n X 0 rfl dX2_tellTape_10 ?_
  exact g_iret X dX2_tellTape_11 ⟨_, _, rfl, tq3, trivial, (⟨SCX_to hsx (ui_cell (by decide)) (ui_cell (by decide)) (ui_cell (by decide)) (ui_cell (by decide)) (ui_cell (by decide)) (ui_nj (by decide)), by rw [ui_eq]; decide⟩), Iq11, frq12⟩
abbrev W_X6_scene_E : List (Nat × Nat) := [(14, 4), (14, 5), (16, 99), (17, 99), (14, 11), (22, 99), (18, 99), (19, 99), (20, 99), (21, 99), (14, 1)]
set_option maxHeartbeats 4000000 in
set_option maxRecDepth 4000 in
theorem c_X6_scene_E (ad : Nat → Nat) (Mq : Mem) (Iq0 : Iv TX Mq) (hp : ∀ j : Nat, (j : Int) < (Mq.1 14 1).toInt → 0 ≤ (Mq.1 15 j).toInt) : Ctr ad yX6_scene cX6_scene 1 (some .int) 6 [.ref (ad 0)] Mq (fun v M' => ∃ (r : Int32) (a : Int), v = some (.int r) ∧ r.toInt = a ∧ (True) ∧ (SCX Mq M' a ∧ (M'.1 14 1).toInt = 0) ∧ Iv TX M' ∧ Fr W_X6_scene_E Mq M') := by
  refine ctr_of (L := [(0, .ref (ad 0))]) (by decide) (Nat.le_of_ble_eq_true rfl) rfl ?_
  intro Γ X
  have X : gX Γ cX6_scene RX6 1 (some .int) 6 ad _ := X
  have frq0 : Fr W_X6_scene_E Mq Mq := Fr.rf
  refine g_aload_n X 0 rfl dX6_scene_0 ?_
  refine g_getr X f_X6_19 dX6_scene_1 ?_
  refine g_callV X m_X6_149 (c_X2_tellTape_E ad Mq Iq0 (by omega)) rfl (by decide) (Nat.le_of_ble_eq_true rfl) rfl dX6_scene_4 ?_
  rintro _ Mq6 ⟨rq1, aq2, rfl, tq3, hq4, hq5, Iq7, frq8⟩
  have frq9 : Fr W_X6_scene_E Mq Mq6 := frq0.trans frq8 rfl
  show G Γ Mq6 7 [(0, .ref (ad 0))] [.int rq1]
  exact g_iret X dX6_scene_7 ⟨_, _, rfl, tq3, trivial, (hq5), Iq7, frq9⟩
end
