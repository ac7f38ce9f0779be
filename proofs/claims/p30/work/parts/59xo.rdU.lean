section
set_option maxHeartbeats 4000000 in
set_option maxRecDepth 4000 in
theorem c_X3_isLost_R (ad : Nat → Nat) (Mq : Mem) (x1 : Int32) {a1 : Int} (t1 : x1.toInt = a1) (x2 : Int32) {a2 : Int} (t2 : x2.toInt = a2) (Iq0 : Iv TX Mq) (h1 : 0 ≤ a1 ∧ a1 < 12) : Ctr ad yX3_isLost cX3_isLost 3 (some .boolean) 0 [.ref (ad 40), .int x1, .int x2] Mq (fun v M' => ∃ (r : Int32) (a : Int), v = some (.int r) ∧ r.toInt = a ∧ ((a = 1 ∧ (0 ≤ a2 ∧ a2 < (Mq.1 44 a1.toNat).toInt ∧ (Mq.1 45 (a1 * 24 + a2).toNat).toInt = 40)) ∨ (a = 0 ∧ ¬ (0 ≤ a2 ∧ a2 < (Mq.1 44 a1.toNat).toInt ∧ (Mq.1 45 (a1 * 24 + a2).toNat).toInt = 40))) ∧ Mq = M') := by
  refine ctr_of (L := [(0, .ref (ad 40)), (1, .int x1), (2, .int x2)]) (by decide) (Nat.le_of_ble_eq_true rfl) rfl ?_
  intro Γ X
  have X : gX Γ cX3_isLost RX3 3 (some .boolean) 0 ad _ := X
  have g44 := ig_44 Iq0 a1.toNat (by omega)
  refine g_iload_n X 2 rfl dX3_isLost_0 ?_
  refine g_if_lt X t2 (tgt := 34) dX3_isLost_1 (by decide) (fun cq1 => ?_) (fun cq1 => ?_)
  · refine g_iconst X 0 dX3_isLost_34 (by decide) ?_
    exact g_zret X (b01 (show (0 : Int32).toInt = 0 by decide) (by omega)) dX3_isLost_35 ⟨_, _, rfl, (show (0 : Int32).toInt = 0 by decide), (by omega), rfl⟩
  · refine g_iload_n X 2 rfl dX3_isLost_4 ?_
    refine g_aload_n X 0 rfl dX3_isLost_5 ?_
    refine g_getr X f_X3_21 dX3_isLost_6 ?_
    refine g_iload_n X 1 rfl dX3_isLost_9 ?_
    refine g_iald X la_44 t1 dX3_isLost_10 (by omega) (x := Mq.1 44 a1.toNat) rfl ?_
    have bq2 := ig_44 Iq0 a1.toNat (by omega)
    refine g_icmp_ge X t2 rfl (tgt := 34) dX3_isLost_11 (by decide) (fun cq3 => ?_) (fun cq3 => ?_)
    · refine g_iconst X 0 dX3_isLost_34 (by decide) ?_
      exact g_zret X (b01 (show (0 : Int32).toInt = 0 by decide) (by omega)) dX3_isLost_35 ⟨_, _, rfl, (show (0 : Int32).toInt = 0 by decide), (by omega), rfl⟩
    · refine g_aload_n X 0 rfl dX3_isLost_14 ?_
      refine g_getr X f_X3_24 dX3_isLost_15 ?_
      refine g_iload_n X 1 rfl dX3_isLost_18 ?_
      refine g_bipush X 24 dX3_isLost_19 (by decide) ?_
      refine g_imul X dX3_isLost_21 (fun zq4 eq5 => ?_)
      have tq6 : zq4.toInt = a1 * 24 := mul_nw eq5 t1 (show (24 : Int32).toInt = 24 by decide) (by omega)
      refine g_iload_n X 2 rfl dX3_isLost_22 ?_
      refine g_iadd X dX3_isLost_23 (fun zq7 eq8 => ?_)
      have tq9 : zq7.toInt = (a1 * 24) + a2 := add_nw eq8 tq6 t2 (by omega)
      refine g_iald X la_45 tq9 dX3_isLost_24 (by omega) (x := Mq.1 45 (((a1 * 24) + a2).toNat)) rfl ?_
      refine g_bipush X 40 dX3_isLost_25 (by decide) ?_
      refine g_icmp_ne X rfl (show (40 : Int32).toInt = 40 by decide) (tgt := 34) dX3_isLost_27 (by decide) (fun cq10 => ?_) (fun cq10 => ?_)
      · refine g_iconst X 0 dX3_isLost_34 (by decide) ?_
        exact g_zret X (b01 (show (0 : Int32).toInt = 0 by decide) (by omega)) dX3_isLost_35 ⟨_, _, rfl, (show (0 : Int32).toInt = 0 by decide), (by omega), rfl⟩
      · refine g_iconst X 1 dX3_isLost_30 (by decide) ?_
        refine g_goto X (tgt := 35) dX3_isLost_31 (by decide) ?_
        exact g_zret X (b01 (show (1 : Int32).toInt = 1 by decide) (by omega)) dX3_isLost_35 ⟨_, _, rfl, (show (1 : Int32).toInt = 1 by decide), (by omega), rfl⟩
set_option maxHeartbeats 4000000 in
set_option maxRecDepth 4000 in
theorem c_X3_lostPlaces_R (ad : Nat → Nat) (Mq : Mem) (x1 : Int32) {a1 : Int} (t1 : x1.toInt = a1) (Iq0 : Iv TX Mq) (h1 : 0 ≤ a1 ∧ a1 < 12) : Ctr ad yX3_lostPlaces cX3_lostPlaces 4 (some .int) 1 [.ref (ad 40), .int x1] Mq (fun v M' => ∃ (r : Int32) (a : Int), v = some (.int r) ∧ r.toInt = a ∧ (a = ((ctb (fun j => decide ((Mq.1 45 (24 * a1.toNat + j)).toInt = 40)) ((Mq.1 44 a1.toNat).toInt).toNat : Nat) : Int)) ∧ Mq = M') := by
  refine ctr_of (L := [(0, .ref (ad 40)), (1, .int x1)]) (by decide) (Nat.le_of_ble_eq_true rfl) rfl ?_
  intro Γ X
  have X : gX Γ cX3_lostPlaces RX3 4 (some .int) 1 ad _ := X
  have g44 := ig_44 Iq0 a1.toNat (by omega)
  refine g_iconst X 0 dX3_lostPlaces_0 (by decide) ?_
  refine g_istore_n X (i := 2) [(2, .int 0), (0, .ref (ad 40)), (1, .int x1)] dX3_lostPlaces_1 rfl (by decide) rfl ?_
  refine g_iconst X 0 dX3_lostPlaces_2 (by decide) ?_
  refine g_istore_n X (i := 3) [(3, .int 0), (2, .int 0), (0, .ref (ad 40)), (1, .int x1)] dX3_lostPlaces_3 rfl (by decide) rfl ?_
  have lp4 : ∀ n : Nat, ∀ (y3_4 : Int32) (b3_4 : Int), y3_4.toInt = b3_4 → ∀ (y2_4 : Int32) (b2_4 : Int), y2_4.toInt = b2_4 → (0 ≤ b3_4 ∧ b3_4 ≤ (Mq.1 44 a1.toNat).toInt) → (b2_4 = ((ctb (fun j => decide ((Mq.1 45 (24 * a1.toNat + j)).toInt = 40)) (b3_4).toNat : Nat) : Int)) → ((Mq.1 44 a1.toNat).toInt - b3_4).toNat < n → G Γ Mq 4 [(3, .int y3_4), (2, .int y2_4), (0, .ref (ad 40)), (1, .int x1)] [] := by
    intro n
    induction n with
    | zero => intro y3_4 b3_4 e3_4 y2_4 b2_4 e2_4 i1 i2 hm; exact absurd hm (Nat.not_lt_zero _)
    | succ n ih4 =>
      intro y3_4 b3_4 e3_4 y2_4 b2_4 e2_4 i1 i2 hm4
      have hcl := ctb_le (fun j => decide ((Mq.1 45 (24 * a1.toNat + j)).toInt = 40)) (b3_4).toNat
      refine g_iload_n X 0 rfl dX3_lostPlaces_4 ?_
      refine g_aload_n X 2 rfl dX3_lostPlaces_5 ?_
      refine g_getr X f_X3_21 dX3_lostPlaces_6 ?_
      refine g_iload_n X 3 rfl dX3_lostPlaces_9 ?_
      refine g_iald X la_44 t1 dX3_lostPlaces_10 (by omega) (x := Mq.1 44 a1.toNat) rfl ?_
      have bq1 := ig_44 Iq0 a1.toNat (by omega)
      refine g_icmp_ge X e3_4 rfl (tgt := 32) dX3_lostPlaces_11 (by decide) (fun cq2 => ?_) (fun cq2 => ?_)
      · refine g_iload_n X 1 rfl dX3_lostPlaces_32 ?_
        exact g_iret X dX3_lostPlaces_33 ⟨_, _, rfl, e2_4, (by rw [show b3_4 = (Mq.1 44 a1.toNat).toInt by omega] at i2; exact i2), rfl⟩
      · refine g_aload_n X 2 rfl dX3_lostPlaces_14 ?_
        refine g_iload_n X 3 rfl dX3_lostPlaces_15 ?_
        refine g_iload_n X 0 rfl dX3_lostPlaces_16 ?_
        refine g_callV X m_X3_37 (c_X3_isLost_R ad Mq x1 t1 y3_4 e3_4 Iq0 (by omega)) rfl (by decide) (Nat.le_of_ble_eq_true rfl) rfl dX3_lostPlaces_17 ?_
        rintro _ _ ⟨rq3, aq4, rfl, tq5, hq6, rfl⟩
        have hbb := hq6
        rw [show (a1 * 24 + b3_4).toNat = 24 * a1.toNat + (b3_4).toNat by omega] at hbb
        show G Γ Mq 20 [(3, .int y3_4), (2, .int y2_4), (0, .ref (ad 40)), (1, .int x1)] [.int rq3]
        refine g_if_eq X tq5 (tgt := 26) dX3_lostPlaces_20 (by decide) (fun cq7 => ?_) (fun cq7 => ?_)
        · have pq8 : ¬ (0 ≤ b3_4 ∧ b3_4 < (Mq.1 44 a1.toNat).toInt ∧ (Mq.1 45 (a1 * 24 + b3_4).toNat).toInt = 40) := by first | omega | (rcases hq6 with ⟨z1, z2⟩ | ⟨z1, z2⟩ <;> first | exact z2 | (exfalso; omega))
          refine g_iinc X 0 (fun v => [(3, .int v), (2, .int y2_4), (0, .ref (ad 40)), (1, .int x1)]) dX3_lostPlaces_26 rfl (by decide) (fun _ => rfl) (fun zq9 eq10 => ?_)
          have tq11 : zq9.toInt = b3_4 + 1 := add_nw eq10 e3_4 (show (Int32.ofInt 1).toInt = 1 by decide) (by omega)
          refine g_goto X (tgt := 4) dX3_lostPlaces_29 (by decide) ?_
          refine g_sub [0, 1, 2, 3] rfl ?_
          exact ih4 zq9 _ tq11 y2_4 _ e2_4 (by omega) (by first | exact ctb_y i2 i1.1 (decide_eq_true (by omega)) (by omega) | (have z := ctb_n i2 i1.1 (decide_eq_false (p := (Mq.1 45 (24 * a1.toNat + b3_4.toNat)).toInt = 40) (by omega)) (show (b3_4 + 1).toNat = b3_4.toNat + 1 by omega); omega)) (by omega)
        · have pq12 : (0 ≤ b3_4 ∧ b3_4 < (Mq.1 44 a1.toNat).toInt ∧ (Mq.1 45 (a1 * 24 + b3_4).toNat).toInt = 40) := by first | omega | (rcases hq6 with ⟨z1, z2⟩ | ⟨z1, z2⟩ <;> first | exact z2 | (exfalso; omega))
          refine g_iinc X 1 (fun v => [(2, .int v), (3, .int y3_4), (0, .ref (ad 40)), (1, .int x1)]) dX3_lostPlaces_23 rfl (by decide) (fun _ => rfl) (fun zq13 eq14 => ?_)
          have tq15 : zq13.toInt = b2_4 + 1 := add_nw eq14 e2_4 (show (Int32.ofInt 1).toInt = 1 by decide) (by omega)
          refine g_iinc X 1 (fun v => [(3, .int v), (2, .int zq13), (0, .ref (ad 40)), (1, .int x1)]) dX3_lostPlaces_26 rfl (by decide) (fun _ => rfl) (fun zq16 eq17 => ?_)
          have tq18 : zq16.toInt = b3_4 + 1 := add_nw eq17 e3_4 (show (Int32.ofInt 1).toInt = 1 by decide) (by omega)
          refine g_goto X (tgt := 4) dX3_lostPlaces_29 (by decide) ?_
          refine g_sub [0, 1, 2, 3] rfl ?_
          exact ih4 zq16 _ tq18 zq13 _ tq15 (by omega) (by first | exact ctb_y i2 i1.1 (decide_eq_true (by omega)) (by omega) | (have z := ctb_n i2 i1.1 (decide_eq_false (p := (Mq.1 45 (24 * a1.toNat + b3_4.toNat)).toInt = 40) (by omega)) (show (b3_4 + 1).toNat = b3_4.toNat + 1 by omega); omega)) (by omega)
  refine g_sub [0, 1, 2, 3] rfl ?_
  exact lp4 _ 0 _ (show (0 : Int32).toInt = 0 by decide) 0 _ (show (0 : Int32).toInt = 0 by decide) (by omega) rfl (Nat.lt_succ_self _)
set_option maxHeartbeats 4000000 in
set_option maxRecDepth 4000 in
theorem c_X3_lacking_R (ad : Nat → Nat) (Mq : Mem) (x1 : Int32) {a1 : Int} (t1 : x1.toInt = a1) (x2 : Int64) {a2 : Int} (t2 : x2.toInt = a2) (Iq0 : Iv TX Mq) (h1 : 0 ≤ a1 ∧ a1 < 12) (hr : ∀ j : Nat, (j : Int) < (Mq.1 44 a1.toNat).toInt → 0 ≤ (Mq.1 45 (24 * a1.toNat + j)).toInt ∧ (Mq.1 45 (24 * a1.toNat + j)).toInt ≤ 40) : Ctr ad yX3_lacking cX3_lacking 7 (some .int) 1 [.ref (ad 40), .int x1, .long x2] Mq (fun v M' => ∃ (r : Int32) (a : Int), v = some (.int r) ∧ r.toInt = a ∧ (a = ((ctb (fun j => decide ((Mq.1 45 (24 * a1.toNat + j)).toInt ≠ 40) && !(b64 x2 ((Mq.1 45 (24 * a1.toNat + j)).toInt).toNat)) ((Mq.1 44 a1.toNat).toInt).toNat : Nat) : Int)) ∧ Mq = M') := by
  refine ctr_of (L := [(0, .ref (ad 40)), (1, .int x1), (2, .long x2)]) (by decide) (Nat.le_of_ble_eq_true rfl) rfl ?_
  intro Γ X
  have X : gX Γ cX3_lacking RX3 7 (some .int) 1 ad _ := X
  have g44 := ig_44 Iq0 a1.toNat (by omega)
  refine g_iconst X 0 dX3_lacking_0 (by decide) ?_
  refine g_istore X [(4, .int 0), (0, .ref (ad 40)), (1, .int x1), (2, .long x2)] dX3_lacking_1 (by decide) rfl ?_
  refine g_iconst X 0 dX3_lacking_3 (by decide) ?_
  refine g_istore X [(5, .int 0), (4, .int 0), (0, .ref (ad 40)), (1, .int x1), (2, .long x2)] dX3_lacking_4 (by decide) rfl ?_
  have lp6 : ∀ n : Nat, ∀ (y5_6 : Int32) (b5_6 : Int), y5_6.toInt = b5_6 → ∀ (y4_6 : Int32) (b4_6 : Int), y4_6.toInt = b4_6 → (0 ≤ b5_6 ∧ b5_6 ≤ (Mq.1 44 a1.toNat).toInt) → (b4_6 = ((ctb (fun j => decide ((Mq.1 45 (24 * a1.toNat + j)).toInt ≠ 40) && !(b64 x2 ((Mq.1 45 (24 * a1.toNat + j)).toInt).toNat)) (b5_6).toNat : Nat) : Int)) → ((Mq.1 44 a1.toNat).toInt - b5_6).toNat < n → G Γ Mq 6 [(5, .int y5_6), (4, .int y4_6), (0, .ref (ad 40)), (1, .int x1), (2, .long x2)] [] := by
    intro n
    induction n with
    | zero => intro y5_6 b5_6 e5_6 y4_6 b4_6 e4_6 i1 i2 hm; exact absurd hm (Nat.not_lt_zero _)
    | succ n ih6 =>
      intro y5_6 b5_6 e5_6 y4_6 b4_6 e4_6 i1 i2 hm6
      have hcl := ctb_le (fun j => decide ((Mq.1 45 (24 * a1.toNat + j)).toInt ≠ 40) && !(b64 x2 ((Mq.1 45 (24 * a1.toNat + j)).toInt).toNat)) (b5_6).toNat
      refine g_iload X 0 rfl dX3_lacking_6 ?_
      refine g_aload_n X 2 rfl dX3_lacking_8 ?_
      refine g_getr X f_X3_21 dX3_lacking_9 ?_
      refine g_iload_n X 3 rfl dX3_lacking_12 ?_
      refine g_iald X la_44 t1 dX3_lacking_13 (by omega) (x := Mq.1 44 a1.toNat) rfl ?_
      have bq1 := ig_44 Iq0 a1.toNat (by omega)
      refine g_icmp_ge X e5_6 rfl (tgt := 56) dX3_lacking_14 (by decide) (fun cq2 => ?_) (fun cq2 => ?_)
      · refine g_iload X 1 rfl dX3_lacking_56 ?_
        exact g_iret X dX3_lacking_58 ⟨_, _, rfl, e4_6, (by rw [show b5_6 = (Mq.1 44 a1.toNat).toInt by omega] at i2; exact i2), rfl⟩
      · have hrj := hr (b5_6).toNat (by omega)
        have ex : (a1 * 24 + b5_6).toNat = 24 * a1.toNat + (b5_6).toNat := by omega
        refine g_aload_n X 2 rfl dX3_lacking_17 ?_
        refine g_getr X f_X3_24 dX3_lacking_18 ?_
        refine g_iload_n X 3 rfl dX3_lacking_21 ?_
        refine g_bipush X 24 dX3_lacking_22 (by decide) ?_
        refine g_imul X dX3_lacking_24 (fun zq3 eq4 => ?_)
        have tq5 : zq3.toInt = a1 * 24 := mul_nw eq4 t1 (show (24 : Int32).toInt = 24 by decide) (by omega)
        refine g_iload X 0 rfl dX3_lacking_25 ?_
        refine g_iadd X dX3_lacking_27 (fun zq6 eq7 => ?_)
        have tq8 : zq6.toInt = (a1 * 24) + b5_6 := add_nw eq7 tq5 e5_6 (by omega)
        refine g_iald X la_45 tq8 dX3_lacking_28 (by omega) (x := Mq.1 45 (((a1 * 24) + b5_6).toNat)) rfl ?_
        refine g_istore X [(6, .int (Mq.1 45 (((a1 * 24) + b5_6).toNat))), (5, .int y5_6), (4, .int y4_6), (0, .ref (ad 40)), (1, .int x1), (2, .long x2)] dX3_lacking_29 (by decide) rfl ?_
        refine g_iload X 0 rfl dX3_lacking_31 ?_
        refine g_bipush X 40 dX3_lacking_33 (by decide) ?_
        refine g_icmp_eq X rfl (show (40 : Int32).toInt = 40 by decide) (tgt := 50) dX3_lacking_35 (by decide) (fun cq9 => ?_) (fun cq9 => ?_)
        · refine g_iinc X 1 (fun v => [(5, .int v), (6, .int (Mq.1 45 (((a1 * 24) + b5_6).toNat))), (4, .int y4_6), (0, .ref (ad 40)), (1, .int x1), (2, .long x2)]) dX3_lacking_50 rfl (by decide) (fun _ => rfl) (fun zq10 eq11 => ?_)
          have tq12 : zq10.toInt = b5_6 + 1 := add_nw eq11 e5_6 (show (Int32.ofInt 1).toInt = 1 by decide) (by omega)
          refine g_goto X (tgt := 6) dX3_lacking_53 (by decide) ?_
          refine g_sub [0, 2, 3, 4, 5] rfl ?_
          exact ih6 zq10 _ tq12 y4_6 _ e4_6 (by omega) (by rw [ex] at *; first | exact lk_y i2 i1.1 (by omega) (bb0 hbb (by omega)) (by omega) | exact lk_n i2 i1.1 (Or.inr (bb1 hbb (by omega))) (by omega) | exact lk_n i2 i1.1 (Or.inl (by omega)) (by omega)) (by omega)
        · refine g_lload_n X 5 rfl dX3_lacking_38 ?_
          refine g_iload X 0 rfl dX3_lacking_39 ?_
          refine g_callS X m_X3_41 (c_X6_bit_E ad Mq x2 t2 (Mq.1 45 (((a1 * 24) + b5_6).toNat)) rfl (by rw [ex]; omega)) rfl (by decide) (Nat.le_of_ble_eq_true rfl) rfl dX3_lacking_41 ?_
          rintro _ _ ⟨rq13, aq14, rfl, tq15, hq16, rfl⟩
          have hbb := hq16
          rw [ex] at hbb
          show G Γ Mq 44 [(6, .int (Mq.1 45 (((a1 * 24) + b5_6).toNat))), (5, .int y5_6), (4, .int y4_6), (0, .ref (ad 40)), (1, .int x1), (2, .long x2)] [.int rq13]
          refine g_if_ne X tq15 (tgt := 50) dX3_lacking_44 (by decide) (fun cq17 => ?_) (fun cq17 => ?_)
          · have pq18 : (b64 x2 ((Mq.1 45 (((a1 * 24) + b5_6).toNat)).toInt).toNat = true) := by first | omega | (rcases hq16 with ⟨z1, z2⟩ | ⟨z1, z2⟩ <;> first | exact z2 | (exfalso; omega))
            refine g_iinc X 1 (fun v => [(5, .int v), (6, .int (Mq.1 45 (((a1 * 24) + b5_6).toNat))), (4, .int y4_6), (0, .ref (ad 40)), (1, .int x1), (2, .long x2)]) dX3_lacking_50 rfl (by decide) (fun _ => rfl) (fun zq19 eq20 => ?_)
            have tq21 : zq19.toInt = b5_6 + 1 := add_nw eq20 e5_6 (show (Int32.ofInt 1).toInt = 1 by decide) (by omega)
            refine g_goto X (tgt := 6) dX3_lacking_53 (by decide) ?_
            refine g_sub [0, 2, 3, 4, 5] rfl ?_
            exact ih6 zq19 _ tq21 y4_6 _ e4_6 (by omega) (by rw [ex] at *; first | exact lk_y i2 i1.1 (by omega) (bb0 hbb (by omega)) (by omega) | exact lk_n i2 i1.1 (Or.inr (bb1 hbb (by omega))) (by omega) | exact lk_n i2 i1.1 (Or.inl (by omega)) (by omega)) (by omega)
          · have pq22 : ¬ (b64 x2 ((Mq.1 45 (((a1 * 24) + b5_6).toNat)).toInt).toNat = true) := by first | omega | (rcases hq16 with ⟨z1, z2⟩ | ⟨z1, z2⟩ <;> first | exact z2 | (exfalso; omega))
            refine g_iinc X 2 (fun v => [(4, .int v), (6, .int (Mq.1 45 (((a1 * 24) + b5_6).toNat))), (5, .int y5_6), (0, .ref (ad 40)), (1, .int x1), (2, .long x2)]) dX3_lacking_47 rfl (by decide) (fun _ => rfl) (fun zq23 eq24 => ?_)
            have tq25 : zq23.toInt = b4_6 + 1 := add_nw eq24 e4_6 (show (Int32.ofInt 1).toInt = 1 by decide) (by omega)
            refine g_iinc X 2 (fun v => [(5, .int v), (4, .int zq23), (6, .int (Mq.1 45 (((a1 * 24) + b5_6).toNat))), (0, .ref (ad 40)), (1, .int x1), (2, .long x2)]) dX3_lacking_50 rfl (by decide) (fun _ => rfl) (fun zq26 eq27 => ?_)
            have tq28 : zq26.toInt = b5_6 + 1 := add_nw eq27 e5_6 (show (Int32.ofInt 1).toInt = 1 by decide) (by omega)
            refine g_goto X (tgt := 6) dX3_lacking_53 (by decide) ?_
            refine g_sub [0, 1, 3, 4, 5] rfl ?_
            exact ih6 zq26 _ tq28 zq23 _ tq25 (by omega) (by rw [ex] at *; first | exact lk_y i2 i1.1 (by omega) (bb0 hbb (by omega)) (by omega) | exact lk_n i2 i1.1 (Or.inr (bb1 hbb (by omega))) (by omega) | exact lk_n i2 i1.1 (Or.inl (by omega)) (by omega)) (by omega)
  refine g_sub [0, 1, 2, 3, 4] rfl ?_
  exact lp6 _ 0 _ (show (0 : Int32).toInt = 0 by decide) 0 _ (show (0 : Int32).toInt = 0 by decide) (by omega) rfl (Nat.lt_succ_self _)
abbrev W_X6_stockBehind_R : List (Nat × Nat) := [(30, 99)]
set_option maxHeartbeats 4000000 in
set_option maxRecDepth 4000 in
theorem c_X6_stockBehind_R (ad : Nat → Nat) (Mq : Mem) (x1 : Int32) {a1 : Int} (t1 : x1.toInt = a1) (x2 : Int32) {a2 : Int} (t2 : x2.toInt = a2) (Iq0 : Iv TX Mq) (h1 : 0 ≤ a1 ∧ a1 < 12) (h2 : -1 ≤ a2 ∧ a2 ≤ (Mq.1 23 7).toInt) (hy : ∀ k : Nat, k < 200 → 0 ≤ (Mq.1 28 k).toInt) : Ctr ad yX6_stockBehind cX6_stockBehind 3 (some .long) 2 [.ref (ad 0), .int x1, .int x2] Mq (fun v M' => ∃ (r : Int64) (a : Int), v = some (.long r) ∧ r.toInt = a ∧ (∀ l : Nat, l < 64 → b64 r l = hsX Mq (Mq.1 41 a1.toNat).toInt l (Mq.1 43 a1.toNat).toInt (upk a2 (Mq.1 23 7).toInt).toNat) ∧ Iv TX M' ∧ Fr W_X6_stockBehind_R Mq M') := by
  refine ctr_of (L := [(0, .ref (ad 0)), (1, .int x1), (2, .int x2)]) (by decide) (Nat.le_of_ble_eq_true rfl) rfl ?_
  intro Γ X
  have X : gX Γ cX6_stockBehind RX6 3 (some .long) 2 ad _ := X
  have frq0 : Fr W_X6_stockBehind_R Mq Mq := Fr.rf
  have g1_12 := ig_1_12 Iq0
  have g23_2 := ig_23_2 Iq0
  have g23_7 := ig_23_7 Iq0
  have g40_5 := ig_40_5 Iq0
  have g0_7 := ig_0_7 Iq0
  refine g_aload_n X 0 rfl dX6_stockBehind_0 ?_
  refine g_getr X f_X6_26 dX6_stockBehind_1 ?_
  refine g_aload_n X 0 rfl dX6_stockBehind_4 ?_
  refine g_getr X f_X6_49 dX6_stockBehind_5 ?_
  refine g_getr X f_X6_286 dX6_stockBehind_8 ?_
  refine g_iload_n X 1 rfl dX6_stockBehind_11 ?_
  refine g_iald X la_41 t1 dX6_stockBehind_12 (by omega) (x := Mq.1 41 a1.toNat) rfl ?_
  refine g_aload_n X 0 rfl dX6_stockBehind_13 ?_
  refine g_getr X f_X6_49 dX6_stockBehind_14 ?_
  refine g_getr X f_X6_289 dX6_stockBehind_17 ?_
  refine g_iload_n X 1 rfl dX6_stockBehind_20 ?_
  refine g_iald X la_43 t1 dX6_stockBehind_21 (by omega) (x := Mq.1 43 a1.toNat) rfl ?_
  refine g_iload_n X 2 rfl dX6_stockBehind_22 ?_
  refine g_callV X m_X6_165 (c_X0_stockOf_E ad Mq (Mq.1 41 a1.toNat) rfl (Mq.1 43 a1.toNat) rfl x2 t2 Iq0 (by omega) hy) rfl (by decide) (Nat.le_of_ble_eq_true rfl) rfl dX6_stockBehind_23 ?_
  rintro _ Mq5 ⟨rq1, aq2, rfl, tq3, hq4, Iq6, frq7⟩
  have frq8 : Fr W_X6_stockBehind_R Mq Mq5 := frq0.trans frq7 rfl
  have trq9 : (Mq5.1 23 2).toInt = (Mq.1 23 2).toInt := congrArg Int32.toInt (frq7.at 23 2 rfl)
  have trq10 : (Mq5.1 23 7).toInt = (Mq.1 23 7).toInt := congrArg Int32.toInt (frq7.at 23 7 rfl)
  have hst := hq4
  show G Γ Mq5 26 [(0, .ref (ad 0)), (1, .int x1), (2, .int x2)] [.long rq1]
  exact g_lret X dX6_stockBehind_26 ⟨_, _, rfl, tq3, hst, Iq6, frq8⟩
abbrev W_X6_takeRecording_R : List (Nat × Nat) := [(30, 99), (37, 4), (37, 5), (39, 99)]
set_option maxHeartbeats 4000000 in
set_option maxRecDepth 4000 in
theorem c_X6_takeRecording_R (ad : Nat → Nat) (Mq : Mem) (x1 : Int32) {a1 : Int} (t1 : x1.toInt = a1) (x2 : Int32) {a2 : Int} (t2 : x2.toInt = a2) (Iq0 : Iv TX Mq) (h1 : 0 ≤ a1 ∧ a1 < 12) (h2 : -1 ≤ a2 ∧ a2 ≤ (Mq.1 23 7).toInt) (hy : ∀ k : Nat, k < 200 → 0 ≤ (Mq.1 28 k).toInt) (hr : ∀ j : Nat, (j : Int) < (Mq.1 44 a1.toNat).toInt → 0 ≤ (Mq.1 45 (24 * a1.toNat + j)).toInt ∧ (Mq.1 45 (24 * a1.toNat + j)).toInt ≤ 40) : Ctr ad yX6_takeRecording cX6_takeRecording 3 none 3 [.ref (ad 0), .int x1, .int x2] Mq (fun v M' => v = none ∧ (True) ∧ (∃ S : Int64, (∀ l : Nat, l < 64 → b64 S l = hsX Mq (Mq.1 41 a1.toNat).toInt l (Mq.1 43 a1.toNat).toInt (upk a2 (Mq.1 23 7).toInt).toNat) ∧ (M'.1 37 5).toInt = (Mq.1 44 a1.toNat).toInt ∧ M'.2 37 4 = S ∧ WTI (M'.1 39) (fun s j => wtB (b64 (S &&& Mq.2 11 s)) (Mq.1 45 (24 * a1.toNat + j)).toInt) (Mq.1 44 a1.toNat).toInt 0) ∧ Iv TX M' ∧ Fr W_X6_takeRecording_R Mq M') := by
  refine ctr_of (L := [(0, .ref (ad 0)), (1, .int x1), (2, .int x2)]) (by decide) (Nat.le_of_ble_eq_true rfl) rfl ?_
  intro Γ X
  have X : gX Γ cX6_takeRecording RX6 3 none 3 ad _ := X
  have frq0 : Fr W_X6_takeRecording_R Mq Mq := Fr.rf
  have g1_12 := ig_1_12 Iq0
  have g23_2 := ig_23_2 Iq0
  have g23_7 := ig_23_7 Iq0
  have g40_5 := ig_40_5 Iq0
  have g0_7 := ig_0_7 Iq0
  have g44 := ig_44 Iq0 a1.toNat (by omega)
  refine g_aload_n X 0 rfl dX6_takeRecording_0 ?_
  refine g_getr X f_X6_42 dX6_takeRecording_1 ?_
  refine g_aload_n X 0 rfl dX6_takeRecording_4 ?_
  refine g_getr X f_X6_49 dX6_takeRecording_5 ?_
  refine g_getr X f_X6_292 dX6_takeRecording_8 ?_
  refine g_iload_n X 1 rfl dX6_takeRecording_11 ?_
  refine g_bipush X 24 dX6_takeRecording_12 (by decide) ?_
  refine g_imul X dX6_takeRecording_14 (fun zq1 eq2 => ?_)
  have tq3 : zq1.toInt = a1 * 24 := mul_nw eq2 t1 (show (24 : Int32).toInt = 24 by decide) (by omega)
  refine g_aload_n X 0 rfl dX6_takeRecording_15 ?_
  refine g_getr X f_X6_49 dX6_takeRecording_16 ?_
  refine g_getr X f_X6_271 dX6_takeRecording_19 ?_
  refine g_iload_n X 1 rfl dX6_takeRecording_22 ?_
  refine g_iald X la_44 t1 dX6_takeRecording_23 (by omega) (x := Mq.1 44 a1.toNat) rfl ?_
  have bq4 := ig_44 Iq0 a1.toNat (by omega)
  refine g_aload_n X 0 rfl dX6_takeRecording_24 ?_
  refine g_iload_n X 1 rfl dX6_takeRecording_25 ?_
  refine g_iload_n X 2 rfl dX6_takeRecording_26 ?_
  refine g_callV X m_X6_260 (c_X6_stockBehind_R ad Mq x1 t1 x2 t2 Iq0 (by omega) (by omega) hy) rfl (by decide) (Nat.le_of_ble_eq_true rfl) rfl dX6_takeRecording_27 ?_
  rintro _ Mq9 ⟨rq5, aq6, rfl, tq7, hq8, Iq10, frq11⟩
  have frq12 : Fr W_X6_takeRecording_R Mq Mq9 := frq0.trans frq11 rfl
  have trq13 : (Mq9.1 23 2).toInt = (Mq.1 23 2).toInt := congrArg Int32.toInt (frq11.at 23 2 rfl)
  have trq14 : (Mq9.1 23 7).toInt = (Mq.1 23 7).toInt := congrArg Int32.toInt (frq11.at 23 7 rfl)
  have hst := hq8
  have f1 := frq11
  show G Γ Mq9 30 [(0, .ref (ad 0)), (1, .int x1), (2, .int x2)] [.long rq5, .int (Mq.1 44 a1.toNat), .int zq1, .ref (ad 45), .ref (ad 37)]
  refine g_callV X m_X6_234 (c_X1_take_45_R ad Mq9 zq1 tq3 (Mq.1 44 a1.toNat) rfl rq5 tq7 Iq10 (by omega) (by omega) (fun j hj => by rw [f1.at 45 _ rfl, show (a1 * 24).toNat + j = 24 * a1.toNat + j by omega]; exact hr j hj)) rfl (by decide) (Nat.le_of_ble_eq_true rfl) rfl dX6_takeRecording_30 ?_
  rintro _ Mq20 ⟨rfl, hq18, hq19, Iq21, frq22⟩
  have frq23 : Fr W_X6_takeRecording_R Mq Mq20 := frq12.trans frq22 rfl
  have trq24 : (Mq20.1 23 2).toInt = (Mq9.1 23 2).toInt := congrArg Int32.toInt (frq22.at 23 2 rfl)
  have trq25 : (Mq20.1 23 7).toInt = (Mq9.1 23 7).toInt := congrArg Int32.toInt (frq22.at 23 7 rfl)
  have htk := hq19
  show G Γ Mq20 33 [(0, .ref (ad 0)), (1, .int x1), (2, .int x2)] []
  exact g_vret X dX6_takeRecording_33 ⟨rfl, trivial, (⟨_, hst, htk.1, htk.2.1, fun s j hs hj => by rw [htk.2.2 s j hs hj]; show ((wtB _ _ : Nat) : Int) = ((wtB _ _ : Nat) : Int); rw [f1.atL 11 s rfl, f1.at 45 _ rfl, show (a1 * 24).toNat + j = 24 * a1.toNat + j by omega]⟩), Iq21, frq23⟩
abbrev W_X6_heard_R : List (Nat × Nat) := [(30, 99), (37, 4), (37, 5), (39, 99), (37, 6), (38, 99)]
set_option maxHeartbeats 4000000 in
set_option maxRecDepth 4000 in
theorem c_X6_heard_R (ad : Nat → Nat) (Mq : Mem) (x1 : Int32) {a1 : Int} (t1 : x1.toInt = a1) (x2 : Int32) {a2 : Int} (t2 : x2.toInt = a2) (x3 : Int32) {a3 : Int} (t3 : x3.toInt = a3) (Iq0 : Iv TX Mq) {p : RpT} {f : Nat → Nat → Int} {N : Nat → Nat} (hy : ∀ k : Nat, k < 200 → 0 ≤ (Mq.1 28 k).toInt) (hX : RTX Mq f N) (hO : ROR Mq f N) (hpw : (0 ≤ a1 ∧ a1 < (Mq.1 40 5).toInt) ∧ (-1 ≤ a2 ∧ a2 ≤ (Mq.1 23 7).toInt) → ∀ S : Int64, (∀ l : Nat, l < 64 → b64 S l = hsX Mq (Mq.1 41 a1.toNat).toInt l (Mq.1 43 a1.toNat).toInt (upk a2 (Mq.1 23 7).toInt).toNat) → ∀ s j : Nat, s < 8 → (j : Int) < (Mq.1 44 a1.toNat).toInt → p.1 s j = wtB (b64 (S &&& Mq.2 11 s)) (Mq.1 45 (24 * a1.toNat + j)).toInt) (hh : (Mq.1 14 12).toInt = ((p.2.2 : Nat) : Int)) (hfix : ∀ x : Nat, x < 8 → 0 < (Mq.1 20 x).toInt → p.2.1 x = mcT p (f x) (N x)) (hk : ∀ x : Nat, x < 8 → 0 < (Mq.1 20 x).toInt → ∃ k : Nat, (k : Int) < (Mq.1 14 11).toInt ∧ orX Mq k = x) (hr : 0 ≤ a1 ∧ a1 < (Mq.1 40 5).toInt → ∀ j : Nat, (j : Int) < (Mq.1 44 a1.toNat).toInt → 0 ≤ (Mq.1 45 (24 * a1.toNat + j)).toInt ∧ (Mq.1 45 (24 * a1.toNat + j)).toInt ≤ 40) (hsc : 0 ≤ a1 ∧ a1 < (Mq.1 40 5).toInt → 0 < (Mq.1 20 ((Mq.1 42 a1.toNat).toInt).toNat).toInt) : Ctr ad yX6_heard cX6_heard 4 (some .int) 6 [.ref (ad 0), .int x1, .int x2, .int x3] Mq (fun v M' => ∃ (r : Int32) (a : Int), v = some (.int r) ∧ r.toInt = a ∧ ((¬ ((0 ≤ a1 ∧ a1 < (Mq.1 40 5).toInt) ∧ (-1 ≤ a2 ∧ a2 ≤ (Mq.1 23 7).toInt)) ∧ a = -1) ∨ (((0 ≤ a1 ∧ a1 < (Mq.1 40 5).toInt) ∧ (-1 ≤ a2 ∧ a2 ≤ (Mq.1 23 7).toInt)) ∧ ((a3 = 0 ∧ ((0 < p.2.1 ((Mq.1 42 a1.toNat).toInt).toNat 0 ((Mq.1 44 a1.toNat).toInt).toNat ∧ a = 1) ∨ (¬ (0 < p.2.1 ((Mq.1 42 a1.toNat).toInt).toNat 0 ((Mq.1 44 a1.toNat).toInt).toNat) ∧ a = 0))) ∨ (a3 = 1 ∧ a = ((ctb (fun j => decide ((Mq.1 45 (24 * a1.toNat + j)).toInt ≠ 40) && !(hsX Mq (Mq.1 41 a1.toNat).toInt (Mq.1 45 (24 * a1.toNat + j)).toInt (Mq.1 43 a1.toNat).toInt (upk a2 (Mq.1 23 7).toInt).toNat)) ((Mq.1 44 a1.toNat).toInt).toNat : Nat) : Int)) ∨ (a3 = 2 ∧ a = ((ctb (fun j => decide ((Mq.1 45 (24 * a1.toNat + j)).toInt = 40)) ((Mq.1 44 a1.toNat).toInt).toNat : Nat) : Int)) ∨ (a3 = 3 ∧ a = (Mq.1 44 a1.toNat).toInt) ∨ (¬ (0 ≤ a3 ∧ a3 ≤ 3) ∧ a = -1)))) ∧ Iv TX M' ∧ Fr W_X6_heard_R Mq M') := by
  refine ctr_of (L := [(0, .ref (ad 0)), (1, .int x1), (2, .int x2), (3, .int x3)]) (by decide) (Nat.le_of_ble_eq_true rfl) rfl ?_
  intro Γ X
  have X : gX Γ cX6_heard RX6 4 (some .int) 6 ad _ := X
  have frq0 : Fr W_X6_heard_R Mq Mq := Fr.rf
  have g1_12 := ig_1_12 Iq0
  have g23_2 := ig_23_2 Iq0
  have g23_7 := ig_23_7 Iq0
  have g40_5 := ig_40_5 Iq0
  have g0_7 := ig_0_7 Iq0
  refine g_aload_n X 0 rfl dX6_heard_0 ?_
  refine g_getr X f_X6_49 dX6_heard_1 ?_
  refine g_iload_n X 1 rfl dX6_heard_4 ?_
  refine g_callV X m_X6_251 (c_X3_isRecording ad Mq x1 t1) rfl (by decide) (Nat.le_of_ble_eq_true rfl) rfl dX6_heard_5 ?_
  rintro _ _ ⟨rq1, aq2, rfl, tq3, hq4, rfl⟩
  show G Γ Mq 8 [(0, .ref (ad 0)), (1, .int x1), (2, .int x2), (3, .int x3)] [.int rq1]
  refine g_if_eq X tq3 (tgt := 22) dX6_heard_8 (by decide) (fun cq5 => ?_) (fun cq5 => ?_)
  · have pq6 : ¬ (0 ≤ a1 ∧ a1 < ((Mq.1 40 5)).toInt) := by first | omega | (rcases hq4 with ⟨z1, z2⟩ | ⟨z1, z2⟩ <;> first | exact z2 | (exfalso; omega))
    refine g_iconst X (-1) dX6_heard_22 (by decide) ?_
    exact g_iret X dX6_heard_23 ⟨_, _, rfl, (show ((-1) : Int32).toInt = (-1) by decide), (Or.inl ⟨by omega, rfl⟩), Iq0, frq0⟩
  · have pq7 : (0 ≤ a1 ∧ a1 < ((Mq.1 40 5)).toInt) := by first | omega | (rcases hq4 with ⟨z1, z2⟩ | ⟨z1, z2⟩ <;> first | exact z2 | (exfalso; omega))
    refine g_aload_n X 0 rfl dX6_heard_11 ?_
    refine g_getr X f_X6_26 dX6_heard_12 ?_
    refine g_iload_n X 2 rfl dX6_heard_15 ?_
    refine g_callV X m_X6_195 (c_X0_isKnown ad Mq x2 t2) rfl (by decide) (Nat.le_of_ble_eq_true rfl) rfl dX6_heard_16 ?_
    rintro _ _ ⟨rq8, aq9, rfl, tq10, hq11, rfl⟩
    show G Γ Mq 19 [(0, .ref (ad 0)), (1, .int x1), (2, .int x2), (3, .int x3)] [.int rq8]
    refine g_if_ne X tq10 (tgt := 24) dX6_heard_19 (by decide) (fun cq12 => ?_) (fun cq12 => ?_)
    · have pq13 : (-1 ≤ a2 ∧ a2 ≤ ((Mq.1 23 7)).toInt) := by first | omega | (rcases hq11 with ⟨z1, z2⟩ | ⟨z1, z2⟩ <;> first | exact z2 | (exfalso; omega))
      refine g_iload_n X 3 rfl dX6_heard_24 ?_
      rcases (show (a3 < 0 ∨ 3 < a3) ∨ a3 = 0 ∨ a3 = 1 ∨ a3 = 2 ∨ a3 = 3 by omega) with cq14 | cq14 | cq14 | cq14 | cq14
      · refine g_tabOut X dX6_heard_25 t3 cq14 (tgt := 121) (by decide) ?_
        refine g_iconst X (-1) dX6_heard_121 (by decide) ?_
        exact g_iret X dX6_heard_122 ⟨_, _, rfl, (show ((-1) : Int32).toInt = (-1) by decide), (Or.inr ⟨by omega, Or.inr (Or.inr (Or.inr (Or.inr ⟨by omega, rfl⟩)))⟩), Iq0, frq0⟩
      · refine g_tabIn X dX6_heard_25 (a := 0) (t3.trans cq14) (by decide) (by decide) rfl (tgt := 56) (by decide) ?_
        refine g_aload_n X 0 rfl dX6_heard_56 ?_
        refine g_iload_n X 1 rfl dX6_heard_57 ?_
        refine g_iload_n X 2 rfl dX6_heard_58 ?_
        refine g_callV X m_X6_254 (c_X6_takeRecording_R ad Mq x1 t1 x2 t2 Iq0 (by omega) (by omega) hy (hr (by omega))) rfl (by decide) (Nat.le_of_ble_eq_true rfl) rfl dX6_heard_59 ?_
        rintro _ Mq20 ⟨rfl, hq18, hq19, Iq21, frq22⟩
        have frq23 : Fr W_X6_heard_R Mq Mq20 := frq0.trans frq22 rfl
        have trq24 : (Mq20.1 23 2).toInt = (Mq.1 23 2).toInt := congrArg Int32.toInt (frq22.at 23 2 rfl)
        have trq25 : (Mq20.1 23 7).toInt = (Mq.1 23 7).toInt := congrArg Int32.toInt (frq22.at 23 7 rfl)
        obtain ⟨Sq, hst, htk1, htk2, htk3⟩ := hq19
        have fT := frq23
        have g42 := ig_42 Iq0 a1.toNat (by omega)
        have e42 : Mq20.1 42 a1.toNat = Mq.1 42 a1.toNat := fT.at 42 _ rfl
        show G Γ Mq20 62 [(0, .ref (ad 0)), (1, .int x1), (2, .int x2), (3, .int x3)] []
        refine g_aload_n X 0 rfl dX6_heard_62 ?_
        refine g_getr X f_X6_42 dX6_heard_63 ?_
        refine g_aload_n X 0 rfl dX6_heard_66 ?_
        refine g_getr X f_X6_49 dX6_heard_67 ?_
        refine g_getr X f_X6_257 dX6_heard_70 ?_
        refine g_iload_n X 1 rfl dX6_heard_73 ?_
        refine g_iald X la_42 t1 dX6_heard_74 (by omega) (x := Mq20.1 42 a1.toNat) rfl ?_
        have bq26 := ig_42 Iq21 a1.toNat (by omega)
        refine g_callV X m_X6_238 (c_X1_ways_R (p := p) (f := f) (N := N) ad Mq20 (Mq20.1 42 a1.toNat) rfl Iq21 (by rw [e42]; omega) (RTX_fr hX fT (by decide)) (ROR_fr hO fT (by decide)) (fun s j hs hj => by rw [htk1] at hj; have z := hpw (by omega) Sq hst s j hs hj; exact ⟨by rw [htk3 s j hs (Or.inl hj), z], by rw [z]; exact wtB_le _ _⟩) (by rw [fT.at 14 12 rfl]; exact hh) (fun x hx h => hfix x hx (by rw [← fT.at 20 x rfl]; exact h)) (by rw [fT.at 14 11 rfl, orX_fr fT (by decide), e42]; exact hk _ (by omega) (hsc (by omega)))) rfl (by decide) (Nat.le_of_ble_eq_true rfl) rfl dX6_heard_75 ?_
        rintro _ Mq31 ⟨rq27, aq28, rfl, tq29, hq30, Iq32, frq33⟩
        have frq34 : Fr W_X6_heard_R Mq Mq31 := frq23.trans frq33 rfl
        have trq35 : (Mq31.1 23 2).toInt = (Mq20.1 23 2).toInt := congrArg Int32.toInt (frq33.at 23 2 rfl)
        have trq36 : (Mq31.1 23 7).toInt = (Mq20.1 23 7).toInt := congrArg Int32.toInt (frq33.at 23 7 rfl)
        have hrn := hq30
        rw [htk1, e42] at hrn
        have hgd : 0 < aq28 ↔ 0 < p.2.1 ((Mq.1 42 a1.toNat).toInt).toNat 0 ((Mq.1 44 a1.toNat).toInt).toNat := by rw [hrn, ← cap_pos]; omega
        show G Γ Mq31 78 [(0, .ref (ad 0)), (1, .int x1), (2, .int x2), (3, .int x3)] [.int rq27]
        refine g_if_le X tq29 (tgt := 85) dX6_heard_78 (by decide) (fun cq37 => ?_) (fun cq37 => ?_)
        · refine g_iconst X 0 dX6_heard_85 (by decide) ?_
          exact g_iret X dX6_heard_86 ⟨_, _, rfl, (show (0 : Int32).toInt = 0 by decide), (Or.inr ⟨by omega, Or.inl ⟨by omega, by first | exact Or.inl ⟨hgd.mp (by omega), rfl⟩ | exact Or.inr ⟨fun z => by have y := hgd.mpr z; omega, rfl⟩⟩⟩), Iq32, frq34⟩
        · refine g_iconst X 1 dX6_heard_81 (by decide) ?_
          refine g_goto X (tgt := 86) dX6_heard_82 (by decide) ?_
          exact g_iret X dX6_heard_86 ⟨_, _, rfl, (show (1 : Int32).toInt = 1 by decide), (Or.inr ⟨by omega, Or.inl ⟨by omega, by first | exact Or.inl ⟨hgd.mp (by omega), rfl⟩ | exact Or.inr ⟨fun z => by have y := hgd.mpr z; omega, rfl⟩⟩⟩), Iq32, frq34⟩
      · refine g_tabIn X dX6_heard_25 (a := 1) (t3.trans cq14) (by decide) (by decide) rfl (tgt := 87) (by decide) ?_
        refine g_aload_n X 0 rfl dX6_heard_87 ?_
        refine g_getr X f_X6_49 dX6_heard_88 ?_
        refine g_iload_n X 1 rfl dX6_heard_91 ?_
        refine g_aload_n X 0 rfl dX6_heard_92 ?_
        refine g_iload_n X 1 rfl dX6_heard_93 ?_
        refine g_iload_n X 2 rfl dX6_heard_94 ?_
        refine g_callV X m_X6_260 (c_X6_stockBehind_R ad Mq x1 t1 x2 t2 Iq0 (by omega) (by omega) hy) rfl (by decide) (Nat.le_of_ble_eq_true rfl) rfl dX6_heard_95 ?_
        rintro _ Mq42 ⟨rq38, aq39, rfl, tq40, hq41, Iq43, frq44⟩
        have frq45 : Fr W_X6_heard_R Mq Mq42 := frq0.trans frq44 rfl
        have trq46 : (Mq42.1 23 2).toInt = (Mq.1 23 2).toInt := congrArg Int32.toInt (frq44.at 23 2 rfl)
        have trq47 : (Mq42.1 23 7).toInt = (Mq.1 23 7).toInt := congrArg Int32.toInt (frq44.at 23 7 rfl)
        have hst := hq41
        have f1 := frq44
        show G Γ Mq42 98 [(0, .ref (ad 0)), (1, .int x1), (2, .int x2), (3, .int x3)] [.long rq38, .int x1, .ref (ad 40)]
        refine g_callV X m_X6_264 (c_X3_lacking_R ad Mq42 x1 t1 rq38 tq40 Iq43 (by omega) (fun j hj => by rw [f1.at 45 _ rfl]; exact hr (by omega) j (by rw [f1.at 44 _ rfl] at hj; exact hj))) rfl (by decide) (Nat.le_of_ble_eq_true rfl) rfl dX6_heard_98 ?_
        rintro _ _ ⟨rq48, aq49, rfl, tq50, hq51, rfl⟩
        have hlk := hq51
        rw [f1.at 44 _ rfl] at hlk
        show G Γ Mq42 101 [(0, .ref (ad 0)), (1, .int x1), (2, .int x2), (3, .int x3)] [.int rq48]
        exact g_iret X dX6_heard_101 ⟨_, _, rfl, tq50, (Or.inr ⟨by omega, Or.inr (Or.inl ⟨by omega, by rw [hlk]; exact congrArg (fun n : Nat => (n : Int)) (ctb_cong (fun j hj => by have z := hr (by omega) j (by have w := ig_44 Iq0 a1.toNat (by omega); omega); show (decide _ && !_) = (decide _ && !_); rw [f1.at 45 _ rfl, hst _ (by omega), tn_cast z.1]))⟩)⟩), Iq43, frq45⟩
      · refine g_tabIn X dX6_heard_25 (a := 2) (t3.trans cq14) (by decide) (by decide) rfl (tgt := 102) (by decide) ?_
        refine g_aload_n X 0 rfl dX6_heard_102 ?_
        refine g_getr X f_X6_49 dX6_heard_103 ?_
        refine g_iload_n X 1 rfl dX6_heard_106 ?_
        refine g_callV X m_X6_268 (c_X3_lostPlaces_R ad Mq x1 t1 Iq0 (by omega)) rfl (by decide) (Nat.le_of_ble_eq_true rfl) rfl dX6_heard_107 ?_
        rintro _ _ ⟨rq52, aq53, rfl, tq54, hq55, rfl⟩
        have hlo := hq55
        show G Γ Mq 110 [(0, .ref (ad 0)), (1, .int x1), (2, .int x2), (3, .int x3)] [.int rq52]
        exact g_iret X dX6_heard_110 ⟨_, _, rfl, tq54, (Or.inr ⟨by omega, Or.inr (Or.inr (Or.inl ⟨by omega, hlo⟩))⟩), Iq0, frq0⟩
      · refine g_tabIn X dX6_heard_25 (a := 3) (t3.trans cq14) (by decide) (by decide) rfl (tgt := 111) (by decide) ?_
        refine g_aload_n X 0 rfl dX6_heard_111 ?_
        refine g_getr X f_X6_49 dX6_heard_112 ?_
        refine g_getr X f_X6_271 dX6_heard_115 ?_
        refine g_iload_n X 1 rfl dX6_heard_118 ?_
        refine g_iald X la_44 t1 dX6_heard_119 (by omega) (x := Mq.1 44 a1.toNat) rfl ?_
        have bq56 := ig_44 Iq0 a1.toNat (by omega)
        exact g_iret X dX6_heard_120 ⟨_, _, rfl, rfl, (Or.inr ⟨by omega, Or.inr (Or.inr (Or.inr (Or.inl ⟨by omega, rfl⟩)))⟩), Iq0, frq0⟩
    · have pq57 : ¬ (-1 ≤ a2 ∧ a2 ≤ ((Mq.1 23 7)).toInt) := by first | omega | (rcases hq11 with ⟨z1, z2⟩ | ⟨z1, z2⟩ <;> first | exact z2 | (exfalso; omega))
      refine g_iconst X (-1) dX6_heard_22 (by decide) ?_
      exact g_iret X dX6_heard_23 ⟨_, _, rfl, (show ((-1) : Int32).toInt = (-1) by decide), (Or.inl ⟨by omega, rfl⟩), Iq0, frq0⟩
end
