section
def scl (M : Mem) (l : Nat) : Bool := FX M ((M.1 7 l).toInt).toNat ((M.1 10 l).toInt).toNat && SX M ((M.1 8 l).toInt).toNat ((M.1 10 l).toInt).toNat
def sclM (M : Mem) (l : Nat) : Bool := scM M ((M.1 53 l).toInt).toNat ((M.1 54 l).toInt).toNat ((M.1 56 l).toInt).toNat
def tlB (M : Mem) (x : Nat) : Bool := decide (0 < (M.1 63 x).toInt)
theorem cpR_0 {R S : Nat → Int32} {D : Nat} (j : Nat) : S j = cpR R S D 0 j := by unfold cpR; rw [if_neg (by omega)]
theorem cpR_s {R S T T' : Nat → Int32} {D n i m : Nat} {x : Int32} (h : ∀ j, T j = cpR R S D n j) (h1 : ∀ j, j ≠ i → T' j = T j) (h2 : T' i = x) (hi : i = D + n) (hx : x = R n) (hm : m = n + 1) : ∀ j, T' j = cpR R S D m j := by
  intro j
  subst hi; subst hm
  unfold cpR
  by_cases q : j = D + n
  · rw [if_pos (by omega), q, h2, hx, show D + n - D = n by omega]
  · rw [h1 j q, h j]
    unfold cpR
    by_cases q2 : D ≤ j ∧ j < D + n
    · rw [if_pos q2, if_pos (by omega)]
    · rw [if_neg q2, if_neg (by omega)]
set_option maxHeartbeats 4000000 in
set_option maxRecDepth 4000 in
theorem c_X5_scanning_E (ad : Nat → Nat) (Mq : Mem) (Iq0 : Iv TX Mq) : Ctr ad yX5_scanning cX5_scanning 3 (some .int) 3 [.ref (ad 1)] Mq (fun v M' => ∃ (r : Int32) (a : Int), v = some (.int r) ∧ r.toInt = a ∧ (a = (ctb (scl Mq) ((Mq.1 1 12).toInt).toNat : Nat)) ∧ Mq = M') := by
  refine ctr_of (L := [(0, .ref (ad 1))]) (by decide) (Nat.le_of_ble_eq_true rfl) rfl ?_
  intro Γ X
  have X : gX Γ cX5_scanning RX5 3 (some .int) 3 ad _ := X
  have g112 := ig_1_12 Iq0
  refine g_iconst X 0 dX5_scanning_0 (by decide) ?_
  refine g_istore_n X (i := 1) [(1, .int 0), (0, .ref (ad 1))] dX5_scanning_1 rfl (by decide) rfl ?_
  refine g_iconst X 0 dX5_scanning_2 (by decide) ?_
  refine g_istore_n X (i := 2) [(2, .int 0), (1, .int 0), (0, .ref (ad 1))] dX5_scanning_3 rfl (by decide) rfl ?_
  have lp4 : ∀ n : Nat, ∀ (y2_4 : Int32) (b2_4 : Int), y2_4.toInt = b2_4 → ∀ (y1_4 : Int32) (b1_4 : Int), y1_4.toInt = b1_4 → (0 ≤ b2_4 ∧ b2_4 ≤ (Mq.1 1 12).toInt) → (b1_4 = (ctb (scl Mq) (b2_4).toNat : Nat)) → ((Mq.1 1 12).toInt - b2_4).toNat < n → G Γ Mq 4 [(2, .int y2_4), (1, .int y1_4), (0, .ref (ad 1))] [] := by
    intro n
    induction n with
    | zero => intro y2_4 b2_4 e2_4 y1_4 b1_4 e1_4 i1 i2 hm; exact absurd hm (Nat.not_lt_zero _)
    | succ n ih4 =>
      intro y2_4 b2_4 e2_4 y1_4 b1_4 e1_4 i1 i2 hm4
      have hcl := ctb_le (scl Mq) (b2_4).toNat
      refine g_iload_n X 0 rfl dX5_scanning_4 ?_
      refine g_aload_n X 2 rfl dX5_scanning_5 ?_
      refine g_geti X f_X5_51 dX5_scanning_6 (x := Mq.1 1 12) rfl ?_
      have bq1 := ig_1_12 Iq0
      refine g_icmp_ge X e2_4 rfl (tgt := 29) dX5_scanning_9 (by decide) (fun cq2 => ?_) (fun cq2 => ?_)
      · refine g_iload_n X 1 rfl dX5_scanning_29 ?_
        exact g_iret X dX5_scanning_30 ⟨_, _, rfl, e1_4, (by have e : b2_4 = (Mq.1 1 12).toInt := (by omega); rw [e] at i2; exact i2), rfl⟩
      · refine g_aload_n X 2 rfl dX5_scanning_12 ?_
        refine g_iload_n X 0 rfl dX5_scanning_13 ?_
        refine g_callV X m_X5_83 (c_X5_scans_E ad Mq y2_4 e2_4 Iq0 (by omega)) rfl (by decide) (Nat.le_of_ble_eq_true rfl) rfl dX5_scanning_14 ?_
        rintro _ _ ⟨rq3, aq4, rfl, tq5, hq6, rfl⟩
        have hsc : (aq4 = 1 ∧ scl Mq (b2_4).toNat = true) ∨ (aq4 = 0 ∧ ¬ (scl Mq (b2_4).toNat = true)) := hq6
        show G Γ Mq 17 [(2, .int y2_4), (1, .int y1_4), (0, .ref (ad 1))] [.int rq3]
        refine g_if_eq X tq5 (tgt := 23) dX5_scanning_17 (by decide) (fun cq7 => ?_) (fun cq7 => ?_)
        · have pq8 : ¬ ((ffb (loF (Mq.1 2 ((Mq.1 7 b2_4.toNat).toInt).toNat) (Mq.1 4 ((Mq.1 7 b2_4.toNat).toInt).toNat) (Mq.1 5 ((Mq.1 10 b2_4.toNat).toInt).toNat)) (hvF (Mq.1 3 ((Mq.1 7 b2_4.toNat).toInt).toNat) (Mq.1 4 ((Mq.1 7 b2_4.toNat).toInt).toNat) (Mq.1 6 ((Mq.1 10 b2_4.toNat).toInt).toNat) (Mq.1 5 ((Mq.1 10 b2_4.toNat).toInt).toNat)) (Mq.1 12) && fsb (loF (Mq.1 2 ((Mq.1 8 b2_4.toNat).toInt).toNat) (Mq.1 4 ((Mq.1 8 b2_4.toNat).toInt).toNat) (Mq.1 5 ((Mq.1 10 b2_4.toNat).toInt).toNat)) (hvF (Mq.1 3 ((Mq.1 8 b2_4.toNat).toInt).toNat) (Mq.1 4 ((Mq.1 8 b2_4.toNat).toInt).toNat) (Mq.1 6 ((Mq.1 10 b2_4.toNat).toInt).toNat) (Mq.1 5 ((Mq.1 10 b2_4.toNat).toInt).toNat)) (Mq.1 12)) = true) := by first | omega | (rcases hq6 with ⟨z1, z2⟩ | ⟨z1, z2⟩ <;> first | exact z2 | (exfalso; omega))
          refine g_iinc X 0 (fun v => [(2, .int v), (1, .int y1_4), (0, .ref (ad 1))]) dX5_scanning_23 rfl (by decide) (fun _ => rfl) (fun zq9 eq10 => ?_)
          have tq11 : zq9.toInt = b2_4 + 1 := add_nw eq10 e2_4 (show (Int32.ofInt 1).toInt = 1 by decide) (by omega)
          refine g_goto X (tgt := 4) dX5_scanning_26 (by decide) ?_
          refine g_sub [0, 1, 2] rfl ?_
          exact ih4 zq9 _ tq11 y1_4 _ e1_4 (by omega) (by first | exact ctb_y i2 i1.1 (bb1 hsc (by omega)) (by omega) | (have z := ctb_n i2 i1.1 (Bool.eq_false_iff.mpr (bb0 hsc (by omega))) (show (b2_4 + 1).toNat = b2_4.toNat + 1 by omega); omega)) (by omega)
        · have pq12 : ((ffb (loF (Mq.1 2 ((Mq.1 7 b2_4.toNat).toInt).toNat) (Mq.1 4 ((Mq.1 7 b2_4.toNat).toInt).toNat) (Mq.1 5 ((Mq.1 10 b2_4.toNat).toInt).toNat)) (hvF (Mq.1 3 ((Mq.1 7 b2_4.toNat).toInt).toNat) (Mq.1 4 ((Mq.1 7 b2_4.toNat).toInt).toNat) (Mq.1 6 ((Mq.1 10 b2_4.toNat).toInt).toNat) (Mq.1 5 ((Mq.1 10 b2_4.toNat).toInt).toNat)) (Mq.1 12) && fsb (loF (Mq.1 2 ((Mq.1 8 b2_4.toNat).toInt).toNat) (Mq.1 4 ((Mq.1 8 b2_4.toNat).toInt).toNat) (Mq.1 5 ((Mq.1 10 b2_4.toNat).toInt).toNat)) (hvF (Mq.1 3 ((Mq.1 8 b2_4.toNat).toInt).toNat) (Mq.1 4 ((Mq.1 8 b2_4.toNat).toInt).toNat) (Mq.1 6 ((Mq.1 10 b2_4.toNat).toInt).toNat) (Mq.1 5 ((Mq.1 10 b2_4.toNat).toInt).toNat)) (Mq.1 12)) = true) := by first | omega | (rcases hq6 with ⟨z1, z2⟩ | ⟨z1, z2⟩ <;> first | exact z2 | (exfalso; omega))
          refine g_iinc X 1 (fun v => [(1, .int v), (2, .int y2_4), (0, .ref (ad 1))]) dX5_scanning_20 rfl (by decide) (fun _ => rfl) (fun zq13 eq14 => ?_)
          have tq15 : zq13.toInt = b1_4 + 1 := add_nw eq14 e1_4 (show (Int32.ofInt 1).toInt = 1 by decide) (by omega)
          refine g_iinc X 1 (fun v => [(2, .int v), (1, .int zq13), (0, .ref (ad 1))]) dX5_scanning_23 rfl (by decide) (fun _ => rfl) (fun zq16 eq17 => ?_)
          have tq18 : zq16.toInt = b2_4 + 1 := add_nw eq17 e2_4 (show (Int32.ofInt 1).toInt = 1 by decide) (by omega)
          refine g_goto X (tgt := 4) dX5_scanning_26 (by decide) ?_
          refine g_sub [0, 1, 2] rfl ?_
          exact ih4 zq16 _ tq18 zq13 _ tq15 (by omega) (by first | exact ctb_y i2 i1.1 (bb1 hsc (by omega)) (by omega) | (have z := ctb_n i2 i1.1 (Bool.eq_false_iff.mpr (bb0 hsc (by omega))) (show (b2_4 + 1).toNat = b2_4.toNat + 1 by omega); omega)) (by omega)
  refine g_sub [0, 1, 2] rfl ?_
  exact lp4 _ 0 _ (show (0 : Int32).toInt = 0 by decide) 0 _ (show (0 : Int32).toInt = 0 by decide) (by omega) rfl (Nat.lt_succ_self _)
set_option maxHeartbeats 4000000 in
set_option maxRecDepth 4000 in
theorem c_X6_count_E (ad : Nat → Nat) (Mq : Mem) (x1 : Int32) {a1 : Int} (t1 : x1.toInt = a1) (Iq0 : Iv TX Mq) : Ctr ad yX6_count cX6_count 2 (some .int) 4 [.ref (ad 0), .int x1] Mq (fun v M' => ∃ (r : Int32) (a : Int), v = some (.int r) ∧ r.toInt = a ∧ ((a1 = 0 → a = (Mq.1 1 3).toInt) ∧ (a1 = 1 → a = (Mq.1 1 12).toInt) ∧ (a1 = 2 → a = (Mq.1 14 11).toInt) ∧ (a1 = 3 → a = (Mq.1 23 2).toInt) ∧ (a1 = 4 → a = (Mq.1 23 7).toInt) ∧ (a1 = 5 → a = (Mq.1 40 5).toInt) ∧ (a1 = 6 → a = (Mq.1 14 1).toInt) ∧ (a1 = 7 → a = (Mq.1 14 12).toInt) ∧ (a1 = 8 → a = (ctb (scl Mq) ((Mq.1 1 12).toInt).toNat : Nat)) ∧ (¬ (0 ≤ a1 ∧ a1 ≤ 8) → a = -1)) ∧ Mq = M') := by
  refine ctr_of (L := [(0, .ref (ad 0)), (1, .int x1)]) (by decide) (Nat.le_of_ble_eq_true rfl) rfl ?_
  intro Γ X
  have X : gX Γ cX6_count RX6 2 (some .int) 4 ad _ := X
  refine g_iload_n X 1 rfl dX6_count_0 ?_
  rcases (show (a1 < 0 ∨ 8 < a1) ∨ a1 = 0 ∨ a1 = 1 ∨ a1 = 2 ∨ a1 = 3 ∨ a1 = 4 ∨ a1 = 5 ∨ a1 = 6 ∨ a1 = 7 ∨ a1 = 8 by omega) with cq1 | cq1 | cq1 | cq1 | cq1 | cq1 | cq1 | cq1 | cq1 | cq1
  · refine g_tabOut X dX6_count_1 t1 cq1 (tgt := 124) (by decide) ?_
    refine g_iconst X (-1) dX6_count_124 (by decide) ?_
    exact g_iret X dX6_count_125 ⟨_, _, rfl, (show ((-1) : Int32).toInt = (-1) by decide), (by omega), rfl⟩
  · refine g_tabIn X dX6_count_1 (a := 0) (t1.trans cq1) (by decide) (by decide) rfl (tgt := 52) (by decide) ?_
    refine g_aload_n X 0 rfl dX6_count_52 ?_
    refine g_getr X f_X6_10 dX6_count_53 ?_
    refine g_geti X f_X6_69 dX6_count_56 (x := Mq.1 1 3) rfl ?_
    have bq2 := ig_1_3 Iq0
    exact g_iret X dX6_count_59 ⟨_, _, rfl, rfl, (by omega), rfl⟩
  · refine g_tabIn X dX6_count_1 (a := 1) (t1.trans cq1) (by decide) (by decide) rfl (tgt := 60) (by decide) ?_
    refine g_aload_n X 0 rfl dX6_count_60 ?_
    refine g_getr X f_X6_10 dX6_count_61 ?_
    refine g_geti X f_X6_86 dX6_count_64 (x := Mq.1 1 12) rfl ?_
    have bq3 := ig_1_12 Iq0
    exact g_iret X dX6_count_67 ⟨_, _, rfl, rfl, (by omega), rfl⟩
  · refine g_tabIn X dX6_count_1 (a := 2) (t1.trans cq1) (by decide) (by decide) rfl (tgt := 68) (by decide) ?_
    refine g_aload_n X 0 rfl dX6_count_68 ?_
    refine g_getr X f_X6_19 dX6_count_69 ?_
    refine g_geti X f_X6_280 dX6_count_72 (x := Mq.1 14 11) rfl ?_
    have bq4 := ig_14_11 Iq0
    exact g_iret X dX6_count_75 ⟨_, _, rfl, rfl, (by omega), rfl⟩
  · refine g_tabIn X dX6_count_1 (a := 3) (t1.trans cq1) (by decide) (by decide) rfl (tgt := 76) (by decide) ?_
    refine g_aload_n X 0 rfl dX6_count_76 ?_
    refine g_getr X f_X6_26 dX6_count_77 ?_
    refine g_geti X f_X6_179 dX6_count_80 (x := Mq.1 23 2) rfl ?_
    have bq5 := ig_23_2 Iq0
    exact g_iret X dX6_count_83 ⟨_, _, rfl, rfl, (by omega), rfl⟩
  · refine g_tabIn X dX6_count_1 (a := 4) (t1.trans cq1) (by decide) (by decide) rfl (tgt := 84) (by decide) ?_
    refine g_aload_n X 0 rfl dX6_count_84 ?_
    refine g_getr X f_X6_26 dX6_count_85 ?_
    refine g_geti X f_X6_188 dX6_count_88 (x := Mq.1 23 7) rfl ?_
    have bq6 := ig_23_7 Iq0
    exact g_iret X dX6_count_91 ⟨_, _, rfl, rfl, (by omega), rfl⟩
  · refine g_tabIn X dX6_count_1 (a := 5) (t1.trans cq1) (by decide) (by decide) rfl (tgt := 92) (by decide) ?_
    refine g_aload_n X 0 rfl dX6_count_92 ?_
    refine g_getr X f_X6_49 dX6_count_93 ?_
    refine g_geti X f_X6_244 dX6_count_96 (x := Mq.1 40 5) rfl ?_
    have bq7 := ig_40_5 Iq0
    exact g_iret X dX6_count_99 ⟨_, _, rfl, rfl, (by omega), rfl⟩
  · refine g_tabIn X dX6_count_1 (a := 6) (t1.trans cq1) (by decide) (by decide) rfl (tgt := 100) (by decide) ?_
    refine g_aload_n X 0 rfl dX6_count_100 ?_
    refine g_getr X f_X6_19 dX6_count_101 ?_
    refine g_geti X f_X6_143 dX6_count_104 (x := Mq.1 14 1) rfl ?_
    have bq8 := ig_14_1 Iq0
    exact g_iret X dX6_count_107 ⟨_, _, rfl, rfl, (by omega), rfl⟩
  · refine g_tabIn X dX6_count_1 (a := 7) (t1.trans cq1) (by decide) (by decide) rfl (tgt := 108) (by decide) ?_
    refine g_aload_n X 0 rfl dX6_count_108 ?_
    refine g_getr X f_X6_19 dX6_count_109 ?_
    refine g_geti X f_X6_153 dX6_count_112 (x := Mq.1 14 12) rfl ?_
    have bq9 := ig_14_12 Iq0
    exact g_iret X dX6_count_115 ⟨_, _, rfl, rfl, (by omega), rfl⟩
  · refine g_tabIn X dX6_count_1 (a := 8) (t1.trans cq1) (by decide) (by decide) rfl (tgt := 116) (by decide) ?_
    refine g_aload_n X 0 rfl dX6_count_116 ?_
    refine g_getr X f_X6_10 dX6_count_117 ?_
    refine g_callV X m_X6_283 (c_X5_scanning_E ad Mq Iq0) rfl (by decide) (Nat.le_of_ble_eq_true rfl) rfl dX6_count_120 ?_
    rintro _ _ ⟨rq10, aq11, rfl, tq12, hq13, rfl⟩
    show G Γ Mq 123 [(0, .ref (ad 0)), (1, .int x1)] [.int rq10]
    exact g_iret X dX6_count_123 ⟨_, _, rfl, tq12, (by omega), rfl⟩
set_option maxHeartbeats 4000000 in
set_option maxRecDepth 4000 in
theorem c_X7_count_E (ad : Nat → Nat) (Mq : Mem) (x1 : Int32) {a1 : Int} (t1 : x1.toInt = a1) (Iq0 : Iv TM Mq) : Ctr ad yX7_count cX7_count 4 (some .int) 3 [.ref (ad 47), .int x1] Mq (fun v M' => ∃ (r : Int32) (a : Int), v = some (.int r) ∧ r.toInt = a ∧ ((a1 = 0 → a = (Mq.1 47 11).toInt) ∧ (a1 = 1 → a = (Mq.1 47 12).toInt) ∧ (a1 = 2 → a = (ctb (tlB Mq) 8 : Nat)) ∧ (a1 = 3 → a = (Mq.1 47 52).toInt) ∧ (a1 = 4 → a = (Mq.1 47 53).toInt) ∧ (a1 = 5 → a = (Mq.1 47 59).toInt) ∧ (a1 = 6 → a = (Mq.1 47 20).toInt) ∧ (a1 = 7 → a = (Mq.1 47 24).toInt) ∧ (a1 = 8 → a = (ctb (sclM Mq) ((Mq.1 47 12).toInt).toNat : Nat)) ∧ (¬ (0 ≤ a1 ∧ a1 ≤ 8) → a = -1)) ∧ Mq = M') := by
  refine ctr_of (L := [(0, .ref (ad 47)), (1, .int x1)]) (by decide) (Nat.le_of_ble_eq_true rfl) rfl ?_
  intro Γ X
  have X : gX Γ cX7_count RX7 4 (some .int) 3 ad _ := X
  have g11 := ig_47_11 Iq0
  have g12 := ig_47_12 Iq0
  refine g_iconst X 0 dX7_count_0 (by decide) ?_
  refine g_istore_n X (i := 2) [(2, .int 0), (0, .ref (ad 47)), (1, .int x1)] dX7_count_1 rfl (by decide) rfl ?_
  refine g_iload_n X 2 rfl dX7_count_2 ?_
  rcases (show (a1 < 0 ∨ 8 < a1) ∨ a1 = 0 ∨ a1 = 1 ∨ a1 = 2 ∨ a1 = 3 ∨ a1 = 4 ∨ a1 = 5 ∨ a1 = 6 ∨ a1 = 7 ∨ a1 = 8 by omega) with cq1 | cq1 | cq1 | cq1 | cq1 | cq1 | cq1 | cq1 | cq1 | cq1
  · refine g_tabOut X dX7_count_3 t1 cq1 (tgt := 170) (by decide) ?_
    refine g_iconst X (-1) dX7_count_170 (by decide) ?_
    exact g_iret X dX7_count_171 ⟨_, _, rfl, (show ((-1) : Int32).toInt = (-1) by decide), (by omega), rfl⟩
  · refine g_tabIn X dX7_count_3 (a := 0) (t1.trans cq1) (by decide) (by decide) rfl (tgt := 52) (by decide) ?_
    refine g_aload_n X 1 rfl dX7_count_52 ?_
    refine g_geti X f_X7_144 dX7_count_53 (x := Mq.1 47 11) rfl ?_
    have bq2 := ig_47_11 Iq0
    exact g_iret X dX7_count_56 ⟨_, _, rfl, rfl, (by omega), rfl⟩
  · refine g_tabIn X dX7_count_3 (a := 1) (t1.trans cq1) (by decide) (by decide) rfl (tgt := 57) (by decide) ?_
    refine g_aload_n X 1 rfl dX7_count_57 ?_
    refine g_geti X f_X7_147 dX7_count_58 (x := Mq.1 47 12) rfl ?_
    have bq3 := ig_47_12 Iq0
    exact g_iret X dX7_count_61 ⟨_, _, rfl, rfl, (by omega), rfl⟩
  · refine g_tabIn X dX7_count_3 (a := 2) (t1.trans cq1) (by decide) (by decide) rfl (tgt := 62) (by decide) ?_
    refine g_iconst X 0 dX7_count_62 (by decide) ?_
    refine g_istore_n X (i := 3) [(3, .int 0), (2, .int 0), (0, .ref (ad 47)), (1, .int x1)] dX7_count_63 rfl (by decide) rfl ?_
    have lp64 : ∀ n : Nat, ∀ (y3_64 : Int32) (b3_64 : Int), y3_64.toInt = b3_64 → ∀ (y2_64 : Int32) (b2_64 : Int), y2_64.toInt = b2_64 → (0 ≤ b3_64 ∧ b3_64 ≤ 8) → (b2_64 = (ctb (tlB Mq) (b3_64).toNat : Nat)) → (8 - b3_64).toNat < n → G Γ Mq 64 [(3, .int y3_64), (2, .int y2_64), (0, .ref (ad 47)), (1, .int x1)] [] := by
      intro n
      induction n with
      | zero => intro y3_64 b3_64 e3_64 y2_64 b2_64 e2_64 i1 i2 hm; exact absurd hm (Nat.not_lt_zero _)
      | succ n ih64 =>
        intro y3_64 b3_64 e3_64 y2_64 b2_64 e2_64 i1 i2 hm64
        have hcl := ctb_le (tlB Mq) (b3_64).toNat
        refine g_iload_n X 0 rfl dX7_count_64 ?_
        refine g_bipush X 8 dX7_count_65 (by decide) ?_
        refine g_icmp_ge X e3_64 (show (8 : Int32).toInt = 8 by decide) (tgt := 92) dX7_count_67 (by decide) (fun cq4 => ?_) (fun cq4 => ?_)
        · refine g_iload_n X 1 rfl dX7_count_92 ?_
          exact g_iret X dX7_count_93 ⟨_, _, rfl, e2_64, (by have e : b3_64 = 8 := (by omega); have z : b2_64 = (ctb (tlB Mq) 8 : Nat) := (by have y := i2; rw [e] at y; exact y); omega), rfl⟩
        · refine g_iload_n X 1 rfl dX7_count_70 ?_
          refine g_aload_n X 2 rfl dX7_count_71 ?_
          refine g_iload_n X 0 rfl dX7_count_72 ?_
          refine g_callV X m_X7_220 (c_X7_isTold ad Mq y3_64 e3_64) rfl (by decide) (Nat.le_of_ble_eq_true rfl) rfl dX7_count_73 ?_
          rintro _ _ ⟨rq5, aq6, rfl, tq7, hq8, rfl⟩
          show G Γ Mq 76 [(3, .int y3_64), (2, .int y2_64), (0, .ref (ad 47)), (1, .int x1)] [.int rq5, .int y2_64]
          refine g_if_eq X tq7 (tgt := 83) dX7_count_76 (by decide) (fun cq9 => ?_) (fun cq9 => ?_)
          · have pq10 : ¬ (0 ≤ b3_64 ∧ b3_64 ≤ 7 ∧ 0 < (Mq.1 63 b3_64.toNat).toInt) := by first | omega | (rcases hq8 with ⟨z1, z2⟩ | ⟨z1, z2⟩ <;> first | exact z2 | (exfalso; omega))
            refine g_iconst X 0 dX7_count_83 (by decide) ?_
            refine g_iadd X dX7_count_84 (fun zq11 eq12 => ?_)
            have tq13 : zq11.toInt = b2_64 + 0 := add_nw eq12 e2_64 (show (0 : Int32).toInt = 0 by decide) (by omega)
            refine g_istore_n X (i := 2) [(2, .int zq11), (3, .int y3_64), (0, .ref (ad 47)), (1, .int x1)] dX7_count_85 rfl (by decide) rfl ?_
            refine g_iinc X 1 (fun v => [(3, .int v), (2, .int zq11), (0, .ref (ad 47)), (1, .int x1)]) dX7_count_86 rfl (by decide) (fun _ => rfl) (fun zq14 eq15 => ?_)
            have tq16 : zq14.toInt = b3_64 + 1 := add_nw eq15 e3_64 (show (Int32.ofInt 1).toInt = 1 by decide) (by omega)
            refine g_goto X (tgt := 64) dX7_count_89 (by decide) ?_
            refine g_sub [0, 1, 2, 3] rfl ?_
            exact ih64 zq14 _ tq16 zq11 _ tq13 (by omega) (by first | exact ctb_y i2 i1.1 (show tlB Mq _ = true from decide_eq_true (by omega)) (by omega) | exact ctb_n i2 i1.1 (show tlB Mq _ = false from decide_eq_false (by omega)) (by omega)) (by omega)
          · have pq17 : (0 ≤ b3_64 ∧ b3_64 ≤ 7 ∧ 0 < (Mq.1 63 b3_64.toNat).toInt) := by first | omega | (rcases hq8 with ⟨z1, z2⟩ | ⟨z1, z2⟩ <;> first | exact z2 | (exfalso; omega))
            refine g_iconst X 1 dX7_count_79 (by decide) ?_
            refine g_goto X (tgt := 84) dX7_count_80 (by decide) ?_
            refine g_iadd X dX7_count_84 (fun zq18 eq19 => ?_)
            have tq20 : zq18.toInt = b2_64 + 1 := add_nw eq19 e2_64 (show (1 : Int32).toInt = 1 by decide) (by omega)
            refine g_istore_n X (i := 2) [(2, .int zq18), (3, .int y3_64), (0, .ref (ad 47)), (1, .int x1)] dX7_count_85 rfl (by decide) rfl ?_
            refine g_iinc X 1 (fun v => [(3, .int v), (2, .int zq18), (0, .ref (ad 47)), (1, .int x1)]) dX7_count_86 rfl (by decide) (fun _ => rfl) (fun zq21 eq22 => ?_)
            have tq23 : zq21.toInt = b3_64 + 1 := add_nw eq22 e3_64 (show (Int32.ofInt 1).toInt = 1 by decide) (by omega)
            refine g_goto X (tgt := 64) dX7_count_89 (by decide) ?_
            refine g_sub [0, 1, 2, 3] rfl ?_
            exact ih64 zq21 _ tq23 zq18 _ tq20 (by omega) (by first | exact ctb_y i2 i1.1 (show tlB Mq _ = true from decide_eq_true (by omega)) (by omega) | exact ctb_n i2 i1.1 (show tlB Mq _ = false from decide_eq_false (by omega)) (by omega)) (by omega)
    refine g_sub [0, 1, 2, 3] rfl ?_
    exact lp64 _ 0 _ (show (0 : Int32).toInt = 0 by decide) 0 _ (show (0 : Int32).toInt = 0 by decide) (by omega) rfl (Nat.lt_succ_self _)
  · refine g_tabIn X dX7_count_3 (a := 3) (t1.trans cq1) (by decide) (by decide) rfl (tgt := 94) (by decide) ?_
    refine g_aload_n X 1 rfl dX7_count_94 ?_
    refine g_geti X f_X7_313 dX7_count_95 (x := Mq.1 47 52) rfl ?_
    have bq24 := ig_47_52 Iq0
    exact g_iret X dX7_count_98 ⟨_, _, rfl, rfl, (by omega), rfl⟩
  · refine g_tabIn X dX7_count_3 (a := 4) (t1.trans cq1) (by decide) (by decide) rfl (tgt := 99) (by decide) ?_
    refine g_aload_n X 1 rfl dX7_count_99 ?_
    refine g_geti X f_X7_266 dX7_count_100 (x := Mq.1 47 53) rfl ?_
    have bq25 := ig_47_53 Iq0
    exact g_iret X dX7_count_103 ⟨_, _, rfl, rfl, (by omega), rfl⟩
  · refine g_tabIn X dX7_count_3 (a := 5) (t1.trans cq1) (by decide) (by decide) rfl (tgt := 104) (by decide) ?_
    refine g_aload_n X 1 rfl dX7_count_104 ?_
    refine g_geti X f_X7_352 dX7_count_105 (x := Mq.1 47 59) rfl ?_
    have bq26 := ig_47_59 Iq0
    exact g_iret X dX7_count_108 ⟨_, _, rfl, rfl, (by omega), rfl⟩
  · refine g_tabIn X dX7_count_3 (a := 6) (t1.trans cq1) (by decide) (by decide) rfl (tgt := 109) (by decide) ?_
    refine g_aload_n X 1 rfl dX7_count_109 ?_
    refine g_geti X f_X7_199 dX7_count_110 (x := Mq.1 47 20) rfl ?_
    have bq27 := ig_47_20 Iq0
    exact g_iret X dX7_count_113 ⟨_, _, rfl, rfl, (by omega), rfl⟩
  · refine g_tabIn X dX7_count_3 (a := 7) (t1.trans cq1) (by decide) (by decide) rfl (tgt := 114) (by decide) ?_
    refine g_aload_n X 1 rfl dX7_count_114 ?_
    refine g_geti X f_X7_61 dX7_count_115 (x := Mq.1 47 24) rfl ?_
    have bq28 := ig_47_24 Iq0
    exact g_iret X dX7_count_118 ⟨_, _, rfl, rfl, (by omega), rfl⟩
  · refine g_tabIn X dX7_count_3 (a := 8) (t1.trans cq1) (by decide) (by decide) rfl (tgt := 119) (by decide) ?_
    refine g_iconst X 0 dX7_count_119 (by decide) ?_
    refine g_istore_n X (i := 3) [(3, .int 0), (2, .int 0), (0, .ref (ad 47)), (1, .int x1)] dX7_count_120 rfl (by decide) rfl ?_
    have lp121 : ∀ n : Nat, ∀ (y3_121 : Int32) (b3_121 : Int), y3_121.toInt = b3_121 → ∀ (y2_121 : Int32) (b2_121 : Int), y2_121.toInt = b2_121 → (0 ≤ b3_121 ∧ b3_121 ≤ (Mq.1 47 12).toInt) → (b2_121 = (ctb (sclM Mq) (b3_121).toNat : Nat)) → ((Mq.1 47 12).toInt - b3_121).toNat < n → G Γ Mq 121 [(3, .int y3_121), (2, .int y2_121), (0, .ref (ad 47)), (1, .int x1)] [] := by
      intro n
      induction n with
      | zero => intro y3_121 b3_121 e3_121 y2_121 b2_121 e2_121 i1 i2 hm; exact absurd hm (Nat.not_lt_zero _)
      | succ n ih121 =>
        intro y3_121 b3_121 e3_121 y2_121 b2_121 e2_121 i1 i2 hm121
        have hcl := ctb_le (sclM Mq) (b3_121).toNat
        refine g_iload_n X 0 rfl dX7_count_121 ?_
        refine g_aload_n X 2 rfl dX7_count_122 ?_
        refine g_geti X f_X7_147 dX7_count_123 (x := Mq.1 47 12) rfl ?_
        have bq29 := ig_47_12 Iq0
        refine g_icmp_ge X e3_121 rfl (tgt := 168) dX7_count_126 (by decide) (fun cq30 => ?_) (fun cq30 => ?_)
        · refine g_iload_n X 1 rfl dX7_count_168 ?_
          exact g_iret X dX7_count_169 ⟨_, _, rfl, e2_121, (by have e : b3_121 = (Mq.1 47 12).toInt := (by omega); have y := i2; rw [e] at y; omega), rfl⟩
        · refine g_iload_n X 1 rfl dX7_count_129 ?_
          refine g_aload_n X 2 rfl dX7_count_130 ?_
          refine g_aload_n X 2 rfl dX7_count_131 ?_
          refine g_getr X f_X7_25 dX7_count_132 ?_
          refine g_iload_n X 0 rfl dX7_count_135 ?_
          refine g_iald X la_53 e3_121 dX7_count_136 (by omega) (x := Mq.1 53 b3_121.toNat) rfl ?_
          have bq31 := ig_53 Iq0 b3_121.toNat (by omega)
          refine g_aload_n X 2 rfl dX7_count_137 ?_
          refine g_getr X f_X7_28 dX7_count_138 ?_
          refine g_iload_n X 0 rfl dX7_count_141 ?_
          refine g_iald X la_54 e3_121 dX7_count_142 (by omega) (x := Mq.1 54 b3_121.toNat) rfl ?_
          have bq32 := ig_54 Iq0 b3_121.toNat (by omega)
          refine g_aload_n X 2 rfl dX7_count_143 ?_
          refine g_getr X f_X7_34 dX7_count_144 ?_
          refine g_iload_n X 0 rfl dX7_count_147 ?_
          refine g_iald X la_56 e3_121 dX7_count_148 (by omega) (x := Mq.1 56 b3_121.toNat) rfl ?_
          have bq33 := ig_56 Iq0 b3_121.toNat (by omega)
          refine g_callV X m_X7_189 (c_X7_scans_E ad Mq (Mq.1 53 b3_121.toNat) rfl (Mq.1 54 b3_121.toNat) rfl (Mq.1 56 b3_121.toNat) rfl (by omega) (by omega) (by omega)) rfl (by decide) (Nat.le_of_ble_eq_true rfl) rfl dX7_count_149 ?_
          rintro _ _ ⟨rq34, aq35, rfl, tq36, hq37, rfl⟩
          have hsc : (aq35 = 1 ∧ sclM Mq (b3_121).toNat = true) ∨ (aq35 = 0 ∧ ¬ (sclM Mq (b3_121).toNat = true)) := hq37
          show G Γ Mq 152 [(3, .int y3_121), (2, .int y2_121), (0, .ref (ad 47)), (1, .int x1)] [.int rq34, .int y2_121]
          refine g_if_eq X tq36 (tgt := 159) dX7_count_152 (by decide) (fun cq38 => ?_) (fun cq38 => ?_)
          · have pq39 : ¬ (scb (loF (Mq.1 48 ((Mq.1 53 b3_121.toNat).toInt).toNat) (Mq.1 50 ((Mq.1 53 b3_121.toNat).toInt).toNat) (Mq.1 51 ((Mq.1 56 b3_121.toNat).toInt).toNat)) (hvF (Mq.1 49 ((Mq.1 53 b3_121.toNat).toInt).toNat) (Mq.1 50 ((Mq.1 53 b3_121.toNat).toInt).toNat) (Mq.1 52 ((Mq.1 56 b3_121.toNat).toInt).toNat) (Mq.1 51 ((Mq.1 56 b3_121.toNat).toInt).toNat)) (loF (Mq.1 48 ((Mq.1 54 b3_121.toNat).toInt).toNat) (Mq.1 50 ((Mq.1 54 b3_121.toNat).toInt).toNat) (Mq.1 51 ((Mq.1 56 b3_121.toNat).toInt).toNat)) (hvF (Mq.1 49 ((Mq.1 54 b3_121.toNat).toInt).toNat) (Mq.1 50 ((Mq.1 54 b3_121.toNat).toInt).toNat) (Mq.1 52 ((Mq.1 56 b3_121.toNat).toInt).toNat) (Mq.1 51 ((Mq.1 56 b3_121.toNat).toInt).toNat)) (Mq.1 58) = true) := by first | omega | (rcases hq37 with ⟨z1, z2⟩ | ⟨z1, z2⟩ <;> first | exact z2 | (exfalso; omega))
            refine g_iconst X 0 dX7_count_159 (by decide) ?_
            refine g_iadd X dX7_count_160 (fun zq40 eq41 => ?_)
            have tq42 : zq40.toInt = b2_121 + 0 := add_nw eq41 e2_121 (show (0 : Int32).toInt = 0 by decide) (by omega)
            refine g_istore_n X (i := 2) [(2, .int zq40), (3, .int y3_121), (0, .ref (ad 47)), (1, .int x1)] dX7_count_161 rfl (by decide) rfl ?_
            refine g_iinc X 1 (fun v => [(3, .int v), (2, .int zq40), (0, .ref (ad 47)), (1, .int x1)]) dX7_count_162 rfl (by decide) (fun _ => rfl) (fun zq43 eq44 => ?_)
            have tq45 : zq43.toInt = b3_121 + 1 := add_nw eq44 e3_121 (show (Int32.ofInt 1).toInt = 1 by decide) (by omega)
            refine g_goto X (tgt := 121) dX7_count_165 (by decide) ?_
            refine g_sub [0, 1, 2, 3] rfl ?_
            exact ih121 zq43 _ tq45 zq40 _ tq42 (by omega) (by first | exact ctb_y i2 i1.1 (bb1 hsc (by omega)) (by omega) | exact ctb_n i2 i1.1 (Bool.eq_false_iff.mpr (bb0 hsc (by omega))) (by omega)) (by omega)
          · have pq46 : (scb (loF (Mq.1 48 ((Mq.1 53 b3_121.toNat).toInt).toNat) (Mq.1 50 ((Mq.1 53 b3_121.toNat).toInt).toNat) (Mq.1 51 ((Mq.1 56 b3_121.toNat).toInt).toNat)) (hvF (Mq.1 49 ((Mq.1 53 b3_121.toNat).toInt).toNat) (Mq.1 50 ((Mq.1 53 b3_121.toNat).toInt).toNat) (Mq.1 52 ((Mq.1 56 b3_121.toNat).toInt).toNat) (Mq.1 51 ((Mq.1 56 b3_121.toNat).toInt).toNat)) (loF (Mq.1 48 ((Mq.1 54 b3_121.toNat).toInt).toNat) (Mq.1 50 ((Mq.1 54 b3_121.toNat).toInt).toNat) (Mq.1 51 ((Mq.1 56 b3_121.toNat).toInt).toNat)) (hvF (Mq.1 49 ((Mq.1 54 b3_121.toNat).toInt).toNat) (Mq.1 50 ((Mq.1 54 b3_121.toNat).toInt).toNat) (Mq.1 52 ((Mq.1 56 b3_121.toNat).toInt).toNat) (Mq.1 51 ((Mq.1 56 b3_121.toNat).toInt).toNat)) (Mq.1 58) = true) := by first | omega | (rcases hq37 with ⟨z1, z2⟩ | ⟨z1, z2⟩ <;> first | exact z2 | (exfalso; omega))
            refine g_iconst X 1 dX7_count_155 (by decide) ?_
            refine g_goto X (tgt := 160) dX7_count_156 (by decide) ?_
            refine g_iadd X dX7_count_160 (fun zq47 eq48 => ?_)
            have tq49 : zq47.toInt = b2_121 + 1 := add_nw eq48 e2_121 (show (1 : Int32).toInt = 1 by decide) (by omega)
            refine g_istore_n X (i := 2) [(2, .int zq47), (3, .int y3_121), (0, .ref (ad 47)), (1, .int x1)] dX7_count_161 rfl (by decide) rfl ?_
            refine g_iinc X 1 (fun v => [(3, .int v), (2, .int zq47), (0, .ref (ad 47)), (1, .int x1)]) dX7_count_162 rfl (by decide) (fun _ => rfl) (fun zq50 eq51 => ?_)
            have tq52 : zq50.toInt = b3_121 + 1 := add_nw eq51 e3_121 (show (Int32.ofInt 1).toInt = 1 by decide) (by omega)
            refine g_goto X (tgt := 121) dX7_count_165 (by decide) ?_
            refine g_sub [0, 1, 2, 3] rfl ?_
            exact ih121 zq50 _ tq52 zq47 _ tq49 (by omega) (by first | exact ctb_y i2 i1.1 (bb1 hsc (by omega)) (by omega) | exact ctb_n i2 i1.1 (Bool.eq_false_iff.mpr (bb0 hsc (by omega))) (by omega)) (by omega)
    refine g_sub [0, 1, 2, 3] rfl ?_
    exact lp121 _ 0 _ (show (0 : Int32).toInt = 0 by decide) 0 _ (show (0 : Int32).toInt = 0 by decide) (by omega) rfl (Nat.lt_succ_self _)
abbrev W_X3_addRecording_46_E : List (Nat × Nat) := [(40, 5), (41, 99), (42, 99), (43, 99), (44, 99), (45, 99)]
set_option maxHeartbeats 4000000 in
set_option maxRecDepth 4000 in
theorem c_X3_addRecording_46_E (ad : Nat → Nat) (Mq : Mem) (x1 : Int32) {a1 : Int} (t1 : x1.toInt = a1) (x2 : Int32) {a2 : Int} (t2 : x2.toInt = a2) (x3 : Int32) {a3 : Int} (t3 : x3.toInt = a3) (x5 : Int32) {a5 : Int} (t5 : x5.toInt = a5) (Iq0 : Iv TX Mq) (h1 : (Mq.1 40 5).toInt < 12) (h2 : 0 ≤ a2 ∧ a2 ≤ 7) (h3 : 0 ≤ a5 ∧ a5 ≤ 24) : Ctr ad yX3_addRecording cX3_addRecording 6 (some .int) 1 [.ref (ad 40), .int x1, .int x2, .int x3, .ref (ad 46), .int x5] Mq (fun v M' => ∃ (r : Int32) (a : Int), v = some (.int r) ∧ r.toInt = a ∧ (a = (Mq.1 40 5).toInt) ∧ ((M'.1 40 5).toInt = (Mq.1 40 5).toInt + 1 ∧ M'.1 41 = (ui Mq 41 ((Mq.1 40 5).toInt).toNat x1).1 41 ∧ M'.1 42 = (ui Mq 42 ((Mq.1 40 5).toInt).toNat x2).1 42 ∧ M'.1 43 = (ui Mq 43 ((Mq.1 40 5).toInt).toNat x3).1 43 ∧ M'.1 44 = (ui Mq 44 ((Mq.1 40 5).toInt).toNat x5).1 44 ∧ (∀ j, M'.1 45 j = cpR (Mq.1 46) (Mq.1 45) ((Mq.1 40 5).toInt * 24).toNat a5.toNat j)) ∧ Iv TX M' ∧ Fr W_X3_addRecording_46_E Mq M') := by
  refine ctr_of (L := [(0, .ref (ad 40)), (1, .int x1), (2, .int x2), (3, .int x3), (4, .ref (ad 46)), (5, .int x5)]) (by decide) (Nat.le_of_ble_eq_true rfl) rfl ?_
  intro Γ X
  have X : gX Γ cX3_addRecording RX3 6 (some .int) 1 ad _ := X
  have frq0 : Fr W_X3_addRecording_46_E Mq Mq := Fr.rf
  have hR := ig_40_5 Iq0
  refine g_aload_n X 0 rfl dX3_addRecording_0 ?_
  refine g_getr X f_X3_9 dX3_addRecording_1 ?_
  refine g_aload_n X 0 rfl dX3_addRecording_4 ?_
  refine g_geti X f_X3_27 dX3_addRecording_5 (x := Mq.1 40 5) rfl ?_
  have bq1 := ig_40_5 Iq0
  refine g_iload_n X 1 rfl dX3_addRecording_8 ?_
  refine g_iast X la_41 rfl dX3_addRecording_9 (by omega) ?_
  have Iq2 : Iv TX (ui Mq 41 (((Mq.1 40 5).toInt).toNat) x1) := Iq0.otherA rfl
  have frq3 : Fr W_X3_addRecording_46_E Mq (ui Mq 41 (((Mq.1 40 5).toInt).toNat) x1) := frq0.ui rfl
  refine g_aload_n X 0 rfl dX3_addRecording_10 ?_
  refine g_getr X f_X3_15 dX3_addRecording_11 ?_
  refine g_aload_n X 0 rfl dX3_addRecording_14 ?_
  refine g_geti X f_X3_27 dX3_addRecording_15 (x := Mq.1 40 5) rfl ?_
  have bq4 := ig_40_5 Iq0
  refine g_iload_n X 2 rfl dX3_addRecording_18 ?_
  refine g_iast X la_42 rfl dX3_addRecording_19 (by omega) ?_
  have Iq5 : Iv TX (ui (ui Mq 41 (((Mq.1 40 5).toInt).toNat) x1) 42 (((Mq.1 40 5).toInt).toNat) x2) := Iq2.putA 0 7 t2 (by omega) rfl
  have frq6 : Fr W_X3_addRecording_46_E Mq (ui (ui Mq 41 (((Mq.1 40 5).toInt).toNat) x1) 42 (((Mq.1 40 5).toInt).toNat) x2) := frq3.ui rfl
  refine g_aload_n X 0 rfl dX3_addRecording_20 ?_
  refine g_getr X f_X3_18 dX3_addRecording_21 ?_
  refine g_aload_n X 0 rfl dX3_addRecording_24 ?_
  refine g_geti X f_X3_27 dX3_addRecording_25 (x := Mq.1 40 5) rfl ?_
  have bq7 := ig_40_5 Iq0
  refine g_iload_n X 3 rfl dX3_addRecording_28 ?_
  refine g_iast X la_43 rfl dX3_addRecording_29 (by omega) ?_
  have Iq8 : Iv TX (ui (ui (ui Mq 41 (((Mq.1 40 5).toInt).toNat) x1) 42 (((Mq.1 40 5).toInt).toNat) x2) 43 (((Mq.1 40 5).toInt).toNat) x3) := Iq5.otherA rfl
  have frq9 : Fr W_X3_addRecording_46_E Mq (ui (ui (ui Mq 41 (((Mq.1 40 5).toInt).toNat) x1) 42 (((Mq.1 40 5).toInt).toNat) x2) 43 (((Mq.1 40 5).toInt).toNat) x3) := frq6.ui rfl
  refine g_aload_n X 0 rfl dX3_addRecording_30 ?_
  refine g_getr X f_X3_21 dX3_addRecording_31 ?_
  refine g_aload_n X 0 rfl dX3_addRecording_34 ?_
  refine g_geti X f_X3_27 dX3_addRecording_35 (x := Mq.1 40 5) rfl ?_
  have bq10 := ig_40_5 Iq0
  refine g_iload X 5 rfl dX3_addRecording_38 ?_
  refine g_iast X la_44 rfl dX3_addRecording_40 (by omega) ?_
  have Iq11 : Iv TX (ui (ui (ui (ui Mq 41 (((Mq.1 40 5).toInt).toNat) x1) 42 (((Mq.1 40 5).toInt).toNat) x2) 43 (((Mq.1 40 5).toInt).toNat) x3) 44 (((Mq.1 40 5).toInt).toNat) x5) := Iq8.putA 0 24 t5 (by omega) rfl
  have frq12 : Fr W_X3_addRecording_46_E Mq (ui (ui (ui (ui Mq 41 (((Mq.1 40 5).toInt).toNat) x1) 42 (((Mq.1 40 5).toInt).toNat) x2) 43 (((Mq.1 40 5).toInt).toNat) x3) 44 (((Mq.1 40 5).toInt).toNat) x5) := frq9.ui rfl
  refine g_aload X 4 rfl dX3_addRecording_41 ?_
  refine g_iconst X 0 dX3_addRecording_43 (by decide) ?_
  refine g_aload_n X 0 rfl dX3_addRecording_44 ?_
  refine g_getr X f_X3_24 dX3_addRecording_45 ?_
  refine g_aload_n X 0 rfl dX3_addRecording_48 ?_
  refine g_geti X f_X3_27 dX3_addRecording_49 (x := Mq.1 40 5) rfl ?_
  have bq13 := ig_40_5 Iq0
  refine g_bipush X 24 dX3_addRecording_52 (by decide) ?_
  refine g_imul X dX3_addRecording_54 (fun zq14 eq15 => ?_)
  have tq16 : zq14.toInt = ((Mq.1 40 5).toInt) * 24 := mul_nw eq15 rfl (show (24 : Int32).toInt = 24 by decide) (by omega)
  refine g_iload X 5 rfl dX3_addRecording_55 ?_
  refine g_copy X (show (0 : Int32).toInt = 0 by decide) tq16 t5 la_46 la_45 cp_X3_31 cp_ok.1 cp_ok.2.1 cp_ok.2.2 (by decide) (Nat.le_of_ble_eq_true rfl) (by omega) dX3_addRecording_57 ?_
  have Iq17 : Iv TX (uc (ui (ui (ui (ui Mq 41 (((Mq.1 40 5).toInt).toNat) x1) 42 (((Mq.1 40 5).toInt).toNat) x2) 43 (((Mq.1 40 5).toInt).toNat) x3) 44 (((Mq.1 40 5).toInt).toNat) x5) 46 0 45 ((((Mq.1 40 5).toInt) * 24).toNat) a5.toNat) := Iq11.copyO rfl
  have frq18 : Fr W_X3_addRecording_46_E Mq (uc (ui (ui (ui (ui Mq 41 (((Mq.1 40 5).toInt).toNat) x1) 42 (((Mq.1 40 5).toInt).toNat) x2) 43 (((Mq.1 40 5).toInt).toNat) x3) 44 (((Mq.1 40 5).toInt).toNat) x5) 46 0 45 ((((Mq.1 40 5).toInt) * 24).toNat) a5.toNat) := frq12.uc rfl
  refine g_aload_n X 0 rfl dX3_addRecording_60 ?_
  refine g_dup X dX3_addRecording_61 rfl ?_
  refine g_geti X f_X3_27 dX3_addRecording_62 (x := Mq.1 40 5) rfl ?_
  have bq19 := ig_40_5 Iq0
  refine g_iconst X 1 dX3_addRecording_65 (by decide) ?_
  refine g_iadd X dX3_addRecording_66 (fun zq20 eq21 => ?_)
  have tq22 : zq20.toInt = ((Mq.1 40 5).toInt) + 1 := add_nw eq21 rfl (show (1 : Int32).toInt = 1 by decide) (by omega)
  refine g_puti X p_X3_27 dX3_addRecording_67 ?_
  have Iq23 : Iv TX (ui (uc (ui (ui (ui (ui Mq 41 (((Mq.1 40 5).toInt).toNat) x1) 42 (((Mq.1 40 5).toInt).toNat) x2) 43 (((Mq.1 40 5).toInt).toNat) x3) 44 (((Mq.1 40 5).toInt).toNat) x5) 46 0 45 ((((Mq.1 40 5).toInt) * 24).toNat) a5.toNat) 40 5 zq20) := Iq17.put 0 12 tq22 (by omega) rfl
  have frq24 : Fr W_X3_addRecording_46_E Mq (ui (uc (ui (ui (ui (ui Mq 41 (((Mq.1 40 5).toInt).toNat) x1) 42 (((Mq.1 40 5).toInt).toNat) x2) 43 (((Mq.1 40 5).toInt).toNat) x3) 44 (((Mq.1 40 5).toInt).toNat) x5) 46 0 45 ((((Mq.1 40 5).toInt) * 24).toNat) a5.toNat) 40 5 zq20) := frq18.ui rfl
  refine g_aload_n X 0 rfl dX3_addRecording_70 ?_
  refine g_geti X f_X3_27 dX3_addRecording_71 (x := zq20) rfl ?_
  refine g_iconst X 1 dX3_addRecording_74 (by decide) ?_
  refine g_isub X dX3_addRecording_75 (fun zq25 eq26 => ?_)
  have tq27 : zq25.toInt = (((Mq.1 40 5).toInt) + 1) - 1 := sub_nw eq26 tq22 (show (1 : Int32).toInt = 1 by decide) (by omega)
  exact g_iret X dX3_addRecording_76 ⟨_, _, rfl, tq27, (by omega), (⟨by rw [ui_eq]; omega, (by funext b; simp [ui, uc]), (by funext b; simp [ui, uc]), (by funext b; simp [ui, uc]), (by funext b; simp [ui, uc]), fun j => by rw [ui_cell (k := 40) (a := 45) (by decide)]; exact (uc_row j).trans (by simp [ui, cpR])⟩), Iq23, frq24⟩
abbrev W_X6_record_E : List (Nat × Nat) := [(40, 5), (41, 99), (42, 99), (43, 99), (44, 99), (45, 99)]
set_option maxHeartbeats 4000000 in
set_option maxRecDepth 4000 in
theorem c_X6_record_E (ad : Nat → Nat) (Mq : Mem) (x1 : Int32) {a1 : Int} (t1 : x1.toInt = a1) (x2 : Int32) {a2 : Int} (t2 : x2.toInt = a2) (x3 : Int32) {a3 : Int} (t3 : x3.toInt = a3) (Iq0 : Iv TX Mq) : Ctr ad yX6_record cX6_record 4 (some .int) 2 [.ref (ad 0), .int x1, .int x2, .int x3] Mq (fun v M' => ∃ (r : Int32) (a : Int), v = some (.int r) ∧ r.toInt = a ∧ (((¬ ((0 ≤ a1 ∧ a1 < (Mq.1 23 2).toInt) ∧ (0 ≤ a2 ∧ a2 ≤ 7 ∧ 0 < (Mq.1 20 a2.toNat).toInt))) ∧ (a = -1)) ∨ (¬ (¬ ((0 ≤ a1 ∧ a1 < (Mq.1 23 2).toInt) ∧ (0 ≤ a2 ∧ a2 ≤ 7 ∧ 0 < (Mq.1 20 a2.toNat).toInt))) ∧ (¬ (0 ≤ a3 ∧ a3 ≤ 999)) ∧ (a = -2)) ∨ (¬ (¬ ((0 ≤ a1 ∧ a1 < (Mq.1 23 2).toInt) ∧ (0 ≤ a2 ∧ a2 ≤ 7 ∧ 0 < (Mq.1 20 a2.toNat).toInt))) ∧ ¬ (¬ (0 ≤ a3 ∧ a3 ≤ 999)) ∧ ((Mq.1 0 7).toInt = 0) ∧ (a = -3)) ∨ (¬ (¬ ((0 ≤ a1 ∧ a1 < (Mq.1 23 2).toInt) ∧ (0 ≤ a2 ∧ a2 ≤ 7 ∧ 0 < (Mq.1 20 a2.toNat).toInt))) ∧ ¬ (¬ (0 ≤ a3 ∧ a3 ≤ 999)) ∧ ¬ ((Mq.1 0 7).toInt = 0) ∧ (12 ≤ (Mq.1 40 5).toInt) ∧ (a = -4)) ∨ (¬ (¬ ((0 ≤ a1 ∧ a1 < (Mq.1 23 2).toInt) ∧ (0 ≤ a2 ∧ a2 ≤ 7 ∧ 0 < (Mq.1 20 a2.toNat).toInt))) ∧ ¬ (¬ (0 ≤ a3 ∧ a3 ≤ 999)) ∧ ¬ ((Mq.1 0 7).toInt = 0) ∧ ¬ (12 ≤ (Mq.1 40 5).toInt) ∧ (a = (Mq.1 40 5).toInt))) ∧ (((((¬ ((0 ≤ a1 ∧ a1 < (Mq.1 23 2).toInt) ∧ (0 ≤ a2 ∧ a2 ≤ 7 ∧ 0 < (Mq.1 20 a2.toNat).toInt))) ∨ (¬ (0 ≤ a3 ∧ a3 ≤ 999)) ∨ ((Mq.1 0 7).toInt = 0) ∨ (12 ≤ (Mq.1 40 5).toInt)) ∧ (M'.1 40 5).toInt = (Mq.1 40 5).toInt) ∨ (¬ ((¬ ((0 ≤ a1 ∧ a1 < (Mq.1 23 2).toInt) ∧ (0 ≤ a2 ∧ a2 ≤ 7 ∧ 0 < (Mq.1 20 a2.toNat).toInt))) ∨ (¬ (0 ≤ a3 ∧ a3 ≤ 999)) ∨ ((Mq.1 0 7).toInt = 0) ∨ (12 ≤ (Mq.1 40 5).toInt)) ∧ (M'.1 40 5).toInt = (Mq.1 40 5).toInt + 1)) ∧ ((((¬ ((0 ≤ a1 ∧ a1 < (Mq.1 23 2).toInt) ∧ (0 ≤ a2 ∧ a2 ≤ 7 ∧ 0 < (Mq.1 20 a2.toNat).toInt))) ∨ (¬ (0 ≤ a3 ∧ a3 ≤ 999)) ∨ ((Mq.1 0 7).toInt = 0) ∨ (12 ≤ (Mq.1 40 5).toInt)) → M'.1 41 = Mq.1 41) ∧ (¬ ((¬ ((0 ≤ a1 ∧ a1 < (Mq.1 23 2).toInt) ∧ (0 ≤ a2 ∧ a2 ≤ 7 ∧ 0 < (Mq.1 20 a2.toNat).toInt))) ∨ (¬ (0 ≤ a3 ∧ a3 ≤ 999)) ∨ ((Mq.1 0 7).toInt = 0) ∨ (12 ≤ (Mq.1 40 5).toInt)) → M'.1 41 = (ui Mq 41 ((Mq.1 40 5).toInt).toNat x1).1 41)) ∧ ((((¬ ((0 ≤ a1 ∧ a1 < (Mq.1 23 2).toInt) ∧ (0 ≤ a2 ∧ a2 ≤ 7 ∧ 0 < (Mq.1 20 a2.toNat).toInt))) ∨ (¬ (0 ≤ a3 ∧ a3 ≤ 999)) ∨ ((Mq.1 0 7).toInt = 0) ∨ (12 ≤ (Mq.1 40 5).toInt)) → M'.1 42 = Mq.1 42) ∧ (¬ ((¬ ((0 ≤ a1 ∧ a1 < (Mq.1 23 2).toInt) ∧ (0 ≤ a2 ∧ a2 ≤ 7 ∧ 0 < (Mq.1 20 a2.toNat).toInt))) ∨ (¬ (0 ≤ a3 ∧ a3 ≤ 999)) ∨ ((Mq.1 0 7).toInt = 0) ∨ (12 ≤ (Mq.1 40 5).toInt)) → M'.1 42 = (ui Mq 42 ((Mq.1 40 5).toInt).toNat x2).1 42)) ∧ ((((¬ ((0 ≤ a1 ∧ a1 < (Mq.1 23 2).toInt) ∧ (0 ≤ a2 ∧ a2 ≤ 7 ∧ 0 < (Mq.1 20 a2.toNat).toInt))) ∨ (¬ (0 ≤ a3 ∧ a3 ≤ 999)) ∨ ((Mq.1 0 7).toInt = 0) ∨ (12 ≤ (Mq.1 40 5).toInt)) → M'.1 43 = Mq.1 43) ∧ (¬ ((¬ ((0 ≤ a1 ∧ a1 < (Mq.1 23 2).toInt) ∧ (0 ≤ a2 ∧ a2 ≤ 7 ∧ 0 < (Mq.1 20 a2.toNat).toInt))) ∨ (¬ (0 ≤ a3 ∧ a3 ≤ 999)) ∨ ((Mq.1 0 7).toInt = 0) ∨ (12 ≤ (Mq.1 40 5).toInt)) → M'.1 43 = (ui Mq 43 ((Mq.1 40 5).toInt).toNat x3).1 43)) ∧ ((((¬ ((0 ≤ a1 ∧ a1 < (Mq.1 23 2).toInt) ∧ (0 ≤ a2 ∧ a2 ≤ 7 ∧ 0 < (Mq.1 20 a2.toNat).toInt))) ∨ (¬ (0 ≤ a3 ∧ a3 ≤ 999)) ∨ ((Mq.1 0 7).toInt = 0) ∨ (12 ≤ (Mq.1 40 5).toInt)) → M'.1 44 = Mq.1 44) ∧ (¬ ((¬ ((0 ≤ a1 ∧ a1 < (Mq.1 23 2).toInt) ∧ (0 ≤ a2 ∧ a2 ≤ 7 ∧ 0 < (Mq.1 20 a2.toNat).toInt))) ∨ (¬ (0 ≤ a3 ∧ a3 ≤ 999)) ∨ ((Mq.1 0 7).toInt = 0) ∨ (12 ≤ (Mq.1 40 5).toInt)) → M'.1 44 = (ui Mq 44 ((Mq.1 40 5).toInt).toNat (Mq.1 0 7)).1 44)) ∧ ((((¬ ((0 ≤ a1 ∧ a1 < (Mq.1 23 2).toInt) ∧ (0 ≤ a2 ∧ a2 ≤ 7 ∧ 0 < (Mq.1 20 a2.toNat).toInt))) ∨ (¬ (0 ≤ a3 ∧ a3 ≤ 999)) ∨ ((Mq.1 0 7).toInt = 0) ∨ (12 ≤ (Mq.1 40 5).toInt)) → M'.1 45 = Mq.1 45) ∧ (¬ ((¬ ((0 ≤ a1 ∧ a1 < (Mq.1 23 2).toInt) ∧ (0 ≤ a2 ∧ a2 ≤ 7 ∧ 0 < (Mq.1 20 a2.toNat).toInt))) ∨ (¬ (0 ≤ a3 ∧ a3 ≤ 999)) ∨ ((Mq.1 0 7).toInt = 0) ∨ (12 ≤ (Mq.1 40 5).toInt)) → ∀ j, M'.1 45 j = cpR (Mq.1 46) (Mq.1 45) ((Mq.1 40 5).toInt * 24).toNat ((Mq.1 0 7).toInt).toNat j))) ∧ Iv TX M' ∧ Fr W_X6_record_E Mq M') := by
  refine ctr_of (L := [(0, .ref (ad 0)), (1, .int x1), (2, .int x2), (3, .int x3)]) (by decide) (Nat.le_of_ble_eq_true rfl) rfl ?_
  intro Γ X
  have X : gX Γ cX6_record RX6 4 (some .int) 2 ad _ := X
  have frq0 : Fr W_X6_record_E Mq Mq := Fr.rf
  have g23_2 := ig_23_2 Iq0
  have g0_7 := ig_0_7 Iq0
  have g40_5 := ig_40_5 Iq0
  refine g_aload_n X 0 rfl dX6_record_0 ?_
  refine g_getr X f_X6_26 dX6_record_1 ?_
  refine g_iload_n X 1 rfl dX6_record_4 ?_
  refine g_callV X m_X6_159 (c_X0_isSinger ad Mq x1 t1) rfl (by decide) (Nat.le_of_ble_eq_true rfl) rfl dX6_record_5 ?_
  rintro _ _ ⟨rq1, aq2, rfl, tq3, hq4, rfl⟩
  show G Γ Mq 8 [(0, .ref (ad 0)), (1, .int x1), (2, .int x2), (3, .int x3)] [.int rq1]
  refine g_if_eq X tq3 (tgt := 22) dX6_record_8 (by decide) (fun cq5 => ?_) (fun cq5 => ?_)
  · have pq6 : ¬ (0 ≤ a1 ∧ a1 < ((Mq.1 23 2)).toInt) := by first | omega | (rcases hq4 with ⟨z1, z2⟩ | ⟨z1, z2⟩ <;> first | exact z2 | (exfalso; omega))
    refine g_iconst X (-1) dX6_record_22 (by decide) ?_
    exact g_iret X dX6_record_23 ⟨_, _, rfl, (show ((-1) : Int32).toInt = (-1) by decide), (by omega), (⟨by first | omega | (have z := trivial.1; omega), ⟨fun h => by first | rfl | exact absurd h (by omega), fun h => by first | exact trivial.2.1 | exact absurd (by omega) h⟩, ⟨fun h => by first | rfl | exact absurd h (by omega), fun h => by first | exact trivial.2.2.1 | exact absurd (by omega) h⟩, ⟨fun h => by first | rfl | exact absurd h (by omega), fun h => by first | exact trivial.2.2.2.1 | exact absurd (by omega) h⟩, ⟨fun h => by first | rfl | exact absurd h (by omega), fun h => by first | exact trivial.2.2.2.2.1 | exact absurd (by omega) h⟩, ⟨fun h => by first | rfl | exact absurd h (by omega), fun h => by first | exact trivial.2.2.2.2.2 | exact absurd (by omega) h⟩⟩), Iq0, frq0⟩
  · have pq7 : (0 ≤ a1 ∧ a1 < ((Mq.1 23 2)).toInt) := by first | omega | (rcases hq4 with ⟨z1, z2⟩ | ⟨z1, z2⟩ <;> first | exact z2 | (exfalso; omega))
    refine g_aload_n X 0 rfl dX6_record_11 ?_
    refine g_getr X f_X6_19 dX6_record_12 ?_
    refine g_iload_n X 2 rfl dX6_record_15 ?_
    refine g_callV X m_X6_156 (c_X2_isTold ad Mq x2 t2) rfl (by decide) (Nat.le_of_ble_eq_true rfl) rfl dX6_record_16 ?_
    rintro _ _ ⟨rq8, aq9, rfl, tq10, hq11, rfl⟩
    show G Γ Mq 19 [(0, .ref (ad 0)), (1, .int x1), (2, .int x2), (3, .int x3)] [.int rq8]
    refine g_if_ne X tq10 (tgt := 24) dX6_record_19 (by decide) (fun cq12 => ?_) (fun cq12 => ?_)
    · have pq13 : (0 ≤ a2 ∧ a2 < 8 ∧ 0 < (Mq.1 20 a2.toNat).toInt) := by first | omega | (rcases hq11 with ⟨z1, z2⟩ | ⟨z1, z2⟩ <;> first | exact z2 | (exfalso; omega))
      refine g_iload_n X 3 rfl dX6_record_24 ?_
      refine g_callS X m_X6_162 (c_X6_isYear ad Mq x3 t3) rfl (by decide) (Nat.le_of_ble_eq_true rfl) rfl dX6_record_25 ?_
      rintro _ _ ⟨rq14, aq15, rfl, tq16, hq17, rfl⟩
      show G Γ Mq 28 [(0, .ref (ad 0)), (1, .int x1), (2, .int x2), (3, .int x3)] [.int rq14]
      refine g_if_ne X tq16 (tgt := 34) dX6_record_28 (by decide) (fun cq18 => ?_) (fun cq18 => ?_)
      · have pq19 : (0 ≤ a3 ∧ a3 ≤ 999) := by first | omega | (rcases hq17 with ⟨z1, z2⟩ | ⟨z1, z2⟩ <;> first | exact z2 | (exfalso; omega))
        refine g_aload_n X 0 rfl dX6_record_34 ?_
        refine g_geti X f_X6_57 dX6_record_35 (x := Mq.1 0 7) rfl ?_
        have bq20 := ig_0_7 Iq0
        refine g_if_ne X rfl (tgt := 44) dX6_record_38 (by decide) (fun cq21 => ?_) (fun cq21 => ?_)
        · refine g_aload_n X 0 rfl dX6_record_44 ?_
          refine g_getr X f_X6_49 dX6_record_45 ?_
          refine g_geti X f_X6_244 dX6_record_48 (x := Mq.1 40 5) rfl ?_
          have bq22 := ig_40_5 Iq0
          refine g_bipush X 12 dX6_record_51 (by decide) ?_
          refine g_icmp_lt X rfl (show (12 : Int32).toInt = 12 by decide) (tgt := 59) dX6_record_53 (by decide) (fun cq23 => ?_) (fun cq23 => ?_)
          · refine g_aload_n X 0 rfl dX6_record_59 ?_
            refine g_getr X f_X6_49 dX6_record_60 ?_
            refine g_iload_n X 1 rfl dX6_record_63 ?_
            refine g_iload_n X 2 rfl dX6_record_64 ?_
            refine g_iload_n X 3 rfl dX6_record_65 ?_
            refine g_aload_n X 0 rfl dX6_record_66 ?_
            refine g_getr X f_X6_53 dX6_record_67 ?_
            refine g_aload_n X 0 rfl dX6_record_70 ?_
            refine g_geti X f_X6_57 dX6_record_71 (x := Mq.1 0 7) rfl ?_
            have bq24 := ig_0_7 Iq0
            refine g_callV X m_X6_247 (c_X3_addRecording_46_E ad Mq x1 t1 x2 t2 x3 t3 (Mq.1 0 7) rfl Iq0 (by omega) (by omega) (by omega)) rfl (by decide) (Nat.le_of_ble_eq_true rfl) rfl dX6_record_74 ?_
            rintro _ Mq30 ⟨rq25, aq26, rfl, tq27, hq28, hq29, Iq31, frq32⟩
            have frq33 : Fr W_X6_record_E Mq Mq30 := frq0.trans frq32 rfl
            show G Γ Mq30 77 [(0, .ref (ad 0)), (1, .int x1), (2, .int x2), (3, .int x3)] [.int rq25]
            exact g_iret X dX6_record_77 ⟨_, _, rfl, tq27, (by omega), (⟨by first | omega | (have z := hq29.1; omega), ⟨fun h => by first | rfl | exact absurd h (by omega), fun h => by first | exact hq29.2.1 | exact absurd (by omega) h⟩, ⟨fun h => by first | rfl | exact absurd h (by omega), fun h => by first | exact hq29.2.2.1 | exact absurd (by omega) h⟩, ⟨fun h => by first | rfl | exact absurd h (by omega), fun h => by first | exact hq29.2.2.2.1 | exact absurd (by omega) h⟩, ⟨fun h => by first | rfl | exact absurd h (by omega), fun h => by first | exact hq29.2.2.2.2.1 | exact absurd (by omega) h⟩, ⟨fun h => by first | rfl | exact absurd h (by omega), fun h => by first | exact hq29.2.2.2.2.2 | exact absurd (by omega) h⟩⟩), Iq31, frq33⟩
          · refine g_bipush X (-4) dX6_record_56 (by decide) ?_
            exact g_iret X dX6_record_58 ⟨_, _, rfl, (show ((-4) : Int32).toInt = (-4) by decide), (by omega), (⟨by first | omega | (have z := trivial.1; omega), ⟨fun h => by first | rfl | exact absurd h (by omega), fun h => by first | exact trivial.2.1 | exact absurd (by omega) h⟩, ⟨fun h => by first | rfl | exact absurd h (by omega), fun h => by first | exact trivial.2.2.1 | exact absurd (by omega) h⟩, ⟨fun h => by first | rfl | exact absurd h (by omega), fun h => by first | exact trivial.2.2.2.1 | exact absurd (by omega) h⟩, ⟨fun h => by first | rfl | exact absurd h (by omega), fun h => by first | exact trivial.2.2.2.2.1 | exact absurd (by omega) h⟩, ⟨fun h => by first | rfl | exact absurd h (by omega), fun h => by first | exact trivial.2.2.2.2.2 | exact absurd (by omega) h⟩⟩), Iq0, frq0⟩
        · refine g_bipush X (-3) dX6_record_41 (by decide) ?_
          exact g_iret X dX6_record_43 ⟨_, _, rfl, (show ((-3) : Int32).toInt = (-3) by decide), (by omega), (⟨by first | omega | (have z := trivial.1; omega), ⟨fun h => by first | rfl | exact absurd h (by omega), fun h => by first | exact trivial.2.1 | exact absurd (by omega) h⟩, ⟨fun h => by first | rfl | exact absurd h (by omega), fun h => by first | exact trivial.2.2.1 | exact absurd (by omega) h⟩, ⟨fun h => by first | rfl | exact absurd h (by omega), fun h => by first | exact trivial.2.2.2.1 | exact absurd (by omega) h⟩, ⟨fun h => by first | rfl | exact absurd h (by omega), fun h => by first | exact trivial.2.2.2.2.1 | exact absurd (by omega) h⟩, ⟨fun h => by first | rfl | exact absurd h (by omega), fun h => by first | exact trivial.2.2.2.2.2 | exact absurd (by omega) h⟩⟩), Iq0, frq0⟩
      · have pq34 : ¬ (0 ≤ a3 ∧ a3 ≤ 999) := by first | omega | (rcases hq17 with ⟨z1, z2⟩ | ⟨z1, z2⟩ <;> first | exact z2 | (exfalso; omega))
        refine g_bipush X (-2) dX6_record_31 (by decide) ?_
        exact g_iret X dX6_record_33 ⟨_, _, rfl, (show ((-2) : Int32).toInt = (-2) by decide), (by omega), (⟨by first | omega | (have z := trivial.1; omega), ⟨fun h => by first | rfl | exact absurd h (by omega), fun h => by first | exact trivial.2.1 | exact absurd (by omega) h⟩, ⟨fun h => by first | rfl | exact absurd h (by omega), fun h => by first | exact trivial.2.2.1 | exact absurd (by omega) h⟩, ⟨fun h => by first | rfl | exact absurd h (by omega), fun h => by first | exact trivial.2.2.2.1 | exact absurd (by omega) h⟩, ⟨fun h => by first | rfl | exact absurd h (by omega), fun h => by first | exact trivial.2.2.2.2.1 | exact absurd (by omega) h⟩, ⟨fun h => by first | rfl | exact absurd h (by omega), fun h => by first | exact trivial.2.2.2.2.2 | exact absurd (by omega) h⟩⟩), Iq0, frq0⟩
    · have pq35 : ¬ (0 ≤ a2 ∧ a2 < 8 ∧ 0 < (Mq.1 20 a2.toNat).toInt) := by first | omega | (rcases hq11 with ⟨z1, z2⟩ | ⟨z1, z2⟩ <;> first | exact z2 | (exfalso; omega))
      refine g_iconst X (-1) dX6_record_22 (by decide) ?_
      exact g_iret X dX6_record_23 ⟨_, _, rfl, (show ((-1) : Int32).toInt = (-1) by decide), (by omega), (⟨by first | omega | (have z := trivial.1; omega), ⟨fun h => by first | rfl | exact absurd h (by omega), fun h => by first | exact trivial.2.1 | exact absurd (by omega) h⟩, ⟨fun h => by first | rfl | exact absurd h (by omega), fun h => by first | exact trivial.2.2.1 | exact absurd (by omega) h⟩, ⟨fun h => by first | rfl | exact absurd h (by omega), fun h => by first | exact trivial.2.2.2.1 | exact absurd (by omega) h⟩, ⟨fun h => by first | rfl | exact absurd h (by omega), fun h => by first | exact trivial.2.2.2.2.1 | exact absurd (by omega) h⟩, ⟨fun h => by first | rfl | exact absurd h (by omega), fun h => by first | exact trivial.2.2.2.2.2 | exact absurd (by omega) h⟩⟩), Iq0, frq0⟩
abbrev W_X7_record_E : List (Nat × Nat) := [(47, 59), (86, 99), (87, 99), (88, 99), (89, 99), (90, 99)]
set_option maxHeartbeats 4000000 in
set_option maxRecDepth 4000 in
theorem c_X7_record_E (ad : Nat → Nat) (Mq : Mem) (x1 : Int32) {a1 : Int} (t1 : x1.toInt = a1) (x2 : Int32) {a2 : Int} (t2 : x2.toInt = a2) (x3 : Int32) {a3 : Int} (t3 : x3.toInt = a3) (Iq0 : Iv TM Mq) : Ctr ad yX7_record cX7_record 5 (some .int) 2 [.ref (ad 47), .int x1, .int x2, .int x3] Mq (fun v M' => ∃ (r : Int32) (a : Int), v = some (.int r) ∧ r.toInt = a ∧ (((¬ ((0 ≤ a1 ∧ a1 < (Mq.1 47 52).toInt) ∧ (0 ≤ a2 ∧ a2 ≤ 7 ∧ 0 < (Mq.1 63 a2.toNat).toInt))) ∧ (a = -1)) ∨ (¬ (¬ ((0 ≤ a1 ∧ a1 < (Mq.1 47 52).toInt) ∧ (0 ≤ a2 ∧ a2 ≤ 7 ∧ 0 < (Mq.1 63 a2.toNat).toInt))) ∧ (¬ (0 ≤ a3 ∧ a3 ≤ 999)) ∧ (a = -2)) ∨ (¬ (¬ ((0 ≤ a1 ∧ a1 < (Mq.1 47 52).toInt) ∧ (0 ≤ a2 ∧ a2 ≤ 7 ∧ 0 < (Mq.1 63 a2.toNat).toInt))) ∧ ¬ (¬ (0 ≤ a3 ∧ a3 ≤ 999)) ∧ ((Mq.1 47 43).toInt = 0) ∧ (a = -3)) ∨ (¬ (¬ ((0 ≤ a1 ∧ a1 < (Mq.1 47 52).toInt) ∧ (0 ≤ a2 ∧ a2 ≤ 7 ∧ 0 < (Mq.1 63 a2.toNat).toInt))) ∧ ¬ (¬ (0 ≤ a3 ∧ a3 ≤ 999)) ∧ ¬ ((Mq.1 47 43).toInt = 0) ∧ (12 ≤ (Mq.1 47 59).toInt) ∧ (a = -4)) ∨ (¬ (¬ ((0 ≤ a1 ∧ a1 < (Mq.1 47 52).toInt) ∧ (0 ≤ a2 ∧ a2 ≤ 7 ∧ 0 < (Mq.1 63 a2.toNat).toInt))) ∧ ¬ (¬ (0 ≤ a3 ∧ a3 ≤ 999)) ∧ ¬ ((Mq.1 47 43).toInt = 0) ∧ ¬ (12 ≤ (Mq.1 47 59).toInt) ∧ (a = (Mq.1 47 59).toInt))) ∧ (((((¬ ((0 ≤ a1 ∧ a1 < (Mq.1 47 52).toInt) ∧ (0 ≤ a2 ∧ a2 ≤ 7 ∧ 0 < (Mq.1 63 a2.toNat).toInt))) ∨ (¬ (0 ≤ a3 ∧ a3 ≤ 999)) ∨ ((Mq.1 47 43).toInt = 0) ∨ (12 ≤ (Mq.1 47 59).toInt)) ∧ (M'.1 47 59).toInt = (Mq.1 47 59).toInt) ∨ (¬ ((¬ ((0 ≤ a1 ∧ a1 < (Mq.1 47 52).toInt) ∧ (0 ≤ a2 ∧ a2 ≤ 7 ∧ 0 < (Mq.1 63 a2.toNat).toInt))) ∨ (¬ (0 ≤ a3 ∧ a3 ≤ 999)) ∨ ((Mq.1 47 43).toInt = 0) ∨ (12 ≤ (Mq.1 47 59).toInt)) ∧ (M'.1 47 59).toInt = (Mq.1 47 59).toInt + 1)) ∧ ((((¬ ((0 ≤ a1 ∧ a1 < (Mq.1 47 52).toInt) ∧ (0 ≤ a2 ∧ a2 ≤ 7 ∧ 0 < (Mq.1 63 a2.toNat).toInt))) ∨ (¬ (0 ≤ a3 ∧ a3 ≤ 999)) ∨ ((Mq.1 47 43).toInt = 0) ∨ (12 ≤ (Mq.1 47 59).toInt)) → M'.1 86 = Mq.1 86) ∧ (¬ ((¬ ((0 ≤ a1 ∧ a1 < (Mq.1 47 52).toInt) ∧ (0 ≤ a2 ∧ a2 ≤ 7 ∧ 0 < (Mq.1 63 a2.toNat).toInt))) ∨ (¬ (0 ≤ a3 ∧ a3 ≤ 999)) ∨ ((Mq.1 47 43).toInt = 0) ∨ (12 ≤ (Mq.1 47 59).toInt)) → M'.1 86 = (ui Mq 86 ((Mq.1 47 59).toInt).toNat x1).1 86)) ∧ ((((¬ ((0 ≤ a1 ∧ a1 < (Mq.1 47 52).toInt) ∧ (0 ≤ a2 ∧ a2 ≤ 7 ∧ 0 < (Mq.1 63 a2.toNat).toInt))) ∨ (¬ (0 ≤ a3 ∧ a3 ≤ 999)) ∨ ((Mq.1 47 43).toInt = 0) ∨ (12 ≤ (Mq.1 47 59).toInt)) → M'.1 87 = Mq.1 87) ∧ (¬ ((¬ ((0 ≤ a1 ∧ a1 < (Mq.1 47 52).toInt) ∧ (0 ≤ a2 ∧ a2 ≤ 7 ∧ 0 < (Mq.1 63 a2.toNat).toInt))) ∨ (¬ (0 ≤ a3 ∧ a3 ≤ 999)) ∨ ((Mq.1 47 43).toInt = 0) ∨ (12 ≤ (Mq.1 47 59).toInt)) → M'.1 87 = (ui Mq 87 ((Mq.1 47 59).toInt).toNat x2).1 87)) ∧ ((((¬ ((0 ≤ a1 ∧ a1 < (Mq.1 47 52).toInt) ∧ (0 ≤ a2 ∧ a2 ≤ 7 ∧ 0 < (Mq.1 63 a2.toNat).toInt))) ∨ (¬ (0 ≤ a3 ∧ a3 ≤ 999)) ∨ ((Mq.1 47 43).toInt = 0) ∨ (12 ≤ (Mq.1 47 59).toInt)) → M'.1 88 = Mq.1 88) ∧ (¬ ((¬ ((0 ≤ a1 ∧ a1 < (Mq.1 47 52).toInt) ∧ (0 ≤ a2 ∧ a2 ≤ 7 ∧ 0 < (Mq.1 63 a2.toNat).toInt))) ∨ (¬ (0 ≤ a3 ∧ a3 ≤ 999)) ∨ ((Mq.1 47 43).toInt = 0) ∨ (12 ≤ (Mq.1 47 59).toInt)) → M'.1 88 = (ui Mq 88 ((Mq.1 47 59).toInt).toNat x3).1 88)) ∧ ((((¬ ((0 ≤ a1 ∧ a1 < (Mq.1 47 52).toInt) ∧ (0 ≤ a2 ∧ a2 ≤ 7 ∧ 0 < (Mq.1 63 a2.toNat).toInt))) ∨ (¬ (0 ≤ a3 ∧ a3 ≤ 999)) ∨ ((Mq.1 47 43).toInt = 0) ∨ (12 ≤ (Mq.1 47 59).toInt)) → M'.1 89 = Mq.1 89) ∧ (¬ ((¬ ((0 ≤ a1 ∧ a1 < (Mq.1 47 52).toInt) ∧ (0 ≤ a2 ∧ a2 ≤ 7 ∧ 0 < (Mq.1 63 a2.toNat).toInt))) ∨ (¬ (0 ≤ a3 ∧ a3 ≤ 999)) ∨ ((Mq.1 47 43).toInt = 0) ∨ (12 ≤ (Mq.1 47 59).toInt)) → M'.1 89 = (ui Mq 89 ((Mq.1 47 59).toInt).toNat (Mq.1 47 43)).1 89)) ∧ ((((¬ ((0 ≤ a1 ∧ a1 < (Mq.1 47 52).toInt) ∧ (0 ≤ a2 ∧ a2 ≤ 7 ∧ 0 < (Mq.1 63 a2.toNat).toInt))) ∨ (¬ (0 ≤ a3 ∧ a3 ≤ 999)) ∨ ((Mq.1 47 43).toInt = 0) ∨ (12 ≤ (Mq.1 47 59).toInt)) → M'.1 90 = Mq.1 90) ∧ (¬ ((¬ ((0 ≤ a1 ∧ a1 < (Mq.1 47 52).toInt) ∧ (0 ≤ a2 ∧ a2 ≤ 7 ∧ 0 < (Mq.1 63 a2.toNat).toInt))) ∨ (¬ (0 ≤ a3 ∧ a3 ≤ 999)) ∨ ((Mq.1 47 43).toInt = 0) ∨ (12 ≤ (Mq.1 47 59).toInt)) → ∀ j, M'.1 90 j = cpR (Mq.1 77) (Mq.1 90) (24 * (Mq.1 47 59).toInt).toNat ((Mq.1 47 43).toInt).toNat j))) ∧ Iv TM M' ∧ Fr W_X7_record_E Mq M') := by
  refine ctr_of (L := [(0, .ref (ad 47)), (1, .int x1), (2, .int x2), (3, .int x3)]) (by decide) (Nat.le_of_ble_eq_true rfl) rfl ?_
  intro Γ X
  have X : gX Γ cX7_record RX7 5 (some .int) 2 ad _ := X
  have frq0 : Fr W_X7_record_E Mq Mq := Fr.rf
  have g43 := ig_47_43 Iq0
  have g52 := ig_47_52 Iq0
  have g59 := ig_47_59 Iq0
  refine g_aload_n X 0 rfl dX7_record_0 ?_
  refine g_iload_n X 1 rfl dX7_record_1 ?_
  refine g_callV X m_X7_260 (c_X7_isSinger ad Mq x1 t1) rfl (by decide) (Nat.le_of_ble_eq_true rfl) rfl dX7_record_2 ?_
  rintro _ _ ⟨rq1, aq2, rfl, tq3, hq4, rfl⟩
  show G Γ Mq 5 [(0, .ref (ad 47)), (1, .int x1), (2, .int x2), (3, .int x3)] [.int rq1]
  refine g_if_eq X tq3 (tgt := 16) dX7_record_5 (by decide) (fun cq5 => ?_) (fun cq5 => ?_)
  · have pq6 : ¬ (0 ≤ a1 ∧ a1 < ((Mq.1 47 52)).toInt) := by first | omega | (rcases hq4 with ⟨z1, z2⟩ | ⟨z1, z2⟩ <;> first | exact z2 | (exfalso; omega))
    refine g_iconst X (-1) dX7_record_16 (by decide) ?_
    exact g_iret X dX7_record_17 ⟨_, _, rfl, (show ((-1) : Int32).toInt = (-1) by decide), (by omega), (⟨by first | omega | (rw [ui_eq]; omega), ⟨fun h => by first | rfl | exact absurd h (by omega), fun h => by first | (rw [ui_cell (k := 47) (a := 86) (by decide)]; exact i4) | exact absurd (by omega) h⟩, ⟨fun h => by first | rfl | exact absurd h (by omega), fun h => by first | (rw [ui_cell (k := 47) (a := 87) (by decide)]; exact i5) | exact absurd (by omega) h⟩, ⟨fun h => by first | rfl | exact absurd h (by omega), fun h => by first | (rw [ui_cell (k := 47) (a := 88) (by decide)]; exact i6) | exact absurd (by omega) h⟩, ⟨fun h => by first | rfl | exact absurd h (by omega), fun h => by first | (rw [ui_cell (k := 47) (a := 89) (by decide)]; exact i7) | exact absurd (by omega) h⟩, ⟨fun h => by first | rfl | exact absurd h (by omega), fun h => by first | (intro j; rw [ui_cell (k := 47) (a := 90) (by decide), i3 j, show b4_96 = (Mq.1 47 43).toInt by omega]) | exact absurd (by omega) h⟩⟩), Iq0, frq0⟩
  · have pq7 : (0 ≤ a1 ∧ a1 < ((Mq.1 47 52)).toInt) := by first | omega | (rcases hq4 with ⟨z1, z2⟩ | ⟨z1, z2⟩ <;> first | exact z2 | (exfalso; omega))
    refine g_aload_n X 0 rfl dX7_record_8 ?_
    refine g_iload_n X 2 rfl dX7_record_9 ?_
    refine g_callV X m_X7_220 (c_X7_isTold ad Mq x2 t2) rfl (by decide) (Nat.le_of_ble_eq_true rfl) rfl dX7_record_10 ?_
    rintro _ _ ⟨rq8, aq9, rfl, tq10, hq11, rfl⟩
    show G Γ Mq 13 [(0, .ref (ad 47)), (1, .int x1), (2, .int x2), (3, .int x3)] [.int rq8]
    refine g_if_ne X tq10 (tgt := 18) dX7_record_13 (by decide) (fun cq12 => ?_) (fun cq12 => ?_)
    · have pq13 : (0 ≤ a2 ∧ a2 ≤ 7 ∧ 0 < (Mq.1 63 a2.toNat).toInt) := by first | omega | (rcases hq11 with ⟨z1, z2⟩ | ⟨z1, z2⟩ <;> first | exact z2 | (exfalso; omega))
      refine g_iload_n X 3 rfl dX7_record_18 ?_
      refine g_callS X m_X7_263 (c_X7_isYear ad Mq x3 t3) rfl (by decide) (Nat.le_of_ble_eq_true rfl) rfl dX7_record_19 ?_
      rintro _ _ ⟨rq14, aq15, rfl, tq16, hq17, rfl⟩
      show G Γ Mq 22 [(0, .ref (ad 47)), (1, .int x1), (2, .int x2), (3, .int x3)] [.int rq14]
      refine g_if_ne X tq16 (tgt := 28) dX7_record_22 (by decide) (fun cq18 => ?_) (fun cq18 => ?_)
      · have pq19 : (0 ≤ a3 ∧ a3 ≤ 999) := by first | omega | (rcases hq17 with ⟨z1, z2⟩ | ⟨z1, z2⟩ <;> first | exact z2 | (exfalso; omega))
        refine g_aload_n X 0 rfl dX7_record_28 ?_
        refine g_geti X f_X7_339 dX7_record_29 (x := Mq.1 47 43) rfl ?_
        have bq20 := ig_47_43 Iq0
        refine g_if_ne X rfl (tgt := 38) dX7_record_32 (by decide) (fun cq21 => ?_) (fun cq21 => ?_)
        · refine g_aload_n X 0 rfl dX7_record_38 ?_
          refine g_geti X f_X7_352 dX7_record_39 (x := Mq.1 47 59) rfl ?_
          have bq22 := ig_47_59 Iq0
          refine g_bipush X 12 dX7_record_42 (by decide) ?_
          refine g_icmp_ne X rfl (show (12 : Int32).toInt = 12 by decide) (tgt := 50) dX7_record_44 (by decide) (fun cq23 => ?_) (fun cq23 => ?_)
          · refine g_aload_n X 0 rfl dX7_record_50 ?_
            refine g_getr X f_X7_129 dX7_record_51 ?_
            refine g_aload_n X 0 rfl dX7_record_54 ?_
            refine g_geti X f_X7_352 dX7_record_55 (x := Mq.1 47 59) rfl ?_
            have bq24 := ig_47_59 Iq0
            refine g_iload_n X 1 rfl dX7_record_58 ?_
            refine g_iast X la_86 rfl dX7_record_59 (by omega) ?_
            have Iq25 : Iv TM (ui Mq 86 (((Mq.1 47 59).toInt).toNat) x1) := Iq0.otherA rfl
            have frq26 : Fr W_X7_record_E Mq (ui Mq 86 (((Mq.1 47 59).toInt).toNat) x1) := frq0.ui rfl
            refine g_aload_n X 0 rfl dX7_record_60 ?_
            refine g_getr X f_X7_132 dX7_record_61 ?_
            refine g_aload_n X 0 rfl dX7_record_64 ?_
            refine g_geti X f_X7_352 dX7_record_65 (x := Mq.1 47 59) rfl ?_
            have bq27 := ig_47_59 Iq0
            refine g_iload_n X 2 rfl dX7_record_68 ?_
            refine g_iast X la_87 rfl dX7_record_69 (by omega) ?_
            have Iq28 : Iv TM (ui (ui Mq 86 (((Mq.1 47 59).toInt).toNat) x1) 87 (((Mq.1 47 59).toInt).toNat) x2) := Iq25.putA 0 7 t2 (by omega) rfl
            have frq29 : Fr W_X7_record_E Mq (ui (ui Mq 86 (((Mq.1 47 59).toInt).toNat) x1) 87 (((Mq.1 47 59).toInt).toNat) x2) := frq26.ui rfl
            refine g_aload_n X 0 rfl dX7_record_70 ?_
            refine g_getr X f_X7_135 dX7_record_71 ?_
            refine g_aload_n X 0 rfl dX7_record_74 ?_
            refine g_geti X f_X7_352 dX7_record_75 (x := Mq.1 47 59) rfl ?_
            have bq30 := ig_47_59 Iq0
            refine g_iload_n X 3 rfl dX7_record_78 ?_
            refine g_iast X la_88 rfl dX7_record_79 (by omega) ?_
            have Iq31 : Iv TM (ui (ui (ui Mq 86 (((Mq.1 47 59).toInt).toNat) x1) 87 (((Mq.1 47 59).toInt).toNat) x2) 88 (((Mq.1 47 59).toInt).toNat) x3) := Iq28.otherA rfl
            have frq32 : Fr W_X7_record_E Mq (ui (ui (ui Mq 86 (((Mq.1 47 59).toInt).toNat) x1) 87 (((Mq.1 47 59).toInt).toNat) x2) 88 (((Mq.1 47 59).toInt).toNat) x3) := frq29.ui rfl
            refine g_aload_n X 0 rfl dX7_record_80 ?_
            refine g_getr X f_X7_138 dX7_record_81 ?_
            refine g_aload_n X 0 rfl dX7_record_84 ?_
            refine g_geti X f_X7_352 dX7_record_85 (x := Mq.1 47 59) rfl ?_
            have bq33 := ig_47_59 Iq0
            refine g_aload_n X 0 rfl dX7_record_88 ?_
            refine g_geti X f_X7_339 dX7_record_89 (x := Mq.1 47 43) rfl ?_
            have bq34 := ig_47_43 Iq0
            refine g_iast X la_89 rfl dX7_record_92 (by omega) ?_
            have Iq35 : Iv TM (ui (ui (ui (ui Mq 86 (((Mq.1 47 59).toInt).toNat) x1) 87 (((Mq.1 47 59).toInt).toNat) x2) 88 (((Mq.1 47 59).toInt).toNat) x3) 89 (((Mq.1 47 59).toInt).toNat) (Mq.1 47 43)) := Iq31.putA 0 24 rfl (by omega) rfl
            have frq36 : Fr W_X7_record_E Mq (ui (ui (ui (ui Mq 86 (((Mq.1 47 59).toInt).toNat) x1) 87 (((Mq.1 47 59).toInt).toNat) x2) 88 (((Mq.1 47 59).toInt).toNat) x3) 89 (((Mq.1 47 59).toInt).toNat) (Mq.1 47 43)) := frq32.ui rfl
            refine g_iconst X 0 dX7_record_93 (by decide) ?_
            refine g_istore X [(4, .int 0), (0, .ref (ad 47)), (1, .int x1), (2, .int x2), (3, .int x3)] dX7_record_94 (by decide) rfl ?_
            have lp96 : ∀ n : Nat, ∀ (y4_96 : Int32) (b4_96 : Int), y4_96.toInt = b4_96 → ∀ (M_96 : Mem), (0 ≤ b4_96 ∧ b4_96 ≤ (Mq.1 47 43).toInt) → ((M_96.1 47 59).toInt = (Mq.1 47 59).toInt) → (∀ j, M_96.1 90 j = cpR (Mq.1 77) (Mq.1 90) (24 * (Mq.1 47 59).toInt).toNat (b4_96).toNat j) → (M_96.1 86 = (ui Mq 86 ((Mq.1 47 59).toInt).toNat x1).1 86) → (M_96.1 87 = (ui Mq 87 ((Mq.1 47 59).toInt).toNat x2).1 87) → (M_96.1 88 = (ui Mq 88 ((Mq.1 47 59).toInt).toNat x3).1 88) → (M_96.1 89 = (ui Mq 89 ((Mq.1 47 59).toInt).toNat (Mq.1 47 43)).1 89) → (Iv TM M_96) → (Fr W_X7_record_E Mq M_96) → ((Mq.1 47 43).toInt - b4_96).toNat < n → G Γ M_96 96 [(4, .int y4_96), (0, .ref (ad 47)), (1, .int x1), (2, .int x2), (3, .int x3)] [] := by
              intro n
              induction n with
              | zero => intro y4_96 b4_96 e4_96 M_96 i1 i2 i3 i4 i5 i6 i7 I_96 fr_96 hm; exact absurd hm (Nat.not_lt_zero _)
              | succ n ih96 =>
                intro y4_96 b4_96 e4_96 M_96 i1 i2 i3 i4 i5 i6 i7 I_96 fr_96 hm96
                have trq37 : (M_96.1 47 43).toInt = (Mq.1 47 43).toInt := congrArg Int32.toInt (fr_96.at 47 43 rfl)
                have r77 : ∀ j, M_96.1 77 j = Mq.1 77 j := fun j => fr_96.at 77 j rfl
                refine g_iload X 0 rfl dX7_record_96 ?_
                refine g_aload_n X 1 rfl dX7_record_98 ?_
                refine g_geti X f_X7_339 dX7_record_99 (x := M_96.1 47 43) rfl ?_
                have bq38 := ig_47_43 I_96
                refine g_icmp_ge X e4_96 rfl (tgt := 133) dX7_record_102 (by decide) (fun cq39 => ?_) (fun cq39 => ?_)
                · refine g_aload_n X 1 rfl dX7_record_133 ?_
                  refine g_dup X dX7_record_134 rfl ?_
                  refine g_geti X f_X7_352 dX7_record_135 (x := M_96.1 47 59) rfl ?_
                  have bq40 := ig_47_59 I_96
                  refine g_iconst X 1 dX7_record_138 (by decide) ?_
                  refine g_iadd X dX7_record_139 (fun zq41 eq42 => ?_)
                  have tq43 : zq41.toInt = ((M_96.1 47 59).toInt) + 1 := add_nw eq42 rfl (show (1 : Int32).toInt = 1 by decide) (by omega)
                  refine g_puti X p_X7_352 dX7_record_140 ?_
                  have Iq44 : Iv TM (ui M_96 47 59 zq41) := I_96.put 0 12 tq43 (by omega) rfl
                  have frq45 : Fr W_X7_record_E Mq (ui M_96 47 59 zq41) := fr_96.ui rfl
                  refine g_aload_n X 1 rfl dX7_record_143 ?_
                  refine g_geti X f_X7_352 dX7_record_144 (x := zq41) rfl ?_
                  refine g_iconst X 1 dX7_record_147 (by decide) ?_
                  refine g_isub X dX7_record_148 (fun zq46 eq47 => ?_)
                  have tq48 : zq46.toInt = (((M_96.1 47 59).toInt) + 1) - 1 := sub_nw eq47 tq43 (show (1 : Int32).toInt = 1 by decide) (by omega)
                  exact g_iret X dX7_record_149 ⟨_, _, rfl, tq48, (by omega), (⟨by first | omega | (rw [ui_eq]; omega), ⟨fun h => by first | rfl | exact absurd h (by omega), fun h => by first | (rw [ui_cell (k := 47) (a := 86) (by decide)]; exact i4) | exact absurd (by omega) h⟩, ⟨fun h => by first | rfl | exact absurd h (by omega), fun h => by first | (rw [ui_cell (k := 47) (a := 87) (by decide)]; exact i5) | exact absurd (by omega) h⟩, ⟨fun h => by first | rfl | exact absurd h (by omega), fun h => by first | (rw [ui_cell (k := 47) (a := 88) (by decide)]; exact i6) | exact absurd (by omega) h⟩, ⟨fun h => by first | rfl | exact absurd h (by omega), fun h => by first | (rw [ui_cell (k := 47) (a := 89) (by decide)]; exact i7) | exact absurd (by omega) h⟩, ⟨fun h => by first | rfl | exact absurd h (by omega), fun h => by first | (intro j; rw [ui_cell (k := 47) (a := 90) (by decide), i3 j, show b4_96 = (Mq.1 47 43).toInt by omega]) | exact absurd (by omega) h⟩⟩), Iq44, frq45⟩
                · refine g_aload_n X 1 rfl dX7_record_105 ?_
                  refine g_getr X f_X7_141 dX7_record_106 ?_
                  refine g_bipush X 24 dX7_record_109 (by decide) ?_
                  refine g_aload_n X 1 rfl dX7_record_111 ?_
                  refine g_geti X f_X7_352 dX7_record_112 (x := M_96.1 47 59) rfl ?_
                  have bq49 := ig_47_59 I_96
                  refine g_imul X dX7_record_115 (fun zq50 eq51 => ?_)
                  have tq52 : zq50.toInt = 24 * ((M_96.1 47 59).toInt) := mul_nw eq51 (show (24 : Int32).toInt = 24 by decide) rfl (by omega)
                  refine g_iload X 0 rfl dX7_record_116 ?_
                  refine g_iadd X dX7_record_118 (fun zq53 eq54 => ?_)
                  have tq55 : zq53.toInt = (24 * ((M_96.1 47 59).toInt)) + b4_96 := add_nw eq54 tq52 e4_96 (by omega)
                  refine g_aload_n X 1 rfl dX7_record_119 ?_
                  refine g_getr X f_X7_101 dX7_record_120 ?_
                  refine g_iload X 0 rfl dX7_record_123 ?_
                  refine g_iald X la_77 e4_96 dX7_record_125 (by omega) (x := M_96.1 77 b4_96.toNat) rfl ?_
                  have bq56 := ig_77 I_96 b4_96.toNat (by omega)
                  refine g_iast X la_90 tq55 dX7_record_126 (by omega) ?_
                  have Iq57 : Iv TM (ui M_96 90 (((24 * ((M_96.1 47 59).toInt)) + b4_96).toNat) (M_96.1 77 b4_96.toNat)) := I_96.putA 0 40 rfl (by omega) rfl
                  have frq58 : Fr W_X7_record_E Mq (ui M_96 90 (((24 * ((M_96.1 47 59).toInt)) + b4_96).toNat) (M_96.1 77 b4_96.toNat)) := fr_96.ui rfl
                  refine g_iinc X 0 (fun v => [(4, .int v), (0, .ref (ad 47)), (1, .int x1), (2, .int x2), (3, .int x3)]) dX7_record_127 rfl (by decide) (fun _ => rfl) (fun zq59 eq60 => ?_)
                  have tq61 : zq59.toInt = b4_96 + 1 := add_nw eq60 e4_96 (show (Int32.ofInt 1).toInt = 1 by decide) (by omega)
                  refine g_goto X (tgt := 96) dX7_record_130 (by decide) ?_
                  refine g_sub [0, 1, 2, 3, 4] rfl ?_
                  exact ih96 zq59 _ tq61 (ui M_96 90 (((24 * ((M_96.1 47 59).toInt)) + b4_96).toNat) (M_96.1 77 b4_96.toNat)) (by omega) i2 (cpR_s i3 (fun j q => ui_nj q) ui_eq (by omega) (r77 _) (by omega)) (by rw [ui_cell (k := 90) (a := 86) (by decide)]; exact i4) (by rw [ui_cell (k := 90) (a := 87) (by decide)]; exact i5) (by rw [ui_cell (k := 90) (a := 88) (by decide)]; exact i6) (by rw [ui_cell (k := 90) (a := 89) (by decide)]; exact i7) Iq57 frq58 (by omega)
            refine g_sub [0, 1, 2, 3, 4] rfl ?_
            exact lp96 _ 0 _ (show (0 : Int32).toInt = 0 by decide) (ui (ui (ui (ui Mq 86 (((Mq.1 47 59).toInt).toNat) x1) 87 (((Mq.1 47 59).toInt).toNat) x2) 88 (((Mq.1 47 59).toInt).toNat) x3) 89 (((Mq.1 47 59).toInt).toNat) (Mq.1 47 43)) (by omega) rfl (fun j => by rw [ui_cell (k := 89) (a := 90) (by decide), ui_cell (k := 88) (a := 90) (by decide), ui_cell (k := 87) (a := 90) (by decide), ui_cell (k := 86) (a := 90) (by decide)]; exact cpR_0 j) (by funext b; simp [ui]) (by funext b; simp [ui]) (by funext b; simp [ui]) (by funext b; simp [ui]) Iq35 frq36 (Nat.lt_succ_self _)
          · refine g_bipush X (-4) dX7_record_47 (by decide) ?_
            exact g_iret X dX7_record_49 ⟨_, _, rfl, (show ((-4) : Int32).toInt = (-4) by decide), (by omega), (⟨by first | omega | (rw [ui_eq]; omega), ⟨fun h => by first | rfl | exact absurd h (by omega), fun h => by first | (rw [ui_cell (k := 47) (a := 86) (by decide)]; exact i4) | exact absurd (by omega) h⟩, ⟨fun h => by first | rfl | exact absurd h (by omega), fun h => by first | (rw [ui_cell (k := 47) (a := 87) (by decide)]; exact i5) | exact absurd (by omega) h⟩, ⟨fun h => by first | rfl | exact absurd h (by omega), fun h => by first | (rw [ui_cell (k := 47) (a := 88) (by decide)]; exact i6) | exact absurd (by omega) h⟩, ⟨fun h => by first | rfl | exact absurd h (by omega), fun h => by first | (rw [ui_cell (k := 47) (a := 89) (by decide)]; exact i7) | exact absurd (by omega) h⟩, ⟨fun h => by first | rfl | exact absurd h (by omega), fun h => by first | (intro j; rw [ui_cell (k := 47) (a := 90) (by decide), i3 j, show b4_96 = (Mq.1 47 43).toInt by omega]) | exact absurd (by omega) h⟩⟩), Iq0, frq0⟩
        · refine g_bipush X (-3) dX7_record_35 (by decide) ?_
          exact g_iret X dX7_record_37 ⟨_, _, rfl, (show ((-3) : Int32).toInt = (-3) by decide), (by omega), (⟨by first | omega | (rw [ui_eq]; omega), ⟨fun h => by first | rfl | exact absurd h (by omega), fun h => by first | (rw [ui_cell (k := 47) (a := 86) (by decide)]; exact i4) | exact absurd (by omega) h⟩, ⟨fun h => by first | rfl | exact absurd h (by omega), fun h => by first | (rw [ui_cell (k := 47) (a := 87) (by decide)]; exact i5) | exact absurd (by omega) h⟩, ⟨fun h => by first | rfl | exact absurd h (by omega), fun h => by first | (rw [ui_cell (k := 47) (a := 88) (by decide)]; exact i6) | exact absurd (by omega) h⟩, ⟨fun h => by first | rfl | exact absurd h (by omega), fun h => by first | (rw [ui_cell (k := 47) (a := 89) (by decide)]; exact i7) | exact absurd (by omega) h⟩, ⟨fun h => by first | rfl | exact absurd h (by omega), fun h => by first | (intro j; rw [ui_cell (k := 47) (a := 90) (by decide), i3 j, show b4_96 = (Mq.1 47 43).toInt by omega]) | exact absurd (by omega) h⟩⟩), Iq0, frq0⟩
      · have pq62 : ¬ (0 ≤ a3 ∧ a3 ≤ 999) := by first | omega | (rcases hq17 with ⟨z1, z2⟩ | ⟨z1, z2⟩ <;> first | exact z2 | (exfalso; omega))
        refine g_bipush X (-2) dX7_record_25 (by decide) ?_
        exact g_iret X dX7_record_27 ⟨_, _, rfl, (show ((-2) : Int32).toInt = (-2) by decide), (by omega), (⟨by first | omega | (rw [ui_eq]; omega), ⟨fun h => by first | rfl | exact absurd h (by omega), fun h => by first | (rw [ui_cell (k := 47) (a := 86) (by decide)]; exact i4) | exact absurd (by omega) h⟩, ⟨fun h => by first | rfl | exact absurd h (by omega), fun h => by first | (rw [ui_cell (k := 47) (a := 87) (by decide)]; exact i5) | exact absurd (by omega) h⟩, ⟨fun h => by first | rfl | exact absurd h (by omega), fun h => by first | (rw [ui_cell (k := 47) (a := 88) (by decide)]; exact i6) | exact absurd (by omega) h⟩, ⟨fun h => by first | rfl | exact absurd h (by omega), fun h => by first | (rw [ui_cell (k := 47) (a := 89) (by decide)]; exact i7) | exact absurd (by omega) h⟩, ⟨fun h => by first | rfl | exact absurd h (by omega), fun h => by first | (intro j; rw [ui_cell (k := 47) (a := 90) (by decide), i3 j, show b4_96 = (Mq.1 47 43).toInt by omega]) | exact absurd (by omega) h⟩⟩), Iq0, frq0⟩
    · have pq63 : ¬ (0 ≤ a2 ∧ a2 ≤ 7 ∧ 0 < (Mq.1 63 a2.toNat).toInt) := by first | omega | (rcases hq11 with ⟨z1, z2⟩ | ⟨z1, z2⟩ <;> first | exact z2 | (exfalso; omega))
      refine g_iconst X (-1) dX7_record_16 (by decide) ?_
      exact g_iret X dX7_record_17 ⟨_, _, rfl, (show ((-1) : Int32).toInt = (-1) by decide), (by omega), (⟨by first | omega | (rw [ui_eq]; omega), ⟨fun h => by first | rfl | exact absurd h (by omega), fun h => by first | (rw [ui_cell (k := 47) (a := 86) (by decide)]; exact i4) | exact absurd (by omega) h⟩, ⟨fun h => by first | rfl | exact absurd h (by omega), fun h => by first | (rw [ui_cell (k := 47) (a := 87) (by decide)]; exact i5) | exact absurd (by omega) h⟩, ⟨fun h => by first | rfl | exact absurd h (by omega), fun h => by first | (rw [ui_cell (k := 47) (a := 88) (by decide)]; exact i6) | exact absurd (by omega) h⟩, ⟨fun h => by first | rfl | exact absurd h (by omega), fun h => by first | (rw [ui_cell (k := 47) (a := 89) (by decide)]; exact i7) | exact absurd (by omega) h⟩, ⟨fun h => by first | rfl | exact absurd h (by omega), fun h => by first | (intro j; rw [ui_cell (k := 47) (a := 90) (by decide), i3 j, show b4_96 = (Mq.1 47 43).toInt by omega]) | exact absurd (by omega) h⟩⟩), Iq0, frq0⟩
end
