section
def cntL (M : Mem) (s : Int) : Nat → Int
  | 0 => 0
  | l + 1 => cntL M s l + (if (M.1 85 l).toInt ≠ 0 ∧ (M.1 55 l).toInt = s then 1 else 0)
theorem cntL_y {M : Mem} {s n l : Int} (h : n = cntL M s l.toNat) (hl : 0 ≤ l) (h1 : (M.1 85 l.toNat).toInt ≠ 0) (h2 : (M.1 55 l.toNat).toInt = s) : n + 1 = cntL M s (l + 1).toNat := by
  rw [show (l + 1).toNat = l.toNat + 1 by omega]
  show _ = cntL M s l.toNat + _
  rw [if_pos ⟨h1, h2⟩]; omega
theorem cntL_n {M : Mem} {s n l : Int} (h : n = cntL M s l.toNat) (hl : 0 ≤ l) (h1 : ¬ ((M.1 85 l.toNat).toInt ≠ 0 ∧ (M.1 55 l.toNat).toInt = s)) : n + 0 = cntL M s (l + 1).toNat := by
  rw [show (l + 1).toNat = l.toNat + 1 by omega]
  show _ = cntL M s l.toNat + _
  rw [if_neg h1]; omega
theorem cntL_step (M : Mem) (s : Int) (l : Nat) : cntL M s l ≤ cntL M s (l + 1) ∧ cntL M s (l + 1) ≤ cntL M s l + 1 := by
  show _ ≤ cntL M s l + _ ∧ cntL M s l + _ ≤ _
  split <;> omega
theorem cntL_rng (M : Mem) (s : Int) : ∀ l : Nat, 0 ≤ cntL M s l ∧ cntL M s l ≤ l
  | 0 => ⟨Int.le_refl _, Int.le_refl _⟩
  | l + 1 => by
    have h1 := cntL_rng M s l
    have h2 := cntL_step M s l
    omega
theorem cntL_mono (M : Mem) (s : Int) (l : Nat) : ∀ n : Nat, cntL M s l ≤ cntL M s (l + n)
  | 0 => Int.le_refl _
  | n + 1 => Int.le_trans (cntL_mono M s l n) (cntL_step M s (l + n)).1
theorem cntL_lt {M : Mem} {s a : Int} {l n : Nat} (h1 : cntL M s l ≤ a) (h2 : a < cntL M s n) : l < n := by
  apply Classical.byContradiction
  intro z
  have := cntL_mono M s n (l - n)
  rw [show n + (l - n) = l by omega] at this
  omega
set_option maxHeartbeats 4000000 in
set_option maxRecDepth 4000 in
theorem c_X7_linesOf (ad : Nat → Nat) (Mq : Mem) (x1 : Int32) {a1 : Int} (t1 : x1.toInt = a1) (Iq0 : Iv TM Mq) : Ctr ad yX7_linesOf cX7_linesOf 4 (some .int) 0 [.ref (ad 47), .int x1] Mq (fun v M' => ∃ (r : Int32) (a : Int), v = some (.int r) ∧ r.toInt = a ∧ (a = cntL Mq a1 ((Mq.1 47 12).toInt).toNat ∧ 0 ≤ a ∧ a ≤ 40) ∧ Mq = M') := by
  refine ctr_of (L := [(0, .ref (ad 47)), (1, .int x1)]) (by decide) (Nat.le_of_ble_eq_true rfl) rfl ?_
  intro Γ X
  have X : gX Γ cX7_linesOf RX7 4 (some .int) 0 ad _ := X
  have g12 := ig_47_12 Iq0
  have g24 := ig_47_24 Iq0
  have g44 := ig_47_44 Iq0
  refine g_iconst X 0 dX7_linesOf_0 (by decide) ?_
  refine g_istore_n X (i := 2) [(2, .int 0), (0, .ref (ad 47)), (1, .int x1)] dX7_linesOf_1 rfl (by decide) rfl ?_
  refine g_iconst X 0 dX7_linesOf_2 (by decide) ?_
  refine g_istore_n X (i := 3) [(3, .int 0), (2, .int 0), (0, .ref (ad 47)), (1, .int x1)] dX7_linesOf_3 rfl (by decide) rfl ?_
  have lp4 : ∀ n : Nat, ∀ (y3_4 : Int32) (b3_4 : Int), y3_4.toInt = b3_4 → ∀ (y2_4 : Int32) (b2_4 : Int), y2_4.toInt = b2_4 → (0 ≤ b3_4 ∧ b3_4 ≤ (Mq.1 47 12).toInt) → (b2_4 = cntL Mq a1 (b3_4).toNat) → ((Mq.1 47 12).toInt - b3_4).toNat < n → G Γ Mq 4 [(3, .int y3_4), (2, .int y2_4), (0, .ref (ad 47)), (1, .int x1)] [] := by
    intro n
    induction n with
    | zero => intro y3_4 b3_4 e3_4 y2_4 b2_4 e2_4 i1 i2 hm; exact absurd hm (Nat.not_lt_zero _)
    | succ n ih4 =>
      intro y3_4 b3_4 e3_4 y2_4 b2_4 e2_4 i1 i2 hm4
      have hcr := cntL_rng Mq a1 (b3_4).toNat
      refine g_iload_n X 0 rfl dX7_linesOf_4 ?_
      refine g_aload_n X 2 rfl dX7_linesOf_5 ?_
      refine g_geti X f_X7_147 dX7_linesOf_6 (x := Mq.1 47 12) rfl ?_
      have bq1 := ig_47_12 Iq0
      refine g_icmp_ge X e3_4 rfl (tgt := 45) dX7_linesOf_9 (by decide) (fun cq2 => ?_) (fun cq2 => ?_)
      · refine g_iload_n X 1 rfl dX7_linesOf_45 ?_
        exact g_iret X dX7_linesOf_46 ⟨_, _, rfl, e2_4, ⟨(by have e : b3_4 = (Mq.1 47 12).toInt := (by omega); rw [← e]; exact i2), by omega, by omega⟩, rfl⟩
      · refine g_iload_n X 1 rfl dX7_linesOf_12 ?_
        refine g_aload_n X 2 rfl dX7_linesOf_13 ?_
        refine g_getr X f_X7_126 dX7_linesOf_14 ?_
        refine g_iload_n X 0 rfl dX7_linesOf_17 ?_
        refine g_zald X la_85 e3_4 dX7_linesOf_18 (by omega) (x := Mq.1 85 b3_4.toNat) rfl ?_
        have bq3 := ig_85 Iq0 b3_4.toNat (by omega)
        refine g_if_eq X rfl (tgt := 36) dX7_linesOf_19 (by decide) (fun cq4 => ?_) (fun cq4 => ?_)
        · refine g_iconst X 0 dX7_linesOf_36 (by decide) ?_
          refine g_iadd X dX7_linesOf_37 (fun zq5 eq6 => ?_)
          have tq7 : zq5.toInt = b2_4 + 0 := add_nw eq6 e2_4 (show (0 : Int32).toInt = 0 by decide) (by omega)
          refine g_istore_n X (i := 2) [(2, .int zq5), (3, .int y3_4), (0, .ref (ad 47)), (1, .int x1)] dX7_linesOf_38 rfl (by decide) rfl ?_
          refine g_iinc X 1 (fun v => [(3, .int v), (2, .int zq5), (0, .ref (ad 47)), (1, .int x1)]) dX7_linesOf_39 rfl (by decide) (fun _ => rfl) (fun zq8 eq9 => ?_)
          have tq10 : zq8.toInt = b3_4 + 1 := add_nw eq9 e3_4 (show (Int32.ofInt 1).toInt = 1 by decide) (by omega)
          refine g_goto X (tgt := 4) dX7_linesOf_42 (by decide) ?_
          refine g_sub [0, 1, 2, 3] rfl ?_
          exact ih4 zq8 _ tq10 zq5 _ tq7 (by omega) (by first | exact cntL_y i2 i1.1 (by omega) (by omega) | exact cntL_n i2 i1.1 (by omega)) (by omega)
        · refine g_aload_n X 2 rfl dX7_linesOf_22 ?_
          refine g_getr X f_X7_31 dX7_linesOf_23 ?_
          refine g_iload_n X 0 rfl dX7_linesOf_26 ?_
          refine g_iald X la_55 e3_4 dX7_linesOf_27 (by omega) (x := Mq.1 55 b3_4.toNat) rfl ?_
          refine g_iload_n X 3 rfl dX7_linesOf_28 ?_
          refine g_icmp_ne X rfl t1 (tgt := 36) dX7_linesOf_29 (by decide) (fun cq11 => ?_) (fun cq11 => ?_)
          · refine g_iconst X 0 dX7_linesOf_36 (by decide) ?_
            refine g_iadd X dX7_linesOf_37 (fun zq12 eq13 => ?_)
            have tq14 : zq12.toInt = b2_4 + 0 := add_nw eq13 e2_4 (show (0 : Int32).toInt = 0 by decide) (by omega)
            refine g_istore_n X (i := 2) [(2, .int zq12), (3, .int y3_4), (0, .ref (ad 47)), (1, .int x1)] dX7_linesOf_38 rfl (by decide) rfl ?_
            refine g_iinc X 1 (fun v => [(3, .int v), (2, .int zq12), (0, .ref (ad 47)), (1, .int x1)]) dX7_linesOf_39 rfl (by decide) (fun _ => rfl) (fun zq15 eq16 => ?_)
            have tq17 : zq15.toInt = b3_4 + 1 := add_nw eq16 e3_4 (show (Int32.ofInt 1).toInt = 1 by decide) (by omega)
            refine g_goto X (tgt := 4) dX7_linesOf_42 (by decide) ?_
            refine g_sub [0, 1, 2, 3] rfl ?_
            exact ih4 zq15 _ tq17 zq12 _ tq14 (by omega) (by first | exact cntL_y i2 i1.1 (by omega) (by omega) | exact cntL_n i2 i1.1 (by omega)) (by omega)
          · refine g_iconst X 1 dX7_linesOf_32 (by decide) ?_
            refine g_goto X (tgt := 37) dX7_linesOf_33 (by decide) ?_
            refine g_iadd X dX7_linesOf_37 (fun zq18 eq19 => ?_)
            have tq20 : zq18.toInt = b2_4 + 1 := add_nw eq19 e2_4 (show (1 : Int32).toInt = 1 by decide) (by omega)
            refine g_istore_n X (i := 2) [(2, .int zq18), (3, .int y3_4), (0, .ref (ad 47)), (1, .int x1)] dX7_linesOf_38 rfl (by decide) rfl ?_
            refine g_iinc X 1 (fun v => [(3, .int v), (2, .int zq18), (0, .ref (ad 47)), (1, .int x1)]) dX7_linesOf_39 rfl (by decide) (fun _ => rfl) (fun zq21 eq22 => ?_)
            have tq23 : zq21.toInt = b3_4 + 1 := add_nw eq22 e3_4 (show (Int32.ofInt 1).toInt = 1 by decide) (by omega)
            refine g_goto X (tgt := 4) dX7_linesOf_42 (by decide) ?_
            refine g_sub [0, 1, 2, 3] rfl ?_
            exact ih4 zq21 _ tq23 zq18 _ tq20 (by omega) (by first | exact cntL_y i2 i1.1 (by omega) (by omega) | exact cntL_n i2 i1.1 (by omega)) (by omega)
  refine g_sub [0, 1, 2, 3] rfl ?_
  exact lp4 _ 0 _ (show (0 : Int32).toInt = 0 by decide) 0 _ (show (0 : Int32).toInt = 0 by decide) (by omega) rfl (Nat.lt_succ_self _)
set_option maxHeartbeats 4000000 in
set_option maxRecDepth 4000 in
theorem c_X7_least (ad : Nat → Nat) (Mq : Mem) (x1 : Int64) {a1 : Int} (t1 : x1.toInt = a1) : Ctr ad yX7_least cX7_least 2 (some .int) 0 [.long x1] Mq (fun v M' => ∃ (r : Int32) (a : Int), v = some (.int r) ∧ r.toInt = a ∧ (True) ∧ Mq = M') := by
  refine ctr_of (L := [(0, .long x1)]) (by decide) (Nat.le_of_ble_eq_true rfl) rfl ?_
  intro Γ X
  have X : gX Γ cX7_least RX7 2 (some .int) 0 ad _ := X
  refine g_lload_n X 0 rfl dX7_least_0 ?_
  refine g_ldc2 X k_X7_279 dX7_least_1 ?_
  refine g_lcmp X t1 (show (1000000 : Int64).toInt = 1000000 by decide) dX7_least_4 (fun zq1 eq2 => ?_)
  refine g_if_le X rfl (tgt := 14) dX7_least_5 (by decide) (fun cq3 => ?_) (fun cq3 => ?_)
  · refine g_lload_n X 0 rfl dX7_least_14 ?_
    refine g_l2i X dX7_least_15 (fun zq4 eq5 => ?_)
    exact g_iret X dX7_least_16 ⟨_, _, rfl, rfl, trivial, rfl⟩
  · refine g_ldcw X k_X7_281 dX7_least_8 ?_
    refine g_goto X (tgt := 16) dX7_least_11 (by decide) ?_
    exact g_iret X dX7_least_16 ⟨_, _, rfl, (show (1000000 : Int32).toInt = 1000000 by decide), trivial, rfl⟩
set_option maxHeartbeats 4000000 in
set_option maxRecDepth 4000 in
theorem c_X7_waysAt (ad : Nat → Nat) (Mq : Mem) (x1 : Int32) {a1 : Int} (t1 : x1.toInt = a1) (x2 : Int32) {a2 : Int} (t2 : x2.toInt = a2) (Iq0 : Iv TM Mq) (h1 : 0 ≤ a1 ∧ a1 < 24) : Ctr ad yX7_waysAt cX7_waysAt 4 (some .int) 1 [.ref (ad 47), .int x1, .int x2] Mq (fun v M' => ∃ (r : Int32) (a : Int), v = some (.int r) ∧ r.toInt = a ∧ (True) ∧ Mq = M') := by
  refine ctr_of (L := [(0, .ref (ad 47)), (1, .int x1), (2, .int x2)]) (by decide) (Nat.le_of_ble_eq_true rfl) rfl ?_
  intro Γ X
  have X : gX Γ cX7_waysAt RX7 4 (some .int) 1 ad _ := X
  have g12 := ig_47_12 Iq0
  have g24 := ig_47_24 Iq0
  have g44 := ig_47_44 Iq0
  refine g_aload_n X 0 rfl dX7_waysAt_0 ?_
  refine g_getr X f_X7_104 dX7_waysAt_1 ?_
  refine g_iload_n X 1 rfl dX7_waysAt_4 ?_
  refine g_iald X la_78 t1 dX7_waysAt_5 (by omega) (x := Mq.1 78 a1.toNat) rfl ?_
  have bq1 := ig_78 Iq0 a1.toNat (by omega)
  refine g_istore_n X (i := 3) [(3, .int (Mq.1 78 a1.toNat)), (0, .ref (ad 47)), (1, .int x1), (2, .int x2)] dX7_waysAt_6 rfl (by decide) rfl ?_
  refine g_iload_n X 0 rfl dX7_waysAt_7 ?_
  refine g_bipush X 40 dX7_waysAt_8 (by decide) ?_
  refine g_icmp_ne X rfl (show (40 : Int32).toInt = 40 by decide) (tgt := 19) dX7_waysAt_10 (by decide) (fun cq2 => ?_) (fun cq2 => ?_)
  · refine g_aload_n X 1 rfl dX7_waysAt_19 ?_
    refine g_getr X f_X7_126 dX7_waysAt_20 ?_
    refine g_iload_n X 0 rfl dX7_waysAt_23 ?_
    refine g_zald X la_85 rfl dX7_waysAt_24 (by omega) (x := Mq.1 85 (((Mq.1 78 a1.toNat).toInt).toNat)) rfl ?_
    have bq3 := ig_85 Iq0 (((Mq.1 78 a1.toNat).toInt).toNat) (by omega)
    refine g_if_eq X rfl (tgt := 42) dX7_waysAt_25 (by decide) (fun cq4 => ?_) (fun cq4 => ?_)
    · refine g_iconst X 0 dX7_waysAt_42 (by decide) ?_
      exact g_iret X dX7_waysAt_43 ⟨_, _, rfl, (show (0 : Int32).toInt = 0 by decide), trivial, rfl⟩
    · refine g_aload_n X 1 rfl dX7_waysAt_28 ?_
      refine g_getr X f_X7_31 dX7_waysAt_29 ?_
      refine g_iload_n X 0 rfl dX7_waysAt_32 ?_
      refine g_iald X la_55 rfl dX7_waysAt_33 (by omega) (x := Mq.1 55 (((Mq.1 78 a1.toNat).toInt).toNat)) rfl ?_
      refine g_iload_n X 3 rfl dX7_waysAt_34 ?_
      refine g_icmp_ne X rfl t2 (tgt := 42) dX7_waysAt_35 (by decide) (fun cq5 => ?_) (fun cq5 => ?_)
      · refine g_iconst X 0 dX7_waysAt_42 (by decide) ?_
        exact g_iret X dX7_waysAt_43 ⟨_, _, rfl, (show (0 : Int32).toInt = 0 by decide), trivial, rfl⟩
      · refine g_iconst X 1 dX7_waysAt_38 (by decide) ?_
        refine g_goto X (tgt := 43) dX7_waysAt_39 (by decide) ?_
        exact g_iret X dX7_waysAt_43 ⟨_, _, rfl, (show (1 : Int32).toInt = 1 by decide), trivial, rfl⟩
  · refine g_aload_n X 1 rfl dX7_waysAt_13 ?_
    refine g_iload_n X 3 rfl dX7_waysAt_14 ?_
    refine g_callV X m_X7_254 (c_X7_linesOf ad Mq x2 t2 Iq0) rfl (by decide) (Nat.le_of_ble_eq_true rfl) rfl dX7_waysAt_15 ?_
    rintro _ _ ⟨rq6, aq7, rfl, tq8, hq9, rfl⟩
    show G Γ Mq 18 [(3, .int (Mq.1 78 a1.toNat)), (0, .ref (ad 47)), (1, .int x1), (2, .int x2)] [.int rq6]
    exact g_iret X dX7_waysAt_18 ⟨_, _, rfl, tq8, trivial, rfl⟩
abbrev W_X7_times_75 : List (Nat × Nat) := [(74, 99), (76, 99)]
set_option maxHeartbeats 4000000 in
set_option maxRecDepth 4000 in
theorem c_X7_times_75 (ad : Nat → Nat) (Mq : Mem) (x2 : Int32) {a2 : Int} (t2 : x2.toInt = a2) (Iq0 : Iv TM Mq) (h2 : 0 ≤ a2 ∧ a2 + 625 ≤ 625) : Ctr ad yX7_times cX7_times 8 none 1 [.ref (ad 47), .ref (ad 75), .int x2] Mq (fun v M' => v = none ∧ (True) ∧ Iv TM M' ∧ Fr W_X7_times_75 Mq M') := by
  refine ctr_of (L := [(0, .ref (ad 47)), (1, .ref (ad 75)), (2, .int x2)]) (by decide) (Nat.le_of_ble_eq_true rfl) rfl ?_
  intro Γ X
  have X : gX Γ cX7_times RX7 8 none 1 ad _ := X
  have frq0 : Fr W_X7_times_75 Mq Mq := Fr.rf
  have g12 := ig_47_12 Iq0
  have g24 := ig_47_24 Iq0
  have g44 := ig_47_44 Iq0
  refine g_iconst X 0 dX7_times_0 (by decide) ?_
  refine g_istore_n X (i := 3) [(3, .int 0), (0, .ref (ad 47)), (1, .ref (ad 75)), (2, .int x2)] dX7_times_1 rfl (by decide) rfl ?_
  have lp2 : ∀ n : Nat, ∀ (y3_2 : Int32) (b3_2 : Int), y3_2.toInt = b3_2 → ∀ (M_2 : Mem), (0 ≤ b3_2) → (Iv TM M_2) → (Fr W_X7_times_75 Mq M_2) → ((Mq.1 47 44).toInt + 1 - b3_2).toNat < n → G Γ M_2 2 [(3, .int y3_2), (0, .ref (ad 47)), (1, .ref (ad 75)), (2, .int x2)] [] := by
    intro n
    induction n with
    | zero => intro y3_2 b3_2 e3_2 M_2 i1 I_2 fr_2 hm; exact absurd hm (Nat.not_lt_zero _)
    | succ n ih2 =>
      intro y3_2 b3_2 e3_2 M_2 i1 I_2 fr_2 hm2
      have trq1 : (M_2.1 47 44).toInt = (Mq.1 47 44).toInt := congrArg Int32.toInt (fr_2.at 47 44 rfl)
      refine g_iload_n X 0 rfl dX7_times_2 ?_
      refine g_aload_n X 1 rfl dX7_times_3 ?_
      refine g_geti X f_X7_282 dX7_times_4 (x := M_2.1 47 44) rfl ?_
      have bq2 := ig_47_44 I_2
      refine g_icmp_gt X e3_2 rfl (tgt := 102) dX7_times_7 (by decide) (fun cq3 => ?_) (fun cq3 => ?_)
      · refine g_iconst X 0 dX7_times_102 (by decide) ?_
        refine g_istore_n X (i := 3) [(3, .int 0), (0, .ref (ad 47)), (1, .ref (ad 75)), (2, .int x2)] dX7_times_103 rfl (by decide) rfl ?_
        have lp104 : ∀ n : Nat, ∀ (y3_104 : Int32) (b3_104 : Int), y3_104.toInt = b3_104 → ∀ (M_104 : Mem), (0 ≤ b3_104 ∧ b3_104 ≤ 625) → (Iv TM M_104) → (Fr W_X7_times_75 Mq M_104) → (625 - b3_104).toNat < n → G Γ M_104 104 [(3, .int y3_104), (0, .ref (ad 47)), (1, .ref (ad 75)), (2, .int x2)] [] := by
          intro n
          induction n with
          | zero => intro y3_104 b3_104 e3_104 M_104 i4 I_104 fr_104 hm; exact absurd hm (Nat.not_lt_zero _)
          | succ n ih104 =>
            intro y3_104 b3_104 e3_104 M_104 i4 I_104 fr_104 hm104
            have trq4 : (M_104.1 47 44).toInt = (Mq.1 47 44).toInt := congrArg Int32.toInt (fr_104.at 47 44 rfl)
            refine g_iload_n X 0 rfl dX7_times_104 ?_
            refine g_sipush X 625 dX7_times_105 (by decide) ?_
            refine g_icmp_ge X e3_104 (show (625 : Int32).toInt = 625 by decide) (tgt := 129) dX7_times_108 (by decide) (fun cq5 => ?_) (fun cq5 => ?_)
            · exact g_vret X dX7_times_129 ⟨rfl, trivial, I_104, fr_104⟩
            · refine g_aload_n X 1 rfl dX7_times_111 ?_
              refine g_getr X f_X7_98 dX7_times_112 ?_
              refine g_iload_n X 0 rfl dX7_times_115 ?_
              refine g_aload_n X 1 rfl dX7_times_116 ?_
              refine g_getr X f_X7_92 dX7_times_117 ?_
              refine g_iload_n X 0 rfl dX7_times_120 ?_
              refine g_iald X la_74 e3_104 dX7_times_121 (by omega) (x := M_104.1 74 b3_104.toNat) rfl ?_
              refine g_iast X la_76 e3_104 dX7_times_122 (by omega) ?_
              have Iq6 : Iv TM (ui M_104 76 b3_104.toNat (M_104.1 74 b3_104.toNat)) := I_104.otherA rfl
              have frq7 : Fr W_X7_times_75 Mq (ui M_104 76 b3_104.toNat (M_104.1 74 b3_104.toNat)) := fr_104.ui rfl
              refine g_iinc X 0 (fun v => [(3, .int v), (0, .ref (ad 47)), (1, .ref (ad 75)), (2, .int x2)]) dX7_times_123 rfl (by decide) (fun _ => rfl) (fun zq8 eq9 => ?_)
              have tq10 : zq8.toInt = b3_104 + 1 := add_nw eq9 e3_104 (show (Int32.ofInt 1).toInt = 1 by decide) (by omega)
              refine g_goto X (tgt := 104) dX7_times_126 (by decide) ?_
              refine g_sub [0, 1, 2, 3] rfl ?_
              exact ih104 zq8 _ tq10 (ui M_104 76 b3_104.toNat (M_104.1 74 b3_104.toNat)) (by omega) Iq6 frq7 (by omega)
        refine g_sub [0, 1, 2, 3] rfl ?_
        exact lp104 _ 0 _ (show (0 : Int32).toInt = 0 by decide) M_2 (by omega) I_2 fr_2 (Nat.lt_succ_self _)
      · refine g_iconst X 0 dX7_times_10 (by decide) ?_
        refine g_istore X [(4, .int 0), (3, .int y3_2), (0, .ref (ad 47)), (1, .ref (ad 75)), (2, .int x2)] dX7_times_11 (by decide) rfl ?_
        have lp13 : ∀ n : Nat, ∀ (y4_13 : Int32) (b4_13 : Int), y4_13.toInt = b4_13 → ∀ (M_13 : Mem), (0 ≤ b4_13) → (Iv TM M_13) → (Fr W_X7_times_75 Mq M_13) → ((Mq.1 47 44).toInt + 1 - b4_13).toNat < n → G Γ M_13 13 [(4, .int y4_13), (3, .int y3_2), (0, .ref (ad 47)), (1, .ref (ad 75)), (2, .int x2)] [] := by
          intro n
          induction n with
          | zero => intro y4_13 b4_13 e4_13 M_13 i2 I_13 fr_13 hm; exact absurd hm (Nat.not_lt_zero _)
          | succ n ih13 =>
            intro y4_13 b4_13 e4_13 M_13 i2 I_13 fr_13 hm13
            have trq11 : (M_13.1 47 44).toInt = (Mq.1 47 44).toInt := congrArg Int32.toInt (fr_13.at 47 44 rfl)
            refine g_iload X 0 rfl dX7_times_13 ?_
            refine g_aload_n X 2 rfl dX7_times_15 ?_
            refine g_geti X f_X7_282 dX7_times_16 (x := M_13.1 47 44) rfl ?_
            have bq12 := ig_47_44 I_13
            refine g_icmp_gt X e4_13 rfl (tgt := 96) dX7_times_19 (by decide) (fun cq13 => ?_) (fun cq13 => ?_)
            · refine g_iinc X 1 (fun v => [(3, .int v), (4, .int y4_13), (0, .ref (ad 47)), (1, .ref (ad 75)), (2, .int x2)]) dX7_times_96 rfl (by decide) (fun _ => rfl) (fun zq14 eq15 => ?_)
              have tq16 : zq14.toInt = b3_2 + 1 := add_nw eq15 e3_2 (show (Int32.ofInt 1).toInt = 1 by decide) (by omega)
              refine g_goto X (tgt := 2) dX7_times_99 (by decide) ?_
              refine g_sub [0, 2, 3, 4] rfl ?_
              exact ih2 zq14 _ tq16 M_13 (by omega) I_13 fr_13 (by omega)
            · refine g_lconst X 0 dX7_times_22 (by decide) ?_
              refine g_lstore X [(5, .long 0), (4, .int y4_13), (3, .int y3_2), (0, .ref (ad 47)), (1, .ref (ad 75)), (2, .int x2)] dX7_times_23 (by decide) rfl ?_
              refine g_iload_n X 2 rfl dX7_times_25 ?_
              refine g_istore X [(7, .int y3_2), (5, .long 0), (4, .int y4_13), (3, .int y3_2), (0, .ref (ad 47)), (1, .ref (ad 75)), (2, .int x2)] dX7_times_26 (by decide) rfl ?_
              have lp28 : ∀ n : Nat, ∀ (y7_28 : Int32) (b7_28 : Int), y7_28.toInt = b7_28 → ∀ (y5_28 : Int64) (b5_28 : Int), y5_28.toInt = b5_28 → (b3_2 ≤ b7_28) → (b4_13 + 1 - b7_28).toNat < n → G Γ M_13 28 [(7, .int y7_28), (5, .long y5_28), (4, .int y4_13), (3, .int y3_2), (0, .ref (ad 47)), (1, .ref (ad 75)), (2, .int x2)] [] := by
                intro n
                induction n with
                | zero => intro y7_28 b7_28 e7_28 y5_28 b5_28 e5_28 i3 hm; exact absurd hm (Nat.not_lt_zero _)
                | succ n ih28 =>
                  intro y7_28 b7_28 e7_28 y5_28 b5_28 e5_28 i3 hm28
                  refine g_iload X 0 rfl dX7_times_28 ?_
                  refine g_iload X 2 rfl dX7_times_30 ?_
                  refine g_icmp_gt X e7_28 e4_13 (tgt := 73) dX7_times_32 (by decide) (fun cq17 => ?_) (fun cq17 => ?_)
                  · refine g_aload_n X 4 rfl dX7_times_73 ?_
                    refine g_getr X f_X7_92 dX7_times_74 ?_
                    refine g_bipush X 25 dX7_times_77 (by decide) ?_
                    refine g_iload_n X 3 rfl dX7_times_79 ?_
                    refine g_imul X dX7_times_80 (fun zq18 eq19 => ?_)
                    have tq20 : zq18.toInt = 25 * b3_2 := mul_nw eq19 (show (25 : Int32).toInt = 25 by decide) e3_2 (by omega)
                    refine g_iload X 2 rfl dX7_times_81 ?_
                    refine g_iadd X dX7_times_83 (fun zq21 eq22 => ?_)
                    have tq23 : zq21.toInt = (25 * b3_2) + b4_13 := add_nw eq22 tq20 e4_13 (by omega)
                    refine g_lload X 1 rfl dX7_times_84 ?_
                    refine g_callS X m_X7_285 (c_X7_least ad M_13 y5_28 e5_28) rfl (by decide) (Nat.le_of_ble_eq_true rfl) rfl dX7_times_86 ?_
                    rintro _ _ ⟨rq24, aq25, rfl, tq26, hq27, rfl⟩
                    show G Γ M_13 89 [(7, .int y7_28), (5, .long y5_28), (4, .int y4_13), (3, .int y3_2), (0, .ref (ad 47)), (1, .ref (ad 75)), (2, .int x2)] [.int rq24, .int zq21, .ref (ad 74)]
                    refine g_iast X la_74 tq23 dX7_times_89 (by omega) ?_
                    have Iq28 : Iv TM (ui M_13 74 (((25 * b3_2) + b4_13).toNat) rq24) := I_13.otherA rfl
                    have frq29 : Fr W_X7_times_75 Mq (ui M_13 74 (((25 * b3_2) + b4_13).toNat) rq24) := fr_13.ui rfl
                    refine g_iinc X 2 (fun v => [(4, .int v), (7, .int y7_28), (5, .long y5_28), (3, .int y3_2), (0, .ref (ad 47)), (1, .ref (ad 75)), (2, .int x2)]) dX7_times_90 rfl (by decide) (fun _ => rfl) (fun zq30 eq31 => ?_)
                    have tq32 : zq30.toInt = b4_13 + 1 := add_nw eq31 e4_13 (show (Int32.ofInt 1).toInt = 1 by decide) (by omega)
                    refine g_goto X (tgt := 13) dX7_times_93 (by decide) ?_
                    refine g_sub [0, 3, 4, 5, 6] rfl ?_
                    exact ih13 zq30 _ tq32 (ui M_13 74 (((25 * b3_2) + b4_13).toNat) rq24) (by omega) Iq28 frq29 (by omega)
                  · refine g_lload X 1 rfl dX7_times_35 ?_
                    refine g_aload_n X 4 rfl dX7_times_37 ?_
                    refine g_getr X f_X7_98 dX7_times_38 ?_
                    refine g_bipush X 25 dX7_times_41 (by decide) ?_
                    refine g_iload_n X 3 rfl dX7_times_43 ?_
                    refine g_imul X dX7_times_44 (fun zq33 eq34 => ?_)
                    have tq35 : zq33.toInt = 25 * b3_2 := mul_nw eq34 (show (25 : Int32).toInt = 25 by decide) e3_2 (by omega)
                    refine g_iload X 0 rfl dX7_times_45 ?_
                    refine g_iadd X dX7_times_47 (fun zq36 eq37 => ?_)
                    have tq38 : zq36.toInt = (25 * b3_2) + b7_28 := add_nw eq37 tq35 e7_28 (by omega)
                    refine g_iald X la_76 tq38 dX7_times_48 (by omega) (x := M_13.1 76 (((25 * b3_2) + b7_28).toNat)) rfl ?_
                    refine g_i2l X dX7_times_49 (fun zq39 eq40 => ?_)
                    have tq41 : zq39.toInt = (M_13.1 76 (((25 * b3_2) + b7_28).toNat)).toInt := i2l_nw eq40 rfl
                    refine g_aload_n X 5 rfl dX7_times_50 ?_
                    refine g_iload_n X 6 rfl dX7_times_51 ?_
                    refine g_bipush X 25 dX7_times_52 (by decide) ?_
                    refine g_iload X 0 rfl dX7_times_54 ?_
                    refine g_imul X dX7_times_56 (fun zq42 eq43 => ?_)
                    have tq44 : zq42.toInt = 25 * b7_28 := mul_nw eq43 (show (25 : Int32).toInt = 25 by decide) e7_28 (by omega)
                    refine g_iadd X dX7_times_57 (fun zq45 eq46 => ?_)
                    have tq47 : zq45.toInt = a2 + (25 * b7_28) := add_nw eq46 t2 tq44 (by omega)
                    refine g_iload X 2 rfl dX7_times_58 ?_
                    refine g_iadd X dX7_times_60 (fun zq48 eq49 => ?_)
                    have tq50 : zq48.toInt = (a2 + (25 * b7_28)) + b4_13 := add_nw eq49 tq47 e4_13 (by omega)
                    refine g_iald X la_75 tq50 dX7_times_61 (by omega) (x := M_13.1 75 (((a2 + (25 * b7_28)) + b4_13).toNat)) rfl ?_
                    refine g_i2l X dX7_times_62 (fun zq51 eq52 => ?_)
                    have tq53 : zq51.toInt = (M_13.1 75 (((a2 + (25 * b7_28)) + b4_13).toNat)).toInt := i2l_nw eq52 rfl
                    refine g_lmul X dX7_times_63 (fun zq54 eq55 => ?_)
                    refine g_ladd X dX7_times_64 (fun zq56 eq57 => ?_)
                    refine g_lstore X [(5, .long zq56), (7, .int y7_28), (4, .int y4_13), (3, .int y3_2), (0, .ref (ad 47)), (1, .ref (ad 75)), (2, .int x2)] dX7_times_65 (by decide) rfl ?_
                    refine g_iinc X 1 (fun v => [(7, .int v), (5, .long zq56), (4, .int y4_13), (3, .int y3_2), (0, .ref (ad 47)), (1, .ref (ad 75)), (2, .int x2)]) dX7_times_67 rfl (by decide) (fun _ => rfl) (fun zq58 eq59 => ?_)
                    have tq60 : zq58.toInt = b7_28 + 1 := add_nw eq59 e7_28 (show (Int32.ofInt 1).toInt = 1 by decide) (by omega)
                    refine g_goto X (tgt := 28) dX7_times_70 (by decide) ?_
                    refine g_sub [0, 1, 2, 3, 4, 5, 6] rfl ?_
                    exact ih28 zq58 _ tq60 zq56 _ rfl (by omega) (by omega)
              refine g_sub [0, 1, 2, 3, 4, 5, 6] rfl ?_
              exact lp28 _ y3_2 _ e3_2 0 _ (show (0 : Int64).toInt = 0 by decide) (by omega) (Nat.lt_succ_self _)
        refine g_sub [0, 1, 2, 3, 4] rfl ?_
        exact lp13 _ 0 _ (show (0 : Int32).toInt = 0 by decide) M_2 (by omega) I_2 fr_2 (Nat.lt_succ_self _)
  refine g_sub [0, 1, 2, 3] rfl ?_
  exact lp2 _ 0 _ (show (0 : Int32).toInt = 0 by decide) Mq (by omega) Iq0 frq0 (Nat.lt_succ_self _)
abbrev W_X7_times_73 : List (Nat × Nat) := [(74, 99), (76, 99)]
set_option maxHeartbeats 4000000 in
set_option maxRecDepth 4000 in
theorem c_X7_times_73 (ad : Nat → Nat) (Mq : Mem) (x2 : Int32) {a2 : Int} (t2 : x2.toInt = a2) (Iq0 : Iv TM Mq) (h2 : 0 ≤ a2 ∧ a2 + 625 ≤ 19375) : Ctr ad yX7_times cX7_times 8 none 1 [.ref (ad 47), .ref (ad 73), .int x2] Mq (fun v M' => v = none ∧ (True) ∧ Iv TM M' ∧ Fr W_X7_times_73 Mq M') := by
  refine ctr_of (L := [(0, .ref (ad 47)), (1, .ref (ad 73)), (2, .int x2)]) (by decide) (Nat.le_of_ble_eq_true rfl) rfl ?_
  intro Γ X
  have X : gX Γ cX7_times RX7 8 none 1 ad _ := X
  have frq0 : Fr W_X7_times_73 Mq Mq := Fr.rf
  have g12 := ig_47_12 Iq0
  have g24 := ig_47_24 Iq0
  have g44 := ig_47_44 Iq0
  refine g_iconst X 0 dX7_times_0 (by decide) ?_
  refine g_istore_n X (i := 3) [(3, .int 0), (0, .ref (ad 47)), (1, .ref (ad 73)), (2, .int x2)] dX7_times_1 rfl (by decide) rfl ?_
  have lp2 : ∀ n : Nat, ∀ (y3_2 : Int32) (b3_2 : Int), y3_2.toInt = b3_2 → ∀ (M_2 : Mem), (0 ≤ b3_2) → (Iv TM M_2) → (Fr W_X7_times_73 Mq M_2) → ((Mq.1 47 44).toInt + 1 - b3_2).toNat < n → G Γ M_2 2 [(3, .int y3_2), (0, .ref (ad 47)), (1, .ref (ad 73)), (2, .int x2)] [] := by
    intro n
    induction n with
    | zero => intro y3_2 b3_2 e3_2 M_2 i1 I_2 fr_2 hm; exact absurd hm (Nat.not_lt_zero _)
    | succ n ih2 =>
      intro y3_2 b3_2 e3_2 M_2 i1 I_2 fr_2 hm2
      have trq1 : (M_2.1 47 44).toInt = (Mq.1 47 44).toInt := congrArg Int32.toInt (fr_2.at 47 44 rfl)
      refine g_iload_n X 0 rfl dX7_times_2 ?_
      refine g_aload_n X 1 rfl dX7_times_3 ?_
      refine g_geti X f_X7_282 dX7_times_4 (x := M_2.1 47 44) rfl ?_
      have bq2 := ig_47_44 I_2
      refine g_icmp_gt X e3_2 rfl (tgt := 102) dX7_times_7 (by decide) (fun cq3 => ?_) (fun cq3 => ?_)
      · refine g_iconst X 0 dX7_times_102 (by decide) ?_
        refine g_istore_n X (i := 3) [(3, .int 0), (0, .ref (ad 47)), (1, .ref (ad 73)), (2, .int x2)] dX7_times_103 rfl (by decide) rfl ?_
        have lp104 : ∀ n : Nat, ∀ (y3_104 : Int32) (b3_104 : Int), y3_104.toInt = b3_104 → ∀ (M_104 : Mem), (0 ≤ b3_104 ∧ b3_104 ≤ 625) → (Iv TM M_104) → (Fr W_X7_times_73 Mq M_104) → (625 - b3_104).toNat < n → G Γ M_104 104 [(3, .int y3_104), (0, .ref (ad 47)), (1, .ref (ad 73)), (2, .int x2)] [] := by
          intro n
          induction n with
          | zero => intro y3_104 b3_104 e3_104 M_104 i4 I_104 fr_104 hm; exact absurd hm (Nat.not_lt_zero _)
          | succ n ih104 =>
            intro y3_104 b3_104 e3_104 M_104 i4 I_104 fr_104 hm104
            have trq4 : (M_104.1 47 44).toInt = (Mq.1 47 44).toInt := congrArg Int32.toInt (fr_104.at 47 44 rfl)
            refine g_iload_n X 0 rfl dX7_times_104 ?_
            refine g_sipush X 625 dX7_times_105 (by decide) ?_
            refine g_icmp_ge X e3_104 (show (625 : Int32).toInt = 625 by decide) (tgt := 129) dX7_times_108 (by decide) (fun cq5 => ?_) (fun cq5 => ?_)
            · exact g_vret X dX7_times_129 ⟨rfl, trivial, I_104, fr_104⟩
            · refine g_aload_n X 1 rfl dX7_times_111 ?_
              refine g_getr X f_X7_98 dX7_times_112 ?_
              refine g_iload_n X 0 rfl dX7_times_115 ?_
              refine g_aload_n X 1 rfl dX7_times_116 ?_
              refine g_getr X f_X7_92 dX7_times_117 ?_
              refine g_iload_n X 0 rfl dX7_times_120 ?_
              refine g_iald X la_74 e3_104 dX7_times_121 (by omega) (x := M_104.1 74 b3_104.toNat) rfl ?_
              refine g_iast X la_76 e3_104 dX7_times_122 (by omega) ?_
              have Iq6 : Iv TM (ui M_104 76 b3_104.toNat (M_104.1 74 b3_104.toNat)) := I_104.otherA rfl
              have frq7 : Fr W_X7_times_73 Mq (ui M_104 76 b3_104.toNat (M_104.1 74 b3_104.toNat)) := fr_104.ui rfl
              refine g_iinc X 0 (fun v => [(3, .int v), (0, .ref (ad 47)), (1, .ref (ad 73)), (2, .int x2)]) dX7_times_123 rfl (by decide) (fun _ => rfl) (fun zq8 eq9 => ?_)
              have tq10 : zq8.toInt = b3_104 + 1 := add_nw eq9 e3_104 (show (Int32.ofInt 1).toInt = 1 by decide) (by omega)
              refine g_goto X (tgt := 104) dX7_times_126 (by decide) ?_
              refine g_sub [0, 1, 2, 3] rfl ?_
              exact ih104 zq8 _ tq10 (ui M_104 76 b3_104.toNat (M_104.1 74 b3_104.toNat)) (by omega) Iq6 frq7 (by omega)
        refine g_sub [0, 1, 2, 3] rfl ?_
        exact lp104 _ 0 _ (show (0 : Int32).toInt = 0 by decide) M_2 (by omega) I_2 fr_2 (Nat.lt_succ_self _)
      · refine g_iconst X 0 dX7_times_10 (by decide) ?_
        refine g_istore X [(4, .int 0), (3, .int y3_2), (0, .ref (ad 47)), (1, .ref (ad 73)), (2, .int x2)] dX7_times_11 (by decide) rfl ?_
        have lp13 : ∀ n : Nat, ∀ (y4_13 : Int32) (b4_13 : Int), y4_13.toInt = b4_13 → ∀ (M_13 : Mem), (0 ≤ b4_13) → (Iv TM M_13) → (Fr W_X7_times_73 Mq M_13) → ((Mq.1 47 44).toInt + 1 - b4_13).toNat < n → G Γ M_13 13 [(4, .int y4_13), (3, .int y3_2), (0, .ref (ad 47)), (1, .ref (ad 73)), (2, .int x2)] [] := by
          intro n
          induction n with
          | zero => intro y4_13 b4_13 e4_13 M_13 i2 I_13 fr_13 hm; exact absurd hm (Nat.not_lt_zero _)
          | succ n ih13 =>
            intro y4_13 b4_13 e4_13 M_13 i2 I_13 fr_13 hm13
            have trq11 : (M_13.1 47 44).toInt = (Mq.1 47 44).toInt := congrArg Int32.toInt (fr_13.at 47 44 rfl)
            refine g_iload X 0 rfl dX7_times_13 ?_
            refine g_aload_n X 2 rfl dX7_times_15 ?_
            refine g_geti X f_X7_282 dX7_times_16 (x := M_13.1 47 44) rfl ?_
            have bq12 := ig_47_44 I_13
            refine g_icmp_gt X e4_13 rfl (tgt := 96) dX7_times_19 (by decide) (fun cq13 => ?_) (fun cq13 => ?_)
            · refine g_iinc X 1 (fun v => [(3, .int v), (4, .int y4_13), (0, .ref (ad 47)), (1, .ref (ad 73)), (2, .int x2)]) dX7_times_96 rfl (by decide) (fun _ => rfl) (fun zq14 eq15 => ?_)
              have tq16 : zq14.toInt = b3_2 + 1 := add_nw eq15 e3_2 (show (Int32.ofInt 1).toInt = 1 by decide) (by omega)
              refine g_goto X (tgt := 2) dX7_times_99 (by decide) ?_
              refine g_sub [0, 2, 3, 4] rfl ?_
              exact ih2 zq14 _ tq16 M_13 (by omega) I_13 fr_13 (by omega)
            · refine g_lconst X 0 dX7_times_22 (by decide) ?_
              refine g_lstore X [(5, .long 0), (4, .int y4_13), (3, .int y3_2), (0, .ref (ad 47)), (1, .ref (ad 73)), (2, .int x2)] dX7_times_23 (by decide) rfl ?_
              refine g_iload_n X 2 rfl dX7_times_25 ?_
              refine g_istore X [(7, .int y3_2), (5, .long 0), (4, .int y4_13), (3, .int y3_2), (0, .ref (ad 47)), (1, .ref (ad 73)), (2, .int x2)] dX7_times_26 (by decide) rfl ?_
              have lp28 : ∀ n : Nat, ∀ (y7_28 : Int32) (b7_28 : Int), y7_28.toInt = b7_28 → ∀ (y5_28 : Int64) (b5_28 : Int), y5_28.toInt = b5_28 → (b3_2 ≤ b7_28) → (b4_13 + 1 - b7_28).toNat < n → G Γ M_13 28 [(7, .int y7_28), (5, .long y5_28), (4, .int y4_13), (3, .int y3_2), (0, .ref (ad 47)), (1, .ref (ad 73)), (2, .int x2)] [] := by
                intro n
                induction n with
                | zero => intro y7_28 b7_28 e7_28 y5_28 b5_28 e5_28 i3 hm; exact absurd hm (Nat.not_lt_zero _)
                | succ n ih28 =>
                  intro y7_28 b7_28 e7_28 y5_28 b5_28 e5_28 i3 hm28
                  refine g_iload X 0 rfl dX7_times_28 ?_
                  refine g_iload X 2 rfl dX7_times_30 ?_
                  refine g_icmp_gt X e7_28 e4_13 (tgt := 73) dX7_times_32 (by decide) (fun cq17 => ?_) (fun cq17 => ?_)
                  · refine g_aload_n X 4 rfl dX7_times_73 ?_
                    refine g_getr X f_X7_92 dX7_times_74 ?_
                    refine g_bipush X 25 dX7_times_77 (by decide) ?_
                    refine g_iload_n X 3 rfl dX7_times_79 ?_
                    refine g_imul X dX7_times_80 (fun zq18 eq19 => ?_)
                    have tq20 : zq18.toInt = 25 * b3_2 := mul_nw eq19 (show (25 : Int32).toInt = 25 by decide) e3_2 (by omega)
                    refine g_iload X 2 rfl dX7_times_81 ?_
                    refine g_iadd X dX7_times_83 (fun zq21 eq22 => ?_)
                    have tq23 : zq21.toInt = (25 * b3_2) + b4_13 := add_nw eq22 tq20 e4_13 (by omega)
                    refine g_lload X 1 rfl dX7_times_84 ?_
                    refine g_callS X m_X7_285 (c_X7_least ad M_13 y5_28 e5_28) rfl (by decide) (Nat.le_of_ble_eq_true rfl) rfl dX7_times_86 ?_
                    rintro _ _ ⟨rq24, aq25, rfl, tq26, hq27, rfl⟩
                    show G Γ M_13 89 [(7, .int y7_28), (5, .long y5_28), (4, .int y4_13), (3, .int y3_2), (0, .ref (ad 47)), (1, .ref (ad 73)), (2, .int x2)] [.int rq24, .int zq21, .ref (ad 74)]
                    refine g_iast X la_74 tq23 dX7_times_89 (by omega) ?_
                    have Iq28 : Iv TM (ui M_13 74 (((25 * b3_2) + b4_13).toNat) rq24) := I_13.otherA rfl
                    have frq29 : Fr W_X7_times_73 Mq (ui M_13 74 (((25 * b3_2) + b4_13).toNat) rq24) := fr_13.ui rfl
                    refine g_iinc X 2 (fun v => [(4, .int v), (7, .int y7_28), (5, .long y5_28), (3, .int y3_2), (0, .ref (ad 47)), (1, .ref (ad 73)), (2, .int x2)]) dX7_times_90 rfl (by decide) (fun _ => rfl) (fun zq30 eq31 => ?_)
                    have tq32 : zq30.toInt = b4_13 + 1 := add_nw eq31 e4_13 (show (Int32.ofInt 1).toInt = 1 by decide) (by omega)
                    refine g_goto X (tgt := 13) dX7_times_93 (by decide) ?_
                    refine g_sub [0, 3, 4, 5, 6] rfl ?_
                    exact ih13 zq30 _ tq32 (ui M_13 74 (((25 * b3_2) + b4_13).toNat) rq24) (by omega) Iq28 frq29 (by omega)
                  · refine g_lload X 1 rfl dX7_times_35 ?_
                    refine g_aload_n X 4 rfl dX7_times_37 ?_
                    refine g_getr X f_X7_98 dX7_times_38 ?_
                    refine g_bipush X 25 dX7_times_41 (by decide) ?_
                    refine g_iload_n X 3 rfl dX7_times_43 ?_
                    refine g_imul X dX7_times_44 (fun zq33 eq34 => ?_)
                    have tq35 : zq33.toInt = 25 * b3_2 := mul_nw eq34 (show (25 : Int32).toInt = 25 by decide) e3_2 (by omega)
                    refine g_iload X 0 rfl dX7_times_45 ?_
                    refine g_iadd X dX7_times_47 (fun zq36 eq37 => ?_)
                    have tq38 : zq36.toInt = (25 * b3_2) + b7_28 := add_nw eq37 tq35 e7_28 (by omega)
                    refine g_iald X la_76 tq38 dX7_times_48 (by omega) (x := M_13.1 76 (((25 * b3_2) + b7_28).toNat)) rfl ?_
                    refine g_i2l X dX7_times_49 (fun zq39 eq40 => ?_)
                    have tq41 : zq39.toInt = (M_13.1 76 (((25 * b3_2) + b7_28).toNat)).toInt := i2l_nw eq40 rfl
                    refine g_aload_n X 5 rfl dX7_times_50 ?_
                    refine g_iload_n X 6 rfl dX7_times_51 ?_
                    refine g_bipush X 25 dX7_times_52 (by decide) ?_
                    refine g_iload X 0 rfl dX7_times_54 ?_
                    refine g_imul X dX7_times_56 (fun zq42 eq43 => ?_)
                    have tq44 : zq42.toInt = 25 * b7_28 := mul_nw eq43 (show (25 : Int32).toInt = 25 by decide) e7_28 (by omega)
                    refine g_iadd X dX7_times_57 (fun zq45 eq46 => ?_)
                    have tq47 : zq45.toInt = a2 + (25 * b7_28) := add_nw eq46 t2 tq44 (by omega)
                    refine g_iload X 2 rfl dX7_times_58 ?_
                    refine g_iadd X dX7_times_60 (fun zq48 eq49 => ?_)
                    have tq50 : zq48.toInt = (a2 + (25 * b7_28)) + b4_13 := add_nw eq49 tq47 e4_13 (by omega)
                    refine g_iald X la_73 tq50 dX7_times_61 (by omega) (x := M_13.1 73 (((a2 + (25 * b7_28)) + b4_13).toNat)) rfl ?_
                    refine g_i2l X dX7_times_62 (fun zq51 eq52 => ?_)
                    have tq53 : zq51.toInt = (M_13.1 73 (((a2 + (25 * b7_28)) + b4_13).toNat)).toInt := i2l_nw eq52 rfl
                    refine g_lmul X dX7_times_63 (fun zq54 eq55 => ?_)
                    refine g_ladd X dX7_times_64 (fun zq56 eq57 => ?_)
                    refine g_lstore X [(5, .long zq56), (7, .int y7_28), (4, .int y4_13), (3, .int y3_2), (0, .ref (ad 47)), (1, .ref (ad 73)), (2, .int x2)] dX7_times_65 (by decide) rfl ?_
                    refine g_iinc X 1 (fun v => [(7, .int v), (5, .long zq56), (4, .int y4_13), (3, .int y3_2), (0, .ref (ad 47)), (1, .ref (ad 73)), (2, .int x2)]) dX7_times_67 rfl (by decide) (fun _ => rfl) (fun zq58 eq59 => ?_)
                    have tq60 : zq58.toInt = b7_28 + 1 := add_nw eq59 e7_28 (show (Int32.ofInt 1).toInt = 1 by decide) (by omega)
                    refine g_goto X (tgt := 28) dX7_times_70 (by decide) ?_
                    refine g_sub [0, 1, 2, 3, 4, 5, 6] rfl ?_
                    exact ih28 zq58 _ tq60 zq56 _ rfl (by omega) (by omega)
              refine g_sub [0, 1, 2, 3, 4, 5, 6] rfl ?_
              exact lp28 _ y3_2 _ e3_2 0 _ (show (0 : Int64).toInt = 0 by decide) (by omega) (Nat.lt_succ_self _)
        refine g_sub [0, 1, 2, 3, 4] rfl ?_
        exact lp13 _ 0 _ (show (0 : Int32).toInt = 0 by decide) M_2 (by omega) I_2 fr_2 (Nat.lt_succ_self _)
  refine g_sub [0, 1, 2, 3] rfl ?_
  exact lp2 _ 0 _ (show (0 : Int32).toInt = 0 by decide) Mq (by omega) Iq0 frq0 (Nat.lt_succ_self _)
abbrev W_X7_times_71 : List (Nat × Nat) := [(74, 99), (76, 99)]
set_option maxHeartbeats 4000000 in
set_option maxRecDepth 4000 in
theorem c_X7_times_71 (ad : Nat → Nat) (Mq : Mem) (x2 : Int32) {a2 : Int} (t2 : x2.toInt = a2) (Iq0 : Iv TM Mq) (h2 : 0 ≤ a2 ∧ a2 + 625 ≤ 5000) : Ctr ad yX7_times cX7_times 8 none 1 [.ref (ad 47), .ref (ad 71), .int x2] Mq (fun v M' => v = none ∧ (True) ∧ Iv TM M' ∧ Fr W_X7_times_71 Mq M') := by
  refine ctr_of (L := [(0, .ref (ad 47)), (1, .ref (ad 71)), (2, .int x2)]) (by decide) (Nat.le_of_ble_eq_true rfl) rfl ?_
  intro Γ X
  have X : gX Γ cX7_times RX7 8 none 1 ad _ := X
  have frq0 : Fr W_X7_times_71 Mq Mq := Fr.rf
  have g12 := ig_47_12 Iq0
  have g24 := ig_47_24 Iq0
  have g44 := ig_47_44 Iq0
  refine g_iconst X 0 dX7_times_0 (by decide) ?_
  refine g_istore_n X (i := 3) [(3, .int 0), (0, .ref (ad 47)), (1, .ref (ad 71)), (2, .int x2)] dX7_times_1 rfl (by decide) rfl ?_
  have lp2 : ∀ n : Nat, ∀ (y3_2 : Int32) (b3_2 : Int), y3_2.toInt = b3_2 → ∀ (M_2 : Mem), (0 ≤ b3_2) → (Iv TM M_2) → (Fr W_X7_times_71 Mq M_2) → ((Mq.1 47 44).toInt + 1 - b3_2).toNat < n → G Γ M_2 2 [(3, .int y3_2), (0, .ref (ad 47)), (1, .ref (ad 71)), (2, .int x2)] [] := by
    intro n
    induction n with
    | zero => intro y3_2 b3_2 e3_2 M_2 i1 I_2 fr_2 hm; exact absurd hm (Nat.not_lt_zero _)
    | succ n ih2 =>
      intro y3_2 b3_2 e3_2 M_2 i1 I_2 fr_2 hm2
      have trq1 : (M_2.1 47 44).toInt = (Mq.1 47 44).toInt := congrArg Int32.toInt (fr_2.at 47 44 rfl)
      refine g_iload_n X 0 rfl dX7_times_2 ?_
      refine g_aload_n X 1 rfl dX7_times_3 ?_
      refine g_geti X f_X7_282 dX7_times_4 (x := M_2.1 47 44) rfl ?_
      have bq2 := ig_47_44 I_2
      refine g_icmp_gt X e3_2 rfl (tgt := 102) dX7_times_7 (by decide) (fun cq3 => ?_) (fun cq3 => ?_)
      · refine g_iconst X 0 dX7_times_102 (by decide) ?_
        refine g_istore_n X (i := 3) [(3, .int 0), (0, .ref (ad 47)), (1, .ref (ad 71)), (2, .int x2)] dX7_times_103 rfl (by decide) rfl ?_
        have lp104 : ∀ n : Nat, ∀ (y3_104 : Int32) (b3_104 : Int), y3_104.toInt = b3_104 → ∀ (M_104 : Mem), (0 ≤ b3_104 ∧ b3_104 ≤ 625) → (Iv TM M_104) → (Fr W_X7_times_71 Mq M_104) → (625 - b3_104).toNat < n → G Γ M_104 104 [(3, .int y3_104), (0, .ref (ad 47)), (1, .ref (ad 71)), (2, .int x2)] [] := by
          intro n
          induction n with
          | zero => intro y3_104 b3_104 e3_104 M_104 i4 I_104 fr_104 hm; exact absurd hm (Nat.not_lt_zero _)
          | succ n ih104 =>
            intro y3_104 b3_104 e3_104 M_104 i4 I_104 fr_104 hm104
            have trq4 : (M_104.1 47 44).toInt = (Mq.1 47 44).toInt := congrArg Int32.toInt (fr_104.at 47 44 rfl)
            refine g_iload_n X 0 rfl dX7_times_104 ?_
            refine g_sipush X 625 dX7_times_105 (by decide) ?_
            refine g_icmp_ge X e3_104 (show (625 : Int32).toInt = 625 by decide) (tgt := 129) dX7_times_108 (by decide) (fun cq5 => ?_) (fun cq5 => ?_)
            · exact g_vret X dX7_times_129 ⟨rfl, trivial, I_104, fr_104⟩
            · refine g_aload_n X 1 rfl dX7_times_111 ?_
              refine g_getr X f_X7_98 dX7_times_112 ?_
              refine g_iload_n X 0 rfl dX7_times_115 ?_
              refine g_aload_n X 1 rfl dX7_times_116 ?_
              refine g_getr X f_X7_92 dX7_times_117 ?_
              refine g_iload_n X 0 rfl dX7_times_120 ?_
              refine g_iald X la_74 e3_104 dX7_times_121 (by omega) (x := M_104.1 74 b3_104.toNat) rfl ?_
              refine g_iast X la_76 e3_104 dX7_times_122 (by omega) ?_
              have Iq6 : Iv TM (ui M_104 76 b3_104.toNat (M_104.1 74 b3_104.toNat)) := I_104.otherA rfl
              have frq7 : Fr W_X7_times_71 Mq (ui M_104 76 b3_104.toNat (M_104.1 74 b3_104.toNat)) := fr_104.ui rfl
              refine g_iinc X 0 (fun v => [(3, .int v), (0, .ref (ad 47)), (1, .ref (ad 71)), (2, .int x2)]) dX7_times_123 rfl (by decide) (fun _ => rfl) (fun zq8 eq9 => ?_)
              have tq10 : zq8.toInt = b3_104 + 1 := add_nw eq9 e3_104 (show (Int32.ofInt 1).toInt = 1 by decide) (by omega)
              refine g_goto X (tgt := 104) dX7_times_126 (by decide) ?_
              refine g_sub [0, 1, 2, 3] rfl ?_
              exact ih104 zq8 _ tq10 (ui M_104 76 b3_104.toNat (M_104.1 74 b3_104.toNat)) (by omega) Iq6 frq7 (by omega)
        refine g_sub [0, 1, 2, 3] rfl ?_
        exact lp104 _ 0 _ (show (0 : Int32).toInt = 0 by decide) M_2 (by omega) I_2 fr_2 (Nat.lt_succ_self _)
      · refine g_iconst X 0 dX7_times_10 (by decide) ?_
        refine g_istore X [(4, .int 0), (3, .int y3_2), (0, .ref (ad 47)), (1, .ref (ad 71)), (2, .int x2)] dX7_times_11 (by decide) rfl ?_
        have lp13 : ∀ n : Nat, ∀ (y4_13 : Int32) (b4_13 : Int), y4_13.toInt = b4_13 → ∀ (M_13 : Mem), (0 ≤ b4_13) → (Iv TM M_13) → (Fr W_X7_times_71 Mq M_13) → ((Mq.1 47 44).toInt + 1 - b4_13).toNat < n → G Γ M_13 13 [(4, .int y4_13), (3, .int y3_2), (0, .ref (ad 47)), (1, .ref (ad 71)), (2, .int x2)] [] := by
          intro n
          induction n with
          | zero => intro y4_13 b4_13 e4_13 M_13 i2 I_13 fr_13 hm; exact absurd hm (Nat.not_lt_zero _)
          | succ n ih13 =>
            intro y4_13 b4_13 e4_13 M_13 i2 I_13 fr_13 hm13
            have trq11 : (M_13.1 47 44).toInt = (Mq.1 47 44).toInt := congrArg Int32.toInt (fr_13.at 47 44 rfl)
            refine g_iload X 0 rfl dX7_times_13 ?_
            refine g_aload_n X 2 rfl dX7_times_15 ?_
            refine g_geti X f_X7_282 dX7_times_16 (x := M_13.1 47 44) rfl ?_
            have bq12 := ig_47_44 I_13
            refine g_icmp_gt X e4_13 rfl (tgt := 96) dX7_times_19 (by decide) (fun cq13 => ?_) (fun cq13 => ?_)
            · refine g_iinc X 1 (fun v => [(3, .int v), (4, .int y4_13), (0, .ref (ad 47)), (1, .ref (ad 71)), (2, .int x2)]) dX7_times_96 rfl (by decide) (fun _ => rfl) (fun zq14 eq15 => ?_)
              have tq16 : zq14.toInt = b3_2 + 1 := add_nw eq15 e3_2 (show (Int32.ofInt 1).toInt = 1 by decide) (by omega)
              refine g_goto X (tgt := 2) dX7_times_99 (by decide) ?_
              refine g_sub [0, 2, 3, 4] rfl ?_
              exact ih2 zq14 _ tq16 M_13 (by omega) I_13 fr_13 (by omega)
            · refine g_lconst X 0 dX7_times_22 (by decide) ?_
              refine g_lstore X [(5, .long 0), (4, .int y4_13), (3, .int y3_2), (0, .ref (ad 47)), (1, .ref (ad 71)), (2, .int x2)] dX7_times_23 (by decide) rfl ?_
              refine g_iload_n X 2 rfl dX7_times_25 ?_
              refine g_istore X [(7, .int y3_2), (5, .long 0), (4, .int y4_13), (3, .int y3_2), (0, .ref (ad 47)), (1, .ref (ad 71)), (2, .int x2)] dX7_times_26 (by decide) rfl ?_
              have lp28 : ∀ n : Nat, ∀ (y7_28 : Int32) (b7_28 : Int), y7_28.toInt = b7_28 → ∀ (y5_28 : Int64) (b5_28 : Int), y5_28.toInt = b5_28 → (b3_2 ≤ b7_28) → (b4_13 + 1 - b7_28).toNat < n → G Γ M_13 28 [(7, .int y7_28), (5, .long y5_28), (4, .int y4_13), (3, .int y3_2), (0, .ref (ad 47)), (1, .ref (ad 71)), (2, .int x2)] [] := by
                intro n
                induction n with
                | zero => intro y7_28 b7_28 e7_28 y5_28 b5_28 e5_28 i3 hm; exact absurd hm (Nat.not_lt_zero _)
                | succ n ih28 =>
                  intro y7_28 b7_28 e7_28 y5_28 b5_28 e5_28 i3 hm28
                  refine g_iload X 0 rfl dX7_times_28 ?_
                  refine g_iload X 2 rfl dX7_times_30 ?_
                  refine g_icmp_gt X e7_28 e4_13 (tgt := 73) dX7_times_32 (by decide) (fun cq17 => ?_) (fun cq17 => ?_)
                  · refine g_aload_n X 4 rfl dX7_times_73 ?_
                    refine g_getr X f_X7_92 dX7_times_74 ?_
                    refine g_bipush X 25 dX7_times_77 (by decide) ?_
                    refine g_iload_n X 3 rfl dX7_times_79 ?_
                    refine g_imul X dX7_times_80 (fun zq18 eq19 => ?_)
                    have tq20 : zq18.toInt = 25 * b3_2 := mul_nw eq19 (show (25 : Int32).toInt = 25 by decide) e3_2 (by omega)
                    refine g_iload X 2 rfl dX7_times_81 ?_
                    refine g_iadd X dX7_times_83 (fun zq21 eq22 => ?_)
                    have tq23 : zq21.toInt = (25 * b3_2) + b4_13 := add_nw eq22 tq20 e4_13 (by omega)
                    refine g_lload X 1 rfl dX7_times_84 ?_
                    refine g_callS X m_X7_285 (c_X7_least ad M_13 y5_28 e5_28) rfl (by decide) (Nat.le_of_ble_eq_true rfl) rfl dX7_times_86 ?_
                    rintro _ _ ⟨rq24, aq25, rfl, tq26, hq27, rfl⟩
                    show G Γ M_13 89 [(7, .int y7_28), (5, .long y5_28), (4, .int y4_13), (3, .int y3_2), (0, .ref (ad 47)), (1, .ref (ad 71)), (2, .int x2)] [.int rq24, .int zq21, .ref (ad 74)]
                    refine g_iast X la_74 tq23 dX7_times_89 (by omega) ?_
                    have Iq28 : Iv TM (ui M_13 74 (((25 * b3_2) + b4_13).toNat) rq24) := I_13.otherA rfl
                    have frq29 : Fr W_X7_times_71 Mq (ui M_13 74 (((25 * b3_2) + b4_13).toNat) rq24) := fr_13.ui rfl
                    refine g_iinc X 2 (fun v => [(4, .int v), (7, .int y7_28), (5, .long y5_28), (3, .int y3_2), (0, .ref (ad 47)), (1, .ref (ad 71)), (2, .int x2)]) dX7_times_90 rfl (by decide) (fun _ => rfl) (fun zq30 eq31 => ?_)
                    have tq32 : zq30.toInt = b4_13 + 1 := add_nw eq31 e4_13 (show (Int32.ofInt 1).toInt = 1 by decide) (by omega)
                    refine g_goto X (tgt := 13) dX7_times_93 (by decide) ?_
                    refine g_sub [0, 3, 4, 5, 6] rfl ?_
                    exact ih13 zq30 _ tq32 (ui M_13 74 (((25 * b3_2) + b4_13).toNat) rq24) (by omega) Iq28 frq29 (by omega)
                  · refine g_lload X 1 rfl dX7_times_35 ?_
                    refine g_aload_n X 4 rfl dX7_times_37 ?_
                    refine g_getr X f_X7_98 dX7_times_38 ?_
                    refine g_bipush X 25 dX7_times_41 (by decide) ?_
                    refine g_iload_n X 3 rfl dX7_times_43 ?_
                    refine g_imul X dX7_times_44 (fun zq33 eq34 => ?_)
                    have tq35 : zq33.toInt = 25 * b3_2 := mul_nw eq34 (show (25 : Int32).toInt = 25 by decide) e3_2 (by omega)
                    refine g_iload X 0 rfl dX7_times_45 ?_
                    refine g_iadd X dX7_times_47 (fun zq36 eq37 => ?_)
                    have tq38 : zq36.toInt = (25 * b3_2) + b7_28 := add_nw eq37 tq35 e7_28 (by omega)
                    refine g_iald X la_76 tq38 dX7_times_48 (by omega) (x := M_13.1 76 (((25 * b3_2) + b7_28).toNat)) rfl ?_
                    refine g_i2l X dX7_times_49 (fun zq39 eq40 => ?_)
                    have tq41 : zq39.toInt = (M_13.1 76 (((25 * b3_2) + b7_28).toNat)).toInt := i2l_nw eq40 rfl
                    refine g_aload_n X 5 rfl dX7_times_50 ?_
                    refine g_iload_n X 6 rfl dX7_times_51 ?_
                    refine g_bipush X 25 dX7_times_52 (by decide) ?_
                    refine g_iload X 0 rfl dX7_times_54 ?_
                    refine g_imul X dX7_times_56 (fun zq42 eq43 => ?_)
                    have tq44 : zq42.toInt = 25 * b7_28 := mul_nw eq43 (show (25 : Int32).toInt = 25 by decide) e7_28 (by omega)
                    refine g_iadd X dX7_times_57 (fun zq45 eq46 => ?_)
                    have tq47 : zq45.toInt = a2 + (25 * b7_28) := add_nw eq46 t2 tq44 (by omega)
                    refine g_iload X 2 rfl dX7_times_58 ?_
                    refine g_iadd X dX7_times_60 (fun zq48 eq49 => ?_)
                    have tq50 : zq48.toInt = (a2 + (25 * b7_28)) + b4_13 := add_nw eq49 tq47 e4_13 (by omega)
                    refine g_iald X la_71 tq50 dX7_times_61 (by omega) (x := M_13.1 71 (((a2 + (25 * b7_28)) + b4_13).toNat)) rfl ?_
                    refine g_i2l X dX7_times_62 (fun zq51 eq52 => ?_)
                    have tq53 : zq51.toInt = (M_13.1 71 (((a2 + (25 * b7_28)) + b4_13).toNat)).toInt := i2l_nw eq52 rfl
                    refine g_lmul X dX7_times_63 (fun zq54 eq55 => ?_)
                    refine g_ladd X dX7_times_64 (fun zq56 eq57 => ?_)
                    refine g_lstore X [(5, .long zq56), (7, .int y7_28), (4, .int y4_13), (3, .int y3_2), (0, .ref (ad 47)), (1, .ref (ad 71)), (2, .int x2)] dX7_times_65 (by decide) rfl ?_
                    refine g_iinc X 1 (fun v => [(7, .int v), (5, .long zq56), (4, .int y4_13), (3, .int y3_2), (0, .ref (ad 47)), (1, .ref (ad 71)), (2, .int x2)]) dX7_times_67 rfl (by decide) (fun _ => rfl) (fun zq58 eq59 => ?_)
                    have tq60 : zq58.toInt = b7_28 + 1 := add_nw eq59 e7_28 (show (Int32.ofInt 1).toInt = 1 by decide) (by omega)
                    refine g_goto X (tgt := 28) dX7_times_70 (by decide) ?_
                    refine g_sub [0, 1, 2, 3, 4, 5, 6] rfl ?_
                    exact ih28 zq58 _ tq60 zq56 _ rfl (by omega) (by omega)
              refine g_sub [0, 1, 2, 3, 4, 5, 6] rfl ?_
              exact lp28 _ y3_2 _ e3_2 0 _ (show (0 : Int64).toInt = 0 by decide) (by omega) (Nat.lt_succ_self _)
        refine g_sub [0, 1, 2, 3, 4] rfl ?_
        exact lp13 _ 0 _ (show (0 : Int32).toInt = 0 by decide) M_2 (by omega) I_2 fr_2 (Nat.lt_succ_self _)
  refine g_sub [0, 1, 2, 3] rfl ?_
  exact lp2 _ 0 _ (show (0 : Int32).toInt = 0 by decide) Mq (by omega) Iq0 frq0 (Nat.lt_succ_self _)
abbrev W_X7_begins : List (Nat × Nat) := [(74, 99), (76, 99)]
set_option maxHeartbeats 4000000 in
set_option maxRecDepth 4000 in
theorem c_X7_begins (ad : Nat → Nat) (Mq : Mem) (Iq0 : Iv TM Mq) : Ctr ad yX7_begins cX7_begins 2 none 0 [.ref (ad 47)] Mq (fun v M' => v = none ∧ (True) ∧ Iv TM M' ∧ Fr W_X7_begins Mq M') := by
  refine ctr_of (L := [(0, .ref (ad 47))]) (by decide) (Nat.le_of_ble_eq_true rfl) rfl ?_
  intro Γ X
  have X : gX Γ cX7_begins RX7 2 none 0 ad _ := X
  have frq0 : Fr W_X7_begins Mq Mq := Fr.rf
  have g12 := ig_47_12 Iq0
  have g24 := ig_47_24 Iq0
  have g44 := ig_47_44 Iq0
  refine g_iconst X 0 dX7_begins_0 (by decide) ?_
  refine g_istore_n X (i := 1) [(1, .int 0), (0, .ref (ad 47))] dX7_begins_1 rfl (by decide) rfl ?_
  have lp2 : ∀ n : Nat, ∀ (y1_2 : Int32) (b1_2 : Int), y1_2.toInt = b1_2 → ∀ (M_2 : Mem), (0 ≤ b1_2 ∧ b1_2 ≤ 625) → (Iv TM M_2) → (Fr W_X7_begins Mq M_2) → (625 - b1_2).toNat < n → G Γ M_2 2 [(1, .int y1_2), (0, .ref (ad 47))] [] := by
    intro n
    induction n with
    | zero => intro y1_2 b1_2 e1_2 M_2 i1 I_2 fr_2 hm; exact absurd hm (Nat.not_lt_zero _)
    | succ n ih2 =>
      intro y1_2 b1_2 e1_2 M_2 i1 I_2 fr_2 hm2
      refine g_iload_n X 0 rfl dX7_begins_2 ?_
      refine g_sipush X 625 dX7_begins_3 (by decide) ?_
      refine g_icmp_ge X e1_2 (show (625 : Int32).toInt = 625 by decide) (tgt := 40) dX7_begins_6 (by decide) (fun cq1 => ?_) (fun cq1 => ?_)
      · exact g_vret X dX7_begins_40 ⟨rfl, trivial, I_2, fr_2⟩
      · refine g_aload_n X 1 rfl dX7_begins_9 ?_
        refine g_getr X f_X7_98 dX7_begins_10 ?_
        refine g_iload_n X 0 rfl dX7_begins_13 ?_
        refine g_iload_n X 0 rfl dX7_begins_14 ?_
        refine g_bipush X 26 dX7_begins_15 (by decide) ?_
        refine g_irem X dX7_begins_17 (ne0 (show (26 : Int32).toInt = 26 by decide) (by omega)) (fun zq2 eq3 => ?_)
        have tq4 : zq2.toInt = b1_2 % 26 := rem_nw eq3 e1_2 (show (26 : Int32).toInt = 26 by decide) (by omega)
        refine g_if_ne X tq4 (tgt := 25) dX7_begins_18 (by decide) (fun cq5 => ?_) (fun cq5 => ?_)
        · refine g_iconst X 0 dX7_begins_25 (by decide) ?_
          refine g_iast X la_76 e1_2 dX7_begins_26 (by omega) ?_
          have ltq6 : (0 : Int32).toInt = 0 := by decide
          have Iq7 : Iv TM (ui M_2 76 b1_2.toNat 0) := I_2.otherA rfl
          have frq8 : Fr W_X7_begins Mq (ui M_2 76 b1_2.toNat 0) := fr_2.ui rfl
          refine g_aload_n X 1 rfl dX7_begins_27 ?_
          refine g_getr X f_X7_92 dX7_begins_28 ?_
          refine g_iload_n X 0 rfl dX7_begins_31 ?_
          refine g_iconst X 0 dX7_begins_32 (by decide) ?_
          refine g_iast X la_74 e1_2 dX7_begins_33 (by omega) ?_
          have ltq9 : (0 : Int32).toInt = 0 := by decide
          have Iq10 : Iv TM (ui (ui M_2 76 b1_2.toNat 0) 74 b1_2.toNat 0) := Iq7.otherA rfl
          have frq11 : Fr W_X7_begins Mq (ui (ui M_2 76 b1_2.toNat 0) 74 b1_2.toNat 0) := frq8.ui rfl
          refine g_iinc X 0 (fun v => [(1, .int v), (0, .ref (ad 47))]) dX7_begins_34 rfl (by decide) (fun _ => rfl) (fun zq12 eq13 => ?_)
          have tq14 : zq12.toInt = b1_2 + 1 := add_nw eq13 e1_2 (show (Int32.ofInt 1).toInt = 1 by decide) (by omega)
          refine g_goto X (tgt := 2) dX7_begins_37 (by decide) ?_
          refine g_sub [0, 1] rfl ?_
          exact ih2 zq12 _ tq14 (ui (ui M_2 76 b1_2.toNat 0) 74 b1_2.toNat 0) (by omega) Iq10 frq11 (by omega)
        · refine g_iconst X 1 dX7_begins_21 (by decide) ?_
          refine g_goto X (tgt := 26) dX7_begins_22 (by decide) ?_
          refine g_iast X la_76 e1_2 dX7_begins_26 (by omega) ?_
          have ltq15 : (1 : Int32).toInt = 1 := by decide
          have Iq16 : Iv TM (ui M_2 76 b1_2.toNat 1) := I_2.otherA rfl
          have frq17 : Fr W_X7_begins Mq (ui M_2 76 b1_2.toNat 1) := fr_2.ui rfl
          refine g_aload_n X 1 rfl dX7_begins_27 ?_
          refine g_getr X f_X7_92 dX7_begins_28 ?_
          refine g_iload_n X 0 rfl dX7_begins_31 ?_
          refine g_iconst X 0 dX7_begins_32 (by decide) ?_
          refine g_iast X la_74 e1_2 dX7_begins_33 (by omega) ?_
          have ltq18 : (0 : Int32).toInt = 0 := by decide
          have Iq19 : Iv TM (ui (ui M_2 76 b1_2.toNat 1) 74 b1_2.toNat 0) := Iq16.otherA rfl
          have frq20 : Fr W_X7_begins Mq (ui (ui M_2 76 b1_2.toNat 1) 74 b1_2.toNat 0) := frq17.ui rfl
          refine g_iinc X 0 (fun v => [(1, .int v), (0, .ref (ad 47))]) dX7_begins_34 rfl (by decide) (fun _ => rfl) (fun zq21 eq22 => ?_)
          have tq23 : zq21.toInt = b1_2 + 1 := add_nw eq22 e1_2 (show (Int32.ofInt 1).toInt = 1 by decide) (by omega)
          refine g_goto X (tgt := 2) dX7_begins_37 (by decide) ?_
          refine g_sub [0, 1] rfl ?_
          exact ih2 zq21 _ tq23 (ui (ui M_2 76 b1_2.toNat 1) 74 b1_2.toNat 0) (by omega) Iq19 frq20 (by omega)
  refine g_sub [0, 1] rfl ?_
  exact lp2 _ 0 _ (show (0 : Int32).toInt = 0 by decide) Mq (by omega) Iq0 frq0 (Nat.lt_succ_self _)
abbrev W_X7_takesSlot : List (Nat × Nat) := [(76, 99)]
set_option maxHeartbeats 4000000 in
set_option maxRecDepth 4000 in
theorem c_X7_takesSlot (ad : Nat → Nat) (Mq : Mem) (x1 : Int32) {a1 : Int} (t1 : x1.toInt = a1) (Iq0 : Iv TM Mq) : Ctr ad yX7_takesSlot cX7_takesSlot 4 none 2 [.ref (ad 47), .int x1] Mq (fun v M' => v = none ∧ (True) ∧ Iv TM M' ∧ Fr W_X7_takesSlot Mq M') := by
  refine ctr_of (L := [(0, .ref (ad 47)), (1, .int x1)]) (by decide) (Nat.le_of_ble_eq_true rfl) rfl ?_
  intro Γ X
  have X : gX Γ cX7_takesSlot RX7 4 none 2 ad _ := X
  have frq0 : Fr W_X7_takesSlot Mq Mq := Fr.rf
  have g12 := ig_47_12 Iq0
  have g24 := ig_47_24 Iq0
  have g44 := ig_47_44 Iq0
  refine g_iconst X 0 dX7_takesSlot_0 (by decide) ?_
  refine g_istore_n X (i := 2) [(2, .int 0), (0, .ref (ad 47)), (1, .int x1)] dX7_takesSlot_1 rfl (by decide) rfl ?_
  have lp2 : ∀ n : Nat, ∀ (y2_2 : Int32) (b2_2 : Int), y2_2.toInt = b2_2 → ∀ (M_2 : Mem), (0 ≤ b2_2) → (Iv TM M_2) → (Fr W_X7_takesSlot Mq M_2) → ((Mq.1 47 44).toInt + 1 - b2_2).toNat < n → G Γ M_2 2 [(2, .int y2_2), (0, .ref (ad 47)), (1, .int x1)] [] := by
    intro n
    induction n with
    | zero => intro y2_2 b2_2 e2_2 M_2 i1 I_2 fr_2 hm; exact absurd hm (Nat.not_lt_zero _)
    | succ n ih2 =>
      intro y2_2 b2_2 e2_2 M_2 i1 I_2 fr_2 hm2
      have trq1 : (M_2.1 47 44).toInt = (Mq.1 47 44).toInt := congrArg Int32.toInt (fr_2.at 47 44 rfl)
      refine g_iload_n X 0 rfl dX7_takesSlot_2 ?_
      refine g_aload_n X 1 rfl dX7_takesSlot_3 ?_
      refine g_geti X f_X7_282 dX7_takesSlot_4 (x := M_2.1 47 44) rfl ?_
      have bq2 := ig_47_44 I_2
      refine g_icmp_gt X e2_2 rfl (tgt := 79) dX7_takesSlot_7 (by decide) (fun cq3 => ?_) (fun cq3 => ?_)
      · exact g_vret X dX7_takesSlot_79 ⟨rfl, trivial, I_2, fr_2⟩
      · refine g_aload_n X 1 rfl dX7_takesSlot_10 ?_
        refine g_geti X f_X7_282 dX7_takesSlot_11 (x := M_2.1 47 44) rfl ?_
        have bq4 := ig_47_44 I_2
        refine g_istore_n X (i := 3) [(3, .int (M_2.1 47 44)), (2, .int y2_2), (0, .ref (ad 47)), (1, .int x1)] dX7_takesSlot_14 rfl (by decide) rfl ?_
        have lp15 : ∀ n : Nat, ∀ (y3_15 : Int32) (b3_15 : Int), y3_15.toInt = b3_15 → ∀ (M_15 : Mem), (0 ≤ b3_15 ∧ b3_15 ≤ (Mq.1 47 44).toInt) → (Iv TM M_15) → (Fr W_X7_takesSlot Mq M_15) → (b3_15).toNat < n → G Γ M_15 15 [(3, .int y3_15), (2, .int y2_2), (0, .ref (ad 47)), (1, .int x1)] [] := by
          intro n
          induction n with
          | zero => intro y3_15 b3_15 e3_15 M_15 i2 I_15 fr_15 hm; exact absurd hm (Nat.not_lt_zero _)
          | succ n ih15 =>
            intro y3_15 b3_15 e3_15 M_15 i2 I_15 fr_15 hm15
            have trq5 : (M_15.1 47 44).toInt = (Mq.1 47 44).toInt := congrArg Int32.toInt (fr_15.at 47 44 rfl)
            refine g_iload_n X 0 rfl dX7_takesSlot_15 ?_
            refine g_if_le X e3_15 (tgt := 63) dX7_takesSlot_16 (by decide) (fun cq6 => ?_) (fun cq6 => ?_)
            · refine g_aload_n X 2 rfl dX7_takesSlot_63 ?_
              refine g_getr X f_X7_98 dX7_takesSlot_64 ?_
              refine g_bipush X 25 dX7_takesSlot_67 (by decide) ?_
              refine g_iload_n X 1 rfl dX7_takesSlot_69 ?_
              refine g_imul X dX7_takesSlot_70 (fun zq7 eq8 => ?_)
              have tq9 : zq7.toInt = 25 * b2_2 := mul_nw eq8 (show (25 : Int32).toInt = 25 by decide) e2_2 (by omega)
              refine g_iconst X 0 dX7_takesSlot_71 (by decide) ?_
              refine g_iast X la_76 tq9 dX7_takesSlot_72 (by omega) ?_
              have ltq10 : (0 : Int32).toInt = 0 := by decide
              have Iq11 : Iv TM (ui M_15 76 ((25 * b2_2).toNat) 0) := I_15.otherA rfl
              have frq12 : Fr W_X7_takesSlot Mq (ui M_15 76 ((25 * b2_2).toNat) 0) := fr_15.ui rfl
              refine g_iinc X 1 (fun v => [(2, .int v), (3, .int y3_15), (0, .ref (ad 47)), (1, .int x1)]) dX7_takesSlot_73 rfl (by decide) (fun _ => rfl) (fun zq13 eq14 => ?_)
              have tq15 : zq13.toInt = b2_2 + 1 := add_nw eq14 e2_2 (show (Int32.ofInt 1).toInt = 1 by decide) (by omega)
              refine g_goto X (tgt := 2) dX7_takesSlot_76 (by decide) ?_
              refine g_sub [0, 2, 3] rfl ?_
              exact ih2 zq13 _ tq15 (ui M_15 76 ((25 * b2_2).toNat) 0) (by omega) Iq11 frq12 (by omega)
            · refine g_aload_n X 2 rfl dX7_takesSlot_19 ?_
              refine g_getr X f_X7_98 dX7_takesSlot_20 ?_
              refine g_bipush X 25 dX7_takesSlot_23 (by decide) ?_
              refine g_iload_n X 1 rfl dX7_takesSlot_25 ?_
              refine g_imul X dX7_takesSlot_26 (fun zq16 eq17 => ?_)
              have tq18 : zq16.toInt = 25 * b2_2 := mul_nw eq17 (show (25 : Int32).toInt = 25 by decide) e2_2 (by omega)
              refine g_iload_n X 0 rfl dX7_takesSlot_27 ?_
              refine g_iadd X dX7_takesSlot_28 (fun zq19 eq20 => ?_)
              have tq21 : zq19.toInt = (25 * b2_2) + b3_15 := add_nw eq20 tq18 e3_15 (by omega)
              refine g_aload_n X 2 rfl dX7_takesSlot_29 ?_
              refine g_getr X f_X7_98 dX7_takesSlot_30 ?_
              refine g_bipush X 25 dX7_takesSlot_33 (by decide) ?_
              refine g_iload_n X 1 rfl dX7_takesSlot_35 ?_
              refine g_imul X dX7_takesSlot_36 (fun zq22 eq23 => ?_)
              have tq24 : zq22.toInt = 25 * b2_2 := mul_nw eq23 (show (25 : Int32).toInt = 25 by decide) e2_2 (by omega)
              refine g_iload_n X 0 rfl dX7_takesSlot_37 ?_
              refine g_iadd X dX7_takesSlot_38 (fun zq25 eq26 => ?_)
              have tq27 : zq25.toInt = (25 * b2_2) + b3_15 := add_nw eq26 tq24 e3_15 (by omega)
              refine g_iconst X 1 dX7_takesSlot_39 (by decide) ?_
              refine g_isub X dX7_takesSlot_40 (fun zq28 eq29 => ?_)
              have tq30 : zq28.toInt = ((25 * b2_2) + b3_15) - 1 := sub_nw eq29 tq27 (show (1 : Int32).toInt = 1 by decide) (by omega)
              refine g_iald X la_76 tq30 dX7_takesSlot_41 (by omega) (x := M_15.1 76 ((((25 * b2_2) + b3_15) - 1).toNat)) rfl ?_
              refine g_i2l X dX7_takesSlot_42 (fun zq31 eq32 => ?_)
              have tq33 : zq31.toInt = (M_15.1 76 ((((25 * b2_2) + b3_15) - 1).toNat)).toInt := i2l_nw eq32 rfl
              refine g_aload_n X 2 rfl dX7_takesSlot_43 ?_
              refine g_iload_n X 0 rfl dX7_takesSlot_44 ?_
              refine g_iconst X 1 dX7_takesSlot_45 (by decide) ?_
              refine g_isub X dX7_takesSlot_46 (fun zq34 eq35 => ?_)
              have tq36 : zq34.toInt = b3_15 - 1 := sub_nw eq35 e3_15 (show (1 : Int32).toInt = 1 by decide) (by omega)
              refine g_iload_n X 3 rfl dX7_takesSlot_47 ?_
              refine g_callV X m_X7_289 (c_X7_waysAt ad M_15 zq34 tq36 x1 t1 I_15 (by omega)) rfl (by decide) (Nat.le_of_ble_eq_true rfl) rfl dX7_takesSlot_48 ?_
              rintro _ _ ⟨rq37, aq38, rfl, tq39, hq40, rfl⟩
              show G Γ M_15 51 [(3, .int y3_15), (2, .int y2_2), (0, .ref (ad 47)), (1, .int x1)] [.int rq37, .long zq31, .int zq19, .ref (ad 76)]
              refine g_i2l X dX7_takesSlot_51 (fun zq41 eq42 => ?_)
              have tq43 : zq41.toInt = aq38 := i2l_nw eq42 tq39
              refine g_lmul X dX7_takesSlot_52 (fun zq44 eq45 => ?_)
              refine g_callS X m_X7_285 (c_X7_least ad M_15 zq44 rfl) rfl (by decide) (Nat.le_of_ble_eq_true rfl) rfl dX7_takesSlot_53 ?_
              rintro _ _ ⟨rq46, aq47, rfl, tq48, hq49, rfl⟩
              show G Γ M_15 56 [(3, .int y3_15), (2, .int y2_2), (0, .ref (ad 47)), (1, .int x1)] [.int rq46, .int zq19, .ref (ad 76)]
              refine g_iast X la_76 tq21 dX7_takesSlot_56 (by omega) ?_
              have Iq50 : Iv TM (ui M_15 76 (((25 * b2_2) + b3_15).toNat) rq46) := I_15.otherA rfl
              have frq51 : Fr W_X7_takesSlot Mq (ui M_15 76 (((25 * b2_2) + b3_15).toNat) rq46) := fr_15.ui rfl
              refine g_iinc X 0 (fun v => [(3, .int v), (2, .int y2_2), (0, .ref (ad 47)), (1, .int x1)]) dX7_takesSlot_57 rfl (by decide) (fun _ => rfl) (fun zq52 eq53 => ?_)
              have tq54 : zq52.toInt = b3_15 + (-1) := add_nw eq53 e3_15 (show (Int32.ofInt (-1)).toInt = (-1) by decide) (by omega)
              refine g_goto X (tgt := 15) dX7_takesSlot_60 (by decide) ?_
              refine g_sub [0, 1, 2, 3] rfl ?_
              exact ih15 zq52 _ tq54 (ui M_15 76 (((25 * b2_2) + b3_15).toNat) rq46) (by omega) Iq50 frq51 (by omega)
        refine g_sub [0, 1, 2, 3] rfl ?_
        exact lp15 _ (M_2.1 47 44) _ rfl M_2 (by omega) I_2 fr_2 (Nat.lt_succ_self _)
  refine g_sub [0, 1, 2] rfl ?_
  exact lp2 _ 0 _ (show (0 : Int32).toInt = 0 by decide) Mq (by omega) Iq0 frq0 (Nat.lt_succ_self _)
abbrev W_X7_goesBehind : List (Nat × Nat) := [(74, 99), (76, 99)]
set_option maxHeartbeats 4000000 in
set_option maxRecDepth 4000 in
theorem c_X7_goesBehind (ad : Nat → Nat) (Mq : Mem) (x1 : Int32) {a1 : Int} (t1 : x1.toInt = a1) (Iq0 : Iv TM Mq) (h1 : 0 ≤ a1 ∧ a1 ≤ 30) : Ctr ad yX7_goesBehind cX7_goesBehind 3 none 2 [.ref (ad 47), .int x1] Mq (fun v M' => v = none ∧ (True) ∧ Iv TM M' ∧ Fr W_X7_goesBehind Mq M') := by
  refine ctr_of (L := [(0, .ref (ad 47)), (1, .int x1)]) (by decide) (Nat.le_of_ble_eq_true rfl) rfl ?_
  intro Γ X
  have X : gX Γ cX7_goesBehind RX7 3 none 2 ad _ := X
  have frq0 : Fr W_X7_goesBehind Mq Mq := Fr.rf
  have g12 := ig_47_12 Iq0
  have g24 := ig_47_24 Iq0
  have g44 := ig_47_44 Iq0
  refine g_iconst X 0 dX7_goesBehind_0 (by decide) ?_
  refine g_istore_n X (i := 2) [(2, .int 0), (0, .ref (ad 47)), (1, .int x1)] dX7_goesBehind_1 rfl (by decide) rfl ?_
  have lp2 : ∀ n : Nat, ∀ (y2_2 : Int32) (b2_2 : Int), y2_2.toInt = b2_2 → ∀ (M_2 : Mem), (0 ≤ b2_2 ∧ b2_2 ≤ 625) → (Iv TM M_2) → (Fr W_X7_goesBehind Mq M_2) → (625 - b2_2).toNat < n → G Γ M_2 2 [(2, .int y2_2), (0, .ref (ad 47)), (1, .int x1)] [] := by
    intro n
    induction n with
    | zero => intro y2_2 b2_2 e2_2 M_2 i1 I_2 fr_2 hm; exact absurd hm (Nat.not_lt_zero _)
    | succ n ih2 =>
      intro y2_2 b2_2 e2_2 M_2 i1 I_2 fr_2 hm2
      refine g_iload_n X 0 rfl dX7_goesBehind_2 ?_
      refine g_sipush X 625 dX7_goesBehind_3 (by decide) ?_
      refine g_icmp_ge X e2_2 (show (625 : Int32).toInt = 625 by decide) (tgt := 33) dX7_goesBehind_6 (by decide) (fun cq1 => ?_) (fun cq1 => ?_)
      · refine g_aload_n X 1 rfl dX7_goesBehind_33 ?_
        refine g_aload_n X 1 rfl dX7_goesBehind_34 ?_
        refine g_getr X f_X7_89 dX7_goesBehind_35 ?_
        refine g_sipush X 625 dX7_goesBehind_38 (by decide) ?_
        refine g_iload_n X 2 rfl dX7_goesBehind_41 ?_
        refine g_imul X dX7_goesBehind_42 (fun zq2 eq3 => ?_)
        have tq4 : zq2.toInt = 625 * a1 := mul_nw eq3 (show (625 : Int32).toInt = 625 by decide) t1 (by omega)
        refine g_callV X m_X7_295 (c_X7_times_73 ad M_2 zq2 tq4 I_2 (by omega)) rfl (by decide) (Nat.le_of_ble_eq_true rfl) rfl dX7_goesBehind_43 ?_
        rintro _ Mq9 ⟨rfl, hq8, Iq10, frq11⟩
        have frq12 : Fr W_X7_goesBehind Mq Mq9 := fr_2.trans frq11 rfl
        show G Γ Mq9 46 [(2, .int y2_2), (0, .ref (ad 47)), (1, .int x1)] []
        exact g_vret X dX7_goesBehind_46 ⟨rfl, trivial, Iq10, frq12⟩
      · refine g_aload_n X 1 rfl dX7_goesBehind_9 ?_
        refine g_getr X f_X7_98 dX7_goesBehind_10 ?_
        refine g_iload_n X 0 rfl dX7_goesBehind_13 ?_
        refine g_aload_n X 1 rfl dX7_goesBehind_14 ?_
        refine g_getr X f_X7_86 dX7_goesBehind_15 ?_
        refine g_sipush X 625 dX7_goesBehind_18 (by decide) ?_
        refine g_iload_n X 2 rfl dX7_goesBehind_21 ?_
        refine g_imul X dX7_goesBehind_22 (fun zq13 eq14 => ?_)
        have tq15 : zq13.toInt = 625 * a1 := mul_nw eq14 (show (625 : Int32).toInt = 625 by decide) t1 (by omega)
        refine g_iload_n X 0 rfl dX7_goesBehind_23 ?_
        refine g_iadd X dX7_goesBehind_24 (fun zq16 eq17 => ?_)
        have tq18 : zq16.toInt = (625 * a1) + b2_2 := add_nw eq17 tq15 e2_2 (by omega)
        refine g_iald X la_72 tq18 dX7_goesBehind_25 (by omega) (x := M_2.1 72 (((625 * a1) + b2_2).toNat)) rfl ?_
        refine g_iast X la_76 e2_2 dX7_goesBehind_26 (by omega) ?_
        have Iq19 : Iv TM (ui M_2 76 b2_2.toNat (M_2.1 72 (((625 * a1) + b2_2).toNat))) := I_2.otherA rfl
        have frq20 : Fr W_X7_goesBehind Mq (ui M_2 76 b2_2.toNat (M_2.1 72 (((625 * a1) + b2_2).toNat))) := fr_2.ui rfl
        refine g_iinc X 0 (fun v => [(2, .int v), (0, .ref (ad 47)), (1, .int x1)]) dX7_goesBehind_27 rfl (by decide) (fun _ => rfl) (fun zq21 eq22 => ?_)
        have tq23 : zq21.toInt = b2_2 + 1 := add_nw eq22 e2_2 (show (Int32.ofInt 1).toInt = 1 by decide) (by omega)
        refine g_goto X (tgt := 2) dX7_goesBehind_30 (by decide) ?_
        refine g_sub [0, 1, 2] rfl ?_
        exact ih2 zq21 _ tq23 (ui M_2 76 b2_2.toNat (M_2.1 72 (((625 * a1) + b2_2).toNat))) (by omega) Iq19 frq20 (by omega)
  refine g_sub [0, 1, 2] rfl ?_
  exact lp2 _ 0 _ (show (0 : Int32).toInt = 0 by decide) Mq (by omega) Iq0 frq0 (Nat.lt_succ_self _)
abbrev W_X7_closes : List (Nat × Nat) := [(74, 99), (76, 99), (73, 99), (75, 99)]
set_option maxHeartbeats 4000000 in
set_option maxRecDepth 4000 in
theorem c_X7_closes (ad : Nat → Nat) (Mq : Mem) (x1 : Int32) {a1 : Int} (t1 : x1.toInt = a1) (x2 : Int32) {a2 : Int} (t2 : x2.toInt = a2) (Iq0 : Iv TM Mq) (h1 : a1 ≤ 3) (h2 : 0 ≤ a2 ∧ a2 ≤ 30) : Ctr ad yX7_closes cX7_closes 5 none 3 [.ref (ad 47), .int x1, .int x2] Mq (fun v M' => v = none ∧ (True) ∧ Iv TM M' ∧ Fr W_X7_closes Mq M') := by
  refine ctr_of (L := [(0, .ref (ad 47)), (1, .int x1), (2, .int x2)]) (by decide) (Nat.le_of_ble_eq_true rfl) rfl ?_
  intro Γ X
  have X : gX Γ cX7_closes RX7 5 none 3 ad _ := X
  have frq0 : Fr W_X7_closes Mq Mq := Fr.rf
  have g12 := ig_47_12 Iq0
  have g24 := ig_47_24 Iq0
  have g44 := ig_47_44 Iq0
  refine g_iconst X 0 dX7_closes_0 (by decide) ?_
  refine g_istore_n X (i := 3) [(3, .int 0), (0, .ref (ad 47)), (1, .int x1), (2, .int x2)] dX7_closes_1 rfl (by decide) rfl ?_
  have lp2 : ∀ n : Nat, ∀ (y3_2 : Int32) (b3_2 : Int), y3_2.toInt = b3_2 → ∀ (M_2 : Mem), (0 ≤ b3_2 ∧ b3_2 ≤ 625) → (Iv TM M_2) → (Fr W_X7_closes Mq M_2) → (625 - b3_2).toNat < n → G Γ M_2 2 [(3, .int y3_2), (0, .ref (ad 47)), (1, .int x1), (2, .int x2)] [] := by
    intro n
    induction n with
    | zero => intro y3_2 b3_2 e3_2 M_2 i1 I_2 fr_2 hm; exact absurd hm (Nat.not_lt_zero _)
    | succ n ih2 =>
      intro y3_2 b3_2 e3_2 M_2 i1 I_2 fr_2 hm2
      refine g_iload_n X 0 rfl dX7_closes_2 ?_
      refine g_sipush X 625 dX7_closes_3 (by decide) ?_
      refine g_icmp_ge X e3_2 (show (625 : Int32).toInt = 625 by decide) (tgt := 51) dX7_closes_6 (by decide) (fun cq1 => ?_) (fun cq1 => ?_)
      · refine g_aload_n X 1 rfl dX7_closes_51 ?_
        refine g_callV X m_X7_292 (c_X7_begins ad M_2 I_2) rfl (by decide) (Nat.le_of_ble_eq_true rfl) rfl dX7_closes_52 ?_
        rintro _ Mq6 ⟨rfl, hq5, Iq7, frq8⟩
        have frq9 : Fr W_X7_closes Mq Mq6 := fr_2.trans frq8 rfl
        show G Γ Mq6 55 [(3, .int y3_2), (0, .ref (ad 47)), (1, .int x1), (2, .int x2)] []
        refine g_iconst X 0 dX7_closes_55 (by decide) ?_
        refine g_istore_n X (i := 3) [(3, .int 0), (0, .ref (ad 47)), (1, .int x1), (2, .int x2)] dX7_closes_56 rfl (by decide) rfl ?_
        have lp57 : ∀ n : Nat, ∀ (y3_57 : Int32) (b3_57 : Int), y3_57.toInt = b3_57 → ∀ (M_57 : Mem), (0 ≤ b3_57) → (Iv TM M_57) → (Fr W_X7_closes Mq M_57) → (a1 - b3_57).toNat < n → G Γ M_57 57 [(3, .int y3_57), (0, .ref (ad 47)), (1, .int x1), (2, .int x2)] [] := by
          intro n
          induction n with
          | zero => intro y3_57 b3_57 e3_57 M_57 i2 I_57 fr_57 hm; exact absurd hm (Nat.not_lt_zero _)
          | succ n ih57 =>
            intro y3_57 b3_57 e3_57 M_57 i2 I_57 fr_57 hm57
            refine g_iload_n X 0 rfl dX7_closes_57 ?_
            refine g_iload_n X 2 rfl dX7_closes_58 ?_
            refine g_icmp_ge X e3_57 t1 (tgt := 133) dX7_closes_59 (by decide) (fun cq10 => ?_) (fun cq10 => ?_)
            · refine g_aload_n X 1 rfl dX7_closes_133 ?_
              refine g_iload_n X 3 rfl dX7_closes_134 ?_
              refine g_callV X m_X7_299 (c_X7_goesBehind ad M_57 x2 t2 I_57 (by omega)) rfl (by decide) (Nat.le_of_ble_eq_true rfl) rfl dX7_closes_135 ?_
              rintro _ Mq15 ⟨rfl, hq14, Iq16, frq17⟩
              have frq18 : Fr W_X7_closes Mq Mq15 := fr_57.trans frq17 rfl
              show G Γ Mq15 138 [(3, .int y3_57), (0, .ref (ad 47)), (1, .int x1), (2, .int x2)] []
              exact g_vret X dX7_closes_138 ⟨rfl, trivial, Iq16, frq18⟩
            · refine g_aload_n X 1 rfl dX7_closes_62 ?_
              refine g_aload_n X 1 rfl dX7_closes_63 ?_
              refine g_getr X f_X7_95 dX7_closes_64 ?_
              refine g_iconst X 0 dX7_closes_67 (by decide) ?_
              refine g_callV X m_X7_295 (c_X7_times_75 ad M_57 0 (show (0 : Int32).toInt = 0 by decide) I_57 (by omega)) rfl (by decide) (Nat.le_of_ble_eq_true rfl) rfl dX7_closes_68 ?_
              rintro _ Mq23 ⟨rfl, hq22, Iq24, frq25⟩
              have frq26 : Fr W_X7_closes Mq Mq23 := fr_57.trans frq25 rfl
              show G Γ Mq23 71 [(3, .int y3_57), (0, .ref (ad 47)), (1, .int x1), (2, .int x2)] []
              refine g_iconst X 0 dX7_closes_71 (by decide) ?_
              refine g_istore X [(4, .int 0), (3, .int y3_57), (0, .ref (ad 47)), (1, .int x1), (2, .int x2)] dX7_closes_72 (by decide) rfl ?_
              have lp74 : ∀ n : Nat, ∀ (y4_74 : Int32) (b4_74 : Int), y4_74.toInt = b4_74 → ∀ (M_74 : Mem), (0 ≤ b4_74 ∧ b4_74 ≤ 625) → (Iv TM M_74) → (Fr W_X7_closes Mq M_74) → (625 - b4_74).toNat < n → G Γ M_74 74 [(4, .int y4_74), (3, .int y3_57), (0, .ref (ad 47)), (1, .int x1), (2, .int x2)] [] := by
                intro n
                induction n with
                | zero => intro y4_74 b4_74 e4_74 M_74 i3 I_74 fr_74 hm; exact absurd hm (Nat.not_lt_zero _)
                | succ n ih74 =>
                  intro y4_74 b4_74 e4_74 M_74 i3 I_74 fr_74 hm74
                  refine g_iload X 0 rfl dX7_closes_74 ?_
                  refine g_sipush X 625 dX7_closes_76 (by decide) ?_
                  refine g_icmp_ge X e4_74 (show (625 : Int32).toInt = 625 by decide) (tgt := 127) dX7_closes_79 (by decide) (fun cq27 => ?_) (fun cq27 => ?_)
                  · refine g_iinc X 1 (fun v => [(3, .int v), (4, .int y4_74), (0, .ref (ad 47)), (1, .int x1), (2, .int x2)]) dX7_closes_127 rfl (by decide) (fun _ => rfl) (fun zq28 eq29 => ?_)
                    have tq30 : zq28.toInt = b3_57 + 1 := add_nw eq29 e3_57 (show (Int32.ofInt 1).toInt = 1 by decide) (by omega)
                    refine g_goto X (tgt := 57) dX7_closes_130 (by decide) ?_
                    refine g_sub [0, 2, 3, 4] rfl ?_
                    exact ih57 zq28 _ tq30 M_74 (by omega) I_74 fr_74 (by omega)
                  · refine g_aload_n X 2 rfl dX7_closes_82 ?_
                    refine g_getr X f_X7_89 dX7_closes_83 ?_
                    refine g_sipush X 625 dX7_closes_86 (by decide) ?_
                    refine g_iload_n X 4 rfl dX7_closes_89 ?_
                    refine g_imul X dX7_closes_90 (fun zq31 eq32 => ?_)
                    have tq33 : zq31.toInt = 625 * a2 := mul_nw eq32 (show (625 : Int32).toInt = 625 by decide) t2 (by omega)
                    refine g_iload X 0 rfl dX7_closes_91 ?_
                    refine g_iadd X dX7_closes_93 (fun zq34 eq35 => ?_)
                    have tq36 : zq34.toInt = (625 * a2) + b4_74 := add_nw eq35 tq33 e4_74 (by omega)
                    refine g_aload_n X 2 rfl dX7_closes_94 ?_
                    refine g_getr X f_X7_89 dX7_closes_95 ?_
                    refine g_sipush X 625 dX7_closes_98 (by decide) ?_
                    refine g_iload_n X 4 rfl dX7_closes_101 ?_
                    refine g_imul X dX7_closes_102 (fun zq37 eq38 => ?_)
                    have tq39 : zq37.toInt = 625 * a2 := mul_nw eq38 (show (625 : Int32).toInt = 625 by decide) t2 (by omega)
                    refine g_iload X 0 rfl dX7_closes_103 ?_
                    refine g_iadd X dX7_closes_105 (fun zq40 eq41 => ?_)
                    have tq42 : zq40.toInt = (625 * a2) + b4_74 := add_nw eq41 tq39 e4_74 (by omega)
                    refine g_iald X la_73 tq42 dX7_closes_106 (by omega) (x := M_74.1 73 (((625 * a2) + b4_74).toNat)) rfl ?_
                    refine g_i2l X dX7_closes_107 (fun zq43 eq44 => ?_)
                    have tq45 : zq43.toInt = (M_74.1 73 (((625 * a2) + b4_74).toNat)).toInt := i2l_nw eq44 rfl
                    refine g_aload_n X 2 rfl dX7_closes_108 ?_
                    refine g_getr X f_X7_98 dX7_closes_109 ?_
                    refine g_iload X 0 rfl dX7_closes_112 ?_
                    refine g_iald X la_76 e4_74 dX7_closes_114 (by omega) (x := M_74.1 76 b4_74.toNat) rfl ?_
                    refine g_i2l X dX7_closes_115 (fun zq46 eq47 => ?_)
                    have tq48 : zq46.toInt = (M_74.1 76 b4_74.toNat).toInt := i2l_nw eq47 rfl
                    refine g_ladd X dX7_closes_116 (fun zq49 eq50 => ?_)
                    refine g_callS X m_X7_285 (c_X7_least ad M_74 zq49 rfl) rfl (by decide) (Nat.le_of_ble_eq_true rfl) rfl dX7_closes_117 ?_
                    rintro _ _ ⟨rq51, aq52, rfl, tq53, hq54, rfl⟩
                    show G Γ M_74 120 [(4, .int y4_74), (3, .int y3_57), (0, .ref (ad 47)), (1, .int x1), (2, .int x2)] [.int rq51, .int zq34, .ref (ad 73)]
                    refine g_iast X la_73 tq36 dX7_closes_120 (by omega) ?_
                    have Iq55 : Iv TM (ui M_74 73 (((625 * a2) + b4_74).toNat) rq51) := I_74.otherA rfl
                    have frq56 : Fr W_X7_closes Mq (ui M_74 73 (((625 * a2) + b4_74).toNat) rq51) := fr_74.ui rfl
                    refine g_iinc X 0 (fun v => [(4, .int v), (3, .int y3_57), (0, .ref (ad 47)), (1, .int x1), (2, .int x2)]) dX7_closes_121 rfl (by decide) (fun _ => rfl) (fun zq57 eq58 => ?_)
                    have tq59 : zq57.toInt = b4_74 + 1 := add_nw eq58 e4_74 (show (Int32.ofInt 1).toInt = 1 by decide) (by omega)
                    refine g_goto X (tgt := 74) dX7_closes_124 (by decide) ?_
                    refine g_sub [0, 1, 2, 3, 4] rfl ?_
                    exact ih74 zq57 _ tq59 (ui M_74 73 (((625 * a2) + b4_74).toNat) rq51) (by omega) Iq55 frq56 (by omega)
              refine g_sub [0, 1, 2, 3, 4] rfl ?_
              exact lp74 _ 0 _ (show (0 : Int32).toInt = 0 by decide) Mq23 (by omega) Iq24 frq26 (Nat.lt_succ_self _)
        refine g_sub [0, 1, 2, 3] rfl ?_
        exact lp57 _ 0 _ (show (0 : Int32).toInt = 0 by decide) Mq6 (by omega) Iq7 frq9 (Nat.lt_succ_self _)
      · refine g_aload_n X 1 rfl dX7_closes_9 ?_
        refine g_getr X f_X7_95 dX7_closes_10 ?_
        refine g_iload_n X 0 rfl dX7_closes_13 ?_
        refine g_aload_n X 1 rfl dX7_closes_14 ?_
        refine g_getr X f_X7_98 dX7_closes_15 ?_
        refine g_iload_n X 0 rfl dX7_closes_18 ?_
        refine g_iald X la_76 e3_2 dX7_closes_19 (by omega) (x := M_2.1 76 b3_2.toNat) rfl ?_
        refine g_iast X la_75 e3_2 dX7_closes_20 (by omega) ?_
        have Iq60 : Iv TM (ui M_2 75 b3_2.toNat (M_2.1 76 b3_2.toNat)) := I_2.otherA rfl
        have frq61 : Fr W_X7_closes Mq (ui M_2 75 b3_2.toNat (M_2.1 76 b3_2.toNat)) := fr_2.ui rfl
        refine g_aload_n X 1 rfl dX7_closes_21 ?_
        refine g_getr X f_X7_89 dX7_closes_22 ?_
        refine g_sipush X 625 dX7_closes_25 (by decide) ?_
        refine g_iload_n X 3 rfl dX7_closes_28 ?_
        refine g_imul X dX7_closes_29 (fun zq62 eq63 => ?_)
        have tq64 : zq62.toInt = 625 * a2 := mul_nw eq63 (show (625 : Int32).toInt = 625 by decide) t2 (by omega)
        refine g_iload_n X 0 rfl dX7_closes_30 ?_
        refine g_iadd X dX7_closes_31 (fun zq65 eq66 => ?_)
        have tq67 : zq65.toInt = (625 * a2) + b3_2 := add_nw eq66 tq64 e3_2 (by omega)
        refine g_iload_n X 0 rfl dX7_closes_32 ?_
        refine g_bipush X 26 dX7_closes_33 (by decide) ?_
        refine g_irem X dX7_closes_35 (ne0 (show (26 : Int32).toInt = 26 by decide) (by omega)) (fun zq68 eq69 => ?_)
        have tq70 : zq68.toInt = b3_2 % 26 := rem_nw eq69 e3_2 (show (26 : Int32).toInt = 26 by decide) (by omega)
        refine g_if_ne X tq70 (tgt := 43) dX7_closes_36 (by decide) (fun cq71 => ?_) (fun cq71 => ?_)
        · refine g_iconst X 0 dX7_closes_43 (by decide) ?_
          refine g_iast X la_73 tq67 dX7_closes_44 (by omega) ?_
          have ltq72 : (0 : Int32).toInt = 0 := by decide
          have Iq73 : Iv TM (ui (ui M_2 75 b3_2.toNat (M_2.1 76 b3_2.toNat)) 73 (((625 * a2) + b3_2).toNat) 0) := Iq60.otherA rfl
          have frq74 : Fr W_X7_closes Mq (ui (ui M_2 75 b3_2.toNat (M_2.1 76 b3_2.toNat)) 73 (((625 * a2) + b3_2).toNat) 0) := frq61.ui rfl
          refine g_iinc X 0 (fun v => [(3, .int v), (0, .ref (ad 47)), (1, .int x1), (2, .int x2)]) dX7_closes_45 rfl (by decide) (fun _ => rfl) (fun zq75 eq76 => ?_)
          have tq77 : zq75.toInt = b3_2 + 1 := add_nw eq76 e3_2 (show (Int32.ofInt 1).toInt = 1 by decide) (by omega)
          refine g_goto X (tgt := 2) dX7_closes_48 (by decide) ?_
          refine g_sub [0, 1, 2, 3] rfl ?_
          exact ih2 zq75 _ tq77 (ui (ui M_2 75 b3_2.toNat (M_2.1 76 b3_2.toNat)) 73 (((625 * a2) + b3_2).toNat) 0) (by omega) Iq73 frq74 (by omega)
        · refine g_iconst X 1 dX7_closes_39 (by decide) ?_
          refine g_goto X (tgt := 44) dX7_closes_40 (by decide) ?_
          refine g_iast X la_73 tq67 dX7_closes_44 (by omega) ?_
          have ltq78 : (1 : Int32).toInt = 1 := by decide
          have Iq79 : Iv TM (ui (ui M_2 75 b3_2.toNat (M_2.1 76 b3_2.toNat)) 73 (((625 * a2) + b3_2).toNat) 1) := Iq60.otherA rfl
          have frq80 : Fr W_X7_closes Mq (ui (ui M_2 75 b3_2.toNat (M_2.1 76 b3_2.toNat)) 73 (((625 * a2) + b3_2).toNat) 1) := frq61.ui rfl
          refine g_iinc X 0 (fun v => [(3, .int v), (0, .ref (ad 47)), (1, .int x1), (2, .int x2)]) dX7_closes_45 rfl (by decide) (fun _ => rfl) (fun zq81 eq82 => ?_)
          have tq83 : zq81.toInt = b3_2 + 1 := add_nw eq82 e3_2 (show (Int32.ofInt 1).toInt = 1 by decide) (by omega)
          refine g_goto X (tgt := 2) dX7_closes_48 (by decide) ?_
          refine g_sub [0, 1, 2, 3] rfl ?_
          exact ih2 zq81 _ tq83 (ui (ui M_2 75 b3_2.toNat (M_2.1 76 b3_2.toNat)) 73 (((625 * a2) + b3_2).toNat) 1) (by omega) Iq79 frq80 (by omega)
  refine g_sub [0, 1, 2, 3] rfl ?_
  exact lp2 _ 0 _ (show (0 : Int32).toInt = 0 by decide) Mq (by omega) Iq0 frq0 (Nat.lt_succ_self _)
end
