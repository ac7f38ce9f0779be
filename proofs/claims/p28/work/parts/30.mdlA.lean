section
theorem sh_small {x : Int32} {a : Int} (t : x.toInt = a) (h : 1 ≤ a ∧ a ≤ 8) : 2 ≤ sh x ∧ sh x ≤ 256 := by
  obtain ⟨e, -⟩ := nI_back t (by omega)
  have hk : ∀ n, n < 9 → 1 ≤ n → 2 ≤ sh (nI n) ∧ sh (nI n) ≤ 256 := by decide +kernel
  rw [e]
  exact hk a.toNat (by omega) (by omega)
set_option maxHeartbeats 4000000 in
set_option maxRecDepth 4000 in
theorem c_X7_isIn (ad : Nat → Nat) (Mq : Mem) (x1 : Int64) {a1 : Int} (t1 : x1.toInt = a1) (x2 : Int64) {a2 : Int} (t2 : x2.toInt = a2) (x3 : Int64) {a3 : Int} (t3 : x3.toInt = a3) : Ctr ad yX7_isIn cX7_isIn 6 (some .boolean) 0 [.long x1, .long x2, .long x3] Mq (fun v M' => ∃ (r : Int32) (a : Int), v = some (.int r) ∧ r.toInt = a ∧ ((a = 1 ∧ (a2 ≤ a1 ∧ a1 ≤ a3)) ∨ (a = 0 ∧ ¬ (a2 ≤ a1 ∧ a1 ≤ a3))) ∧ Mq = M') := by
  refine ctr_of (L := [(0, .long x1), (2, .long x2), (4, .long x3)]) (by decide) (Nat.le_of_ble_eq_true rfl) rfl ?_
  intro Γ X
  have X : gX Γ cX7_isIn RX7 6 (some .boolean) 0 ad _ := X
  refine g_lload_n X 0 rfl dX7_isIn_0 ?_
  refine g_lload_n X 1 rfl dX7_isIn_1 ?_
  refine g_lcmp X t1 t2 dX7_isIn_2 (fun zq1 eq2 => ?_)
  refine g_if_lt X rfl (tgt := 17) dX7_isIn_3 (by decide) (fun cq3 => ?_) (fun cq3 => ?_)
  · refine g_iconst X 0 dX7_isIn_17 (by decide) ?_
    exact g_zret X (b01 (show (0 : Int32).toInt = 0 by decide) (by omega)) dX7_isIn_18 ⟨_, _, rfl, (show (0 : Int32).toInt = 0 by decide), (by omega), rfl⟩
  · refine g_lload_n X 0 rfl dX7_isIn_6 ?_
    refine g_lload X 2 rfl dX7_isIn_7 ?_
    refine g_lcmp X t1 t3 dX7_isIn_9 (fun zq4 eq5 => ?_)
    refine g_if_gt X rfl (tgt := 17) dX7_isIn_10 (by decide) (fun cq6 => ?_) (fun cq6 => ?_)
    · refine g_iconst X 0 dX7_isIn_17 (by decide) ?_
      exact g_zret X (b01 (show (0 : Int32).toInt = 0 by decide) (by omega)) dX7_isIn_18 ⟨_, _, rfl, (show (0 : Int32).toInt = 0 by decide), (by omega), rfl⟩
    · refine g_iconst X 1 dX7_isIn_13 (by decide) ?_
      refine g_goto X (tgt := 18) dX7_isIn_14 (by decide) ?_
      exact g_zret X (b01 (show (1 : Int32).toInt = 1 by decide) (by omega)) dX7_isIn_18 ⟨_, _, rfl, (show (1 : Int32).toInt = 1 by decide), (by omega), rfl⟩
set_option maxHeartbeats 4000000 in
set_option maxRecDepth 4000 in
theorem c_X7_isHalf (ad : Nat → Nat) (Mq : Mem) (x1 : Int32) {a1 : Int} (t1 : x1.toInt = a1) : Ctr ad yX7_isHalf cX7_isHalf 2 (some .boolean) 0 [.ref (ad 47), .int x1] Mq (fun v M' => ∃ (r : Int32) (a : Int), v = some (.int r) ∧ r.toInt = a ∧ ((a = 1 ∧ (0 ≤ a1 ∧ a1 < (Mq.1 47 11).toInt)) ∨ (a = 0 ∧ ¬ (0 ≤ a1 ∧ a1 < (Mq.1 47 11).toInt))) ∧ Mq = M') := by
  refine ctr_of (L := [(0, .ref (ad 47)), (1, .int x1)]) (by decide) (Nat.le_of_ble_eq_true rfl) rfl ?_
  intro Γ X
  have X : gX Γ cX7_isHalf RX7 2 (some .boolean) 0 ad _ := X
  refine g_iload_n X 1 rfl dX7_isHalf_0 ?_
  refine g_if_lt X t1 (tgt := 16) dX7_isHalf_1 (by decide) (fun cq1 => ?_) (fun cq1 => ?_)
  · refine g_iconst X 0 dX7_isHalf_16 (by decide) ?_
    exact g_zret X (b01 (show (0 : Int32).toInt = 0 by decide) (by omega)) dX7_isHalf_17 ⟨_, _, rfl, (show (0 : Int32).toInt = 0 by decide), (by omega), rfl⟩
  · refine g_iload_n X 1 rfl dX7_isHalf_4 ?_
    refine g_aload_n X 0 rfl dX7_isHalf_5 ?_
    refine g_geti X f_X7_144 dX7_isHalf_6 (x := Mq.1 47 11) rfl ?_
    refine g_icmp_ge X t1 rfl (tgt := 16) dX7_isHalf_9 (by decide) (fun cq2 => ?_) (fun cq2 => ?_)
    · refine g_iconst X 0 dX7_isHalf_16 (by decide) ?_
      exact g_zret X (b01 (show (0 : Int32).toInt = 0 by decide) (by omega)) dX7_isHalf_17 ⟨_, _, rfl, (show (0 : Int32).toInt = 0 by decide), (by omega), rfl⟩
    · refine g_iconst X 1 dX7_isHalf_12 (by decide) ?_
      refine g_goto X (tgt := 17) dX7_isHalf_13 (by decide) ?_
      exact g_zret X (b01 (show (1 : Int32).toInt = 1 by decide) (by omega)) dX7_isHalf_17 ⟨_, _, rfl, (show (1 : Int32).toInt = 1 by decide), (by omega), rfl⟩
set_option maxHeartbeats 4000000 in
set_option maxRecDepth 4000 in
theorem c_X7_isLine (ad : Nat → Nat) (Mq : Mem) (x1 : Int32) {a1 : Int} (t1 : x1.toInt = a1) : Ctr ad yX7_isLine cX7_isLine 2 (some .boolean) 0 [.ref (ad 47), .int x1] Mq (fun v M' => ∃ (r : Int32) (a : Int), v = some (.int r) ∧ r.toInt = a ∧ ((a = 1 ∧ (0 ≤ a1 ∧ a1 < (Mq.1 47 12).toInt)) ∨ (a = 0 ∧ ¬ (0 ≤ a1 ∧ a1 < (Mq.1 47 12).toInt))) ∧ Mq = M') := by
  refine ctr_of (L := [(0, .ref (ad 47)), (1, .int x1)]) (by decide) (Nat.le_of_ble_eq_true rfl) rfl ?_
  intro Γ X
  have X : gX Γ cX7_isLine RX7 2 (some .boolean) 0 ad _ := X
  refine g_iload_n X 1 rfl dX7_isLine_0 ?_
  refine g_if_lt X t1 (tgt := 16) dX7_isLine_1 (by decide) (fun cq1 => ?_) (fun cq1 => ?_)
  · refine g_iconst X 0 dX7_isLine_16 (by decide) ?_
    exact g_zret X (b01 (show (0 : Int32).toInt = 0 by decide) (by omega)) dX7_isLine_17 ⟨_, _, rfl, (show (0 : Int32).toInt = 0 by decide), (by omega), rfl⟩
  · refine g_iload_n X 1 rfl dX7_isLine_4 ?_
    refine g_aload_n X 0 rfl dX7_isLine_5 ?_
    refine g_geti X f_X7_147 dX7_isLine_6 (x := Mq.1 47 12) rfl ?_
    refine g_icmp_ge X t1 rfl (tgt := 16) dX7_isLine_9 (by decide) (fun cq2 => ?_) (fun cq2 => ?_)
    · refine g_iconst X 0 dX7_isLine_16 (by decide) ?_
      exact g_zret X (b01 (show (0 : Int32).toInt = 0 by decide) (by omega)) dX7_isLine_17 ⟨_, _, rfl, (show (0 : Int32).toInt = 0 by decide), (by omega), rfl⟩
    · refine g_iconst X 1 dX7_isLine_12 (by decide) ?_
      refine g_goto X (tgt := 17) dX7_isLine_13 (by decide) ?_
      exact g_zret X (b01 (show (1 : Int32).toInt = 1 by decide) (by omega)) dX7_isLine_17 ⟨_, _, rfl, (show (1 : Int32).toInt = 1 by decide), (by omega), rfl⟩
set_option maxHeartbeats 4000000 in
set_option maxRecDepth 4000 in
theorem c_X7_isName (ad : Nat → Nat) (Mq : Mem) (x1 : Int32) {a1 : Int} (t1 : x1.toInt = a1) : Ctr ad yX7_isName cX7_isName 1 (some .boolean) 0 [.int x1] Mq (fun v M' => ∃ (r : Int32) (a : Int), v = some (.int r) ∧ r.toInt = a ∧ ((a = 1 ∧ (0 ≤ a1 ∧ a1 ≤ 9)) ∨ (a = 0 ∧ ¬ (0 ≤ a1 ∧ a1 ≤ 9))) ∧ Mq = M') := by
  refine ctr_of (L := [(0, .int x1)]) (by decide) (Nat.le_of_ble_eq_true rfl) rfl ?_
  intro Γ X
  have X : gX Γ cX7_isName RX7 1 (some .boolean) 0 ad _ := X
  refine g_iload_n X 0 rfl dX7_isName_0 ?_
  refine g_if_lt X t1 (tgt := 14) dX7_isName_1 (by decide) (fun cq1 => ?_) (fun cq1 => ?_)
  · refine g_iconst X 0 dX7_isName_14 (by decide) ?_
    exact g_zret X (b01 (show (0 : Int32).toInt = 0 by decide) (by omega)) dX7_isName_15 ⟨_, _, rfl, (show (0 : Int32).toInt = 0 by decide), (by omega), rfl⟩
  · refine g_iload_n X 0 rfl dX7_isName_4 ?_
    refine g_bipush X 10 dX7_isName_5 (by decide) ?_
    refine g_icmp_ge X t1 (show (10 : Int32).toInt = 10 by decide) (tgt := 14) dX7_isName_7 (by decide) (fun cq2 => ?_) (fun cq2 => ?_)
    · refine g_iconst X 0 dX7_isName_14 (by decide) ?_
      exact g_zret X (b01 (show (0 : Int32).toInt = 0 by decide) (by omega)) dX7_isName_15 ⟨_, _, rfl, (show (0 : Int32).toInt = 0 by decide), (by omega), rfl⟩
    · refine g_iconst X 1 dX7_isName_10 (by decide) ?_
      refine g_goto X (tgt := 15) dX7_isName_11 (by decide) ?_
      exact g_zret X (b01 (show (1 : Int32).toInt = 1 by decide) (by omega)) dX7_isName_15 ⟨_, _, rfl, (show (1 : Int32).toInt = 1 by decide), (by omega), rfl⟩
set_option maxHeartbeats 4000000 in
set_option maxRecDepth 4000 in
theorem c_X7_isSinger (ad : Nat → Nat) (Mq : Mem) (x1 : Int32) {a1 : Int} (t1 : x1.toInt = a1) : Ctr ad yX7_isSinger cX7_isSinger 2 (some .boolean) 0 [.ref (ad 47), .int x1] Mq (fun v M' => ∃ (r : Int32) (a : Int), v = some (.int r) ∧ r.toInt = a ∧ ((a = 1 ∧ (0 ≤ a1 ∧ a1 < (Mq.1 47 52).toInt)) ∨ (a = 0 ∧ ¬ (0 ≤ a1 ∧ a1 < (Mq.1 47 52).toInt))) ∧ Mq = M') := by
  refine ctr_of (L := [(0, .ref (ad 47)), (1, .int x1)]) (by decide) (Nat.le_of_ble_eq_true rfl) rfl ?_
  intro Γ X
  have X : gX Γ cX7_isSinger RX7 2 (some .boolean) 0 ad _ := X
  refine g_iload_n X 1 rfl dX7_isSinger_0 ?_
  refine g_if_lt X t1 (tgt := 16) dX7_isSinger_1 (by decide) (fun cq1 => ?_) (fun cq1 => ?_)
  · refine g_iconst X 0 dX7_isSinger_16 (by decide) ?_
    exact g_zret X (b01 (show (0 : Int32).toInt = 0 by decide) (by omega)) dX7_isSinger_17 ⟨_, _, rfl, (show (0 : Int32).toInt = 0 by decide), (by omega), rfl⟩
  · refine g_iload_n X 1 rfl dX7_isSinger_4 ?_
    refine g_aload_n X 0 rfl dX7_isSinger_5 ?_
    refine g_geti X f_X7_313 dX7_isSinger_6 (x := Mq.1 47 52) rfl ?_
    refine g_icmp_ge X t1 rfl (tgt := 16) dX7_isSinger_9 (by decide) (fun cq2 => ?_) (fun cq2 => ?_)
    · refine g_iconst X 0 dX7_isSinger_16 (by decide) ?_
      exact g_zret X (b01 (show (0 : Int32).toInt = 0 by decide) (by omega)) dX7_isSinger_17 ⟨_, _, rfl, (show (0 : Int32).toInt = 0 by decide), (by omega), rfl⟩
    · refine g_iconst X 1 dX7_isSinger_12 (by decide) ?_
      refine g_goto X (tgt := 17) dX7_isSinger_13 (by decide) ?_
      exact g_zret X (b01 (show (1 : Int32).toInt = 1 by decide) (by omega)) dX7_isSinger_17 ⟨_, _, rfl, (show (1 : Int32).toInt = 1 by decide), (by omega), rfl⟩
set_option maxHeartbeats 4000000 in
set_option maxRecDepth 4000 in
theorem c_X7_isYear (ad : Nat → Nat) (Mq : Mem) (x1 : Int32) {a1 : Int} (t1 : x1.toInt = a1) : Ctr ad yX7_isYear cX7_isYear 1 (some .boolean) 0 [.int x1] Mq (fun v M' => ∃ (r : Int32) (a : Int), v = some (.int r) ∧ r.toInt = a ∧ ((a = 1 ∧ (0 ≤ a1 ∧ a1 ≤ 999)) ∨ (a = 0 ∧ ¬ (0 ≤ a1 ∧ a1 ≤ 999))) ∧ Mq = M') := by
  refine ctr_of (L := [(0, .int x1)]) (by decide) (Nat.le_of_ble_eq_true rfl) rfl ?_
  intro Γ X
  have X : gX Γ cX7_isYear RX7 1 (some .boolean) 0 ad _ := X
  refine g_iload_n X 0 rfl dX7_isYear_0 ?_
  refine g_if_lt X t1 (tgt := 15) dX7_isYear_1 (by decide) (fun cq1 => ?_) (fun cq1 => ?_)
  · refine g_iconst X 0 dX7_isYear_15 (by decide) ?_
    exact g_zret X (b01 (show (0 : Int32).toInt = 0 by decide) (by omega)) dX7_isYear_16 ⟨_, _, rfl, (show (0 : Int32).toInt = 0 by decide), (by omega), rfl⟩
  · refine g_iload_n X 0 rfl dX7_isYear_4 ?_
    refine g_sipush X 999 dX7_isYear_5 (by decide) ?_
    refine g_icmp_gt X t1 (show (999 : Int32).toInt = 999 by decide) (tgt := 15) dX7_isYear_8 (by decide) (fun cq2 => ?_) (fun cq2 => ?_)
    · refine g_iconst X 0 dX7_isYear_15 (by decide) ?_
      exact g_zret X (b01 (show (0 : Int32).toInt = 0 by decide) (by omega)) dX7_isYear_16 ⟨_, _, rfl, (show (0 : Int32).toInt = 0 by decide), (by omega), rfl⟩
    · refine g_iconst X 1 dX7_isYear_11 (by decide) ?_
      refine g_goto X (tgt := 16) dX7_isYear_12 (by decide) ?_
      exact g_zret X (b01 (show (1 : Int32).toInt = 1 by decide) (by omega)) dX7_isYear_16 ⟨_, _, rfl, (show (1 : Int32).toInt = 1 by decide), (by omega), rfl⟩
set_option maxHeartbeats 4000000 in
set_option maxRecDepth 4000 in
theorem c_X7_isKnown (ad : Nat → Nat) (Mq : Mem) (x1 : Int32) {a1 : Int} (t1 : x1.toInt = a1) : Ctr ad yX7_isKnown cX7_isKnown 2 (some .boolean) 1 [.ref (ad 47), .int x1] Mq (fun v M' => ∃ (r : Int32) (a : Int), v = some (.int r) ∧ r.toInt = a ∧ ((a = 1 ∧ (-1 ≤ a1 ∧ a1 ≤ (Mq.1 47 53).toInt)) ∨ (a = 0 ∧ ¬ (-1 ≤ a1 ∧ a1 ≤ (Mq.1 47 53).toInt))) ∧ Mq = M') := by
  refine ctr_of (L := [(0, .ref (ad 47)), (1, .int x1)]) (by decide) (Nat.le_of_ble_eq_true rfl) rfl ?_
  intro Γ X
  have X : gX Γ cX7_isKnown RX7 2 (some .boolean) 1 ad _ := X
  refine g_iload_n X 1 rfl dX7_isKnown_0 ?_
  refine g_i2l X dX7_isKnown_1 (fun zq1 eq2 => ?_)
  have tq3 : zq1.toInt = a1 := i2l_nw eq2 t1
  refine g_ldc2 X k_X7_156 dX7_isKnown_2 ?_
  refine g_aload_n X 0 rfl dX7_isKnown_5 ?_
  refine g_geti X f_X7_266 dX7_isKnown_6 (x := Mq.1 47 53) rfl ?_
  refine g_i2l X dX7_isKnown_9 (fun zq4 eq5 => ?_)
  have tq6 : zq4.toInt = (Mq.1 47 53).toInt := i2l_nw eq5 rfl
  refine g_callS X m_X7_152 (c_X7_isIn ad Mq zq1 tq3 (-1) (show ((-1) : Int64).toInt = (-1) by decide) zq4 tq6) rfl (by decide) (Nat.le_of_ble_eq_true rfl) rfl dX7_isKnown_10 ?_
  rintro _ _ ⟨rq7, aq8, rfl, tq9, hq10, rfl⟩
  show G Γ Mq 13 [(0, .ref (ad 47)), (1, .int x1)] [.int rq7]
  exact g_zret X (b01 tq9 (by omega)) dX7_isKnown_13 ⟨_, _, rfl, tq9, (by omega), rfl⟩
set_option maxHeartbeats 4000000 in
set_option maxRecDepth 4000 in
theorem c_X7_isSlot (ad : Nat → Nat) (Mq : Mem) (x1 : Int32) {a1 : Int} (t1 : x1.toInt = a1) : Ctr ad yX7_isSlot cX7_isSlot 1 (some .boolean) 0 [.int x1] Mq (fun v M' => ∃ (r : Int32) (a : Int), v = some (.int r) ∧ r.toInt = a ∧ ((a = 1 ∧ (97 ≤ a1 ∧ a1 ≤ 104)) ∨ (a = 0 ∧ ¬ (97 ≤ a1 ∧ a1 ≤ 104))) ∧ Mq = M') := by
  refine ctr_of (L := [(0, .int x1)]) (by decide) (Nat.le_of_ble_eq_true rfl) rfl ?_
  intro Γ X
  have X : gX Γ cX7_isSlot RX7 1 (some .boolean) 0 ad _ := X
  refine g_iload_n X 0 rfl dX7_isSlot_0 ?_
  refine g_bipush X 97 dX7_isSlot_1 (by decide) ?_
  refine g_icmp_lt X t1 (show (97 : Int32).toInt = 97 by decide) (tgt := 16) dX7_isSlot_3 (by decide) (fun cq1 => ?_) (fun cq1 => ?_)
  · refine g_iconst X 0 dX7_isSlot_16 (by decide) ?_
    exact g_zret X (b01 (show (0 : Int32).toInt = 0 by decide) (by omega)) dX7_isSlot_17 ⟨_, _, rfl, (show (0 : Int32).toInt = 0 by decide), (by omega), rfl⟩
  · refine g_iload_n X 0 rfl dX7_isSlot_6 ?_
    refine g_bipush X 104 dX7_isSlot_7 (by decide) ?_
    refine g_icmp_gt X t1 (show (104 : Int32).toInt = 104 by decide) (tgt := 16) dX7_isSlot_9 (by decide) (fun cq2 => ?_) (fun cq2 => ?_)
    · refine g_iconst X 0 dX7_isSlot_16 (by decide) ?_
      exact g_zret X (b01 (show (0 : Int32).toInt = 0 by decide) (by omega)) dX7_isSlot_17 ⟨_, _, rfl, (show (0 : Int32).toInt = 0 by decide), (by omega), rfl⟩
    · refine g_iconst X 1 dX7_isSlot_12 (by decide) ?_
      refine g_goto X (tgt := 17) dX7_isSlot_13 (by decide) ?_
      exact g_zret X (b01 (show (1 : Int32).toInt = 1 by decide) (by omega)) dX7_isSlot_17 ⟨_, _, rfl, (show (1 : Int32).toInt = 1 by decide), (by omega), rfl⟩
set_option maxHeartbeats 4000000 in
set_option maxRecDepth 4000 in
theorem c_X7_isScene (ad : Nat → Nat) (Mq : Mem) (x1 : Int32) {a1 : Int} (t1 : x1.toInt = a1) : Ctr ad yX7_isScene cX7_isScene 1 (some .boolean) 0 [.int x1] Mq (fun v M' => ∃ (r : Int32) (a : Int), v = some (.int r) ∧ r.toInt = a ∧ ((a = 1 ∧ (65 ≤ a1 ∧ a1 ≤ 72)) ∨ (a = 0 ∧ ¬ (65 ≤ a1 ∧ a1 ≤ 72))) ∧ Mq = M') := by
  refine ctr_of (L := [(0, .int x1)]) (by decide) (Nat.le_of_ble_eq_true rfl) rfl ?_
  intro Γ X
  have X : gX Γ cX7_isScene RX7 1 (some .boolean) 0 ad _ := X
  refine g_iload_n X 0 rfl dX7_isScene_0 ?_
  refine g_bipush X 65 dX7_isScene_1 (by decide) ?_
  refine g_icmp_lt X t1 (show (65 : Int32).toInt = 65 by decide) (tgt := 16) dX7_isScene_3 (by decide) (fun cq1 => ?_) (fun cq1 => ?_)
  · refine g_iconst X 0 dX7_isScene_16 (by decide) ?_
    exact g_zret X (b01 (show (0 : Int32).toInt = 0 by decide) (by omega)) dX7_isScene_17 ⟨_, _, rfl, (show (0 : Int32).toInt = 0 by decide), (by omega), rfl⟩
  · refine g_iload_n X 0 rfl dX7_isScene_6 ?_
    refine g_bipush X 72 dX7_isScene_7 (by decide) ?_
    refine g_icmp_gt X t1 (show (72 : Int32).toInt = 72 by decide) (tgt := 16) dX7_isScene_9 (by decide) (fun cq2 => ?_) (fun cq2 => ?_)
    · refine g_iconst X 0 dX7_isScene_16 (by decide) ?_
      exact g_zret X (b01 (show (0 : Int32).toInt = 0 by decide) (by omega)) dX7_isScene_17 ⟨_, _, rfl, (show (0 : Int32).toInt = 0 by decide), (by omega), rfl⟩
    · refine g_iconst X 1 dX7_isScene_12 (by decide) ?_
      refine g_goto X (tgt := 17) dX7_isScene_13 (by decide) ?_
      exact g_zret X (b01 (show (1 : Int32).toInt = 1 by decide) (by omega)) dX7_isScene_17 ⟨_, _, rfl, (show (1 : Int32).toInt = 1 by decide), (by omega), rfl⟩
set_option maxHeartbeats 4000000 in
set_option maxRecDepth 4000 in
theorem c_X7_isRecording (ad : Nat → Nat) (Mq : Mem) (x1 : Int32) {a1 : Int} (t1 : x1.toInt = a1) : Ctr ad yX7_isRecording cX7_isRecording 2 (some .boolean) 0 [.ref (ad 47), .int x1] Mq (fun v M' => ∃ (r : Int32) (a : Int), v = some (.int r) ∧ r.toInt = a ∧ ((a = 1 ∧ (0 ≤ a1 ∧ a1 < (Mq.1 47 59).toInt)) ∨ (a = 0 ∧ ¬ (0 ≤ a1 ∧ a1 < (Mq.1 47 59).toInt))) ∧ Mq = M') := by
  refine ctr_of (L := [(0, .ref (ad 47)), (1, .int x1)]) (by decide) (Nat.le_of_ble_eq_true rfl) rfl ?_
  intro Γ X
  have X : gX Γ cX7_isRecording RX7 2 (some .boolean) 0 ad _ := X
  refine g_iload_n X 1 rfl dX7_isRecording_0 ?_
  refine g_if_lt X t1 (tgt := 16) dX7_isRecording_1 (by decide) (fun cq1 => ?_) (fun cq1 => ?_)
  · refine g_iconst X 0 dX7_isRecording_16 (by decide) ?_
    exact g_zret X (b01 (show (0 : Int32).toInt = 0 by decide) (by omega)) dX7_isRecording_17 ⟨_, _, rfl, (show (0 : Int32).toInt = 0 by decide), (by omega), rfl⟩
  · refine g_iload_n X 1 rfl dX7_isRecording_4 ?_
    refine g_aload_n X 0 rfl dX7_isRecording_5 ?_
    refine g_geti X f_X7_352 dX7_isRecording_6 (x := Mq.1 47 59) rfl ?_
    refine g_icmp_ge X t1 rfl (tgt := 16) dX7_isRecording_9 (by decide) (fun cq2 => ?_) (fun cq2 => ?_)
    · refine g_iconst X 0 dX7_isRecording_16 (by decide) ?_
      exact g_zret X (b01 (show (0 : Int32).toInt = 0 by decide) (by omega)) dX7_isRecording_17 ⟨_, _, rfl, (show (0 : Int32).toInt = 0 by decide), (by omega), rfl⟩
    · refine g_iconst X 1 dX7_isRecording_12 (by decide) ?_
      refine g_goto X (tgt := 17) dX7_isRecording_13 (by decide) ?_
      exact g_zret X (b01 (show (1 : Int32).toInt = 1 by decide) (by omega)) dX7_isRecording_17 ⟨_, _, rfl, (show (1 : Int32).toInt = 1 by decide), (by omega), rfl⟩
set_option maxHeartbeats 4000000 in
set_option maxRecDepth 4000 in
theorem c_X7_upTo (ad : Nat → Nat) (Mq : Mem) (x1 : Int32) {a1 : Int} (t1 : x1.toInt = a1) : Ctr ad yX7_upTo cX7_upTo 2 (some .int) 0 [.ref (ad 47), .int x1] Mq (fun v M' => ∃ (r : Int32) (a : Int), v = some (.int r) ∧ r.toInt = a ∧ ((a1 < 0 ∧ a = (Mq.1 47 53).toInt) ∨ (0 ≤ a1 ∧ a = a1)) ∧ Mq = M') := by
  refine ctr_of (L := [(0, .ref (ad 47)), (1, .int x1)]) (by decide) (Nat.le_of_ble_eq_true rfl) rfl ?_
  intro Γ X
  have X : gX Γ cX7_upTo RX7 2 (some .int) 0 ad _ := X
  refine g_iload_n X 1 rfl dX7_upTo_0 ?_
  refine g_if_ge X t1 (tgt := 11) dX7_upTo_1 (by decide) (fun cq1 => ?_) (fun cq1 => ?_)
  · refine g_iload_n X 1 rfl dX7_upTo_11 ?_
    exact g_iret X dX7_upTo_12 ⟨_, _, rfl, t1, (by omega), rfl⟩
  · refine g_aload_n X 0 rfl dX7_upTo_4 ?_
    refine g_geti X f_X7_266 dX7_upTo_5 (x := Mq.1 47 53) rfl ?_
    refine g_goto X (tgt := 12) dX7_upTo_8 (by decide) ?_
    exact g_iret X dX7_upTo_12 ⟨_, _, rfl, rfl, (by omega), rfl⟩
set_option maxHeartbeats 4000000 in
set_option maxRecDepth 4000 in
theorem c_X7_isTold (ad : Nat → Nat) (Mq : Mem) (x1 : Int32) {a1 : Int} (t1 : x1.toInt = a1) : Ctr ad yX7_isTold cX7_isTold 2 (some .boolean) 1 [.ref (ad 47), .int x1] Mq (fun v M' => ∃ (r : Int32) (a : Int), v = some (.int r) ∧ r.toInt = a ∧ ((a = 1 ∧ (0 ≤ a1 ∧ a1 ≤ 7 ∧ 0 < (Mq.1 63 a1.toNat).toInt)) ∨ (a = 0 ∧ ¬ (0 ≤ a1 ∧ a1 ≤ 7 ∧ 0 < (Mq.1 63 a1.toNat).toInt))) ∧ Mq = M') := by
  refine ctr_of (L := [(0, .ref (ad 47)), (1, .int x1)]) (by decide) (Nat.le_of_ble_eq_true rfl) rfl ?_
  intro Γ X
  have X : gX Γ cX7_isTold RX7 2 (some .boolean) 1 ad _ := X
  refine g_iload_n X 1 rfl dX7_isTold_0 ?_
  refine g_i2l X dX7_isTold_1 (fun zq1 eq2 => ?_)
  have tq3 : zq1.toInt = a1 := i2l_nw eq2 t1
  refine g_lconst X 0 dX7_isTold_2 (by decide) ?_
  refine g_ldc2 X k_X7_167 dX7_isTold_3 ?_
  refine g_callS X m_X7_152 (c_X7_isIn ad Mq zq1 tq3 0 (show (0 : Int64).toInt = 0 by decide) 7 (show (7 : Int64).toInt = 7 by decide)) rfl (by decide) (Nat.le_of_ble_eq_true rfl) rfl dX7_isTold_6 ?_
  rintro _ _ ⟨rq4, aq5, rfl, tq6, hq7, rfl⟩
  show G Γ Mq 9 [(0, .ref (ad 47)), (1, .int x1)] [.int rq4]
  refine g_if_eq X tq6 (tgt := 25) dX7_isTold_9 (by decide) (fun cq8 => ?_) (fun cq8 => ?_)
  · have pq9 : ¬ (0 ≤ a1 ∧ a1 ≤ 7) := by omega
    clear hq7 cq8 tq6
    refine g_iconst X 0 dX7_isTold_25 (by decide) ?_
    exact g_zret X (b01 (show (0 : Int32).toInt = 0 by decide) (by omega)) dX7_isTold_26 ⟨_, _, rfl, (show (0 : Int32).toInt = 0 by decide), (by omega), rfl⟩
  · have pq10 : (0 ≤ a1 ∧ a1 ≤ 7) := by omega
    clear hq7 cq8 tq6
    refine g_aload_n X 0 rfl dX7_isTold_12 ?_
    refine g_getr X f_X7_55 dX7_isTold_13 ?_
    refine g_iload_n X 1 rfl dX7_isTold_16 ?_
    refine g_iald X la_63 t1 dX7_isTold_17 (by omega) (x := Mq.1 63 a1.toNat) rfl ?_
    refine g_if_le X rfl (tgt := 25) dX7_isTold_18 (by decide) (fun cq11 => ?_) (fun cq11 => ?_)
    · refine g_iconst X 0 dX7_isTold_25 (by decide) ?_
      exact g_zret X (b01 (show (0 : Int32).toInt = 0 by decide) (by omega)) dX7_isTold_26 ⟨_, _, rfl, (show (0 : Int32).toInt = 0 by decide), (by omega), rfl⟩
    · refine g_iconst X 1 dX7_isTold_21 (by decide) ?_
      refine g_goto X (tgt := 26) dX7_isTold_22 (by decide) ?_
      exact g_zret X (b01 (show (1 : Int32).toInt = 1 by decide) (by omega)) dX7_isTold_26 ⟨_, _, rfl, (show (1 : Int32).toInt = 1 by decide), (by omega), rfl⟩
abbrev W_X7_half : List (Nat × Nat) := [(47, 11), (48, 99), (49, 99), (50, 99)]
set_option maxHeartbeats 4000000 in
set_option maxRecDepth 4000 in
theorem c_X7_half (ad : Nat → Nat) (Mq : Mem) (x1 : Int32) {a1 : Int} (t1 : x1.toInt = a1) (x2 : Int32) {a2 : Int} (t2 : x2.toInt = a2) (x3 : Int32) {a3 : Int} (t3 : x3.toInt = a3) (Iq0 : Iv TM Mq) : Ctr ad yX7_half cX7_half 4 (some .int) 1 [.ref (ad 47), .int x1, .int x2, .int x3] Mq (fun v M' => ∃ (r : Int32) (a : Int), v = some (.int r) ∧ r.toInt = a ∧ (((¬ (1 ≤ a1 ∧ a1 ≤ 8 ∧ 0 ≤ a2 ∧ a2 < sh x1 ∧ -1 ≤ a3 ∧ a3 ≤ a1)) ∧ (a = -2)) ∨ (¬ (¬ (1 ≤ a1 ∧ a1 ≤ 8 ∧ 0 ≤ a2 ∧ a2 < sh x1 ∧ -1 ≤ a3 ∧ a3 ≤ a1)) ∧ (40 ≤ (Mq.1 47 11).toInt) ∧ (a = -4)) ∨ (¬ (¬ (1 ≤ a1 ∧ a1 ≤ 8 ∧ 0 ≤ a2 ∧ a2 < sh x1 ∧ -1 ≤ a3 ∧ a3 ≤ a1)) ∧ ¬ (40 ≤ (Mq.1 47 11).toInt) ∧ (a = (Mq.1 47 11).toInt))) ∧ ((((¬ (1 ≤ a1 ∧ a1 ≤ 8 ∧ 0 ≤ a2 ∧ a2 < sh x1 ∧ -1 ≤ a3 ∧ a3 ≤ a1)) ∨ (40 ≤ (Mq.1 47 11).toInt)) ∧ (M'.1 47 11).toInt = (Mq.1 47 11).toInt) ∨ (¬ ((¬ (1 ≤ a1 ∧ a1 ≤ 8 ∧ 0 ≤ a2 ∧ a2 < sh x1 ∧ -1 ≤ a3 ∧ a3 ≤ a1)) ∨ (40 ≤ (Mq.1 47 11).toInt)) ∧ (M'.1 47 11).toInt = (Mq.1 47 11).toInt + 1)) ∧ Iv TM M' ∧ Fr W_X7_half Mq M') := by
  refine ctr_of (L := [(0, .ref (ad 47)), (1, .int x1), (2, .int x2), (3, .int x3)]) (by decide) (Nat.le_of_ble_eq_true rfl) rfl ?_
  intro Γ X
  have X : gX Γ cX7_half RX7 4 (some .int) 1 ad _ := X
  have frq0 : Fr W_X7_half Mq Mq := Fr.rf
  have g11 := ig_47_11 Iq0
  have g12 := ig_47_12 Iq0
  have g20 := ig_47_20 Iq0
  have g24 := ig_47_24 Iq0
  have g52 := ig_47_52 Iq0
  have g53 := ig_47_53 Iq0
  have g43 := ig_47_43 Iq0
  refine g_iload_n X 1 rfl dX7_half_0 ?_
  refine g_i2l X dX7_half_1 (fun zq1 eq2 => ?_)
  have tq3 : zq1.toInt = a1 := i2l_nw eq2 t1
  refine g_lconst X 1 dX7_half_2 (by decide) ?_
  refine g_ldc2 X k_X7_150 dX7_half_3 ?_
  refine g_callS X m_X7_152 (c_X7_isIn ad Mq zq1 tq3 1 (show (1 : Int64).toInt = 1 by decide) 8 (show (8 : Int64).toInt = 8 by decide)) rfl (by decide) (Nat.le_of_ble_eq_true rfl) rfl dX7_half_6 ?_
  rintro _ _ ⟨rq4, aq5, rfl, tq6, hq7, rfl⟩
  show G Γ Mq 9 [(0, .ref (ad 47)), (1, .int x1), (2, .int x2), (3, .int x3)] [.int rq4]
  refine g_if_eq X tq6 (tgt := 40) dX7_half_9 (by decide) (fun cq8 => ?_) (fun cq8 => ?_)
  · have pq9 : ¬ (1 ≤ a1 ∧ a1 ≤ 8) := by omega
    clear hq7 cq8 tq6
    refine g_bipush X (-2) dX7_half_40 (by decide) ?_
    exact g_iret X dX7_half_42 ⟨_, _, rfl, (show ((-2) : Int32).toInt = (-2) by decide), (by omega), (by first | omega | (rw [ui_eq]; omega)), Iq0, frq0⟩
  · have pq10 : (1 ≤ a1 ∧ a1 ≤ 8) := by omega
    clear hq7 cq8 tq6
    refine g_iload_n X 2 rfl dX7_half_12 ?_
    refine g_i2l X dX7_half_13 (fun zq11 eq12 => ?_)
    have tq13 : zq11.toInt = a2 := i2l_nw eq12 t2
    refine g_lconst X 0 dX7_half_14 (by decide) ?_
    refine g_iconst X 1 dX7_half_15 (by decide) ?_
    refine g_iload_n X 1 rfl dX7_half_16 ?_
    refine g_ishl X dX7_half_17 (fun zq14 eq15 => ?_)
    have hz : zq14.toInt = sh x1 := congrArg Int32.toInt eq15
    have hz2 := sh_small t1 (by omega)
    refine g_iconst X 1 dX7_half_18 (by decide) ?_
    refine g_isub X dX7_half_19 (fun zq17 eq18 => ?_)
    have tq19 : zq17.toInt = zq14.toInt - 1 := sub_nw eq18 rfl (show (1 : Int32).toInt = 1 by decide) (by omega)
    refine g_i2l X dX7_half_20 (fun zq20 eq21 => ?_)
    have tq22 : zq20.toInt = zq14.toInt - 1 := i2l_nw eq21 tq19
    refine g_callS X m_X7_152 (c_X7_isIn ad Mq zq11 tq13 0 (show (0 : Int64).toInt = 0 by decide) zq20 tq22) rfl (by decide) (Nat.le_of_ble_eq_true rfl) rfl dX7_half_21 ?_
    rintro _ _ ⟨rq23, aq24, rfl, tq25, hq26, rfl⟩
    show G Γ Mq 24 [(0, .ref (ad 47)), (1, .int x1), (2, .int x2), (3, .int x3)] [.int rq23]
    refine g_if_eq X tq25 (tgt := 40) dX7_half_24 (by decide) (fun cq27 => ?_) (fun cq27 => ?_)
    · have pq28 : ¬ (0 ≤ a2 ∧ a2 ≤ (zq14.toInt - 1)) := by omega
      clear hq26 cq27 tq25
      refine g_bipush X (-2) dX7_half_40 (by decide) ?_
      exact g_iret X dX7_half_42 ⟨_, _, rfl, (show ((-2) : Int32).toInt = (-2) by decide), (by omega), (by first | omega | (rw [ui_eq]; omega)), Iq0, frq0⟩
    · have pq29 : (0 ≤ a2 ∧ a2 ≤ (zq14.toInt - 1)) := by omega
      clear hq26 cq27 tq25
      refine g_iload_n X 3 rfl dX7_half_27 ?_
      refine g_i2l X dX7_half_28 (fun zq30 eq31 => ?_)
      have tq32 : zq30.toInt = a3 := i2l_nw eq31 t3
      refine g_ldc2 X k_X7_156 dX7_half_29 ?_
      refine g_iload_n X 1 rfl dX7_half_32 ?_
      refine g_i2l X dX7_half_33 (fun zq33 eq34 => ?_)
      have tq35 : zq33.toInt = a1 := i2l_nw eq34 t1
      refine g_callS X m_X7_152 (c_X7_isIn ad Mq zq30 tq32 (-1) (show ((-1) : Int64).toInt = (-1) by decide) zq33 tq35) rfl (by decide) (Nat.le_of_ble_eq_true rfl) rfl dX7_half_34 ?_
      rintro _ _ ⟨rq36, aq37, rfl, tq38, hq39, rfl⟩
      show G Γ Mq 37 [(0, .ref (ad 47)), (1, .int x1), (2, .int x2), (3, .int x3)] [.int rq36]
      refine g_if_ne X tq38 (tgt := 43) dX7_half_37 (by decide) (fun cq40 => ?_) (fun cq40 => ?_)
      · have pq41 : ((-1) ≤ a3 ∧ a3 ≤ a1) := by omega
        clear hq39 cq40 tq38
        refine g_aload_n X 0 rfl dX7_half_43 ?_
        refine g_geti X f_X7_144 dX7_half_44 (x := Mq.1 47 11) rfl ?_
        have bq42 := ig_47_11 Iq0
        refine g_bipush X 40 dX7_half_47 (by decide) ?_
        refine g_icmp_ne X rfl (show (40 : Int32).toInt = 40 by decide) (tgt := 55) dX7_half_49 (by decide) (fun cq43 => ?_) (fun cq43 => ?_)
        · refine g_aload_n X 0 rfl dX7_half_55 ?_
          refine g_getr X f_X7_7 dX7_half_56 ?_
          refine g_aload_n X 0 rfl dX7_half_59 ?_
          refine g_geti X f_X7_144 dX7_half_60 (x := Mq.1 47 11) rfl ?_
          have bq44 := ig_47_11 Iq0
          refine g_iload_n X 1 rfl dX7_half_63 ?_
          refine g_iast X la_48 rfl dX7_half_64 (by omega) ?_
          have Iq45 : Iv TM (ui Mq 48 (((Mq.1 47 11).toInt).toNat) x1) := Iq0.otherA rfl
          have frq46 : Fr W_X7_half Mq (ui Mq 48 (((Mq.1 47 11).toInt).toNat) x1) := frq0.ui rfl
          refine g_aload_n X 0 rfl dX7_half_65 ?_
          refine g_getr X f_X7_13 dX7_half_66 ?_
          refine g_aload_n X 0 rfl dX7_half_69 ?_
          refine g_geti X f_X7_144 dX7_half_70 (x := Mq.1 47 11) rfl ?_
          have bq47 := ig_47_11 Iq0
          refine g_iload_n X 2 rfl dX7_half_73 ?_
          refine g_iast X la_49 rfl dX7_half_74 (by omega) ?_
          have Iq48 : Iv TM (ui (ui Mq 48 (((Mq.1 47 11).toInt).toNat) x1) 49 (((Mq.1 47 11).toInt).toNat) x2) := Iq45.otherA rfl
          have frq49 : Fr W_X7_half Mq (ui (ui Mq 48 (((Mq.1 47 11).toInt).toNat) x1) 49 (((Mq.1 47 11).toInt).toNat) x2) := frq46.ui rfl
          refine g_aload_n X 0 rfl dX7_half_75 ?_
          refine g_getr X f_X7_16 dX7_half_76 ?_
          refine g_aload_n X 0 rfl dX7_half_79 ?_
          refine g_geti X f_X7_144 dX7_half_80 (x := Mq.1 47 11) rfl ?_
          have bq50 := ig_47_11 Iq0
          refine g_iload_n X 3 rfl dX7_half_83 ?_
          refine g_iast X la_50 rfl dX7_half_84 (by omega) ?_
          have Iq51 : Iv TM (ui (ui (ui Mq 48 (((Mq.1 47 11).toInt).toNat) x1) 49 (((Mq.1 47 11).toInt).toNat) x2) 50 (((Mq.1 47 11).toInt).toNat) x3) := Iq48.otherA rfl
          have frq52 : Fr W_X7_half Mq (ui (ui (ui Mq 48 (((Mq.1 47 11).toInt).toNat) x1) 49 (((Mq.1 47 11).toInt).toNat) x2) 50 (((Mq.1 47 11).toInt).toNat) x3) := frq49.ui rfl
          refine g_aload_n X 0 rfl dX7_half_85 ?_
          refine g_dup X dX7_half_86 rfl ?_
          refine g_geti X f_X7_144 dX7_half_87 (x := Mq.1 47 11) rfl ?_
          have bq53 := ig_47_11 Iq0
          refine g_iconst X 1 dX7_half_90 (by decide) ?_
          refine g_iadd X dX7_half_91 (fun zq54 eq55 => ?_)
          have tq56 : zq54.toInt = ((Mq.1 47 11).toInt) + 1 := add_nw eq55 rfl (show (1 : Int32).toInt = 1 by decide) (by omega)
          refine g_puti X p_X7_144 dX7_half_92 ?_
          have Iq57 : Iv TM (ui (ui (ui (ui Mq 48 (((Mq.1 47 11).toInt).toNat) x1) 49 (((Mq.1 47 11).toInt).toNat) x2) 50 (((Mq.1 47 11).toInt).toNat) x3) 47 11 zq54) := Iq51.put 0 40 tq56 (by omega) rfl
          have frq58 : Fr W_X7_half Mq (ui (ui (ui (ui Mq 48 (((Mq.1 47 11).toInt).toNat) x1) 49 (((Mq.1 47 11).toInt).toNat) x2) 50 (((Mq.1 47 11).toInt).toNat) x3) 47 11 zq54) := frq52.ui rfl
          refine g_aload_n X 0 rfl dX7_half_95 ?_
          refine g_geti X f_X7_144 dX7_half_96 (x := zq54) rfl ?_
          refine g_iconst X 1 dX7_half_99 (by decide) ?_
          refine g_isub X dX7_half_100 (fun zq59 eq60 => ?_)
          have tq61 : zq59.toInt = (((Mq.1 47 11).toInt) + 1) - 1 := sub_nw eq60 tq56 (show (1 : Int32).toInt = 1 by decide) (by omega)
          exact g_iret X dX7_half_101 ⟨_, _, rfl, tq61, (by omega), (by first | omega | (rw [ui_eq]; omega)), Iq57, frq58⟩
        · refine g_bipush X (-4) dX7_half_52 (by decide) ?_
          exact g_iret X dX7_half_54 ⟨_, _, rfl, (show ((-4) : Int32).toInt = (-4) by decide), (by omega), (by first | omega | (rw [ui_eq]; omega)), Iq0, frq0⟩
      · have pq62 : ¬ ((-1) ≤ a3 ∧ a3 ≤ a1) := by omega
        clear hq39 cq40 tq38
        refine g_bipush X (-2) dX7_half_40 (by decide) ?_
        exact g_iret X dX7_half_42 ⟨_, _, rfl, (show ((-2) : Int32).toInt = (-2) by decide), (by omega), (by first | omega | (rw [ui_eq]; omega)), Iq0, frq0⟩
abbrev W_X7_name : List (Nat × Nat) := [(51, 99), (52, 99)]
set_option maxHeartbeats 4000000 in
set_option maxRecDepth 4000 in
theorem c_X7_name (ad : Nat → Nat) (Mq : Mem) (x1 : Int32) {a1 : Int} (t1 : x1.toInt = a1) (x2 : Int32) {a2 : Int} (t2 : x2.toInt = a2) (x3 : Int32) {a3 : Int} (t3 : x3.toInt = a3) (Iq0 : Iv TM Mq) : Ctr ad yX7_name cX7_name 5 (some .int) 1 [.ref (ad 47), .int x1, .int x2, .int x3] Mq (fun v M' => ∃ (r : Int32) (a : Int), v = some (.int r) ∧ r.toInt = a ∧ (((¬ (0 ≤ a1 ∧ a1 ≤ 9)) ∧ (a = -1)) ∨ (¬ (¬ (0 ≤ a1 ∧ a1 ≤ 9)) ∧ (¬ (1 ≤ a2 ∧ a2 ≤ 4 ∧ 0 ≤ a3 ∧ a3 < sh x2)) ∧ (a = -2)) ∨ (¬ (¬ (0 ≤ a1 ∧ a1 ≤ 9)) ∧ ¬ (¬ (1 ≤ a2 ∧ a2 ≤ 4 ∧ 0 ≤ a3 ∧ a3 < sh x2)) ∧ (a = (Mq.1 51 a1.toNat).toInt))) ∧ ((((¬ (0 ≤ a1 ∧ a1 ≤ 9)) ∨ (¬ (1 ≤ a2 ∧ a2 ≤ 4 ∧ 0 ≤ a3 ∧ a3 < sh x2))) → M'.1 51 = Mq.1 51) ∧ (¬ ((¬ (0 ≤ a1 ∧ a1 ≤ 9)) ∨ (¬ (1 ≤ a2 ∧ a2 ≤ 4 ∧ 0 ≤ a3 ∧ a3 < sh x2))) → M'.1 51 = (ui Mq 51 a1.toNat x2).1 51)) ∧ Iv TM M' ∧ Fr W_X7_name Mq M') := by
  refine ctr_of (L := [(0, .ref (ad 47)), (1, .int x1), (2, .int x2), (3, .int x3)]) (by decide) (Nat.le_of_ble_eq_true rfl) rfl ?_
  intro Γ X
  have X : gX Γ cX7_name RX7 5 (some .int) 1 ad _ := X
  have frq0 : Fr W_X7_name Mq Mq := Fr.rf
  have g11 := ig_47_11 Iq0
  have g12 := ig_47_12 Iq0
  have g20 := ig_47_20 Iq0
  have g24 := ig_47_24 Iq0
  have g52 := ig_47_52 Iq0
  have g53 := ig_47_53 Iq0
  have g43 := ig_47_43 Iq0
  refine g_iload_n X 1 rfl dX7_name_0 ?_
  refine g_callS X m_X7_158 (c_X7_isName ad Mq x1 t1) rfl (by decide) (Nat.le_of_ble_eq_true rfl) rfl dX7_name_1 ?_
  rintro _ _ ⟨rq1, aq2, rfl, tq3, hq4, rfl⟩
  show G Γ Mq 4 [(0, .ref (ad 47)), (1, .int x1), (2, .int x2), (3, .int x3)] [.int rq1]
  refine g_if_ne X tq3 (tgt := 9) dX7_name_4 (by decide) (fun cq5 => ?_) (fun cq5 => ?_)
  · have pq6 : (0 ≤ a1 ∧ a1 ≤ 9) := by omega
    clear hq4 cq5 tq3
    refine g_iload_n X 2 rfl dX7_name_9 ?_
    refine g_i2l X dX7_name_10 (fun zq7 eq8 => ?_)
    have tq9 : zq7.toInt = a2 := i2l_nw eq8 t2
    refine g_lconst X 1 dX7_name_11 (by decide) ?_
    refine g_ldc2 X k_X7_162 dX7_name_12 ?_
    refine g_callS X m_X7_152 (c_X7_isIn ad Mq zq7 tq9 1 (show (1 : Int64).toInt = 1 by decide) 4 (show (4 : Int64).toInt = 4 by decide)) rfl (by decide) (Nat.le_of_ble_eq_true rfl) rfl dX7_name_15 ?_
    rintro _ _ ⟨rq10, aq11, rfl, tq12, hq13, rfl⟩
    show G Γ Mq 18 [(0, .ref (ad 47)), (1, .int x1), (2, .int x2), (3, .int x3)] [.int rq10]
    refine g_if_eq X tq12 (tgt := 36) dX7_name_18 (by decide) (fun cq14 => ?_) (fun cq14 => ?_)
    · have pq15 : ¬ (1 ≤ a2 ∧ a2 ≤ 4) := by omega
      clear hq13 cq14 tq12
      refine g_bipush X (-2) dX7_name_36 (by decide) ?_
      exact g_iret X dX7_name_38 ⟨_, _, rfl, (show ((-2) : Int32).toInt = (-2) by decide), (by omega), (⟨fun h => by first | rfl | exact absurd h (by omega), fun h => by first | rfl | exact absurd (by omega) h⟩), Iq0, frq0⟩
    · have pq16 : (1 ≤ a2 ∧ a2 ≤ 4) := by omega
      clear hq13 cq14 tq12
      refine g_iload_n X 3 rfl dX7_name_21 ?_
      refine g_i2l X dX7_name_22 (fun zq17 eq18 => ?_)
      have tq19 : zq17.toInt = a3 := i2l_nw eq18 t3
      refine g_lconst X 0 dX7_name_23 (by decide) ?_
      refine g_iconst X 1 dX7_name_24 (by decide) ?_
      refine g_iload_n X 2 rfl dX7_name_25 ?_
      refine g_ishl X dX7_name_26 (fun zq20 eq21 => ?_)
      have hz : zq20.toInt = sh x2 := congrArg Int32.toInt eq21
      have hz2 := sh_small t2 (by omega)
      refine g_iconst X 1 dX7_name_27 (by decide) ?_
      refine g_isub X dX7_name_28 (fun zq23 eq24 => ?_)
      have tq25 : zq23.toInt = zq20.toInt - 1 := sub_nw eq24 rfl (show (1 : Int32).toInt = 1 by decide) (by omega)
      refine g_i2l X dX7_name_29 (fun zq26 eq27 => ?_)
      have tq28 : zq26.toInt = zq20.toInt - 1 := i2l_nw eq27 tq25
      refine g_callS X m_X7_152 (c_X7_isIn ad Mq zq17 tq19 0 (show (0 : Int64).toInt = 0 by decide) zq26 tq28) rfl (by decide) (Nat.le_of_ble_eq_true rfl) rfl dX7_name_30 ?_
      rintro _ _ ⟨rq29, aq30, rfl, tq31, hq32, rfl⟩
      show G Γ Mq 33 [(0, .ref (ad 47)), (1, .int x1), (2, .int x2), (3, .int x3)] [.int rq29]
      refine g_if_ne X tq31 (tgt := 39) dX7_name_33 (by decide) (fun cq33 => ?_) (fun cq33 => ?_)
      · have pq34 : (0 ≤ a3 ∧ a3 ≤ (zq20.toInt - 1)) := by omega
        clear hq32 cq33 tq31
        refine g_aload_n X 0 rfl dX7_name_39 ?_
        refine g_getr X f_X7_19 dX7_name_40 ?_
        refine g_iload_n X 1 rfl dX7_name_43 ?_
        refine g_iald X la_51 t1 dX7_name_44 (by omega) (x := Mq.1 51 a1.toNat) rfl ?_
        refine g_istore X [(4, .int (Mq.1 51 a1.toNat)), (0, .ref (ad 47)), (1, .int x1), (2, .int x2), (3, .int x3)] dX7_name_45 (by decide) rfl ?_
        refine g_aload_n X 1 rfl dX7_name_47 ?_
        refine g_getr X f_X7_19 dX7_name_48 ?_
        refine g_iload_n X 2 rfl dX7_name_51 ?_
        refine g_iload_n X 3 rfl dX7_name_52 ?_
        refine g_iast X la_51 t1 dX7_name_53 (by omega) ?_
        have Iq35 : Iv TM (ui Mq 51 a1.toNat x2) := Iq0.otherA rfl
        have frq36 : Fr W_X7_name Mq (ui Mq 51 a1.toNat x2) := frq0.ui rfl
        refine g_aload_n X 1 rfl dX7_name_54 ?_
        refine g_getr X f_X7_22 dX7_name_55 ?_
        refine g_iload_n X 2 rfl dX7_name_58 ?_
        refine g_iload_n X 4 rfl dX7_name_59 ?_
        refine g_iast X la_52 t1 dX7_name_60 (by omega) ?_
        have Iq37 : Iv TM (ui (ui Mq 51 a1.toNat x2) 52 a1.toNat x3) := Iq35.otherA rfl
        have frq38 : Fr W_X7_name Mq (ui (ui Mq 51 a1.toNat x2) 52 a1.toNat x3) := frq36.ui rfl
        refine g_iload X 0 rfl dX7_name_61 ?_
        exact g_iret X dX7_name_63 ⟨_, _, rfl, rfl, (by omega), (⟨fun h => by first | rfl | exact absurd h (by omega), fun h => by first | rfl | exact absurd (by omega) h⟩), Iq37, frq38⟩
      · have pq39 : ¬ (0 ≤ a3 ∧ a3 ≤ (zq20.toInt - 1)) := by omega
        clear hq32 cq33 tq31
        refine g_bipush X (-2) dX7_name_36 (by decide) ?_
        exact g_iret X dX7_name_38 ⟨_, _, rfl, (show ((-2) : Int32).toInt = (-2) by decide), (by omega), (⟨fun h => by first | rfl | exact absurd h (by omega), fun h => by first | rfl | exact absurd (by omega) h⟩), Iq0, frq0⟩
  · have pq40 : ¬ (0 ≤ a1 ∧ a1 ≤ 9) := by omega
    clear hq4 cq5 tq3
    refine g_iconst X (-1) dX7_name_7 (by decide) ?_
    exact g_iret X dX7_name_8 ⟨_, _, rfl, (show ((-1) : Int32).toInt = (-1) by decide), (by omega), (⟨fun h => by first | rfl | exact absurd h (by omega), fun h => by first | rfl | exact absurd (by omega) h⟩), Iq0, frq0⟩
abbrev W_X7_line : List (Nat × Nat) := [(47, 12), (53, 99), (54, 99), (55, 99), (56, 99), (57, 99)]
set_option maxHeartbeats 4000000 in
set_option maxRecDepth 4000 in
theorem c_X7_line (ad : Nat → Nat) (Mq : Mem) (x1 : Int32) {a1 : Int} (t1 : x1.toInt = a1) (x2 : Int32) {a2 : Int} (t2 : x2.toInt = a2) (x3 : Int32) {a3 : Int} (t3 : x3.toInt = a3) (x4 : Int32) {a4 : Int} (t4 : x4.toInt = a4) (x5 : Int32) {a5 : Int} (t5 : x5.toInt = a5) (Iq0 : Iv TM Mq) : Ctr ad yX7_line cX7_line 6 (some .int) 1 [.ref (ad 47), .int x1, .int x2, .int x3, .int x4, .int x5] Mq (fun v M' => ∃ (r : Int32) (a : Int), v = some (.int r) ∧ r.toInt = a ∧ (((¬ ((0 ≤ a1 ∧ a1 < (Mq.1 47 11).toInt) ∧ (0 ≤ a2 ∧ a2 < (Mq.1 47 11).toInt) ∧ 0 ≤ a3 ∧ a3 ≤ 7 ∧ 0 ≤ a4 ∧ a4 ≤ 9)) ∧ (a = -1)) ∨ (¬ (¬ ((0 ≤ a1 ∧ a1 < (Mq.1 47 11).toInt) ∧ (0 ≤ a2 ∧ a2 < (Mq.1 47 11).toInt) ∧ 0 ≤ a3 ∧ a3 ≤ 7 ∧ 0 ≤ a4 ∧ a4 ≤ 9)) ∧ (¬ (0 ≤ a5 ∧ a5 ≤ 1)) ∧ (a = -2)) ∨ (¬ (¬ ((0 ≤ a1 ∧ a1 < (Mq.1 47 11).toInt) ∧ (0 ≤ a2 ∧ a2 < (Mq.1 47 11).toInt) ∧ 0 ≤ a3 ∧ a3 ≤ 7 ∧ 0 ≤ a4 ∧ a4 ≤ 9)) ∧ ¬ (¬ (0 ≤ a5 ∧ a5 ≤ 1)) ∧ (40 ≤ (Mq.1 47 12).toInt) ∧ (a = -4)) ∨ (¬ (¬ ((0 ≤ a1 ∧ a1 < (Mq.1 47 11).toInt) ∧ (0 ≤ a2 ∧ a2 < (Mq.1 47 11).toInt) ∧ 0 ≤ a3 ∧ a3 ≤ 7 ∧ 0 ≤ a4 ∧ a4 ≤ 9)) ∧ ¬ (¬ (0 ≤ a5 ∧ a5 ≤ 1)) ∧ ¬ (40 ≤ (Mq.1 47 12).toInt) ∧ (a = (Mq.1 47 12).toInt))) ∧ ((((¬ ((0 ≤ a1 ∧ a1 < (Mq.1 47 11).toInt) ∧ (0 ≤ a2 ∧ a2 < (Mq.1 47 11).toInt) ∧ 0 ≤ a3 ∧ a3 ≤ 7 ∧ 0 ≤ a4 ∧ a4 ≤ 9)) ∨ (¬ (0 ≤ a5 ∧ a5 ≤ 1)) ∨ (40 ≤ (Mq.1 47 12).toInt)) ∧ (M'.1 47 12).toInt = (Mq.1 47 12).toInt) ∨ (¬ ((¬ ((0 ≤ a1 ∧ a1 < (Mq.1 47 11).toInt) ∧ (0 ≤ a2 ∧ a2 < (Mq.1 47 11).toInt) ∧ 0 ≤ a3 ∧ a3 ≤ 7 ∧ 0 ≤ a4 ∧ a4 ≤ 9)) ∨ (¬ (0 ≤ a5 ∧ a5 ≤ 1)) ∨ (40 ≤ (Mq.1 47 12).toInt)) ∧ (M'.1 47 12).toInt = (Mq.1 47 12).toInt + 1)) ∧ Iv TM M' ∧ Fr W_X7_line Mq M') := by
  refine ctr_of (L := [(0, .ref (ad 47)), (1, .int x1), (2, .int x2), (3, .int x3), (4, .int x4), (5, .int x5)]) (by decide) (Nat.le_of_ble_eq_true rfl) rfl ?_
  intro Γ X
  have X : gX Γ cX7_line RX7 6 (some .int) 1 ad _ := X
  have frq0 : Fr W_X7_line Mq Mq := Fr.rf
  have g11 := ig_47_11 Iq0
  have g12 := ig_47_12 Iq0
  have g20 := ig_47_20 Iq0
  have g24 := ig_47_24 Iq0
  have g52 := ig_47_52 Iq0
  have g53 := ig_47_53 Iq0
  have g43 := ig_47_43 Iq0
  refine g_aload_n X 0 rfl dX7_line_0 ?_
  refine g_iload_n X 1 rfl dX7_line_1 ?_
  refine g_callV X m_X7_164 (c_X7_isHalf ad Mq x1 t1) rfl (by decide) (Nat.le_of_ble_eq_true rfl) rfl dX7_line_2 ?_
  rintro _ _ ⟨rq1, aq2, rfl, tq3, hq4, rfl⟩
  show G Γ Mq 5 [(0, .ref (ad 47)), (1, .int x1), (2, .int x2), (3, .int x3), (4, .int x4), (5, .int x5)] [.int rq1]
  refine g_if_eq X tq3 (tgt := 36) dX7_line_5 (by decide) (fun cq5 => ?_) (fun cq5 => ?_)
  · have pq6 : ¬ (0 ≤ a1 ∧ a1 < ((Mq.1 47 11)).toInt) := by omega
    clear hq4 cq5 tq3
    refine g_iconst X (-1) dX7_line_36 (by decide) ?_
    exact g_iret X dX7_line_37 ⟨_, _, rfl, (show ((-1) : Int32).toInt = (-1) by decide), (by omega), (by first | omega | (rw [ui_eq]; omega)), Iq0, frq0⟩
  · have pq7 : (0 ≤ a1 ∧ a1 < ((Mq.1 47 11)).toInt) := by omega
    clear hq4 cq5 tq3
    refine g_aload_n X 0 rfl dX7_line_8 ?_
    refine g_iload_n X 2 rfl dX7_line_9 ?_
    refine g_callV X m_X7_164 (c_X7_isHalf ad Mq x2 t2) rfl (by decide) (Nat.le_of_ble_eq_true rfl) rfl dX7_line_10 ?_
    rintro _ _ ⟨rq8, aq9, rfl, tq10, hq11, rfl⟩
    show G Γ Mq 13 [(0, .ref (ad 47)), (1, .int x1), (2, .int x2), (3, .int x3), (4, .int x4), (5, .int x5)] [.int rq8]
    refine g_if_eq X tq10 (tgt := 36) dX7_line_13 (by decide) (fun cq12 => ?_) (fun cq12 => ?_)
    · have pq13 : ¬ (0 ≤ a2 ∧ a2 < ((Mq.1 47 11)).toInt) := by omega
      clear hq11 cq12 tq10
      refine g_iconst X (-1) dX7_line_36 (by decide) ?_
      exact g_iret X dX7_line_37 ⟨_, _, rfl, (show ((-1) : Int32).toInt = (-1) by decide), (by omega), (by first | omega | (rw [ui_eq]; omega)), Iq0, frq0⟩
    · have pq14 : (0 ≤ a2 ∧ a2 < ((Mq.1 47 11)).toInt) := by omega
      clear hq11 cq12 tq10
      refine g_iload_n X 3 rfl dX7_line_16 ?_
      refine g_i2l X dX7_line_17 (fun zq15 eq16 => ?_)
      have tq17 : zq15.toInt = a3 := i2l_nw eq16 t3
      refine g_lconst X 0 dX7_line_18 (by decide) ?_
      refine g_ldc2 X k_X7_167 dX7_line_19 ?_
      refine g_callS X m_X7_152 (c_X7_isIn ad Mq zq15 tq17 0 (show (0 : Int64).toInt = 0 by decide) 7 (show (7 : Int64).toInt = 7 by decide)) rfl (by decide) (Nat.le_of_ble_eq_true rfl) rfl dX7_line_22 ?_
      rintro _ _ ⟨rq18, aq19, rfl, tq20, hq21, rfl⟩
      show G Γ Mq 25 [(0, .ref (ad 47)), (1, .int x1), (2, .int x2), (3, .int x3), (4, .int x4), (5, .int x5)] [.int rq18]
      refine g_if_eq X tq20 (tgt := 36) dX7_line_25 (by decide) (fun cq22 => ?_) (fun cq22 => ?_)
      · have pq23 : ¬ (0 ≤ a3 ∧ a3 ≤ 7) := by omega
        clear hq21 cq22 tq20
        refine g_iconst X (-1) dX7_line_36 (by decide) ?_
        exact g_iret X dX7_line_37 ⟨_, _, rfl, (show ((-1) : Int32).toInt = (-1) by decide), (by omega), (by first | omega | (rw [ui_eq]; omega)), Iq0, frq0⟩
      · have pq24 : (0 ≤ a3 ∧ a3 ≤ 7) := by omega
        clear hq21 cq22 tq20
        refine g_iload X 4 rfl dX7_line_28 ?_
        refine g_callS X m_X7_158 (c_X7_isName ad Mq x4 t4) rfl (by decide) (Nat.le_of_ble_eq_true rfl) rfl dX7_line_30 ?_
        rintro _ _ ⟨rq25, aq26, rfl, tq27, hq28, rfl⟩
        show G Γ Mq 33 [(0, .ref (ad 47)), (1, .int x1), (2, .int x2), (3, .int x3), (4, .int x4), (5, .int x5)] [.int rq25]
        refine g_if_ne X tq27 (tgt := 38) dX7_line_33 (by decide) (fun cq29 => ?_) (fun cq29 => ?_)
        · have pq30 : (0 ≤ a4 ∧ a4 ≤ 9) := by omega
          clear hq28 cq29 tq27
          refine g_iload X 5 rfl dX7_line_38 ?_
          refine g_i2l X dX7_line_40 (fun zq31 eq32 => ?_)
          have tq33 : zq31.toInt = a5 := i2l_nw eq32 t5
          refine g_lconst X 0 dX7_line_41 (by decide) ?_
          refine g_lconst X 1 dX7_line_42 (by decide) ?_
          refine g_callS X m_X7_152 (c_X7_isIn ad Mq zq31 tq33 0 (show (0 : Int64).toInt = 0 by decide) 1 (show (1 : Int64).toInt = 1 by decide)) rfl (by decide) (Nat.le_of_ble_eq_true rfl) rfl dX7_line_43 ?_
          rintro _ _ ⟨rq34, aq35, rfl, tq36, hq37, rfl⟩
          show G Γ Mq 46 [(0, .ref (ad 47)), (1, .int x1), (2, .int x2), (3, .int x3), (4, .int x4), (5, .int x5)] [.int rq34]
          refine g_if_ne X tq36 (tgt := 52) dX7_line_46 (by decide) (fun cq38 => ?_) (fun cq38 => ?_)
          · have pq39 : (0 ≤ a5 ∧ a5 ≤ 1) := by omega
            clear hq37 cq38 tq36
            refine g_aload_n X 0 rfl dX7_line_52 ?_
            refine g_geti X f_X7_147 dX7_line_53 (x := Mq.1 47 12) rfl ?_
            have bq40 := ig_47_12 Iq0
            refine g_bipush X 40 dX7_line_56 (by decide) ?_
            refine g_icmp_ne X rfl (show (40 : Int32).toInt = 40 by decide) (tgt := 64) dX7_line_58 (by decide) (fun cq41 => ?_) (fun cq41 => ?_)
            · refine g_aload_n X 0 rfl dX7_line_64 ?_
              refine g_getr X f_X7_25 dX7_line_65 ?_
              refine g_aload_n X 0 rfl dX7_line_68 ?_
              refine g_geti X f_X7_147 dX7_line_69 (x := Mq.1 47 12) rfl ?_
              have bq42 := ig_47_12 Iq0
              refine g_iload_n X 1 rfl dX7_line_72 ?_
              refine g_iast X la_53 rfl dX7_line_73 (by omega) ?_
              have Iq43 : Iv TM (ui Mq 53 (((Mq.1 47 12).toInt).toNat) x1) := Iq0.putA 0 39 t1 (by omega) rfl
              have frq44 : Fr W_X7_line Mq (ui Mq 53 (((Mq.1 47 12).toInt).toNat) x1) := frq0.ui rfl
              refine g_aload_n X 0 rfl dX7_line_74 ?_
              refine g_getr X f_X7_28 dX7_line_75 ?_
              refine g_aload_n X 0 rfl dX7_line_78 ?_
              refine g_geti X f_X7_147 dX7_line_79 (x := Mq.1 47 12) rfl ?_
              have bq45 := ig_47_12 Iq0
              refine g_iload_n X 2 rfl dX7_line_82 ?_
              refine g_iast X la_54 rfl dX7_line_83 (by omega) ?_
              have Iq46 : Iv TM (ui (ui Mq 53 (((Mq.1 47 12).toInt).toNat) x1) 54 (((Mq.1 47 12).toInt).toNat) x2) := Iq43.putA 0 39 t2 (by omega) rfl
              have frq47 : Fr W_X7_line Mq (ui (ui Mq 53 (((Mq.1 47 12).toInt).toNat) x1) 54 (((Mq.1 47 12).toInt).toNat) x2) := frq44.ui rfl
              refine g_aload_n X 0 rfl dX7_line_84 ?_
              refine g_getr X f_X7_31 dX7_line_85 ?_
              refine g_aload_n X 0 rfl dX7_line_88 ?_
              refine g_geti X f_X7_147 dX7_line_89 (x := Mq.1 47 12) rfl ?_
              have bq48 := ig_47_12 Iq0
              refine g_iload_n X 3 rfl dX7_line_92 ?_
              refine g_iast X la_55 rfl dX7_line_93 (by omega) ?_
              have Iq49 : Iv TM (ui (ui (ui Mq 53 (((Mq.1 47 12).toInt).toNat) x1) 54 (((Mq.1 47 12).toInt).toNat) x2) 55 (((Mq.1 47 12).toInt).toNat) x3) := Iq46.otherA rfl
              have frq50 : Fr W_X7_line Mq (ui (ui (ui Mq 53 (((Mq.1 47 12).toInt).toNat) x1) 54 (((Mq.1 47 12).toInt).toNat) x2) 55 (((Mq.1 47 12).toInt).toNat) x3) := frq47.ui rfl
              refine g_aload_n X 0 rfl dX7_line_94 ?_
              refine g_getr X f_X7_34 dX7_line_95 ?_
              refine g_aload_n X 0 rfl dX7_line_98 ?_
              refine g_geti X f_X7_147 dX7_line_99 (x := Mq.1 47 12) rfl ?_
              have bq51 := ig_47_12 Iq0
              refine g_iload X 4 rfl dX7_line_102 ?_
              refine g_iast X la_56 rfl dX7_line_104 (by omega) ?_
              have Iq52 : Iv TM (ui (ui (ui (ui Mq 53 (((Mq.1 47 12).toInt).toNat) x1) 54 (((Mq.1 47 12).toInt).toNat) x2) 55 (((Mq.1 47 12).toInt).toNat) x3) 56 (((Mq.1 47 12).toInt).toNat) x4) := Iq49.putA 0 9 t4 (by omega) rfl
              have frq53 : Fr W_X7_line Mq (ui (ui (ui (ui Mq 53 (((Mq.1 47 12).toInt).toNat) x1) 54 (((Mq.1 47 12).toInt).toNat) x2) 55 (((Mq.1 47 12).toInt).toNat) x3) 56 (((Mq.1 47 12).toInt).toNat) x4) := frq50.ui rfl
              refine g_aload_n X 0 rfl dX7_line_105 ?_
              refine g_getr X f_X7_37 dX7_line_106 ?_
              refine g_aload_n X 0 rfl dX7_line_109 ?_
              refine g_geti X f_X7_147 dX7_line_110 (x := Mq.1 47 12) rfl ?_
              have bq54 := ig_47_12 Iq0
              refine g_iload X 5 rfl dX7_line_113 ?_
              refine g_iast X la_57 rfl dX7_line_115 (by omega) ?_
              have Iq55 : Iv TM (ui (ui (ui (ui (ui Mq 53 (((Mq.1 47 12).toInt).toNat) x1) 54 (((Mq.1 47 12).toInt).toNat) x2) 55 (((Mq.1 47 12).toInt).toNat) x3) 56 (((Mq.1 47 12).toInt).toNat) x4) 57 (((Mq.1 47 12).toInt).toNat) x5) := Iq52.otherA rfl
              have frq56 : Fr W_X7_line Mq (ui (ui (ui (ui (ui Mq 53 (((Mq.1 47 12).toInt).toNat) x1) 54 (((Mq.1 47 12).toInt).toNat) x2) 55 (((Mq.1 47 12).toInt).toNat) x3) 56 (((Mq.1 47 12).toInt).toNat) x4) 57 (((Mq.1 47 12).toInt).toNat) x5) := frq53.ui rfl
              refine g_aload_n X 0 rfl dX7_line_116 ?_
              refine g_dup X dX7_line_117 rfl ?_
              refine g_geti X f_X7_147 dX7_line_118 (x := Mq.1 47 12) rfl ?_
              have bq57 := ig_47_12 Iq0
              refine g_iconst X 1 dX7_line_121 (by decide) ?_
              refine g_iadd X dX7_line_122 (fun zq58 eq59 => ?_)
              have tq60 : zq58.toInt = ((Mq.1 47 12).toInt) + 1 := add_nw eq59 rfl (show (1 : Int32).toInt = 1 by decide) (by omega)
              refine g_puti X p_X7_147 dX7_line_123 ?_
              have Iq61 : Iv TM (ui (ui (ui (ui (ui (ui Mq 53 (((Mq.1 47 12).toInt).toNat) x1) 54 (((Mq.1 47 12).toInt).toNat) x2) 55 (((Mq.1 47 12).toInt).toNat) x3) 56 (((Mq.1 47 12).toInt).toNat) x4) 57 (((Mq.1 47 12).toInt).toNat) x5) 47 12 zq58) := Iq55.put 0 40 tq60 (by omega) rfl
              have frq62 : Fr W_X7_line Mq (ui (ui (ui (ui (ui (ui Mq 53 (((Mq.1 47 12).toInt).toNat) x1) 54 (((Mq.1 47 12).toInt).toNat) x2) 55 (((Mq.1 47 12).toInt).toNat) x3) 56 (((Mq.1 47 12).toInt).toNat) x4) 57 (((Mq.1 47 12).toInt).toNat) x5) 47 12 zq58) := frq56.ui rfl
              refine g_aload_n X 0 rfl dX7_line_126 ?_
              refine g_geti X f_X7_147 dX7_line_127 (x := zq58) rfl ?_
              refine g_iconst X 1 dX7_line_130 (by decide) ?_
              refine g_isub X dX7_line_131 (fun zq63 eq64 => ?_)
              have tq65 : zq63.toInt = (((Mq.1 47 12).toInt) + 1) - 1 := sub_nw eq64 tq60 (show (1 : Int32).toInt = 1 by decide) (by omega)
              exact g_iret X dX7_line_132 ⟨_, _, rfl, tq65, (by omega), (by first | omega | (rw [ui_eq]; omega)), Iq61, frq62⟩
            · refine g_bipush X (-4) dX7_line_61 (by decide) ?_
              exact g_iret X dX7_line_63 ⟨_, _, rfl, (show ((-4) : Int32).toInt = (-4) by decide), (by omega), (by first | omega | (rw [ui_eq]; omega)), Iq0, frq0⟩
          · have pq66 : ¬ (0 ≤ a5 ∧ a5 ≤ 1) := by omega
            clear hq37 cq38 tq36
            refine g_bipush X (-2) dX7_line_49 (by decide) ?_
            exact g_iret X dX7_line_51 ⟨_, _, rfl, (show ((-2) : Int32).toInt = (-2) by decide), (by omega), (by first | omega | (rw [ui_eq]; omega)), Iq0, frq0⟩
        · have pq67 : ¬ (0 ≤ a4 ∧ a4 ≤ 9) := by omega
          clear hq28 cq29 tq27
          refine g_iconst X (-1) dX7_line_36 (by decide) ?_
          exact g_iret X dX7_line_37 ⟨_, _, rfl, (show ((-1) : Int32).toInt = (-1) by decide), (by omega), (by first | omega | (rw [ui_eq]; omega)), Iq0, frq0⟩
abbrev W_X7_metre : List (Nat × Nat) := [(58, 99)]
set_option maxHeartbeats 4000000 in
set_option maxRecDepth 4000 in
theorem c_X7_metre (ad : Nat → Nat) (Mq : Mem) (x1 : Int32) {a1 : Int} (t1 : x1.toInt = a1) (x2 : Int32) {a2 : Int} (t2 : x2.toInt = a2) (Iq0 : Iv TM Mq) : Ctr ad yX7_metre cX7_metre 4 (some .int) 1 [.ref (ad 47), .int x1, .int x2] Mq (fun v M' => ∃ (r : Int32) (a : Int), v = some (.int r) ∧ r.toInt = a ∧ (((¬ (0 ≤ a1 ∧ a1 ≤ 2)) ∧ (a = -1)) ∨ (¬ (¬ (0 ≤ a1 ∧ a1 ≤ 2)) ∧ (¬ ((a1 = 2 ∧ 0 ≤ a2 ∧ a2 ≤ 16777215) ∨ (a1 ≠ 2 ∧ 1 ≤ a2 ∧ a2 ≤ 12))) ∧ (a = -2)) ∨ (¬ (¬ (0 ≤ a1 ∧ a1 ≤ 2)) ∧ ¬ (¬ ((a1 = 2 ∧ 0 ≤ a2 ∧ a2 ≤ 16777215) ∨ (a1 ≠ 2 ∧ 1 ≤ a2 ∧ a2 ≤ 12))) ∧ (a = (Mq.1 58 a1.toNat).toInt))) ∧ ((((¬ (0 ≤ a1 ∧ a1 ≤ 2)) ∨ (¬ ((a1 = 2 ∧ 0 ≤ a2 ∧ a2 ≤ 16777215) ∨ (a1 ≠ 2 ∧ 1 ≤ a2 ∧ a2 ≤ 12)))) → M'.1 58 = Mq.1 58) ∧ (¬ ((¬ (0 ≤ a1 ∧ a1 ≤ 2)) ∨ (¬ ((a1 = 2 ∧ 0 ≤ a2 ∧ a2 ≤ 16777215) ∨ (a1 ≠ 2 ∧ 1 ≤ a2 ∧ a2 ≤ 12)))) → M'.1 58 = (ui Mq 58 a1.toNat x2).1 58)) ∧ Iv TM M' ∧ Fr W_X7_metre Mq M') := by
  refine ctr_of (L := [(0, .ref (ad 47)), (1, .int x1), (2, .int x2)]) (by decide) (Nat.le_of_ble_eq_true rfl) rfl ?_
  intro Γ X
  have X : gX Γ cX7_metre RX7 4 (some .int) 1 ad _ := X
  have frq0 : Fr W_X7_metre Mq Mq := Fr.rf
  have g11 := ig_47_11 Iq0
  have g12 := ig_47_12 Iq0
  have g20 := ig_47_20 Iq0
  have g24 := ig_47_24 Iq0
  have g52 := ig_47_52 Iq0
  have g53 := ig_47_53 Iq0
  have g43 := ig_47_43 Iq0
  refine g_iload_n X 1 rfl dX7_metre_0 ?_
  refine g_i2l X dX7_metre_1 (fun zq1 eq2 => ?_)
  have tq3 : zq1.toInt = a1 := i2l_nw eq2 t1
  refine g_lconst X 0 dX7_metre_2 (by decide) ?_
  refine g_ldc2 X k_X7_169 dX7_metre_3 ?_
  refine g_callS X m_X7_152 (c_X7_isIn ad Mq zq1 tq3 0 (show (0 : Int64).toInt = 0 by decide) 2 (show (2 : Int64).toInt = 2 by decide)) rfl (by decide) (Nat.le_of_ble_eq_true rfl) rfl dX7_metre_6 ?_
  rintro _ _ ⟨rq4, aq5, rfl, tq6, hq7, rfl⟩
  show G Γ Mq 9 [(0, .ref (ad 47)), (1, .int x1), (2, .int x2)] [.int rq4]
  refine g_if_ne X tq6 (tgt := 14) dX7_metre_9 (by decide) (fun cq8 => ?_) (fun cq8 => ?_)
  · have pq9 : (0 ≤ a1 ∧ a1 ≤ 2) := by omega
    clear hq7 cq8 tq6
    refine g_iload_n X 1 rfl dX7_metre_14 ?_
    refine g_iconst X 2 dX7_metre_15 (by decide) ?_
    refine g_icmp_ge X t1 (show (2 : Int32).toInt = 2 by decide) (tgt := 34) dX7_metre_16 (by decide) (fun cq10 => ?_) (fun cq10 => ?_)
    · refine g_iload_n X 2 rfl dX7_metre_34 ?_
      refine g_i2l X dX7_metre_35 (fun zq11 eq12 => ?_)
      have tq13 : zq11.toInt = a2 := i2l_nw eq12 t2
      refine g_lconst X 0 dX7_metre_36 (by decide) ?_
      refine g_ldc2 X k_X7_173 dX7_metre_37 ?_
      refine g_callS X m_X7_152 (c_X7_isIn ad Mq zq11 tq13 0 (show (0 : Int64).toInt = 0 by decide) 16777215 (show (16777215 : Int64).toInt = 16777215 by decide)) rfl (by decide) (Nat.le_of_ble_eq_true rfl) rfl dX7_metre_40 ?_
      rintro _ _ ⟨rq14, aq15, rfl, tq16, hq17, rfl⟩
      show G Γ Mq 43 [(0, .ref (ad 47)), (1, .int x1), (2, .int x2)] [.int rq14]
      refine g_if_ne X tq16 (tgt := 49) dX7_metre_43 (by decide) (fun cq18 => ?_) (fun cq18 => ?_)
      · have pq19 : (0 ≤ a2 ∧ a2 ≤ 16777215) := by omega
        clear hq17 cq18 tq16
        refine g_aload_n X 0 rfl dX7_metre_49 ?_
        refine g_getr X f_X7_40 dX7_metre_50 ?_
        refine g_iload_n X 1 rfl dX7_metre_53 ?_
        refine g_iald X la_58 t1 dX7_metre_54 (by omega) (x := Mq.1 58 a1.toNat) rfl ?_
        refine g_istore_n X (i := 3) [(3, .int (Mq.1 58 a1.toNat)), (0, .ref (ad 47)), (1, .int x1), (2, .int x2)] dX7_metre_55 rfl (by decide) rfl ?_
        refine g_aload_n X 1 rfl dX7_metre_56 ?_
        refine g_getr X f_X7_40 dX7_metre_57 ?_
        refine g_iload_n X 2 rfl dX7_metre_60 ?_
        refine g_iload_n X 3 rfl dX7_metre_61 ?_
        refine g_iast X la_58 t1 dX7_metre_62 (by omega) ?_
        have Iq20 : Iv TM (ui Mq 58 a1.toNat x2) := Iq0.otherA rfl
        have frq21 : Fr W_X7_metre Mq (ui Mq 58 a1.toNat x2) := frq0.ui rfl
        refine g_iload_n X 0 rfl dX7_metre_63 ?_
        exact g_iret X dX7_metre_64 ⟨_, _, rfl, rfl, (by omega), (⟨fun h => by first | rfl | exact absurd h (by omega), fun h => by first | rfl | exact absurd (by omega) h⟩), Iq20, frq21⟩
      · have pq22 : ¬ (0 ≤ a2 ∧ a2 ≤ 16777215) := by omega
        clear hq17 cq18 tq16
        refine g_bipush X (-2) dX7_metre_46 (by decide) ?_
        exact g_iret X dX7_metre_48 ⟨_, _, rfl, (show ((-2) : Int32).toInt = (-2) by decide), (by omega), (⟨fun h => by first | rfl | exact absurd h (by omega), fun h => by first | rfl | exact absurd (by omega) h⟩), Iq0, frq0⟩
    · refine g_iload_n X 2 rfl dX7_metre_19 ?_
      refine g_i2l X dX7_metre_20 (fun zq23 eq24 => ?_)
      have tq25 : zq23.toInt = a2 := i2l_nw eq24 t2
      refine g_lconst X 1 dX7_metre_21 (by decide) ?_
      refine g_ldc2 X k_X7_171 dX7_metre_22 ?_
      refine g_callS X m_X7_152 (c_X7_isIn ad Mq zq23 tq25 1 (show (1 : Int64).toInt = 1 by decide) 12 (show (12 : Int64).toInt = 12 by decide)) rfl (by decide) (Nat.le_of_ble_eq_true rfl) rfl dX7_metre_25 ?_
      rintro _ _ ⟨rq26, aq27, rfl, tq28, hq29, rfl⟩
      show G Γ Mq 28 [(0, .ref (ad 47)), (1, .int x1), (2, .int x2)] [.int rq26]
      refine g_if_ne X tq28 (tgt := 49) dX7_metre_28 (by decide) (fun cq30 => ?_) (fun cq30 => ?_)
      · have pq31 : (1 ≤ a2 ∧ a2 ≤ 12) := by omega
        clear hq29 cq30 tq28
        refine g_aload_n X 0 rfl dX7_metre_49 ?_
        refine g_getr X f_X7_40 dX7_metre_50 ?_
        refine g_iload_n X 1 rfl dX7_metre_53 ?_
        refine g_iald X la_58 t1 dX7_metre_54 (by omega) (x := Mq.1 58 a1.toNat) rfl ?_
        refine g_istore_n X (i := 3) [(3, .int (Mq.1 58 a1.toNat)), (0, .ref (ad 47)), (1, .int x1), (2, .int x2)] dX7_metre_55 rfl (by decide) rfl ?_
        refine g_aload_n X 1 rfl dX7_metre_56 ?_
        refine g_getr X f_X7_40 dX7_metre_57 ?_
        refine g_iload_n X 2 rfl dX7_metre_60 ?_
        refine g_iload_n X 3 rfl dX7_metre_61 ?_
        refine g_iast X la_58 t1 dX7_metre_62 (by omega) ?_
        have Iq32 : Iv TM (ui Mq 58 a1.toNat x2) := Iq0.otherA rfl
        have frq33 : Fr W_X7_metre Mq (ui Mq 58 a1.toNat x2) := frq0.ui rfl
        refine g_iload_n X 0 rfl dX7_metre_63 ?_
        exact g_iret X dX7_metre_64 ⟨_, _, rfl, rfl, (by omega), (⟨fun h => by first | rfl | exact absurd h (by omega), fun h => by first | rfl | exact absurd (by omega) h⟩), Iq32, frq33⟩
      · have pq34 : ¬ (1 ≤ a2 ∧ a2 ≤ 12) := by omega
        clear hq29 cq30 tq28
        refine g_goto X (tgt := 46) dX7_metre_31 (by decide) ?_
        refine g_bipush X (-2) dX7_metre_46 (by decide) ?_
        exact g_iret X dX7_metre_48 ⟨_, _, rfl, (show ((-2) : Int32).toInt = (-2) by decide), (by omega), (⟨fun h => by first | rfl | exact absurd h (by omega), fun h => by first | rfl | exact absurd (by omega) h⟩), Iq0, frq0⟩
  · have pq35 : ¬ (0 ≤ a1 ∧ a1 ≤ 2) := by omega
    clear hq7 cq8 tq6
    refine g_iconst X (-1) dX7_metre_12 (by decide) ?_
    exact g_iret X dX7_metre_13 ⟨_, _, rfl, (show ((-1) : Int32).toInt = (-1) by decide), (by omega), (⟨fun h => by first | rfl | exact absurd h (by omega), fun h => by first | rfl | exact absurd (by omega) h⟩), Iq0, frq0⟩
abbrev W_X7_hall : List (Nat × Nat) := [(47, 24)]
set_option maxHeartbeats 4000000 in
set_option maxRecDepth 4000 in
theorem c_X7_hall (ad : Nat → Nat) (Mq : Mem) (x1 : Int32) {a1 : Int} (t1 : x1.toInt = a1) (Iq0 : Iv TM Mq) : Ctr ad yX7_hall cX7_hall 3 (some .int) 1 [.ref (ad 47), .int x1] Mq (fun v M' => ∃ (r : Int32) (a : Int), v = some (.int r) ∧ r.toInt = a ∧ (((0 ≤ a1 ∧ a1 ≤ 3) ∧ a = (Mq.1 47 24).toInt) ∨ (¬ (0 ≤ a1 ∧ a1 ≤ 3) ∧ a = -2)) ∧ (((0 ≤ a1 ∧ a1 ≤ 3) ∧ (M'.1 47 24).toInt = a1) ∨ (¬ (0 ≤ a1 ∧ a1 ≤ 3) ∧ (M'.1 47 24).toInt = (Mq.1 47 24).toInt)) ∧ Iv TM M' ∧ Fr W_X7_hall Mq M') := by
  refine ctr_of (L := [(0, .ref (ad 47)), (1, .int x1)]) (by decide) (Nat.le_of_ble_eq_true rfl) rfl ?_
  intro Γ X
  have X : gX Γ cX7_hall RX7 3 (some .int) 1 ad _ := X
  have frq0 : Fr W_X7_hall Mq Mq := Fr.rf
  have g11 := ig_47_11 Iq0
  have g12 := ig_47_12 Iq0
  have g20 := ig_47_20 Iq0
  have g24 := ig_47_24 Iq0
  have g52 := ig_47_52 Iq0
  have g53 := ig_47_53 Iq0
  have g43 := ig_47_43 Iq0
  refine g_iload_n X 1 rfl dX7_hall_0 ?_
  refine g_i2l X dX7_hall_1 (fun zq1 eq2 => ?_)
  have tq3 : zq1.toInt = a1 := i2l_nw eq2 t1
  refine g_lconst X 0 dX7_hall_2 (by decide) ?_
  refine g_ldc2 X k_X7_235 dX7_hall_3 ?_
  refine g_callS X m_X7_152 (c_X7_isIn ad Mq zq1 tq3 0 (show (0 : Int64).toInt = 0 by decide) 3 (show (3 : Int64).toInt = 3 by decide)) rfl (by decide) (Nat.le_of_ble_eq_true rfl) rfl dX7_hall_6 ?_
  rintro _ _ ⟨rq4, aq5, rfl, tq6, hq7, rfl⟩
  show G Γ Mq 9 [(0, .ref (ad 47)), (1, .int x1)] [.int rq4]
  refine g_if_ne X tq6 (tgt := 15) dX7_hall_9 (by decide) (fun cq8 => ?_) (fun cq8 => ?_)
  · have pq9 : (0 ≤ a1 ∧ a1 ≤ 3) := by omega
    clear hq7 cq8 tq6
    refine g_aload_n X 0 rfl dX7_hall_15 ?_
    refine g_geti X f_X7_61 dX7_hall_16 (x := Mq.1 47 24) rfl ?_
    have bq10 := ig_47_24 Iq0
    refine g_istore_n X (i := 2) [(2, .int (Mq.1 47 24)), (0, .ref (ad 47)), (1, .int x1)] dX7_hall_19 rfl (by decide) rfl ?_
    refine g_aload_n X 1 rfl dX7_hall_20 ?_
    refine g_iload_n X 2 rfl dX7_hall_21 ?_
    refine g_puti X p_X7_61 dX7_hall_22 ?_
    have Iq11 : Iv TM (ui Mq 47 24 x1) := Iq0.put 0 3 t1 (by omega) rfl
    have frq12 : Fr W_X7_hall Mq (ui Mq 47 24 x1) := frq0.ui rfl
    refine g_iload_n X 0 rfl dX7_hall_25 ?_
    exact g_iret X dX7_hall_26 ⟨_, _, rfl, rfl, (by omega), (by first | omega | (rw [ui_eq]; omega)), Iq11, frq12⟩
  · have pq13 : ¬ (0 ≤ a1 ∧ a1 ≤ 3) := by omega
    clear hq7 cq8 tq6
    refine g_bipush X (-2) dX7_hall_12 (by decide) ?_
    exact g_iret X dX7_hall_14 ⟨_, _, rfl, (show ((-2) : Int32).toInt = (-2) by decide), (by omega), (by first | omega | (rw [ui_eq]; omega)), Iq0, frq0⟩
abbrev W_X7_singer : List (Nat × Nat) := [(47, 52), (79, 99)]
set_option maxHeartbeats 4000000 in
set_option maxRecDepth 4000 in
theorem c_X7_singer (ad : Nat → Nat) (Mq : Mem) (x1 : Int32) {a1 : Int} (t1 : x1.toInt = a1) (Iq0 : Iv TM Mq) : Ctr ad yX7_singer cX7_singer 2 (some .int) 1 [.ref (ad 47), .int x1] Mq (fun v M' => ∃ (r : Int32) (a : Int), v = some (.int r) ∧ r.toInt = a ∧ (((¬ (0 ≤ a1 ∧ a1 ≤ 999)) ∧ (a = -2)) ∨ (¬ (¬ (0 ≤ a1 ∧ a1 ≤ 999)) ∧ (8 ≤ (Mq.1 47 52).toInt) ∧ (a = -4)) ∨ (¬ (¬ (0 ≤ a1 ∧ a1 ≤ 999)) ∧ ¬ (8 ≤ (Mq.1 47 52).toInt) ∧ (a = (Mq.1 47 52).toInt))) ∧ ((((¬ (0 ≤ a1 ∧ a1 ≤ 999)) ∨ (8 ≤ (Mq.1 47 52).toInt)) ∧ (M'.1 47 52).toInt = (Mq.1 47 52).toInt) ∨ (¬ ((¬ (0 ≤ a1 ∧ a1 ≤ 999)) ∨ (8 ≤ (Mq.1 47 52).toInt)) ∧ (M'.1 47 52).toInt = (Mq.1 47 52).toInt + 1)) ∧ Iv TM M' ∧ Fr W_X7_singer Mq M') := by
  refine ctr_of (L := [(0, .ref (ad 47)), (1, .int x1)]) (by decide) (Nat.le_of_ble_eq_true rfl) rfl ?_
  intro Γ X
  have X : gX Γ cX7_singer RX7 2 (some .int) 1 ad _ := X
  have frq0 : Fr W_X7_singer Mq Mq := Fr.rf
  have g11 := ig_47_11 Iq0
  have g12 := ig_47_12 Iq0
  have g20 := ig_47_20 Iq0
  have g24 := ig_47_24 Iq0
  have g52 := ig_47_52 Iq0
  have g53 := ig_47_53 Iq0
  have g43 := ig_47_43 Iq0
  refine g_iload_n X 1 rfl dX7_singer_0 ?_
  refine g_callS X m_X7_263 (c_X7_isYear ad Mq x1 t1) rfl (by decide) (Nat.le_of_ble_eq_true rfl) rfl dX7_singer_1 ?_
  rintro _ _ ⟨rq1, aq2, rfl, tq3, hq4, rfl⟩
  show G Γ Mq 4 [(0, .ref (ad 47)), (1, .int x1)] [.int rq1]
  refine g_if_ne X tq3 (tgt := 10) dX7_singer_4 (by decide) (fun cq5 => ?_) (fun cq5 => ?_)
  · have pq6 : (0 ≤ a1 ∧ a1 ≤ 999) := by omega
    clear hq4 cq5 tq3
    refine g_aload_n X 0 rfl dX7_singer_10 ?_
    refine g_geti X f_X7_313 dX7_singer_11 (x := Mq.1 47 52) rfl ?_
    have bq7 := ig_47_52 Iq0
    refine g_bipush X 8 dX7_singer_14 (by decide) ?_
    refine g_icmp_ne X rfl (show (8 : Int32).toInt = 8 by decide) (tgt := 22) dX7_singer_16 (by decide) (fun cq8 => ?_) (fun cq8 => ?_)
    · refine g_aload_n X 0 rfl dX7_singer_22 ?_
      refine g_getr X f_X7_107 dX7_singer_23 ?_
      refine g_aload_n X 0 rfl dX7_singer_26 ?_
      refine g_geti X f_X7_313 dX7_singer_27 (x := Mq.1 47 52) rfl ?_
      have bq9 := ig_47_52 Iq0
      refine g_iload_n X 1 rfl dX7_singer_30 ?_
      refine g_iast X la_79 rfl dX7_singer_31 (by omega) ?_
      have Iq10 : Iv TM (ui Mq 79 (((Mq.1 47 52).toInt).toNat) x1) := Iq0.otherA rfl
      have frq11 : Fr W_X7_singer Mq (ui Mq 79 (((Mq.1 47 52).toInt).toNat) x1) := frq0.ui rfl
      refine g_aload_n X 0 rfl dX7_singer_32 ?_
      refine g_dup X dX7_singer_33 rfl ?_
      refine g_geti X f_X7_313 dX7_singer_34 (x := Mq.1 47 52) rfl ?_
      have bq12 := ig_47_52 Iq0
      refine g_iconst X 1 dX7_singer_37 (by decide) ?_
      refine g_iadd X dX7_singer_38 (fun zq13 eq14 => ?_)
      have tq15 : zq13.toInt = ((Mq.1 47 52).toInt) + 1 := add_nw eq14 rfl (show (1 : Int32).toInt = 1 by decide) (by omega)
      refine g_puti X p_X7_313 dX7_singer_39 ?_
      have Iq16 : Iv TM (ui (ui Mq 79 (((Mq.1 47 52).toInt).toNat) x1) 47 52 zq13) := Iq10.put 0 8 tq15 (by omega) rfl
      have frq17 : Fr W_X7_singer Mq (ui (ui Mq 79 (((Mq.1 47 52).toInt).toNat) x1) 47 52 zq13) := frq11.ui rfl
      refine g_aload_n X 0 rfl dX7_singer_42 ?_
      refine g_geti X f_X7_313 dX7_singer_43 (x := zq13) rfl ?_
      refine g_iconst X 1 dX7_singer_46 (by decide) ?_
      refine g_isub X dX7_singer_47 (fun zq18 eq19 => ?_)
      have tq20 : zq18.toInt = (((Mq.1 47 52).toInt) + 1) - 1 := sub_nw eq19 tq15 (show (1 : Int32).toInt = 1 by decide) (by omega)
      exact g_iret X dX7_singer_48 ⟨_, _, rfl, tq20, (by omega), (by first | omega | (rw [ui_eq]; omega)), Iq16, frq17⟩
    · refine g_bipush X (-4) dX7_singer_19 (by decide) ?_
      exact g_iret X dX7_singer_21 ⟨_, _, rfl, (show ((-4) : Int32).toInt = (-4) by decide), (by omega), (by first | omega | (rw [ui_eq]; omega)), Iq0, frq0⟩
  · have pq21 : ¬ (0 ≤ a1 ∧ a1 ≤ 999) := by omega
    clear hq4 cq5 tq3
    refine g_bipush X (-2) dX7_singer_7 (by decide) ?_
    exact g_iret X dX7_singer_9 ⟨_, _, rfl, (show ((-2) : Int32).toInt = (-2) by decide), (by omega), (by first | omega | (rw [ui_eq]; omega)), Iq0, frq0⟩
abbrev W_X7_village : List (Nat × Nat) := [(80, 99)]
set_option maxHeartbeats 4000000 in
set_option maxRecDepth 4000 in
theorem c_X7_village (ad : Nat → Nat) (Mq : Mem) (x1 : Int32) {a1 : Int} (t1 : x1.toInt = a1) (x2 : Int32) {a2 : Int} (t2 : x2.toInt = a2) (Iq0 : Iv TM Mq) : Ctr ad yX7_village cX7_village 4 (some .int) 1 [.ref (ad 47), .int x1, .int x2] Mq (fun v M' => ∃ (r : Int32) (a : Int), v = some (.int r) ∧ r.toInt = a ∧ (((¬ (0 ≤ a1 ∧ a1 < (Mq.1 47 52).toInt)) ∧ (a = -1)) ∨ (¬ (¬ (0 ≤ a1 ∧ a1 < (Mq.1 47 52).toInt)) ∧ (¬ (0 ≤ a2 ∧ a2 ≤ 9)) ∧ (a = -2)) ∨ (¬ (¬ (0 ≤ a1 ∧ a1 < (Mq.1 47 52).toInt)) ∧ ¬ (¬ (0 ≤ a2 ∧ a2 ≤ 9)) ∧ (a = (Mq.1 80 a1.toNat).toInt))) ∧ ((((¬ (0 ≤ a1 ∧ a1 < (Mq.1 47 52).toInt)) ∨ (¬ (0 ≤ a2 ∧ a2 ≤ 9))) → M'.1 80 = Mq.1 80) ∧ (¬ ((¬ (0 ≤ a1 ∧ a1 < (Mq.1 47 52).toInt)) ∨ (¬ (0 ≤ a2 ∧ a2 ≤ 9))) → M'.1 80 = (ui Mq 80 a1.toNat x2).1 80)) ∧ Iv TM M' ∧ Fr W_X7_village Mq M') := by
  refine ctr_of (L := [(0, .ref (ad 47)), (1, .int x1), (2, .int x2)]) (by decide) (Nat.le_of_ble_eq_true rfl) rfl ?_
  intro Γ X
  have X : gX Γ cX7_village RX7 4 (some .int) 1 ad _ := X
  have frq0 : Fr W_X7_village Mq Mq := Fr.rf
  have g11 := ig_47_11 Iq0
  have g12 := ig_47_12 Iq0
  have g20 := ig_47_20 Iq0
  have g24 := ig_47_24 Iq0
  have g52 := ig_47_52 Iq0
  have g53 := ig_47_53 Iq0
  have g43 := ig_47_43 Iq0
  refine g_aload_n X 0 rfl dX7_village_0 ?_
  refine g_iload_n X 1 rfl dX7_village_1 ?_
  refine g_callV X m_X7_260 (c_X7_isSinger ad Mq x1 t1) rfl (by decide) (Nat.le_of_ble_eq_true rfl) rfl dX7_village_2 ?_
  rintro _ _ ⟨rq1, aq2, rfl, tq3, hq4, rfl⟩
  show G Γ Mq 5 [(0, .ref (ad 47)), (1, .int x1), (2, .int x2)] [.int rq1]
  refine g_if_ne X tq3 (tgt := 10) dX7_village_5 (by decide) (fun cq5 => ?_) (fun cq5 => ?_)
  · have pq6 : (0 ≤ a1 ∧ a1 < ((Mq.1 47 52)).toInt) := by omega
    clear hq4 cq5 tq3
    refine g_iload_n X 2 rfl dX7_village_10 ?_
    refine g_i2l X dX7_village_11 (fun zq7 eq8 => ?_)
    have tq9 : zq7.toInt = a2 := i2l_nw eq8 t2
    refine g_lconst X 0 dX7_village_12 (by decide) ?_
    refine g_ldc2 X k_X7_316 dX7_village_13 ?_
    refine g_callS X m_X7_152 (c_X7_isIn ad Mq zq7 tq9 0 (show (0 : Int64).toInt = 0 by decide) 9 (show (9 : Int64).toInt = 9 by decide)) rfl (by decide) (Nat.le_of_ble_eq_true rfl) rfl dX7_village_16 ?_
    rintro _ _ ⟨rq10, aq11, rfl, tq12, hq13, rfl⟩
    show G Γ Mq 19 [(0, .ref (ad 47)), (1, .int x1), (2, .int x2)] [.int rq10]
    refine g_if_ne X tq12 (tgt := 25) dX7_village_19 (by decide) (fun cq14 => ?_) (fun cq14 => ?_)
    · have pq15 : (0 ≤ a2 ∧ a2 ≤ 9) := by omega
      clear hq13 cq14 tq12
      refine g_aload_n X 0 rfl dX7_village_25 ?_
      refine g_getr X f_X7_110 dX7_village_26 ?_
      refine g_iload_n X 1 rfl dX7_village_29 ?_
      refine g_iald X la_80 t1 dX7_village_30 (by omega) (x := Mq.1 80 a1.toNat) rfl ?_
      refine g_istore_n X (i := 3) [(3, .int (Mq.1 80 a1.toNat)), (0, .ref (ad 47)), (1, .int x1), (2, .int x2)] dX7_village_31 rfl (by decide) rfl ?_
      refine g_aload_n X 1 rfl dX7_village_32 ?_
      refine g_getr X f_X7_110 dX7_village_33 ?_
      refine g_iload_n X 2 rfl dX7_village_36 ?_
      refine g_iload_n X 3 rfl dX7_village_37 ?_
      refine g_iast X la_80 t1 dX7_village_38 (by omega) ?_
      have Iq16 : Iv TM (ui Mq 80 a1.toNat x2) := Iq0.otherA rfl
      have frq17 : Fr W_X7_village Mq (ui Mq 80 a1.toNat x2) := frq0.ui rfl
      refine g_iload_n X 0 rfl dX7_village_39 ?_
      exact g_iret X dX7_village_40 ⟨_, _, rfl, rfl, (by omega), (⟨fun h => by first | rfl | exact absurd h (by omega), fun h => by first | rfl | exact absurd (by omega) h⟩), Iq16, frq17⟩
    · have pq18 : ¬ (0 ≤ a2 ∧ a2 ≤ 9) := by omega
      clear hq13 cq14 tq12
      refine g_bipush X (-2) dX7_village_22 (by decide) ?_
      exact g_iret X dX7_village_24 ⟨_, _, rfl, (show ((-2) : Int32).toInt = (-2) by decide), (by omega), (⟨fun h => by first | rfl | exact absurd h (by omega), fun h => by first | rfl | exact absurd (by omega) h⟩), Iq0, frq0⟩
  · have pq19 : ¬ (0 ≤ a1 ∧ a1 < ((Mq.1 47 52)).toInt) := by omega
    clear hq4 cq5 tq3
    refine g_iconst X (-1) dX7_village_8 (by decide) ?_
    exact g_iret X dX7_village_9 ⟨_, _, rfl, (show ((-1) : Int32).toInt = (-1) by decide), (by omega), (⟨fun h => by first | rfl | exact absurd h (by omega), fun h => by first | rfl | exact absurd (by omega) h⟩), Iq0, frq0⟩
abbrev W_X7_enters : List (Nat × Nat) := [(47, 53), (81, 99), (82, 99), (83, 99), (84, 99)]
set_option maxHeartbeats 4000000 in
set_option maxRecDepth 4000 in
theorem c_X7_enters (ad : Nat → Nat) (Mq : Mem) (x1 : Int32) {a1 : Int} (t1 : x1.toInt = a1) (x2 : Int32) {a2 : Int} (t2 : x2.toInt = a2) (x3 : Int32) {a3 : Int} (t3 : x3.toInt = a3) (x4 : Int32) {a4 : Int} (t4 : x4.toInt = a4) (Iq0 : Iv TM Mq) (h4 : a4 = 0 ∨ a4 = 1) : Ctr ad yX7_enters cX7_enters 5 (some .int) 0 [.ref (ad 47), .int x1, .int x2, .int x3, .int x4] Mq (fun v M' => ∃ (r : Int32) (a : Int), v = some (.int r) ∧ r.toInt = a ∧ ((200 ≤ (Mq.1 47 53).toInt ∧ a = -4) ∨ ((Mq.1 47 53).toInt < 200 ∧ a = (Mq.1 47 53).toInt + 1)) ∧ ((200 ≤ (Mq.1 47 53).toInt ∧ (M'.1 47 53).toInt = (Mq.1 47 53).toInt) ∨ ((Mq.1 47 53).toInt < 200 ∧ (M'.1 47 53).toInt = (Mq.1 47 53).toInt + 1)) ∧ Iv TM M' ∧ Fr W_X7_enters Mq M') := by
  refine ctr_of (L := [(0, .ref (ad 47)), (1, .int x1), (2, .int x2), (3, .int x3), (4, .int x4)]) (by decide) (Nat.le_of_ble_eq_true rfl) rfl ?_
  intro Γ X
  have X : gX Γ cX7_enters RX7 5 (some .int) 0 ad _ := X
  have frq0 : Fr W_X7_enters Mq Mq := Fr.rf
  have g11 := ig_47_11 Iq0
  have g12 := ig_47_12 Iq0
  have g20 := ig_47_20 Iq0
  have g24 := ig_47_24 Iq0
  have g52 := ig_47_52 Iq0
  have g53 := ig_47_53 Iq0
  have g43 := ig_47_43 Iq0
  refine g_aload_n X 0 rfl dX7_enters_0 ?_
  refine g_geti X f_X7_266 dX7_enters_1 (x := Mq.1 47 53) rfl ?_
  have bq1 := ig_47_53 Iq0
  refine g_sipush X 200 dX7_enters_4 (by decide) ?_
  refine g_icmp_ne X rfl (show (200 : Int32).toInt = 200 by decide) (tgt := 13) dX7_enters_7 (by decide) (fun cq2 => ?_) (fun cq2 => ?_)
  · refine g_aload_n X 0 rfl dX7_enters_13 ?_
    refine g_getr X f_X7_113 dX7_enters_14 ?_
    refine g_aload_n X 0 rfl dX7_enters_17 ?_
    refine g_geti X f_X7_266 dX7_enters_18 (x := Mq.1 47 53) rfl ?_
    have bq3 := ig_47_53 Iq0
    refine g_iload_n X 1 rfl dX7_enters_21 ?_
    refine g_iast X la_81 rfl dX7_enters_22 (by omega) ?_
    have Iq4 : Iv TM (ui Mq 81 (((Mq.1 47 53).toInt).toNat) x1) := Iq0.otherA rfl
    have frq5 : Fr W_X7_enters Mq (ui Mq 81 (((Mq.1 47 53).toInt).toNat) x1) := frq0.ui rfl
    refine g_aload_n X 0 rfl dX7_enters_23 ?_
    refine g_getr X f_X7_116 dX7_enters_24 ?_
    refine g_aload_n X 0 rfl dX7_enters_27 ?_
    refine g_geti X f_X7_266 dX7_enters_28 (x := Mq.1 47 53) rfl ?_
    have bq6 := ig_47_53 Iq0
    refine g_iload_n X 2 rfl dX7_enters_31 ?_
    refine g_iast X la_82 rfl dX7_enters_32 (by omega) ?_
    have Iq7 : Iv TM (ui (ui Mq 81 (((Mq.1 47 53).toInt).toNat) x1) 82 (((Mq.1 47 53).toInt).toNat) x2) := Iq4.otherA rfl
    have frq8 : Fr W_X7_enters Mq (ui (ui Mq 81 (((Mq.1 47 53).toInt).toNat) x1) 82 (((Mq.1 47 53).toInt).toNat) x2) := frq5.ui rfl
    refine g_aload_n X 0 rfl dX7_enters_33 ?_
    refine g_getr X f_X7_119 dX7_enters_34 ?_
    refine g_aload_n X 0 rfl dX7_enters_37 ?_
    refine g_geti X f_X7_266 dX7_enters_38 (x := Mq.1 47 53) rfl ?_
    have bq9 := ig_47_53 Iq0
    refine g_iload_n X 3 rfl dX7_enters_41 ?_
    refine g_iast X la_83 rfl dX7_enters_42 (by omega) ?_
    have Iq10 : Iv TM (ui (ui (ui Mq 81 (((Mq.1 47 53).toInt).toNat) x1) 82 (((Mq.1 47 53).toInt).toNat) x2) 83 (((Mq.1 47 53).toInt).toNat) x3) := Iq7.otherA rfl
    have frq11 : Fr W_X7_enters Mq (ui (ui (ui Mq 81 (((Mq.1 47 53).toInt).toNat) x1) 82 (((Mq.1 47 53).toInt).toNat) x2) 83 (((Mq.1 47 53).toInt).toNat) x3) := frq8.ui rfl
    refine g_aload_n X 0 rfl dX7_enters_43 ?_
    refine g_getr X f_X7_122 dX7_enters_44 ?_
    refine g_aload_n X 0 rfl dX7_enters_47 ?_
    refine g_geti X f_X7_266 dX7_enters_48 (x := Mq.1 47 53) rfl ?_
    have bq12 := ig_47_53 Iq0
    refine g_iload X 4 rfl dX7_enters_51 ?_
    refine g_zast X la_84 (b01 t4 (by omega)) rfl dX7_enters_53 (by omega) ?_
    have Iq13 : Iv TM (ui (ui (ui (ui Mq 81 (((Mq.1 47 53).toInt).toNat) x1) 82 (((Mq.1 47 53).toInt).toNat) x2) 83 (((Mq.1 47 53).toInt).toNat) x3) 84 (((Mq.1 47 53).toInt).toNat) x4) := Iq10.putA 0 1 t4 (by omega) rfl
    have frq14 : Fr W_X7_enters Mq (ui (ui (ui (ui Mq 81 (((Mq.1 47 53).toInt).toNat) x1) 82 (((Mq.1 47 53).toInt).toNat) x2) 83 (((Mq.1 47 53).toInt).toNat) x3) 84 (((Mq.1 47 53).toInt).toNat) x4) := frq11.ui rfl
    refine g_aload_n X 0 rfl dX7_enters_54 ?_
    refine g_dup X dX7_enters_55 rfl ?_
    refine g_geti X f_X7_266 dX7_enters_56 (x := Mq.1 47 53) rfl ?_
    have bq15 := ig_47_53 Iq0
    refine g_iconst X 1 dX7_enters_59 (by decide) ?_
    refine g_iadd X dX7_enters_60 (fun zq16 eq17 => ?_)
    have tq18 : zq16.toInt = ((Mq.1 47 53).toInt) + 1 := add_nw eq17 rfl (show (1 : Int32).toInt = 1 by decide) (by omega)
    refine g_puti X p_X7_266 dX7_enters_61 ?_
    have Iq19 : Iv TM (ui (ui (ui (ui (ui Mq 81 (((Mq.1 47 53).toInt).toNat) x1) 82 (((Mq.1 47 53).toInt).toNat) x2) 83 (((Mq.1 47 53).toInt).toNat) x3) 84 (((Mq.1 47 53).toInt).toNat) x4) 47 53 zq16) := Iq13.put 0 200 tq18 (by omega) rfl
    have frq20 : Fr W_X7_enters Mq (ui (ui (ui (ui (ui Mq 81 (((Mq.1 47 53).toInt).toNat) x1) 82 (((Mq.1 47 53).toInt).toNat) x2) 83 (((Mq.1 47 53).toInt).toNat) x3) 84 (((Mq.1 47 53).toInt).toNat) x4) 47 53 zq16) := frq14.ui rfl
    refine g_aload_n X 0 rfl dX7_enters_64 ?_
    refine g_geti X f_X7_266 dX7_enters_65 (x := zq16) rfl ?_
    exact g_iret X dX7_enters_68 ⟨_, _, rfl, tq18, (by omega), (by first | omega | (rw [ui_eq]; omega)), Iq19, frq20⟩
  · refine g_bipush X (-4) dX7_enters_10 (by decide) ?_
    exact g_iret X dX7_enters_12 ⟨_, _, rfl, (show ((-4) : Int32).toInt = (-4) by decide), (by omega), (by first | omega | (rw [ui_eq]; omega)), Iq0, frq0⟩
abbrev W_X7_learn : List (Nat × Nat) := [(47, 53), (81, 99), (82, 99), (83, 99), (84, 99)]
set_option maxHeartbeats 4000000 in
set_option maxRecDepth 4000 in
theorem c_X7_learn (ad : Nat → Nat) (Mq : Mem) (x1 : Int32) {a1 : Int} (t1 : x1.toInt = a1) (x2 : Int32) {a2 : Int} (t2 : x2.toInt = a2) (x3 : Int32) {a3 : Int} (t3 : x3.toInt = a3) (x4 : Int32) {a4 : Int} (t4 : x4.toInt = a4) (Iq0 : Iv TM Mq) : Ctr ad yX7_learn cX7_learn 5 (some .int) 1 [.ref (ad 47), .int x1, .int x2, .int x3, .int x4] Mq (fun v M' => ∃ (r : Int32) (a : Int), v = some (.int r) ∧ r.toInt = a ∧ (((¬ ((0 ≤ a1 ∧ a1 < (Mq.1 47 52).toInt) ∧ (0 ≤ a2 ∧ a2 < (Mq.1 47 12).toInt) ∧ (a3 = -1 ∨ (0 ≤ a3 ∧ a3 < (Mq.1 47 52).toInt)))) ∧ (a = -1)) ∨ (¬ (¬ ((0 ≤ a1 ∧ a1 < (Mq.1 47 52).toInt) ∧ (0 ≤ a2 ∧ a2 < (Mq.1 47 12).toInt) ∧ (a3 = -1 ∨ (0 ≤ a3 ∧ a3 < (Mq.1 47 52).toInt)))) ∧ (¬ (0 ≤ a4 ∧ a4 ≤ 999) ∨ a3 = a1) ∧ (a = -2)) ∨ (¬ (¬ ((0 ≤ a1 ∧ a1 < (Mq.1 47 52).toInt) ∧ (0 ≤ a2 ∧ a2 < (Mq.1 47 12).toInt) ∧ (a3 = -1 ∨ (0 ≤ a3 ∧ a3 < (Mq.1 47 52).toInt)))) ∧ ¬ (¬ (0 ≤ a4 ∧ a4 ≤ 999) ∨ a3 = a1) ∧ (200 ≤ (Mq.1 47 53).toInt) ∧ (a = -4)) ∨ (¬ (¬ ((0 ≤ a1 ∧ a1 < (Mq.1 47 52).toInt) ∧ (0 ≤ a2 ∧ a2 < (Mq.1 47 12).toInt) ∧ (a3 = -1 ∨ (0 ≤ a3 ∧ a3 < (Mq.1 47 52).toInt)))) ∧ ¬ (¬ (0 ≤ a4 ∧ a4 ≤ 999) ∨ a3 = a1) ∧ ¬ (200 ≤ (Mq.1 47 53).toInt) ∧ (a = (Mq.1 47 53).toInt + 1))) ∧ ((((¬ ((0 ≤ a1 ∧ a1 < (Mq.1 47 52).toInt) ∧ (0 ≤ a2 ∧ a2 < (Mq.1 47 12).toInt) ∧ (a3 = -1 ∨ (0 ≤ a3 ∧ a3 < (Mq.1 47 52).toInt)))) ∨ (¬ (0 ≤ a4 ∧ a4 ≤ 999) ∨ a3 = a1) ∨ (200 ≤ (Mq.1 47 53).toInt)) ∧ (M'.1 47 53).toInt = (Mq.1 47 53).toInt) ∨ (¬ ((¬ ((0 ≤ a1 ∧ a1 < (Mq.1 47 52).toInt) ∧ (0 ≤ a2 ∧ a2 < (Mq.1 47 12).toInt) ∧ (a3 = -1 ∨ (0 ≤ a3 ∧ a3 < (Mq.1 47 52).toInt)))) ∨ (¬ (0 ≤ a4 ∧ a4 ≤ 999) ∨ a3 = a1) ∨ (200 ≤ (Mq.1 47 53).toInt)) ∧ (M'.1 47 53).toInt = (Mq.1 47 53).toInt + 1)) ∧ Iv TM M' ∧ Fr W_X7_learn Mq M') := by
  refine ctr_of (L := [(0, .ref (ad 47)), (1, .int x1), (2, .int x2), (3, .int x3), (4, .int x4)]) (by decide) (Nat.le_of_ble_eq_true rfl) rfl ?_
  intro Γ X
  have X : gX Γ cX7_learn RX7 5 (some .int) 1 ad _ := X
  have frq0 : Fr W_X7_learn Mq Mq := Fr.rf
  have g11 := ig_47_11 Iq0
  have g12 := ig_47_12 Iq0
  have g20 := ig_47_20 Iq0
  have g24 := ig_47_24 Iq0
  have g52 := ig_47_52 Iq0
  have g53 := ig_47_53 Iq0
  have g43 := ig_47_43 Iq0
  refine g_aload_n X 0 rfl dX7_learn_0 ?_
  refine g_iload_n X 1 rfl dX7_learn_1 ?_
  refine g_callV X m_X7_260 (c_X7_isSinger ad Mq x1 t1) rfl (by decide) (Nat.le_of_ble_eq_true rfl) rfl dX7_learn_2 ?_
  rintro _ _ ⟨rq1, aq2, rfl, tq3, hq4, rfl⟩
  show G Γ Mq 5 [(0, .ref (ad 47)), (1, .int x1), (2, .int x2), (3, .int x3), (4, .int x4)] [.int rq1]
  refine g_if_eq X tq3 (tgt := 29) dX7_learn_5 (by decide) (fun cq5 => ?_) (fun cq5 => ?_)
  · have pq6 : ¬ (0 ≤ a1 ∧ a1 < ((Mq.1 47 52)).toInt) := by omega
    clear hq4 cq5 tq3
    refine g_iconst X (-1) dX7_learn_29 (by decide) ?_
    exact g_iret X dX7_learn_30 ⟨_, _, rfl, (show ((-1) : Int32).toInt = (-1) by decide), (by omega), (by first | omega | (rw [ui_eq]; omega)), Iq0, frq0⟩
  · have pq7 : (0 ≤ a1 ∧ a1 < ((Mq.1 47 52)).toInt) := by omega
    clear hq4 cq5 tq3
    refine g_aload_n X 0 rfl dX7_learn_8 ?_
    refine g_iload_n X 2 rfl dX7_learn_9 ?_
    refine g_callV X m_X7_186 (c_X7_isLine ad Mq x2 t2) rfl (by decide) (Nat.le_of_ble_eq_true rfl) rfl dX7_learn_10 ?_
    rintro _ _ ⟨rq8, aq9, rfl, tq10, hq11, rfl⟩
    show G Γ Mq 13 [(0, .ref (ad 47)), (1, .int x1), (2, .int x2), (3, .int x3), (4, .int x4)] [.int rq8]
    refine g_if_eq X tq10 (tgt := 29) dX7_learn_13 (by decide) (fun cq12 => ?_) (fun cq12 => ?_)
    · have pq13 : ¬ (0 ≤ a2 ∧ a2 < ((Mq.1 47 12)).toInt) := by omega
      clear hq11 cq12 tq10
      refine g_iconst X (-1) dX7_learn_29 (by decide) ?_
      exact g_iret X dX7_learn_30 ⟨_, _, rfl, (show ((-1) : Int32).toInt = (-1) by decide), (by omega), (by first | omega | (rw [ui_eq]; omega)), Iq0, frq0⟩
    · have pq14 : (0 ≤ a2 ∧ a2 < ((Mq.1 47 12)).toInt) := by omega
      clear hq11 cq12 tq10
      refine g_iload_n X 3 rfl dX7_learn_16 ?_
      refine g_iconst X (-1) dX7_learn_17 (by decide) ?_
      refine g_icmp_eq X t3 (show ((-1) : Int32).toInt = (-1) by decide) (tgt := 31) dX7_learn_18 (by decide) (fun cq15 => ?_) (fun cq15 => ?_)
      · refine g_iload X 4 rfl dX7_learn_31 ?_
        refine g_callS X m_X7_263 (c_X7_isYear ad Mq x4 t4) rfl (by decide) (Nat.le_of_ble_eq_true rfl) rfl dX7_learn_33 ?_
        rintro _ _ ⟨rq16, aq17, rfl, tq18, hq19, rfl⟩
        show G Γ Mq 36 [(0, .ref (ad 47)), (1, .int x1), (2, .int x2), (3, .int x3), (4, .int x4)] [.int rq16]
        refine g_if_eq X tq18 (tgt := 44) dX7_learn_36 (by decide) (fun cq20 => ?_) (fun cq20 => ?_)
        · have pq21 : ¬ (0 ≤ a4 ∧ a4 ≤ 999) := by omega
          clear hq19 cq20 tq18
          refine g_bipush X (-2) dX7_learn_44 (by decide) ?_
          exact g_iret X dX7_learn_46 ⟨_, _, rfl, (show ((-2) : Int32).toInt = (-2) by decide), (by omega), (by first | omega | (rw [ui_eq]; omega)), Iq0, frq0⟩
        · have pq22 : (0 ≤ a4 ∧ a4 ≤ 999) := by omega
          clear hq19 cq20 tq18
          refine g_iload_n X 3 rfl dX7_learn_39 ?_
          refine g_iload_n X 1 rfl dX7_learn_40 ?_
          refine g_icmp_ne X t3 t1 (tgt := 47) dX7_learn_41 (by decide) (fun cq23 => ?_) (fun cq23 => ?_)
          · refine g_aload_n X 0 rfl dX7_learn_47 ?_
            refine g_iload_n X 1 rfl dX7_learn_48 ?_
            refine g_iload_n X 2 rfl dX7_learn_49 ?_
            refine g_iload X 4 rfl dX7_learn_50 ?_
            refine g_iconst X 1 dX7_learn_52 (by decide) ?_
            refine g_callV X m_X7_318 (c_X7_enters ad Mq x1 t1 x2 t2 x4 t4 1 (show (1 : Int32).toInt = 1 by decide) Iq0 (by omega)) rfl (by decide) (Nat.le_of_ble_eq_true rfl) rfl dX7_learn_53 ?_
            rintro _ Mq29 ⟨rq24, aq25, rfl, tq26, hq27, hq28, Iq30, frq31⟩
            have frq32 : Fr W_X7_learn Mq Mq29 := frq0.trans frq31 rfl
            show G Γ Mq29 56 [(0, .ref (ad 47)), (1, .int x1), (2, .int x2), (3, .int x3), (4, .int x4)] [.int rq24]
            exact g_iret X dX7_learn_56 ⟨_, _, rfl, tq26, (by omega), (by first | omega | (rw [ui_eq]; omega)), Iq30, frq32⟩
          · refine g_bipush X (-2) dX7_learn_44 (by decide) ?_
            exact g_iret X dX7_learn_46 ⟨_, _, rfl, (show ((-2) : Int32).toInt = (-2) by decide), (by omega), (by first | omega | (rw [ui_eq]; omega)), Iq0, frq0⟩
      · refine g_aload_n X 0 rfl dX7_learn_21 ?_
        refine g_iload_n X 3 rfl dX7_learn_22 ?_
        refine g_callV X m_X7_260 (c_X7_isSinger ad Mq x3 t3) rfl (by decide) (Nat.le_of_ble_eq_true rfl) rfl dX7_learn_23 ?_
        rintro _ _ ⟨rq33, aq34, rfl, tq35, hq36, rfl⟩
        show G Γ Mq 26 [(0, .ref (ad 47)), (1, .int x1), (2, .int x2), (3, .int x3), (4, .int x4)] [.int rq33]
        refine g_if_ne X tq35 (tgt := 31) dX7_learn_26 (by decide) (fun cq37 => ?_) (fun cq37 => ?_)
        · have pq38 : (0 ≤ a3 ∧ a3 < ((Mq.1 47 52)).toInt) := by omega
          clear hq36 cq37 tq35
          refine g_iload X 4 rfl dX7_learn_31 ?_
          refine g_callS X m_X7_263 (c_X7_isYear ad Mq x4 t4) rfl (by decide) (Nat.le_of_ble_eq_true rfl) rfl dX7_learn_33 ?_
          rintro _ _ ⟨rq39, aq40, rfl, tq41, hq42, rfl⟩
          show G Γ Mq 36 [(0, .ref (ad 47)), (1, .int x1), (2, .int x2), (3, .int x3), (4, .int x4)] [.int rq39]
          refine g_if_eq X tq41 (tgt := 44) dX7_learn_36 (by decide) (fun cq43 => ?_) (fun cq43 => ?_)
          · have pq44 : ¬ (0 ≤ a4 ∧ a4 ≤ 999) := by omega
            clear hq42 cq43 tq41
            refine g_bipush X (-2) dX7_learn_44 (by decide) ?_
            exact g_iret X dX7_learn_46 ⟨_, _, rfl, (show ((-2) : Int32).toInt = (-2) by decide), (by omega), (by first | omega | (rw [ui_eq]; omega)), Iq0, frq0⟩
          · have pq45 : (0 ≤ a4 ∧ a4 ≤ 999) := by omega
            clear hq42 cq43 tq41
            refine g_iload_n X 3 rfl dX7_learn_39 ?_
            refine g_iload_n X 1 rfl dX7_learn_40 ?_
            refine g_icmp_ne X t3 t1 (tgt := 47) dX7_learn_41 (by decide) (fun cq46 => ?_) (fun cq46 => ?_)
            · refine g_aload_n X 0 rfl dX7_learn_47 ?_
              refine g_iload_n X 1 rfl dX7_learn_48 ?_
              refine g_iload_n X 2 rfl dX7_learn_49 ?_
              refine g_iload X 4 rfl dX7_learn_50 ?_
              refine g_iconst X 1 dX7_learn_52 (by decide) ?_
              refine g_callV X m_X7_318 (c_X7_enters ad Mq x1 t1 x2 t2 x4 t4 1 (show (1 : Int32).toInt = 1 by decide) Iq0 (by omega)) rfl (by decide) (Nat.le_of_ble_eq_true rfl) rfl dX7_learn_53 ?_
              rintro _ Mq52 ⟨rq47, aq48, rfl, tq49, hq50, hq51, Iq53, frq54⟩
              have frq55 : Fr W_X7_learn Mq Mq52 := frq0.trans frq54 rfl
              show G Γ Mq52 56 [(0, .ref (ad 47)), (1, .int x1), (2, .int x2), (3, .int x3), (4, .int x4)] [.int rq47]
              exact g_iret X dX7_learn_56 ⟨_, _, rfl, tq49, (by omega), (by first | omega | (rw [ui_eq]; omega)), Iq53, frq55⟩
            · refine g_bipush X (-2) dX7_learn_44 (by decide) ?_
              exact g_iret X dX7_learn_46 ⟨_, _, rfl, (show ((-2) : Int32).toInt = (-2) by decide), (by omega), (by first | omega | (rw [ui_eq]; omega)), Iq0, frq0⟩
        · have pq56 : ¬ (0 ≤ a3 ∧ a3 < ((Mq.1 47 52)).toInt) := by omega
          clear hq36 cq37 tq35
          refine g_iconst X (-1) dX7_learn_29 (by decide) ?_
          exact g_iret X dX7_learn_30 ⟨_, _, rfl, (show ((-1) : Int32).toInt = (-1) by decide), (by omega), (by first | omega | (rw [ui_eq]; omega)), Iq0, frq0⟩
abbrev W_X7_forget : List (Nat × Nat) := [(47, 53), (81, 99), (82, 99), (83, 99), (84, 99)]
set_option maxHeartbeats 4000000 in
set_option maxRecDepth 4000 in
theorem c_X7_forget (ad : Nat → Nat) (Mq : Mem) (x1 : Int32) {a1 : Int} (t1 : x1.toInt = a1) (x2 : Int32) {a2 : Int} (t2 : x2.toInt = a2) (x3 : Int32) {a3 : Int} (t3 : x3.toInt = a3) (Iq0 : Iv TM Mq) : Ctr ad yX7_forget cX7_forget 4 (some .int) 1 [.ref (ad 47), .int x1, .int x2, .int x3] Mq (fun v M' => ∃ (r : Int32) (a : Int), v = some (.int r) ∧ r.toInt = a ∧ (((¬ ((0 ≤ a1 ∧ a1 < (Mq.1 47 52).toInt) ∧ (0 ≤ a2 ∧ a2 < (Mq.1 47 12).toInt))) ∧ (a = -1)) ∨ (¬ (¬ ((0 ≤ a1 ∧ a1 < (Mq.1 47 52).toInt) ∧ (0 ≤ a2 ∧ a2 < (Mq.1 47 12).toInt))) ∧ (¬ (0 ≤ a3 ∧ a3 ≤ 999)) ∧ (a = -2)) ∨ (¬ (¬ ((0 ≤ a1 ∧ a1 < (Mq.1 47 52).toInt) ∧ (0 ≤ a2 ∧ a2 < (Mq.1 47 12).toInt))) ∧ ¬ (¬ (0 ≤ a3 ∧ a3 ≤ 999)) ∧ (200 ≤ (Mq.1 47 53).toInt) ∧ (a = -4)) ∨ (¬ (¬ ((0 ≤ a1 ∧ a1 < (Mq.1 47 52).toInt) ∧ (0 ≤ a2 ∧ a2 < (Mq.1 47 12).toInt))) ∧ ¬ (¬ (0 ≤ a3 ∧ a3 ≤ 999)) ∧ ¬ (200 ≤ (Mq.1 47 53).toInt) ∧ (a = (Mq.1 47 53).toInt + 1))) ∧ ((((¬ ((0 ≤ a1 ∧ a1 < (Mq.1 47 52).toInt) ∧ (0 ≤ a2 ∧ a2 < (Mq.1 47 12).toInt))) ∨ (¬ (0 ≤ a3 ∧ a3 ≤ 999)) ∨ (200 ≤ (Mq.1 47 53).toInt)) ∧ (M'.1 47 53).toInt = (Mq.1 47 53).toInt) ∨ (¬ ((¬ ((0 ≤ a1 ∧ a1 < (Mq.1 47 52).toInt) ∧ (0 ≤ a2 ∧ a2 < (Mq.1 47 12).toInt))) ∨ (¬ (0 ≤ a3 ∧ a3 ≤ 999)) ∨ (200 ≤ (Mq.1 47 53).toInt)) ∧ (M'.1 47 53).toInt = (Mq.1 47 53).toInt + 1)) ∧ Iv TM M' ∧ Fr W_X7_forget Mq M') := by
  refine ctr_of (L := [(0, .ref (ad 47)), (1, .int x1), (2, .int x2), (3, .int x3)]) (by decide) (Nat.le_of_ble_eq_true rfl) rfl ?_
  intro Γ X
  have X : gX Γ cX7_forget RX7 4 (some .int) 1 ad _ := X
  have frq0 : Fr W_X7_forget Mq Mq := Fr.rf
  have g11 := ig_47_11 Iq0
  have g12 := ig_47_12 Iq0
  have g20 := ig_47_20 Iq0
  have g24 := ig_47_24 Iq0
  have g52 := ig_47_52 Iq0
  have g53 := ig_47_53 Iq0
  have g43 := ig_47_43 Iq0
  refine g_aload_n X 0 rfl dX7_forget_0 ?_
  refine g_iload_n X 1 rfl dX7_forget_1 ?_
  refine g_callV X m_X7_260 (c_X7_isSinger ad Mq x1 t1) rfl (by decide) (Nat.le_of_ble_eq_true rfl) rfl dX7_forget_2 ?_
  rintro _ _ ⟨rq1, aq2, rfl, tq3, hq4, rfl⟩
  show G Γ Mq 5 [(0, .ref (ad 47)), (1, .int x1), (2, .int x2), (3, .int x3)] [.int rq1]
  refine g_if_eq X tq3 (tgt := 16) dX7_forget_5 (by decide) (fun cq5 => ?_) (fun cq5 => ?_)
  · have pq6 : ¬ (0 ≤ a1 ∧ a1 < ((Mq.1 47 52)).toInt) := by omega
    clear hq4 cq5 tq3
    refine g_iconst X (-1) dX7_forget_16 (by decide) ?_
    exact g_iret X dX7_forget_17 ⟨_, _, rfl, (show ((-1) : Int32).toInt = (-1) by decide), (by omega), (by first | omega | (rw [ui_eq]; omega)), Iq0, frq0⟩
  · have pq7 : (0 ≤ a1 ∧ a1 < ((Mq.1 47 52)).toInt) := by omega
    clear hq4 cq5 tq3
    refine g_aload_n X 0 rfl dX7_forget_8 ?_
    refine g_iload_n X 2 rfl dX7_forget_9 ?_
    refine g_callV X m_X7_186 (c_X7_isLine ad Mq x2 t2) rfl (by decide) (Nat.le_of_ble_eq_true rfl) rfl dX7_forget_10 ?_
    rintro _ _ ⟨rq8, aq9, rfl, tq10, hq11, rfl⟩
    show G Γ Mq 13 [(0, .ref (ad 47)), (1, .int x1), (2, .int x2), (3, .int x3)] [.int rq8]
    refine g_if_ne X tq10 (tgt := 18) dX7_forget_13 (by decide) (fun cq12 => ?_) (fun cq12 => ?_)
    · have pq13 : (0 ≤ a2 ∧ a2 < ((Mq.1 47 12)).toInt) := by omega
      clear hq11 cq12 tq10
      refine g_iload_n X 3 rfl dX7_forget_18 ?_
      refine g_callS X m_X7_263 (c_X7_isYear ad Mq x3 t3) rfl (by decide) (Nat.le_of_ble_eq_true rfl) rfl dX7_forget_19 ?_
      rintro _ _ ⟨rq14, aq15, rfl, tq16, hq17, rfl⟩
      show G Γ Mq 22 [(0, .ref (ad 47)), (1, .int x1), (2, .int x2), (3, .int x3)] [.int rq14]
      refine g_if_ne X tq16 (tgt := 28) dX7_forget_22 (by decide) (fun cq18 => ?_) (fun cq18 => ?_)
      · have pq19 : (0 ≤ a3 ∧ a3 ≤ 999) := by omega
        clear hq17 cq18 tq16
        refine g_aload_n X 0 rfl dX7_forget_28 ?_
        refine g_iload_n X 1 rfl dX7_forget_29 ?_
        refine g_iload_n X 2 rfl dX7_forget_30 ?_
        refine g_iload_n X 3 rfl dX7_forget_31 ?_
        refine g_iconst X 0 dX7_forget_32 (by decide) ?_
        refine g_callV X m_X7_318 (c_X7_enters ad Mq x1 t1 x2 t2 x3 t3 0 (show (0 : Int32).toInt = 0 by decide) Iq0 (by omega)) rfl (by decide) (Nat.le_of_ble_eq_true rfl) rfl dX7_forget_33 ?_
        rintro _ Mq25 ⟨rq20, aq21, rfl, tq22, hq23, hq24, Iq26, frq27⟩
        have frq28 : Fr W_X7_forget Mq Mq25 := frq0.trans frq27 rfl
        show G Γ Mq25 36 [(0, .ref (ad 47)), (1, .int x1), (2, .int x2), (3, .int x3)] [.int rq20]
        exact g_iret X dX7_forget_36 ⟨_, _, rfl, tq22, (by omega), (by first | omega | (rw [ui_eq]; omega)), Iq26, frq28⟩
      · have pq29 : ¬ (0 ≤ a3 ∧ a3 ≤ 999) := by omega
        clear hq17 cq18 tq16
        refine g_bipush X (-2) dX7_forget_25 (by decide) ?_
        exact g_iret X dX7_forget_27 ⟨_, _, rfl, (show ((-2) : Int32).toInt = (-2) by decide), (by omega), (by first | omega | (rw [ui_eq]; omega)), Iq0, frq0⟩
    · have pq30 : ¬ (0 ≤ a2 ∧ a2 < ((Mq.1 47 12)).toInt) := by omega
      clear hq11 cq12 tq10
      refine g_iconst X (-1) dX7_forget_16 (by decide) ?_
      exact g_iret X dX7_forget_17 ⟨_, _, rfl, (show ((-1) : Int32).toInt = (-1) by decide), (by omega), (by first | omega | (rw [ui_eq]; omega)), Iq0, frq0⟩
abbrev W_X7_put : List (Nat × Nat) := [(47, 43), (77, 99)]
set_option maxHeartbeats 4000000 in
set_option maxRecDepth 4000 in
theorem c_X7_put (ad : Nat → Nat) (Mq : Mem) (x1 : Int32) {a1 : Int} (t1 : x1.toInt = a1) (x2 : Int32) {a2 : Int} (t2 : x2.toInt = a2) (Iq0 : Iv TM Mq) : Ctr ad yX7_put cX7_put 3 (some .int) 1 [.ref (ad 47), .int x1, .int x2] Mq (fun v M' => ∃ (r : Int32) (a : Int), v = some (.int r) ∧ r.toInt = a ∧ (((¬ (a2 = 40 ∨ (0 ≤ a2 ∧ a2 < (Mq.1 47 12).toInt))) ∧ (a = -1)) ∨ (¬ (¬ (a2 = 40 ∨ (0 ≤ a2 ∧ a2 < (Mq.1 47 12).toInt))) ∧ (a1 ≠ 0 ∧ a1 ≠ (Mq.1 47 43).toInt) ∧ (a = -2)) ∨ (¬ (¬ (a2 = 40 ∨ (0 ≤ a2 ∧ a2 < (Mq.1 47 12).toInt))) ∧ ¬ (a1 ≠ 0 ∧ a1 ≠ (Mq.1 47 43).toInt) ∧ (24 ≤ a1) ∧ (a = -4)) ∨ (¬ (¬ (a2 = 40 ∨ (0 ≤ a2 ∧ a2 < (Mq.1 47 12).toInt))) ∧ ¬ (a1 ≠ 0 ∧ a1 ≠ (Mq.1 47 43).toInt) ∧ ¬ (24 ≤ a1) ∧ (a = a1 + 1))) ∧ ((((¬ (a2 = 40 ∨ (0 ≤ a2 ∧ a2 < (Mq.1 47 12).toInt))) ∨ (a1 ≠ 0 ∧ a1 ≠ (Mq.1 47 43).toInt) ∨ (24 ≤ a1)) ∧ (M'.1 47 43).toInt = (Mq.1 47 43).toInt) ∨ (¬ ((¬ (a2 = 40 ∨ (0 ≤ a2 ∧ a2 < (Mq.1 47 12).toInt))) ∨ (a1 ≠ 0 ∧ a1 ≠ (Mq.1 47 43).toInt) ∨ (24 ≤ a1)) ∧ (M'.1 47 43).toInt = a1 + 1)) ∧ Iv TM M' ∧ Fr W_X7_put Mq M') := by
  refine ctr_of (L := [(0, .ref (ad 47)), (1, .int x1), (2, .int x2)]) (by decide) (Nat.le_of_ble_eq_true rfl) rfl ?_
  intro Γ X
  have X : gX Γ cX7_put RX7 3 (some .int) 1 ad _ := X
  have frq0 : Fr W_X7_put Mq Mq := Fr.rf
  have g11 := ig_47_11 Iq0
  have g12 := ig_47_12 Iq0
  have g20 := ig_47_20 Iq0
  have g24 := ig_47_24 Iq0
  have g52 := ig_47_52 Iq0
  have g53 := ig_47_53 Iq0
  have g43 := ig_47_43 Iq0
  refine g_aload_n X 0 rfl dX7_put_0 ?_
  refine g_iload_n X 2 rfl dX7_put_1 ?_
  refine g_callV X m_X7_186 (c_X7_isLine ad Mq x2 t2) rfl (by decide) (Nat.le_of_ble_eq_true rfl) rfl dX7_put_2 ?_
  rintro _ _ ⟨rq1, aq2, rfl, tq3, hq4, rfl⟩
  show G Γ Mq 5 [(0, .ref (ad 47)), (1, .int x1), (2, .int x2)] [.int rq1]
  refine g_if_ne X tq3 (tgt := 16) dX7_put_5 (by decide) (fun cq5 => ?_) (fun cq5 => ?_)
  · have pq6 : (0 ≤ a2 ∧ a2 < ((Mq.1 47 12)).toInt) := by omega
    clear hq4 cq5 tq3
    refine g_iload_n X 1 rfl dX7_put_16 ?_
    refine g_if_eq X t1 (tgt := 31) dX7_put_17 (by decide) (fun cq7 => ?_) (fun cq7 => ?_)
    · refine g_iload_n X 1 rfl dX7_put_31 ?_
      refine g_bipush X 24 dX7_put_32 (by decide) ?_
      refine g_icmp_ne X t1 (show (24 : Int32).toInt = 24 by decide) (tgt := 40) dX7_put_34 (by decide) (fun cq8 => ?_) (fun cq8 => ?_)
      · refine g_iload_n X 1 rfl dX7_put_40 ?_
        refine g_if_ne X t1 (tgt := 49) dX7_put_41 (by decide) (fun cq9 => ?_) (fun cq9 => ?_)
        · refine g_aload_n X 0 rfl dX7_put_49 ?_
          refine g_getr X f_X7_101 dX7_put_50 ?_
          refine g_aload_n X 0 rfl dX7_put_53 ?_
          refine g_geti X f_X7_339 dX7_put_54 (x := Mq.1 47 43) rfl ?_
          have bq10 := ig_47_43 Iq0
          refine g_iload_n X 2 rfl dX7_put_57 ?_
          refine g_iast X la_77 rfl dX7_put_58 (by omega) ?_
          have Iq11 : Iv TM (ui Mq 77 (((Mq.1 47 43).toInt).toNat) x2) := Iq0.putA 0 40 t2 (by omega) rfl
          have frq12 : Fr W_X7_put Mq (ui Mq 77 (((Mq.1 47 43).toInt).toNat) x2) := frq0.ui rfl
          refine g_aload_n X 0 rfl dX7_put_59 ?_
          refine g_dup X dX7_put_60 rfl ?_
          refine g_geti X f_X7_339 dX7_put_61 (x := Mq.1 47 43) rfl ?_
          have bq13 := ig_47_43 Iq0
          refine g_iconst X 1 dX7_put_64 (by decide) ?_
          refine g_iadd X dX7_put_65 (fun zq14 eq15 => ?_)
          have tq16 : zq14.toInt = ((Mq.1 47 43).toInt) + 1 := add_nw eq15 rfl (show (1 : Int32).toInt = 1 by decide) (by omega)
          refine g_puti X p_X7_339 dX7_put_66 ?_
          have Iq17 : Iv TM (ui (ui Mq 77 (((Mq.1 47 43).toInt).toNat) x2) 47 43 zq14) := Iq11.put 0 24 tq16 (by omega) rfl
          have frq18 : Fr W_X7_put Mq (ui (ui Mq 77 (((Mq.1 47 43).toInt).toNat) x2) 47 43 zq14) := frq12.ui rfl
          refine g_aload_n X 0 rfl dX7_put_69 ?_
          refine g_geti X f_X7_339 dX7_put_70 (x := zq14) rfl ?_
          exact g_iret X dX7_put_73 ⟨_, _, rfl, tq16, (by omega), (by first | omega | (rw [ui_eq]; omega)), Iq17, frq18⟩
        · refine g_aload_n X 0 rfl dX7_put_44 ?_
          refine g_iconst X 0 dX7_put_45 (by decide) ?_
          refine g_puti X p_X7_339 dX7_put_46 ?_
          have ltq19 : (0 : Int32).toInt = 0 := by decide
          have Iq20 : Iv TM (ui Mq 47 43 0) := Iq0.put 0 24 (show (0 : Int32).toInt = 0 by decide) (by omega) rfl
          have frq21 : Fr W_X7_put Mq (ui Mq 47 43 0) := frq0.ui rfl
          refine g_aload_n X 0 rfl dX7_put_49 ?_
          refine g_getr X f_X7_101 dX7_put_50 ?_
          refine g_aload_n X 0 rfl dX7_put_53 ?_
          refine g_geti X f_X7_339 dX7_put_54 (x := 0) rfl ?_
          refine g_iload_n X 2 rfl dX7_put_57 ?_
          refine g_iast X la_77 (show (0 : Int32).toInt = 0 by decide) dX7_put_58 (by omega) ?_
          have Iq22 : Iv TM (ui (ui Mq 47 43 0) 77 0 x2) := Iq20.putA 0 40 t2 (by omega) rfl
          have frq23 : Fr W_X7_put Mq (ui (ui Mq 47 43 0) 77 0 x2) := frq21.ui rfl
          refine g_aload_n X 0 rfl dX7_put_59 ?_
          refine g_dup X dX7_put_60 rfl ?_
          refine g_geti X f_X7_339 dX7_put_61 (x := 0) rfl ?_
          refine g_iconst X 1 dX7_put_64 (by decide) ?_
          refine g_iadd X dX7_put_65 (fun zq24 eq25 => ?_)
          have tq26 : zq24.toInt = 0 + 1 := add_nw eq25 (show (0 : Int32).toInt = 0 by decide) (show (1 : Int32).toInt = 1 by decide) (by omega)
          refine g_puti X p_X7_339 dX7_put_66 ?_
          have Iq27 : Iv TM (ui (ui (ui Mq 47 43 0) 77 0 x2) 47 43 zq24) := Iq22.put 0 24 tq26 (by omega) rfl
          have frq28 : Fr W_X7_put Mq (ui (ui (ui Mq 47 43 0) 77 0 x2) 47 43 zq24) := frq23.ui rfl
          refine g_aload_n X 0 rfl dX7_put_69 ?_
          refine g_geti X f_X7_339 dX7_put_70 (x := zq24) rfl ?_
          exact g_iret X dX7_put_73 ⟨_, _, rfl, tq26, (by omega), (by first | omega | (rw [ui_eq]; omega)), Iq27, frq28⟩
      · refine g_bipush X (-4) dX7_put_37 (by decide) ?_
        exact g_iret X dX7_put_39 ⟨_, _, rfl, (show ((-4) : Int32).toInt = (-4) by decide), (by omega), (by first | omega | (rw [ui_eq]; omega)), Iq0, frq0⟩
    · refine g_iload_n X 1 rfl dX7_put_20 ?_
      refine g_aload_n X 0 rfl dX7_put_21 ?_
      refine g_geti X f_X7_339 dX7_put_22 (x := Mq.1 47 43) rfl ?_
      have bq29 := ig_47_43 Iq0
      refine g_icmp_eq X t1 rfl (tgt := 31) dX7_put_25 (by decide) (fun cq30 => ?_) (fun cq30 => ?_)
      · refine g_iload_n X 1 rfl dX7_put_31 ?_
        refine g_bipush X 24 dX7_put_32 (by decide) ?_
        refine g_icmp_ne X t1 (show (24 : Int32).toInt = 24 by decide) (tgt := 40) dX7_put_34 (by decide) (fun cq31 => ?_) (fun cq31 => ?_)
        · refine g_iload_n X 1 rfl dX7_put_40 ?_
          refine g_if_ne X t1 (tgt := 49) dX7_put_41 (by decide) (fun cq32 => ?_) (fun cq32 => ?_)
          · refine g_aload_n X 0 rfl dX7_put_49 ?_
            refine g_getr X f_X7_101 dX7_put_50 ?_
            refine g_aload_n X 0 rfl dX7_put_53 ?_
            refine g_geti X f_X7_339 dX7_put_54 (x := Mq.1 47 43) rfl ?_
            have bq33 := ig_47_43 Iq0
            refine g_iload_n X 2 rfl dX7_put_57 ?_
            refine g_iast X la_77 rfl dX7_put_58 (by omega) ?_
            have Iq34 : Iv TM (ui Mq 77 (((Mq.1 47 43).toInt).toNat) x2) := Iq0.putA 0 40 t2 (by omega) rfl
            have frq35 : Fr W_X7_put Mq (ui Mq 77 (((Mq.1 47 43).toInt).toNat) x2) := frq0.ui rfl
            refine g_aload_n X 0 rfl dX7_put_59 ?_
            refine g_dup X dX7_put_60 rfl ?_
            refine g_geti X f_X7_339 dX7_put_61 (x := Mq.1 47 43) rfl ?_
            have bq36 := ig_47_43 Iq0
            refine g_iconst X 1 dX7_put_64 (by decide) ?_
            refine g_iadd X dX7_put_65 (fun zq37 eq38 => ?_)
            have tq39 : zq37.toInt = ((Mq.1 47 43).toInt) + 1 := add_nw eq38 rfl (show (1 : Int32).toInt = 1 by decide) (by omega)
            refine g_puti X p_X7_339 dX7_put_66 ?_
            have Iq40 : Iv TM (ui (ui Mq 77 (((Mq.1 47 43).toInt).toNat) x2) 47 43 zq37) := Iq34.put 0 24 tq39 (by omega) rfl
            have frq41 : Fr W_X7_put Mq (ui (ui Mq 77 (((Mq.1 47 43).toInt).toNat) x2) 47 43 zq37) := frq35.ui rfl
            refine g_aload_n X 0 rfl dX7_put_69 ?_
            refine g_geti X f_X7_339 dX7_put_70 (x := zq37) rfl ?_
            exact g_iret X dX7_put_73 ⟨_, _, rfl, tq39, (by omega), (by first | omega | (rw [ui_eq]; omega)), Iq40, frq41⟩
          · refine g_aload_n X 0 rfl dX7_put_44 ?_
            refine g_iconst X 0 dX7_put_45 (by decide) ?_
            refine g_puti X p_X7_339 dX7_put_46 ?_
            have ltq42 : (0 : Int32).toInt = 0 := by decide
            have Iq43 : Iv TM (ui Mq 47 43 0) := Iq0.put 0 24 (show (0 : Int32).toInt = 0 by decide) (by omega) rfl
            have frq44 : Fr W_X7_put Mq (ui Mq 47 43 0) := frq0.ui rfl
            refine g_aload_n X 0 rfl dX7_put_49 ?_
            refine g_getr X f_X7_101 dX7_put_50 ?_
            refine g_aload_n X 0 rfl dX7_put_53 ?_
            refine g_geti X f_X7_339 dX7_put_54 (x := 0) rfl ?_
            refine g_iload_n X 2 rfl dX7_put_57 ?_
            refine g_iast X la_77 (show (0 : Int32).toInt = 0 by decide) dX7_put_58 (by omega) ?_
            have Iq45 : Iv TM (ui (ui Mq 47 43 0) 77 0 x2) := Iq43.putA 0 40 t2 (by omega) rfl
            have frq46 : Fr W_X7_put Mq (ui (ui Mq 47 43 0) 77 0 x2) := frq44.ui rfl
            refine g_aload_n X 0 rfl dX7_put_59 ?_
            refine g_dup X dX7_put_60 rfl ?_
            refine g_geti X f_X7_339 dX7_put_61 (x := 0) rfl ?_
            refine g_iconst X 1 dX7_put_64 (by decide) ?_
            refine g_iadd X dX7_put_65 (fun zq47 eq48 => ?_)
            have tq49 : zq47.toInt = 0 + 1 := add_nw eq48 (show (0 : Int32).toInt = 0 by decide) (show (1 : Int32).toInt = 1 by decide) (by omega)
            refine g_puti X p_X7_339 dX7_put_66 ?_
            have Iq50 : Iv TM (ui (ui (ui Mq 47 43 0) 77 0 x2) 47 43 zq47) := Iq45.put 0 24 tq49 (by omega) rfl
            have frq51 : Fr W_X7_put Mq (ui (ui (ui Mq 47 43 0) 77 0 x2) 47 43 zq47) := frq46.ui rfl
            refine g_aload_n X 0 rfl dX7_put_69 ?_
            refine g_geti X f_X7_339 dX7_put_70 (x := zq47) rfl ?_
            exact g_iret X dX7_put_73 ⟨_, _, rfl, tq49, (by omega), (by first | omega | (rw [ui_eq]; omega)), Iq50, frq51⟩
        · refine g_bipush X (-4) dX7_put_37 (by decide) ?_
          exact g_iret X dX7_put_39 ⟨_, _, rfl, (show ((-4) : Int32).toInt = (-4) by decide), (by omega), (by first | omega | (rw [ui_eq]; omega)), Iq0, frq0⟩
      · refine g_bipush X (-2) dX7_put_28 (by decide) ?_
        exact g_iret X dX7_put_30 ⟨_, _, rfl, (show ((-2) : Int32).toInt = (-2) by decide), (by omega), (by first | omega | (rw [ui_eq]; omega)), Iq0, frq0⟩
  · have pq52 : ¬ (0 ≤ a2 ∧ a2 < ((Mq.1 47 12)).toInt) := by omega
    clear hq4 cq5 tq3
    refine g_iload_n X 2 rfl dX7_put_8 ?_
    refine g_bipush X 40 dX7_put_9 (by decide) ?_
    refine g_icmp_eq X t2 (show (40 : Int32).toInt = 40 by decide) (tgt := 16) dX7_put_11 (by decide) (fun cq53 => ?_) (fun cq53 => ?_)
    · refine g_iload_n X 1 rfl dX7_put_16 ?_
      refine g_if_eq X t1 (tgt := 31) dX7_put_17 (by decide) (fun cq54 => ?_) (fun cq54 => ?_)
      · refine g_iload_n X 1 rfl dX7_put_31 ?_
        refine g_bipush X 24 dX7_put_32 (by decide) ?_
        refine g_icmp_ne X t1 (show (24 : Int32).toInt = 24 by decide) (tgt := 40) dX7_put_34 (by decide) (fun cq55 => ?_) (fun cq55 => ?_)
        · refine g_iload_n X 1 rfl dX7_put_40 ?_
          refine g_if_ne X t1 (tgt := 49) dX7_put_41 (by decide) (fun cq56 => ?_) (fun cq56 => ?_)
          · refine g_aload_n X 0 rfl dX7_put_49 ?_
            refine g_getr X f_X7_101 dX7_put_50 ?_
            refine g_aload_n X 0 rfl dX7_put_53 ?_
            refine g_geti X f_X7_339 dX7_put_54 (x := Mq.1 47 43) rfl ?_
            have bq57 := ig_47_43 Iq0
            refine g_iload_n X 2 rfl dX7_put_57 ?_
            refine g_iast X la_77 rfl dX7_put_58 (by omega) ?_
            have Iq58 : Iv TM (ui Mq 77 (((Mq.1 47 43).toInt).toNat) x2) := Iq0.putA 0 40 t2 (by omega) rfl
            have frq59 : Fr W_X7_put Mq (ui Mq 77 (((Mq.1 47 43).toInt).toNat) x2) := frq0.ui rfl
            refine g_aload_n X 0 rfl dX7_put_59 ?_
            refine g_dup X dX7_put_60 rfl ?_
            refine g_geti X f_X7_339 dX7_put_61 (x := Mq.1 47 43) rfl ?_
            have bq60 := ig_47_43 Iq0
            refine g_iconst X 1 dX7_put_64 (by decide) ?_
            refine g_iadd X dX7_put_65 (fun zq61 eq62 => ?_)
            have tq63 : zq61.toInt = ((Mq.1 47 43).toInt) + 1 := add_nw eq62 rfl (show (1 : Int32).toInt = 1 by decide) (by omega)
            refine g_puti X p_X7_339 dX7_put_66 ?_
            have Iq64 : Iv TM (ui (ui Mq 77 (((Mq.1 47 43).toInt).toNat) x2) 47 43 zq61) := Iq58.put 0 24 tq63 (by omega) rfl
            have frq65 : Fr W_X7_put Mq (ui (ui Mq 77 (((Mq.1 47 43).toInt).toNat) x2) 47 43 zq61) := frq59.ui rfl
            refine g_aload_n X 0 rfl dX7_put_69 ?_
            refine g_geti X f_X7_339 dX7_put_70 (x := zq61) rfl ?_
            exact g_iret X dX7_put_73 ⟨_, _, rfl, tq63, (by omega), (by first | omega | (rw [ui_eq]; omega)), Iq64, frq65⟩
          · refine g_aload_n X 0 rfl dX7_put_44 ?_
            refine g_iconst X 0 dX7_put_45 (by decide) ?_
            refine g_puti X p_X7_339 dX7_put_46 ?_
            have ltq66 : (0 : Int32).toInt = 0 := by decide
            have Iq67 : Iv TM (ui Mq 47 43 0) := Iq0.put 0 24 (show (0 : Int32).toInt = 0 by decide) (by omega) rfl
            have frq68 : Fr W_X7_put Mq (ui Mq 47 43 0) := frq0.ui rfl
            refine g_aload_n X 0 rfl dX7_put_49 ?_
            refine g_getr X f_X7_101 dX7_put_50 ?_
            refine g_aload_n X 0 rfl dX7_put_53 ?_
            refine g_geti X f_X7_339 dX7_put_54 (x := 0) rfl ?_
            refine g_iload_n X 2 rfl dX7_put_57 ?_
            refine g_iast X la_77 (show (0 : Int32).toInt = 0 by decide) dX7_put_58 (by omega) ?_
            have Iq69 : Iv TM (ui (ui Mq 47 43 0) 77 0 x2) := Iq67.putA 0 40 t2 (by omega) rfl
            have frq70 : Fr W_X7_put Mq (ui (ui Mq 47 43 0) 77 0 x2) := frq68.ui rfl
            refine g_aload_n X 0 rfl dX7_put_59 ?_
            refine g_dup X dX7_put_60 rfl ?_
            refine g_geti X f_X7_339 dX7_put_61 (x := 0) rfl ?_
            refine g_iconst X 1 dX7_put_64 (by decide) ?_
            refine g_iadd X dX7_put_65 (fun zq71 eq72 => ?_)
            have tq73 : zq71.toInt = 0 + 1 := add_nw eq72 (show (0 : Int32).toInt = 0 by decide) (show (1 : Int32).toInt = 1 by decide) (by omega)
            refine g_puti X p_X7_339 dX7_put_66 ?_
            have Iq74 : Iv TM (ui (ui (ui Mq 47 43 0) 77 0 x2) 47 43 zq71) := Iq69.put 0 24 tq73 (by omega) rfl
            have frq75 : Fr W_X7_put Mq (ui (ui (ui Mq 47 43 0) 77 0 x2) 47 43 zq71) := frq70.ui rfl
            refine g_aload_n X 0 rfl dX7_put_69 ?_
            refine g_geti X f_X7_339 dX7_put_70 (x := zq71) rfl ?_
            exact g_iret X dX7_put_73 ⟨_, _, rfl, tq73, (by omega), (by first | omega | (rw [ui_eq]; omega)), Iq74, frq75⟩
        · refine g_bipush X (-4) dX7_put_37 (by decide) ?_
          exact g_iret X dX7_put_39 ⟨_, _, rfl, (show ((-4) : Int32).toInt = (-4) by decide), (by omega), (by first | omega | (rw [ui_eq]; omega)), Iq0, frq0⟩
      · refine g_iload_n X 1 rfl dX7_put_20 ?_
        refine g_aload_n X 0 rfl dX7_put_21 ?_
        refine g_geti X f_X7_339 dX7_put_22 (x := Mq.1 47 43) rfl ?_
        have bq76 := ig_47_43 Iq0
        refine g_icmp_eq X t1 rfl (tgt := 31) dX7_put_25 (by decide) (fun cq77 => ?_) (fun cq77 => ?_)
        · refine g_iload_n X 1 rfl dX7_put_31 ?_
          refine g_bipush X 24 dX7_put_32 (by decide) ?_
          refine g_icmp_ne X t1 (show (24 : Int32).toInt = 24 by decide) (tgt := 40) dX7_put_34 (by decide) (fun cq78 => ?_) (fun cq78 => ?_)
          · refine g_iload_n X 1 rfl dX7_put_40 ?_
            refine g_if_ne X t1 (tgt := 49) dX7_put_41 (by decide) (fun cq79 => ?_) (fun cq79 => ?_)
            · refine g_aload_n X 0 rfl dX7_put_49 ?_
              refine g_getr X f_X7_101 dX7_put_50 ?_
              refine g_aload_n X 0 rfl dX7_put_53 ?_
              refine g_geti X f_X7_339 dX7_put_54 (x := Mq.1 47 43) rfl ?_
              have bq80 := ig_47_43 Iq0
              refine g_iload_n X 2 rfl dX7_put_57 ?_
              refine g_iast X la_77 rfl dX7_put_58 (by omega) ?_
              have Iq81 : Iv TM (ui Mq 77 (((Mq.1 47 43).toInt).toNat) x2) := Iq0.putA 0 40 t2 (by omega) rfl
              have frq82 : Fr W_X7_put Mq (ui Mq 77 (((Mq.1 47 43).toInt).toNat) x2) := frq0.ui rfl
              refine g_aload_n X 0 rfl dX7_put_59 ?_
              refine g_dup X dX7_put_60 rfl ?_
              refine g_geti X f_X7_339 dX7_put_61 (x := Mq.1 47 43) rfl ?_
              have bq83 := ig_47_43 Iq0
              refine g_iconst X 1 dX7_put_64 (by decide) ?_
              refine g_iadd X dX7_put_65 (fun zq84 eq85 => ?_)
              have tq86 : zq84.toInt = ((Mq.1 47 43).toInt) + 1 := add_nw eq85 rfl (show (1 : Int32).toInt = 1 by decide) (by omega)
              refine g_puti X p_X7_339 dX7_put_66 ?_
              have Iq87 : Iv TM (ui (ui Mq 77 (((Mq.1 47 43).toInt).toNat) x2) 47 43 zq84) := Iq81.put 0 24 tq86 (by omega) rfl
              have frq88 : Fr W_X7_put Mq (ui (ui Mq 77 (((Mq.1 47 43).toInt).toNat) x2) 47 43 zq84) := frq82.ui rfl
              refine g_aload_n X 0 rfl dX7_put_69 ?_
              refine g_geti X f_X7_339 dX7_put_70 (x := zq84) rfl ?_
              exact g_iret X dX7_put_73 ⟨_, _, rfl, tq86, (by omega), (by first | omega | (rw [ui_eq]; omega)), Iq87, frq88⟩
            · refine g_aload_n X 0 rfl dX7_put_44 ?_
              refine g_iconst X 0 dX7_put_45 (by decide) ?_
              refine g_puti X p_X7_339 dX7_put_46 ?_
              have ltq89 : (0 : Int32).toInt = 0 := by decide
              have Iq90 : Iv TM (ui Mq 47 43 0) := Iq0.put 0 24 (show (0 : Int32).toInt = 0 by decide) (by omega) rfl
              have frq91 : Fr W_X7_put Mq (ui Mq 47 43 0) := frq0.ui rfl
              refine g_aload_n X 0 rfl dX7_put_49 ?_
              refine g_getr X f_X7_101 dX7_put_50 ?_
              refine g_aload_n X 0 rfl dX7_put_53 ?_
              refine g_geti X f_X7_339 dX7_put_54 (x := 0) rfl ?_
              refine g_iload_n X 2 rfl dX7_put_57 ?_
              refine g_iast X la_77 (show (0 : Int32).toInt = 0 by decide) dX7_put_58 (by omega) ?_
              have Iq92 : Iv TM (ui (ui Mq 47 43 0) 77 0 x2) := Iq90.putA 0 40 t2 (by omega) rfl
              have frq93 : Fr W_X7_put Mq (ui (ui Mq 47 43 0) 77 0 x2) := frq91.ui rfl
              refine g_aload_n X 0 rfl dX7_put_59 ?_
              refine g_dup X dX7_put_60 rfl ?_
              refine g_geti X f_X7_339 dX7_put_61 (x := 0) rfl ?_
              refine g_iconst X 1 dX7_put_64 (by decide) ?_
              refine g_iadd X dX7_put_65 (fun zq94 eq95 => ?_)
              have tq96 : zq94.toInt = 0 + 1 := add_nw eq95 (show (0 : Int32).toInt = 0 by decide) (show (1 : Int32).toInt = 1 by decide) (by omega)
              refine g_puti X p_X7_339 dX7_put_66 ?_
              have Iq97 : Iv TM (ui (ui (ui Mq 47 43 0) 77 0 x2) 47 43 zq94) := Iq92.put 0 24 tq96 (by omega) rfl
              have frq98 : Fr W_X7_put Mq (ui (ui (ui Mq 47 43 0) 77 0 x2) 47 43 zq94) := frq93.ui rfl
              refine g_aload_n X 0 rfl dX7_put_69 ?_
              refine g_geti X f_X7_339 dX7_put_70 (x := zq94) rfl ?_
              exact g_iret X dX7_put_73 ⟨_, _, rfl, tq96, (by omega), (by first | omega | (rw [ui_eq]; omega)), Iq97, frq98⟩
          · refine g_bipush X (-4) dX7_put_37 (by decide) ?_
            exact g_iret X dX7_put_39 ⟨_, _, rfl, (show ((-4) : Int32).toInt = (-4) by decide), (by omega), (by first | omega | (rw [ui_eq]; omega)), Iq0, frq0⟩
        · refine g_bipush X (-2) dX7_put_28 (by decide) ?_
          exact g_iret X dX7_put_30 ⟨_, _, rfl, (show ((-2) : Int32).toInt = (-2) by decide), (by omega), (by first | omega | (rw [ui_eq]; omega)), Iq0, frq0⟩
    · refine g_iconst X (-1) dX7_put_14 (by decide) ?_
      exact g_iret X dX7_put_15 ⟨_, _, rfl, (show ((-1) : Int32).toInt = (-1) by decide), (by omega), (by first | omega | (rw [ui_eq]; omega)), Iq0, frq0⟩
abbrev W_X7_feed : List (Nat × Nat) := [(47, 20), (60, 99)]
set_option maxHeartbeats 4000000 in
set_option maxRecDepth 4000 in
theorem c_X7_feed (ad : Nat → Nat) (Mq : Mem) (x1 : Int64) {a1 : Int} (t1 : x1.toInt = a1) (x2 : Int32) {a2 : Int} (t2 : x2.toInt = a2) (Iq0 : Iv TM Mq) : Ctr ad yX7_feed cX7_feed 5 (some .int) 1 [.ref (ad 47), .long x1, .int x2] Mq (fun v M' => ∃ (r : Int32) (a : Int), v = some (.int r) ∧ r.toInt = a ∧ (((¬ (1 ≤ a2 ∧ a2 ≤ 8)) ∧ (a = -2)) ∨ (¬ (¬ (1 ≤ a2 ∧ a2 ≤ 8)) ∧ (60 < (Mq.1 47 20).toInt + a2) ∧ (a = -4)) ∨ (¬ (¬ (1 ≤ a2 ∧ a2 ≤ 8)) ∧ ¬ (60 < (Mq.1 47 20).toInt + a2) ∧ (a = (Mq.1 47 20).toInt + a2))) ∧ (((1 ≤ a2 ∧ a2 ≤ 8) ∧ (Mq.1 47 20).toInt + a2 ≤ 60 ∧ (M'.1 47 20).toInt = (Mq.1 47 20).toInt + a2) ∨ (¬ ((1 ≤ a2 ∧ a2 ≤ 8) ∧ (Mq.1 47 20).toInt + a2 ≤ 60) ∧ (M'.1 47 20).toInt = (Mq.1 47 20).toInt)) ∧ Iv TM M' ∧ Fr W_X7_feed Mq M') := by
  refine ctr_of (L := [(0, .ref (ad 47)), (1, .long x1), (3, .int x2)]) (by decide) (Nat.le_of_ble_eq_true rfl) rfl ?_
  intro Γ X
  have X : gX Γ cX7_feed RX7 5 (some .int) 1 ad _ := X
  have frq0 : Fr W_X7_feed Mq Mq := Fr.rf
  have g11 := ig_47_11 Iq0
  have g12 := ig_47_12 Iq0
  have g20 := ig_47_20 Iq0
  have g24 := ig_47_24 Iq0
  have g52 := ig_47_52 Iq0
  have g53 := ig_47_53 Iq0
  have g43 := ig_47_43 Iq0
  refine g_iload_n X 2 rfl dX7_feed_0 ?_
  refine g_i2l X dX7_feed_1 (fun zq1 eq2 => ?_)
  have tq3 : zq1.toInt = a2 := i2l_nw eq2 t2
  refine g_lconst X 1 dX7_feed_2 (by decide) ?_
  refine g_ldc2 X k_X7_150 dX7_feed_3 ?_
  refine g_callS X m_X7_152 (c_X7_isIn ad Mq zq1 tq3 1 (show (1 : Int64).toInt = 1 by decide) 8 (show (8 : Int64).toInt = 8 by decide)) rfl (by decide) (Nat.le_of_ble_eq_true rfl) rfl dX7_feed_6 ?_
  rintro _ _ ⟨rq4, aq5, rfl, tq6, hq7, rfl⟩
  show G Γ Mq 9 [(0, .ref (ad 47)), (1, .long x1), (3, .int x2)] [.int rq4]
  refine g_if_ne X tq6 (tgt := 15) dX7_feed_9 (by decide) (fun cq8 => ?_) (fun cq8 => ?_)
  · have pq9 : (1 ≤ a2 ∧ a2 ≤ 8) := by omega
    clear hq7 cq8 tq6
    refine g_aload_n X 0 rfl dX7_feed_15 ?_
    refine g_geti X f_X7_199 dX7_feed_16 (x := Mq.1 47 20) rfl ?_
    have bq10 := ig_47_20 Iq0
    refine g_iload_n X 2 rfl dX7_feed_19 ?_
    refine g_iadd X dX7_feed_20 (fun zq11 eq12 => ?_)
    have tq13 : zq11.toInt = ((Mq.1 47 20).toInt) + a2 := add_nw eq12 rfl t2 (by omega)
    refine g_bipush X 60 dX7_feed_21 (by decide) ?_
    refine g_icmp_le X tq13 (show (60 : Int32).toInt = 60 by decide) (tgt := 29) dX7_feed_23 (by decide) (fun cq14 => ?_) (fun cq14 => ?_)
    · refine g_iload_n X 2 rfl dX7_feed_29 ?_
      refine g_iconst X 1 dX7_feed_30 (by decide) ?_
      refine g_isub X dX7_feed_31 (fun zq15 eq16 => ?_)
      have tq17 : zq15.toInt = a2 - 1 := sub_nw eq16 t2 (show (1 : Int32).toInt = 1 by decide) (by omega)
      refine g_istore X [(4, .int zq15), (0, .ref (ad 47)), (1, .long x1), (3, .int x2)] dX7_feed_32 (by decide) rfl ?_
      have lp34 : ∀ n : Nat, ∀ (y4_34 : Int32) (b4_34 : Int), y4_34.toInt = b4_34 → ∀ (M_34 : Mem), (-1 ≤ b4_34 ∧ b4_34 < a2) → ((M_34.1 47 20).toInt + b4_34 + 1 = (Mq.1 47 20).toInt + a2) → (Iv TM M_34) → (Fr W_X7_feed Mq M_34) → (b4_34 + 1).toNat < n → G Γ M_34 34 [(4, .int y4_34), (0, .ref (ad 47)), (1, .long x1), (3, .int x2)] [] := by
        intro n
        induction n with
        | zero => intro y4_34 b4_34 e4_34 M_34 i1 i2 I_34 fr_34 hm; exact absurd hm (Nat.not_lt_zero _)
        | succ n ih34 =>
          intro y4_34 b4_34 e4_34 M_34 i1 i2 I_34 fr_34 hm34
          refine g_iload X 0 rfl dX7_feed_34 ?_
          refine g_if_lt X e4_34 (tgt := 76) dX7_feed_36 (by decide) (fun cq18 => ?_) (fun cq18 => ?_)
          · refine g_aload_n X 1 rfl dX7_feed_76 ?_
            refine g_geti X f_X7_199 dX7_feed_77 (x := M_34.1 47 20) rfl ?_
            have bq19 := ig_47_20 I_34
            exact g_iret X dX7_feed_80 ⟨_, _, rfl, rfl, (by omega), (by first | omega | (rw [ui_eq]; omega)), I_34, fr_34⟩
          · refine g_aload_n X 1 rfl dX7_feed_39 ?_
            refine g_getr X f_X7_46 dX7_feed_40 ?_
            refine g_aload_n X 1 rfl dX7_feed_43 ?_
            refine g_geti X f_X7_199 dX7_feed_44 (x := M_34.1 47 20) rfl ?_
            have bq20 := ig_47_20 I_34
            refine g_lload_n X 2 rfl dX7_feed_47 ?_
            refine g_bipush X 8 dX7_feed_48 (by decide) ?_
            refine g_iload X 0 rfl dX7_feed_50 ?_
            refine g_imul X dX7_feed_52 (fun zq21 eq22 => ?_)
            have tq23 : zq21.toInt = 8 * b4_34 := mul_nw eq22 (show (8 : Int32).toInt = 8 by decide) e4_34 (by omega)
            refine g_lshr X dX7_feed_53 (fun zq24 eq25 => ?_)
            refine g_ldc2 X k_X7_202 dX7_feed_54 ?_
            refine g_land X dX7_feed_57 (fun zq26 eq27 => ?_)
            have hb1 := land255 eq27
            refine g_l2i X dX7_feed_58 (fun zq28 eq29 => ?_)
            have hb2 : zq28.toInt = zq26.toInt := l2i_nw eq29 rfl (by omega)
            refine g_iast X la_60 rfl dX7_feed_59 (by omega) ?_
            have Iq30 : Iv TM (ui M_34 60 (((M_34.1 47 20).toInt).toNat) zq28) := I_34.putA 0 255 rfl (by omega) rfl
            have frq31 : Fr W_X7_feed Mq (ui M_34 60 (((M_34.1 47 20).toInt).toNat) zq28) := fr_34.ui rfl
            refine g_aload_n X 1 rfl dX7_feed_60 ?_
            refine g_dup X dX7_feed_61 rfl ?_
            refine g_geti X f_X7_199 dX7_feed_62 (x := M_34.1 47 20) rfl ?_
            have bq32 := ig_47_20 I_34
            refine g_iconst X 1 dX7_feed_65 (by decide) ?_
            refine g_iadd X dX7_feed_66 (fun zq33 eq34 => ?_)
            have tq35 : zq33.toInt = ((M_34.1 47 20).toInt) + 1 := add_nw eq34 rfl (show (1 : Int32).toInt = 1 by decide) (by omega)
            refine g_puti X p_X7_199 dX7_feed_67 ?_
            have Iq36 : Iv TM (ui (ui M_34 60 (((M_34.1 47 20).toInt).toNat) zq28) 47 20 zq33) := Iq30.put 0 60 tq35 (by omega) rfl
            have frq37 : Fr W_X7_feed Mq (ui (ui M_34 60 (((M_34.1 47 20).toInt).toNat) zq28) 47 20 zq33) := frq31.ui rfl
            refine g_iinc X 0 (fun v => [(4, .int v), (0, .ref (ad 47)), (1, .long x1), (3, .int x2)]) dX7_feed_70 rfl (by decide) (fun _ => rfl) (fun zq38 eq39 => ?_)
            have tq40 : zq38.toInt = b4_34 + (-1) := add_nw eq39 e4_34 (show (Int32.ofInt (-1)).toInt = (-1) by decide) (by omega)
            refine g_goto X (tgt := 34) dX7_feed_73 (by decide) ?_
            refine g_sub [0, 1, 2, 3] rfl ?_
            exact ih34 zq38 _ tq40 (ui (ui M_34 60 (((M_34.1 47 20).toInt).toNat) zq28) 47 20 zq33) (by omega) (by rw [ui_eq]; omega) Iq36 frq37 (by omega)
      refine g_sub [0, 1, 2, 3] rfl ?_
      exact lp34 _ zq15 _ tq17 Mq (by omega) (by omega) Iq0 frq0 (Nat.lt_succ_self _)
    · refine g_bipush X (-4) dX7_feed_26 (by decide) ?_
      exact g_iret X dX7_feed_28 ⟨_, _, rfl, (show ((-4) : Int32).toInt = (-4) by decide), (by omega), (by first | omega | (rw [ui_eq]; omega)), Iq0, frq0⟩
  · have pq41 : ¬ (1 ≤ a2 ∧ a2 ≤ 8) := by omega
    clear hq7 cq8 tq6
    refine g_bipush X (-2) dX7_feed_12 (by decide) ?_
    exact g_iret X dX7_feed_14 ⟨_, _, rfl, (show ((-2) : Int32).toInt = (-2) by decide), (by omega), (by first | omega | (rw [ui_eq]; omega)), Iq0, frq0⟩
end
