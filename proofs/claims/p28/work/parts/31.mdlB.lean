section
set_option maxHeartbeats 4000000 in
set_option maxRecDepth 4000 in
theorem c_X7_longOf (ad : Nat → Nat) (Mq : Mem) (x1 : Int32) {a1 : Int} (t1 : x1.toInt = a1) (x2 : Int32) {a2 : Int} (t2 : x2.toInt = a2) (h1 : 0 ≤ a1 ∧ a1 < 40) (h2 : 0 ≤ a2 ∧ a2 ≤ 9) : Ctr ad yX7_longOf cX7_longOf 3 (some .int) 0 [.ref (ad 47), .int x1, .int x2] Mq (fun v M' => ∃ (r : Int32) (a : Int), v = some (.int r) ∧ r.toInt = a ∧ (True) ∧ Mq = M') := by
  refine ctr_of (L := [(0, .ref (ad 47)), (1, .int x1), (2, .int x2)]) (by decide) (Nat.le_of_ble_eq_true rfl) rfl ?_
  intro Γ X
  have X : gX Γ cX7_longOf RX7 3 (some .int) 0 ad _ := X
  refine g_aload_n X 0 rfl dX7_longOf_0 ?_
  refine g_getr X f_X7_7 dX7_longOf_1 ?_
  refine g_iload_n X 1 rfl dX7_longOf_4 ?_
  refine g_iald X la_48 t1 dX7_longOf_5 (by omega) (x := Mq.1 48 a1.toNat) rfl ?_
  refine g_aload_n X 0 rfl dX7_longOf_6 ?_
  refine g_getr X f_X7_16 dX7_longOf_7 ?_
  refine g_iload_n X 1 rfl dX7_longOf_10 ?_
  refine g_iald X la_50 t1 dX7_longOf_11 (by omega) (x := Mq.1 50 a1.toNat) rfl ?_
  refine g_if_ge X rfl (tgt := 19) dX7_longOf_12 (by decide) (fun cq1 => ?_) (fun cq1 => ?_)
  · refine g_aload_n X 0 rfl dX7_longOf_19 ?_
    refine g_getr X f_X7_19 dX7_longOf_20 ?_
    refine g_iload_n X 2 rfl dX7_longOf_23 ?_
    refine g_iald X la_51 t2 dX7_longOf_24 (by omega) (x := Mq.1 51 a2.toNat) rfl ?_
    refine g_iadd X dX7_longOf_25 (fun zq2 eq3 => ?_)
    exact g_iret X dX7_longOf_26 ⟨_, _, rfl, rfl, trivial, rfl⟩
  · refine g_iconst X 0 dX7_longOf_15 (by decide) ?_
    refine g_goto X (tgt := 25) dX7_longOf_16 (by decide) ?_
    refine g_iadd X dX7_longOf_25 (fun zq5 eq6 => ?_)
    exact g_iret X dX7_longOf_26 ⟨_, _, rfl, rfl, trivial, rfl⟩
set_option maxHeartbeats 4000000 in
set_option maxRecDepth 4000 in
theorem c_X7_heavyOf (ad : Nat → Nat) (Mq : Mem) (x1 : Int32) {a1 : Int} (t1 : x1.toInt = a1) (x2 : Int32) {a2 : Int} (t2 : x2.toInt = a2) (h1 : 0 ≤ a1 ∧ a1 < 40) (h2 : 0 ≤ a2 ∧ a2 ≤ 9) : Ctr ad yX7_heavyOf cX7_heavyOf 5 (some .int) 0 [.ref (ad 47), .int x1, .int x2] Mq (fun v M' => ∃ (r : Int32) (a : Int), v = some (.int r) ∧ r.toInt = a ∧ (True) ∧ Mq = M') := by
  refine ctr_of (L := [(0, .ref (ad 47)), (1, .int x1), (2, .int x2)]) (by decide) (Nat.le_of_ble_eq_true rfl) rfl ?_
  intro Γ X
  have X : gX Γ cX7_heavyOf RX7 5 (some .int) 0 ad _ := X
  refine g_aload_n X 0 rfl dX7_heavyOf_0 ?_
  refine g_getr X f_X7_16 dX7_heavyOf_1 ?_
  refine g_iload_n X 1 rfl dX7_heavyOf_4 ?_
  refine g_iald X la_50 t1 dX7_heavyOf_5 (by omega) (x := Mq.1 50 a1.toNat) rfl ?_
  refine g_istore_n X (i := 3) [(3, .int (Mq.1 50 a1.toNat)), (0, .ref (ad 47)), (1, .int x1), (2, .int x2)] dX7_heavyOf_6 rfl (by decide) rfl ?_
  refine g_iload_n X 0 rfl dX7_heavyOf_7 ?_
  refine g_if_ge X rfl (tgt := 18) dX7_heavyOf_8 (by decide) (fun cq1 => ?_) (fun cq1 => ?_)
  · refine g_aload_n X 1 rfl dX7_heavyOf_18 ?_
    refine g_getr X f_X7_13 dX7_heavyOf_19 ?_
    refine g_iload_n X 2 rfl dX7_heavyOf_22 ?_
    refine g_iald X la_49 t1 dX7_heavyOf_23 (by omega) (x := Mq.1 49 a1.toNat) rfl ?_
    refine g_iconst X 1 dX7_heavyOf_24 (by decide) ?_
    refine g_iload_n X 0 rfl dX7_heavyOf_25 ?_
    refine g_ishl X dX7_heavyOf_26 (fun zq2 eq3 => ?_)
    refine g_iconst X 1 dX7_heavyOf_27 (by decide) ?_
    refine g_isub X dX7_heavyOf_28 (fun zq5 eq6 => ?_)
    refine g_iand X dX7_heavyOf_29 (fun zq8 eq9 => ?_)
    refine g_istore X [(4, .int zq8), (3, .int (Mq.1 50 a1.toNat)), (0, .ref (ad 47)), (1, .int x1), (2, .int x2)] dX7_heavyOf_30 (by decide) rfl ?_
    refine g_iload X 0 rfl dX7_heavyOf_32 ?_
    refine g_aload_n X 2 rfl dX7_heavyOf_34 ?_
    refine g_getr X f_X7_22 dX7_heavyOf_35 ?_
    refine g_iload_n X 4 rfl dX7_heavyOf_38 ?_
    refine g_iald X la_52 t2 dX7_heavyOf_39 (by omega) (x := Mq.1 52 a2.toNat) rfl ?_
    refine g_iload_n X 1 rfl dX7_heavyOf_40 ?_
    refine g_ishl X dX7_heavyOf_41 (fun zq11 eq12 => ?_)
    refine g_ior X dX7_heavyOf_42 (fun zq14 eq15 => ?_)
    refine g_aload_n X 2 rfl dX7_heavyOf_43 ?_
    refine g_getr X f_X7_13 dX7_heavyOf_44 ?_
    refine g_iload_n X 3 rfl dX7_heavyOf_47 ?_
    refine g_iald X la_49 t1 dX7_heavyOf_48 (by omega) (x := Mq.1 49 a1.toNat) rfl ?_
    refine g_iload_n X 1 rfl dX7_heavyOf_49 ?_
    refine g_ishr X dX7_heavyOf_50 (fun zq17 eq18 => ?_)
    refine g_iload_n X 1 rfl dX7_heavyOf_51 ?_
    refine g_aload_n X 2 rfl dX7_heavyOf_52 ?_
    refine g_getr X f_X7_19 dX7_heavyOf_53 ?_
    refine g_iload_n X 4 rfl dX7_heavyOf_56 ?_
    refine g_iald X la_51 t2 dX7_heavyOf_57 (by omega) (x := Mq.1 51 a2.toNat) rfl ?_
    refine g_iadd X dX7_heavyOf_58 (fun zq20 eq21 => ?_)
    refine g_ishl X dX7_heavyOf_59 (fun zq23 eq24 => ?_)
    refine g_ior X dX7_heavyOf_60 (fun zq26 eq27 => ?_)
    exact g_iret X dX7_heavyOf_61 ⟨_, _, rfl, rfl, trivial, rfl⟩
  · refine g_aload_n X 1 rfl dX7_heavyOf_11 ?_
    refine g_getr X f_X7_13 dX7_heavyOf_12 ?_
    refine g_iload_n X 2 rfl dX7_heavyOf_15 ?_
    refine g_iald X la_49 t1 dX7_heavyOf_16 (by omega) (x := Mq.1 49 a1.toNat) rfl ?_
    exact g_iret X dX7_heavyOf_17 ⟨_, _, rfl, rfl, trivial, rfl⟩
set_option maxHeartbeats 4000000 in
set_option maxRecDepth 4000 in
theorem c_X7_heavyAll (ad : Nat → Nat) (Mq : Mem) (x1 : Int32) {a1 : Int} (t1 : x1.toInt = a1) (x2 : Int32) {a2 : Int} (t2 : x2.toInt = a2) (x3 : Int32) {a3 : Int} (t3 : x3.toInt = a3) (h1 : 0 ≤ a1 ∧ a1 < 40) (h2 : 0 ≤ a2 ∧ a2 < 40) (h3 : 0 ≤ a3 ∧ a3 ≤ 9) : Ctr ad yX7_heavyAll cX7_heavyAll 4 (some .int) 1 [.ref (ad 47), .int x1, .int x2, .int x3] Mq (fun v M' => ∃ (r : Int32) (a : Int), v = some (.int r) ∧ r.toInt = a ∧ (True) ∧ Mq = M') := by
  refine ctr_of (L := [(0, .ref (ad 47)), (1, .int x1), (2, .int x2), (3, .int x3)]) (by decide) (Nat.le_of_ble_eq_true rfl) rfl ?_
  intro Γ X
  have X : gX Γ cX7_heavyAll RX7 4 (some .int) 1 ad _ := X
  refine g_aload_n X 0 rfl dX7_heavyAll_0 ?_
  refine g_iload_n X 1 rfl dX7_heavyAll_1 ?_
  refine g_iload_n X 3 rfl dX7_heavyAll_2 ?_
  refine g_callV X m_X7_175 (c_X7_heavyOf ad Mq x1 t1 x3 t3 (by omega) (by omega)) rfl (by decide) (Nat.le_of_ble_eq_true rfl) rfl dX7_heavyAll_3 ?_
  rintro _ _ ⟨rq1, aq2, rfl, tq3, hq4, rfl⟩
  show G Γ Mq 6 [(0, .ref (ad 47)), (1, .int x1), (2, .int x2), (3, .int x3)] [.int rq1]
  refine g_aload_n X 0 rfl dX7_heavyAll_6 ?_
  refine g_iload_n X 2 rfl dX7_heavyAll_7 ?_
  refine g_iload_n X 3 rfl dX7_heavyAll_8 ?_
  refine g_callV X m_X7_175 (c_X7_heavyOf ad Mq x2 t2 x3 t3 (by omega) (by omega)) rfl (by decide) (Nat.le_of_ble_eq_true rfl) rfl dX7_heavyAll_9 ?_
  rintro _ _ ⟨rq5, aq6, rfl, tq7, hq8, rfl⟩
  show G Γ Mq 12 [(0, .ref (ad 47)), (1, .int x1), (2, .int x2), (3, .int x3)] [.int rq5, .int rq1]
  refine g_aload_n X 0 rfl dX7_heavyAll_12 ?_
  refine g_iload_n X 1 rfl dX7_heavyAll_13 ?_
  refine g_iload_n X 3 rfl dX7_heavyAll_14 ?_
  refine g_callV X m_X7_179 (c_X7_longOf ad Mq x1 t1 x3 t3 (by omega) (by omega)) rfl (by decide) (Nat.le_of_ble_eq_true rfl) rfl dX7_heavyAll_15 ?_
  rintro _ _ ⟨rq9, aq10, rfl, tq11, hq12, rfl⟩
  show G Γ Mq 18 [(0, .ref (ad 47)), (1, .int x1), (2, .int x2), (3, .int x3)] [.int rq9, .int rq5, .int rq1]
  refine g_ishl X dX7_heavyAll_18 (fun zq13 eq14 => ?_)
  refine g_ior X dX7_heavyAll_19 (fun zq16 eq17 => ?_)
  exact g_iret X dX7_heavyAll_20 ⟨_, _, rfl, rfl, trivial, rfl⟩
set_option maxHeartbeats 4000000 in
set_option maxRecDepth 4000 in
theorem c_X7_scans (ad : Nat → Nat) (Mq : Mem) (x1 : Int32) {a1 : Int} (t1 : x1.toInt = a1) (x2 : Int32) {a2 : Int} (t2 : x2.toInt = a2) (x3 : Int32) {a3 : Int} (t3 : x3.toInt = a3) (h1 : 0 ≤ a1 ∧ a1 < 40) (h2 : 0 ≤ a2 ∧ a2 < 40) (h3 : 0 ≤ a3 ∧ a3 ≤ 9) : Ctr ad yX7_scans cX7_scans 4 (some .boolean) 2 [.ref (ad 47), .int x1, .int x2, .int x3] Mq (fun v M' => ∃ (r : Int32) (a : Int), v = some (.int r) ∧ r.toInt = a ∧ (a = 0 ∨ a = 1) ∧ Mq = M') := by
  refine ctr_of (L := [(0, .ref (ad 47)), (1, .int x1), (2, .int x2), (3, .int x3)]) (by decide) (Nat.le_of_ble_eq_true rfl) rfl ?_
  intro Γ X
  have X : gX Γ cX7_scans RX7 4 (some .boolean) 2 ad _ := X
  refine g_aload_n X 0 rfl dX7_scans_0 ?_
  refine g_iload_n X 1 rfl dX7_scans_1 ?_
  refine g_iload_n X 3 rfl dX7_scans_2 ?_
  refine g_callV X m_X7_179 (c_X7_longOf ad Mq x1 t1 x3 t3 (by omega) (by omega)) rfl (by decide) (Nat.le_of_ble_eq_true rfl) rfl dX7_scans_3 ?_
  rintro _ _ ⟨rq1, aq2, rfl, tq3, hq4, rfl⟩
  show G Γ Mq 6 [(0, .ref (ad 47)), (1, .int x1), (2, .int x2), (3, .int x3)] [.int rq1]
  refine g_aload_n X 0 rfl dX7_scans_6 ?_
  refine g_getr X f_X7_40 dX7_scans_7 ?_
  refine g_iconst X 0 dX7_scans_10 (by decide) ?_
  refine g_iald X la_58 (show (0 : Int32).toInt = 0 by decide) dX7_scans_11 (by omega) (x := Mq.1 58 0) rfl ?_
  refine g_icmp_ne X tq3 rfl (tgt := 53) dX7_scans_12 (by decide) (fun cq5 => ?_) (fun cq5 => ?_)
  · refine g_iconst X 0 dX7_scans_53 (by decide) ?_
    exact g_zret X (b01 (show (0 : Int32).toInt = 0 by decide) (by omega)) dX7_scans_54 ⟨_, _, rfl, (show (0 : Int32).toInt = 0 by decide), (by omega), rfl⟩
  · refine g_aload_n X 0 rfl dX7_scans_15 ?_
    refine g_iload_n X 2 rfl dX7_scans_16 ?_
    refine g_iload_n X 3 rfl dX7_scans_17 ?_
    refine g_callV X m_X7_179 (c_X7_longOf ad Mq x2 t2 x3 t3 (by omega) (by omega)) rfl (by decide) (Nat.le_of_ble_eq_true rfl) rfl dX7_scans_18 ?_
    rintro _ _ ⟨rq6, aq7, rfl, tq8, hq9, rfl⟩
    show G Γ Mq 21 [(0, .ref (ad 47)), (1, .int x1), (2, .int x2), (3, .int x3)] [.int rq6]
    refine g_aload_n X 0 rfl dX7_scans_21 ?_
    refine g_getr X f_X7_40 dX7_scans_22 ?_
    refine g_iconst X 1 dX7_scans_25 (by decide) ?_
    refine g_iald X la_58 (show (1 : Int32).toInt = 1 by decide) dX7_scans_26 (by omega) (x := Mq.1 58 1) rfl ?_
    refine g_icmp_ne X tq8 rfl (tgt := 53) dX7_scans_27 (by decide) (fun cq10 => ?_) (fun cq10 => ?_)
    · refine g_iconst X 0 dX7_scans_53 (by decide) ?_
      exact g_zret X (b01 (show (0 : Int32).toInt = 0 by decide) (by omega)) dX7_scans_54 ⟨_, _, rfl, (show (0 : Int32).toInt = 0 by decide), (by omega), rfl⟩
    · refine g_aload_n X 0 rfl dX7_scans_30 ?_
      refine g_getr X f_X7_40 dX7_scans_31 ?_
      refine g_iconst X 2 dX7_scans_34 (by decide) ?_
      refine g_iald X la_58 (show (2 : Int32).toInt = 2 by decide) dX7_scans_35 (by omega) (x := Mq.1 58 2) rfl ?_
      refine g_aload_n X 0 rfl dX7_scans_36 ?_
      refine g_iload_n X 1 rfl dX7_scans_37 ?_
      refine g_iload_n X 2 rfl dX7_scans_38 ?_
      refine g_iload_n X 3 rfl dX7_scans_39 ?_
      refine g_callV X m_X7_182 (c_X7_heavyAll ad Mq x1 t1 x2 t2 x3 t3 (by omega) (by omega) (by omega)) rfl (by decide) (Nat.le_of_ble_eq_true rfl) rfl dX7_scans_40 ?_
      rintro _ _ ⟨rq11, aq12, rfl, tq13, hq14, rfl⟩
      show G Γ Mq 43 [(0, .ref (ad 47)), (1, .int x1), (2, .int x2), (3, .int x3)] [.int rq11, .int (Mq.1 58 2)]
      refine g_iconst X (-1) dX7_scans_43 (by decide) ?_
      refine g_ixor X dX7_scans_44 (fun zq15 eq16 => ?_)
      refine g_iand X dX7_scans_45 (fun zq18 eq19 => ?_)
      refine g_if_ne X rfl (tgt := 53) dX7_scans_46 (by decide) (fun cq21 => ?_) (fun cq21 => ?_)
      · refine g_iconst X 0 dX7_scans_53 (by decide) ?_
        exact g_zret X (b01 (show (0 : Int32).toInt = 0 by decide) (by omega)) dX7_scans_54 ⟨_, _, rfl, (show (0 : Int32).toInt = 0 by decide), (by omega), rfl⟩
      · refine g_iconst X 1 dX7_scans_49 (by decide) ?_
        refine g_goto X (tgt := 54) dX7_scans_50 (by decide) ?_
        exact g_zret X (b01 (show (1 : Int32).toInt = 1 by decide) (by omega)) dX7_scans_54 ⟨_, _, rfl, (show (1 : Int32).toInt = 1 by decide), (by omega), rfl⟩
set_option maxHeartbeats 4000000 in
set_option maxRecDepth 4000 in
theorem c_X7_told (ad : Nat → Nat) (Mq : Mem) (x1 : Int32) {a1 : Int} (t1 : x1.toInt = a1) (x2 : Int32) {a2 : Int} (t2 : x2.toInt = a2) (Iq0 : Iv TM Mq) : Ctr ad yX7_told cX7_told 3 (some .int) 3 [.ref (ad 47), .int x1, .int x2] Mq (fun v M' => ∃ (r : Int32) (a : Int), v = some (.int r) ∧ r.toInt = a ∧ (True) ∧ Mq = M') := by
  refine ctr_of (L := [(0, .ref (ad 47)), (1, .int x1), (2, .int x2)]) (by decide) (Nat.le_of_ble_eq_true rfl) rfl ?_
  intro Γ X
  have X : gX Γ cX7_told RX7 3 (some .int) 3 ad _ := X
  have g11 := ig_47_11 Iq0
  have g12 := ig_47_12 Iq0
  have g14 := ig_47_14 Iq0
  have g32 := ig_47_32 Iq0
  have g43 := ig_47_43 Iq0
  have g44 := ig_47_44 Iq0
  have g52 := ig_47_52 Iq0
  have g53 := ig_47_53 Iq0
  have g59 := ig_47_59 Iq0
  refine g_aload_n X 0 rfl dX7_told_0 ?_
  refine g_iload_n X 1 rfl dX7_told_1 ?_
  refine g_callV X m_X7_186 (c_X7_isLine ad Mq x1 t1) rfl (by decide) (Nat.le_of_ble_eq_true rfl) rfl dX7_told_2 ?_
  rintro _ _ ⟨rq1, aq2, rfl, tq3, hq4, rfl⟩
  show G Γ Mq 5 [(0, .ref (ad 47)), (1, .int x1), (2, .int x2)] [.int rq1]
  refine g_if_ne X tq3 (tgt := 10) dX7_told_5 (by decide) (fun cq5 => ?_) (fun cq5 => ?_)
  · have pq6 : (0 ≤ a1 ∧ a1 < ((Mq.1 47 12)).toInt) := by omega
    clear hq4 cq5 tq3
    refine g_iload_n X 2 rfl dX7_told_10 ?_
    rcases (show (a2 < 0 ∨ 7 < a2) ∨ a2 = 0 ∨ a2 = 1 ∨ a2 = 2 ∨ a2 = 3 ∨ a2 = 4 ∨ a2 = 5 ∨ a2 = 6 ∨ a2 = 7 by omega) with cq7 | cq7 | cq7 | cq7 | cq7 | cq7 | cq7 | cq7 | cq7
    · refine g_tabOut X dX7_told_11 t2 cq7 (tgt := 179) (by decide) ?_
      refine g_iconst X (-1) dX7_told_179 (by decide) ?_
      exact g_iret X dX7_told_180 ⟨_, _, rfl, (show ((-1) : Int32).toInt = (-1) by decide), trivial, rfl⟩
    · refine g_tabIn X dX7_told_11 (a := 0) (t2.trans cq7) (by decide) (by decide) rfl (tgt := 56) (by decide) ?_
      refine g_aload_n X 0 rfl dX7_told_56 ?_
      refine g_getr X f_X7_25 dX7_told_57 ?_
      refine g_iload_n X 1 rfl dX7_told_60 ?_
      refine g_iald X la_53 t1 dX7_told_61 (by omega) (x := Mq.1 53 a1.toNat) rfl ?_
      have bq8 := ig_53 Iq0 a1.toNat (by omega)
      exact g_iret X dX7_told_62 ⟨_, _, rfl, rfl, trivial, rfl⟩
    · refine g_tabIn X dX7_told_11 (a := 1) (t2.trans cq7) (by decide) (by decide) rfl (tgt := 63) (by decide) ?_
      refine g_aload_n X 0 rfl dX7_told_63 ?_
      refine g_getr X f_X7_28 dX7_told_64 ?_
      refine g_iload_n X 1 rfl dX7_told_67 ?_
      refine g_iald X la_54 t1 dX7_told_68 (by omega) (x := Mq.1 54 a1.toNat) rfl ?_
      have bq9 := ig_54 Iq0 a1.toNat (by omega)
      exact g_iret X dX7_told_69 ⟨_, _, rfl, rfl, trivial, rfl⟩
    · refine g_tabIn X dX7_told_11 (a := 2) (t2.trans cq7) (by decide) (by decide) rfl (tgt := 70) (by decide) ?_
      refine g_aload_n X 0 rfl dX7_told_70 ?_
      refine g_getr X f_X7_31 dX7_told_71 ?_
      refine g_iload_n X 1 rfl dX7_told_74 ?_
      refine g_iald X la_55 t1 dX7_told_75 (by omega) (x := Mq.1 55 a1.toNat) rfl ?_
      exact g_iret X dX7_told_76 ⟨_, _, rfl, rfl, trivial, rfl⟩
    · refine g_tabIn X dX7_told_11 (a := 3) (t2.trans cq7) (by decide) (by decide) rfl (tgt := 77) (by decide) ?_
      refine g_aload_n X 0 rfl dX7_told_77 ?_
      refine g_getr X f_X7_34 dX7_told_78 ?_
      refine g_iload_n X 1 rfl dX7_told_81 ?_
      refine g_iald X la_56 t1 dX7_told_82 (by omega) (x := Mq.1 56 a1.toNat) rfl ?_
      have bq10 := ig_56 Iq0 a1.toNat (by omega)
      exact g_iret X dX7_told_83 ⟨_, _, rfl, rfl, trivial, rfl⟩
    · refine g_tabIn X dX7_told_11 (a := 4) (t2.trans cq7) (by decide) (by decide) rfl (tgt := 84) (by decide) ?_
      refine g_aload_n X 0 rfl dX7_told_84 ?_
      refine g_getr X f_X7_37 dX7_told_85 ?_
      refine g_iload_n X 1 rfl dX7_told_88 ?_
      refine g_iald X la_57 t1 dX7_told_89 (by omega) (x := Mq.1 57 a1.toNat) rfl ?_
      exact g_iret X dX7_told_90 ⟨_, _, rfl, rfl, trivial, rfl⟩
    · refine g_tabIn X dX7_told_11 (a := 5) (t2.trans cq7) (by decide) (by decide) rfl (tgt := 91) (by decide) ?_
      refine g_aload_n X 0 rfl dX7_told_91 ?_
      refine g_aload_n X 0 rfl dX7_told_92 ?_
      refine g_getr X f_X7_25 dX7_told_93 ?_
      refine g_iload_n X 1 rfl dX7_told_96 ?_
      refine g_iald X la_53 t1 dX7_told_97 (by omega) (x := Mq.1 53 a1.toNat) rfl ?_
      have bq11 := ig_53 Iq0 a1.toNat (by omega)
      refine g_aload_n X 0 rfl dX7_told_98 ?_
      refine g_getr X f_X7_28 dX7_told_99 ?_
      refine g_iload_n X 1 rfl dX7_told_102 ?_
      refine g_iald X la_54 t1 dX7_told_103 (by omega) (x := Mq.1 54 a1.toNat) rfl ?_
      have bq12 := ig_54 Iq0 a1.toNat (by omega)
      refine g_aload_n X 0 rfl dX7_told_104 ?_
      refine g_getr X f_X7_34 dX7_told_105 ?_
      refine g_iload_n X 1 rfl dX7_told_108 ?_
      refine g_iald X la_56 t1 dX7_told_109 (by omega) (x := Mq.1 56 a1.toNat) rfl ?_
      have bq13 := ig_56 Iq0 a1.toNat (by omega)
      refine g_callV X m_X7_189 (c_X7_scans ad Mq (Mq.1 53 a1.toNat) rfl (Mq.1 54 a1.toNat) rfl (Mq.1 56 a1.toNat) rfl (by omega) (by omega) (by omega)) rfl (by decide) (Nat.le_of_ble_eq_true rfl) rfl dX7_told_110 ?_
      rintro _ _ ⟨rq14, aq15, rfl, tq16, hq17, rfl⟩
      show G Γ Mq 113 [(0, .ref (ad 47)), (1, .int x1), (2, .int x2)] [.int rq14]
      refine g_if_eq X tq16 (tgt := 120) dX7_told_113 (by decide) (fun cq18 => ?_) (fun cq18 => ?_)
      · refine g_iconst X 0 dX7_told_120 (by decide) ?_
        exact g_iret X dX7_told_121 ⟨_, _, rfl, (show (0 : Int32).toInt = 0 by decide), trivial, rfl⟩
      · refine g_iconst X 1 dX7_told_116 (by decide) ?_
        refine g_goto X (tgt := 121) dX7_told_117 (by decide) ?_
        exact g_iret X dX7_told_121 ⟨_, _, rfl, (show (1 : Int32).toInt = 1 by decide), trivial, rfl⟩
    · refine g_tabIn X dX7_told_11 (a := 6) (t2.trans cq7) (by decide) (by decide) rfl (tgt := 122) (by decide) ?_
      refine g_aload_n X 0 rfl dX7_told_122 ?_
      refine g_aload_n X 0 rfl dX7_told_123 ?_
      refine g_getr X f_X7_25 dX7_told_124 ?_
      refine g_iload_n X 1 rfl dX7_told_127 ?_
      refine g_iald X la_53 t1 dX7_told_128 (by omega) (x := Mq.1 53 a1.toNat) rfl ?_
      have bq19 := ig_53 Iq0 a1.toNat (by omega)
      refine g_aload_n X 0 rfl dX7_told_129 ?_
      refine g_getr X f_X7_34 dX7_told_130 ?_
      refine g_iload_n X 1 rfl dX7_told_133 ?_
      refine g_iald X la_56 t1 dX7_told_134 (by omega) (x := Mq.1 56 a1.toNat) rfl ?_
      have bq20 := ig_56 Iq0 a1.toNat (by omega)
      refine g_callV X m_X7_179 (c_X7_longOf ad Mq (Mq.1 53 a1.toNat) rfl (Mq.1 56 a1.toNat) rfl (by omega) (by omega)) rfl (by decide) (Nat.le_of_ble_eq_true rfl) rfl dX7_told_135 ?_
      rintro _ _ ⟨rq21, aq22, rfl, tq23, hq24, rfl⟩
      show G Γ Mq 138 [(0, .ref (ad 47)), (1, .int x1), (2, .int x2)] [.int rq21]
      refine g_aload_n X 0 rfl dX7_told_138 ?_
      refine g_aload_n X 0 rfl dX7_told_139 ?_
      refine g_getr X f_X7_28 dX7_told_140 ?_
      refine g_iload_n X 1 rfl dX7_told_143 ?_
      refine g_iald X la_54 t1 dX7_told_144 (by omega) (x := Mq.1 54 a1.toNat) rfl ?_
      have bq25 := ig_54 Iq0 a1.toNat (by omega)
      refine g_aload_n X 0 rfl dX7_told_145 ?_
      refine g_getr X f_X7_34 dX7_told_146 ?_
      refine g_iload_n X 1 rfl dX7_told_149 ?_
      refine g_iald X la_56 t1 dX7_told_150 (by omega) (x := Mq.1 56 a1.toNat) rfl ?_
      have bq26 := ig_56 Iq0 a1.toNat (by omega)
      refine g_callV X m_X7_179 (c_X7_longOf ad Mq (Mq.1 54 a1.toNat) rfl (Mq.1 56 a1.toNat) rfl (by omega) (by omega)) rfl (by decide) (Nat.le_of_ble_eq_true rfl) rfl dX7_told_151 ?_
      rintro _ _ ⟨rq27, aq28, rfl, tq29, hq30, rfl⟩
      show G Γ Mq 154 [(0, .ref (ad 47)), (1, .int x1), (2, .int x2)] [.int rq27, .int rq21]
      refine g_iadd X dX7_told_154 (fun zq31 eq32 => ?_)
      exact g_iret X dX7_told_155 ⟨_, _, rfl, rfl, trivial, rfl⟩
    · refine g_tabIn X dX7_told_11 (a := 7) (t2.trans cq7) (by decide) (by decide) rfl (tgt := 156) (by decide) ?_
      refine g_aload_n X 0 rfl dX7_told_156 ?_
      refine g_aload_n X 0 rfl dX7_told_157 ?_
      refine g_getr X f_X7_25 dX7_told_158 ?_
      refine g_iload_n X 1 rfl dX7_told_161 ?_
      refine g_iald X la_53 t1 dX7_told_162 (by omega) (x := Mq.1 53 a1.toNat) rfl ?_
      have bq34 := ig_53 Iq0 a1.toNat (by omega)
      refine g_aload_n X 0 rfl dX7_told_163 ?_
      refine g_getr X f_X7_28 dX7_told_164 ?_
      refine g_iload_n X 1 rfl dX7_told_167 ?_
      refine g_iald X la_54 t1 dX7_told_168 (by omega) (x := Mq.1 54 a1.toNat) rfl ?_
      have bq35 := ig_54 Iq0 a1.toNat (by omega)
      refine g_aload_n X 0 rfl dX7_told_169 ?_
      refine g_getr X f_X7_34 dX7_told_170 ?_
      refine g_iload_n X 1 rfl dX7_told_173 ?_
      refine g_iald X la_56 t1 dX7_told_174 (by omega) (x := Mq.1 56 a1.toNat) rfl ?_
      have bq36 := ig_56 Iq0 a1.toNat (by omega)
      refine g_callV X m_X7_182 (c_X7_heavyAll ad Mq (Mq.1 53 a1.toNat) rfl (Mq.1 54 a1.toNat) rfl (Mq.1 56 a1.toNat) rfl (by omega) (by omega) (by omega)) rfl (by decide) (Nat.le_of_ble_eq_true rfl) rfl dX7_told_175 ?_
      rintro _ _ ⟨rq37, aq38, rfl, tq39, hq40, rfl⟩
      show G Γ Mq 178 [(0, .ref (ad 47)), (1, .int x1), (2, .int x2)] [.int rq37]
      exact g_iret X dX7_told_178 ⟨_, _, rfl, tq39, trivial, rfl⟩
  · have pq41 : ¬ (0 ≤ a1 ∧ a1 < ((Mq.1 47 12)).toInt) := by omega
    clear hq4 cq5 tq3
    refine g_iconst X (-1) dX7_told_8 (by decide) ?_
    exact g_iret X dX7_told_9 ⟨_, _, rfl, (show ((-1) : Int32).toInt = (-1) by decide), trivial, rfl⟩
abbrev W_X7_mends : List (Nat × Nat) := [(53, 99), (54, 99)]
set_option maxHeartbeats 4000000 in
set_option maxRecDepth 4000 in
theorem c_X7_mends (ad : Nat → Nat) (Mq : Mem) (x1 : Int32) {a1 : Int} (t1 : x1.toInt = a1) (Iq0 : Iv TM Mq) (h1 : 0 ≤ a1 ∧ a1 < 40) : Ctr ad yX7_mends cX7_mends 8 (some .boolean) 3 [.ref (ad 47), .int x1] Mq (fun v M' => ∃ (r : Int32) (a : Int), v = some (.int r) ∧ r.toInt = a ∧ (a = 0 ∨ a = 1) ∧ Iv TM M' ∧ Fr W_X7_mends Mq M') := by
  refine ctr_of (L := [(0, .ref (ad 47)), (1, .int x1)]) (by decide) (Nat.le_of_ble_eq_true rfl) rfl ?_
  intro Γ X
  have X : gX Γ cX7_mends RX7 8 (some .boolean) 3 ad _ := X
  have frq0 : Fr W_X7_mends Mq Mq := Fr.rf
  have g11 := ig_47_11 Iq0
  have g12 := ig_47_12 Iq0
  have g14 := ig_47_14 Iq0
  have g32 := ig_47_32 Iq0
  have g43 := ig_47_43 Iq0
  have g44 := ig_47_44 Iq0
  have g52 := ig_47_52 Iq0
  have g53 := ig_47_53 Iq0
  have g59 := ig_47_59 Iq0
  refine g_iconst X 3 dX7_mends_0 (by decide) ?_
  refine g_istore_n X (i := 2) [(2, .int 3), (0, .ref (ad 47)), (1, .int x1)] dX7_mends_1 rfl (by decide) rfl ?_
  refine g_iconst X 0 dX7_mends_2 (by decide) ?_
  refine g_istore_n X (i := 3) [(3, .int 0), (2, .int 3), (0, .ref (ad 47)), (1, .int x1)] dX7_mends_3 rfl (by decide) rfl ?_
  refine g_iconst X 0 dX7_mends_4 (by decide) ?_
  refine g_istore X [(4, .int 0), (3, .int 0), (2, .int 3), (0, .ref (ad 47)), (1, .int x1)] dX7_mends_5 (by decide) rfl ?_
  refine g_iconst X 0 dX7_mends_7 (by decide) ?_
  refine g_istore X [(5, .int 0), (4, .int 0), (3, .int 0), (2, .int 3), (0, .ref (ad 47)), (1, .int x1)] dX7_mends_8 (by decide) rfl ?_
  have lp10 : ∀ n : Nat, ∀ (y5_10 : Int32) (b5_10 : Int), y5_10.toInt = b5_10 → ∀ (y4_10 : Int32) (b4_10 : Int), y4_10.toInt = b4_10 → ∀ (y3_10 : Int32) (b3_10 : Int), y3_10.toInt = b3_10 → ∀ (y2_10 : Int32) (b2_10 : Int), y2_10.toInt = b2_10 → (0 ≤ b5_10) → (0 ≤ b3_10 ∧ b3_10 < 40 ∧ 0 ≤ b4_10 ∧ b4_10 < 40) → ((Mq.1 47 11).toInt - b5_10).toNat < n → G Γ Mq 10 [(5, .int y5_10), (4, .int y4_10), (3, .int y3_10), (2, .int y2_10), (0, .ref (ad 47)), (1, .int x1)] [] := by
    intro n
    induction n with
    | zero => intro y5_10 b5_10 e5_10 y4_10 b4_10 e4_10 y3_10 b3_10 e3_10 y2_10 b2_10 e2_10 i1 i2 hm; exact absurd hm (Nat.not_lt_zero _)
    | succ n ih10 =>
      intro y5_10 b5_10 e5_10 y4_10 b4_10 e4_10 y3_10 b3_10 e3_10 y2_10 b2_10 e2_10 i1 i2 hm10
      refine g_iload X 0 rfl dX7_mends_10 ?_
      refine g_aload_n X 4 rfl dX7_mends_12 ?_
      refine g_geti X f_X7_144 dX7_mends_13 (x := Mq.1 47 11) rfl ?_
      have bq1 := ig_47_11 Iq0
      refine g_icmp_ge X e5_10 rfl (tgt := 114) dX7_mends_16 (by decide) (fun cq2 => ?_) (fun cq2 => ?_)
      · refine g_iload_n X 3 rfl dX7_mends_114 ?_
        refine g_iconst X 3 dX7_mends_115 (by decide) ?_
        refine g_icmp_ne X e2_10 (show (3 : Int32).toInt = 3 by decide) (tgt := 121) dX7_mends_116 (by decide) (fun cq3 => ?_) (fun cq3 => ?_)
        · refine g_aload_n X 4 rfl dX7_mends_121 ?_
          refine g_getr X f_X7_25 dX7_mends_122 ?_
          refine g_iload_n X 5 rfl dX7_mends_125 ?_
          refine g_iload_n X 2 rfl dX7_mends_126 ?_
          refine g_iast X la_53 t1 dX7_mends_127 (by omega) ?_
          have Iq4 : Iv TM (ui Mq 53 a1.toNat y3_10) := Iq0.putA 0 39 e3_10 (by omega) rfl
          have frq5 : Fr W_X7_mends Mq (ui Mq 53 a1.toNat y3_10) := frq0.ui rfl
          refine g_aload_n X 4 rfl dX7_mends_128 ?_
          refine g_getr X f_X7_28 dX7_mends_129 ?_
          refine g_iload_n X 5 rfl dX7_mends_132 ?_
          refine g_iload X 1 rfl dX7_mends_133 ?_
          refine g_iast X la_54 t1 dX7_mends_135 (by omega) ?_
          have Iq6 : Iv TM (ui (ui Mq 53 a1.toNat y3_10) 54 a1.toNat y4_10) := Iq4.putA 0 39 e4_10 (by omega) rfl
          have frq7 : Fr W_X7_mends Mq (ui (ui Mq 53 a1.toNat y3_10) 54 a1.toNat y4_10) := frq5.ui rfl
          refine g_iconst X 1 dX7_mends_136 (by decide) ?_
          exact g_zret X (b01 (show (1 : Int32).toInt = 1 by decide) (by omega)) dX7_mends_137 ⟨_, _, rfl, (show (1 : Int32).toInt = 1 by decide), (by omega), Iq6, frq7⟩
        · refine g_iconst X 0 dX7_mends_119 (by decide) ?_
          exact g_zret X (b01 (show (0 : Int32).toInt = 0 by decide) (by omega)) dX7_mends_120 ⟨_, _, rfl, (show (0 : Int32).toInt = 0 by decide), (by omega), Iq0, frq0⟩
      · refine g_iconst X 0 dX7_mends_19 (by decide) ?_
        refine g_istore X [(6, .int 0), (5, .int y5_10), (4, .int y4_10), (3, .int y3_10), (2, .int y2_10), (0, .ref (ad 47)), (1, .int x1)] dX7_mends_20 (by decide) rfl ?_
        have lp22 : ∀ n : Nat, ∀ (y6_22 : Int32) (b6_22 : Int), y6_22.toInt = b6_22 → ∀ (y4_22 : Int32) (b4_22 : Int), y4_22.toInt = b4_22 → ∀ (y3_22 : Int32) (b3_22 : Int), y3_22.toInt = b3_22 → ∀ (y2_22 : Int32) (b2_22 : Int), y2_22.toInt = b2_22 → (0 ≤ b6_22) → (0 ≤ b3_22 ∧ b3_22 < 40 ∧ 0 ≤ b4_22 ∧ b4_22 < 40) → ((Mq.1 47 11).toInt - b6_22).toNat < n → G Γ Mq 22 [(6, .int y6_22), (5, .int y5_10), (4, .int y4_22), (3, .int y3_22), (2, .int y2_22), (0, .ref (ad 47)), (1, .int x1)] [] := by
          intro n
          induction n with
          | zero => intro y6_22 b6_22 e6_22 y4_22 b4_22 e4_22 y3_22 b3_22 e3_22 y2_22 b2_22 e2_22 j1 j2 hm; exact absurd hm (Nat.not_lt_zero _)
          | succ n ih22 =>
            intro y6_22 b6_22 e6_22 y4_22 b4_22 e4_22 y3_22 b3_22 e3_22 y2_22 b2_22 e2_22 j1 j2 hm22
            refine g_iload X 0 rfl dX7_mends_22 ?_
            refine g_aload_n X 5 rfl dX7_mends_24 ?_
            refine g_geti X f_X7_144 dX7_mends_25 (x := Mq.1 47 11) rfl ?_
            have bq8 := ig_47_11 Iq0
            refine g_icmp_ge X e6_22 rfl (tgt := 108) dX7_mends_28 (by decide) (fun cq9 => ?_) (fun cq9 => ?_)
            · refine g_iinc X 1 (fun v => [(5, .int v), (6, .int y6_22), (4, .int y4_22), (3, .int y3_22), (2, .int y2_22), (0, .ref (ad 47)), (1, .int x1)]) dX7_mends_108 rfl (by decide) (fun _ => rfl) (fun zq10 eq11 => ?_)
              have tq12 : zq10.toInt = b5_10 + 1 := add_nw eq11 e5_10 (show (Int32.ofInt 1).toInt = 1 by decide) (by omega)
              refine g_goto X (tgt := 10) dX7_mends_111 (by decide) ?_
              refine g_sub [0, 2, 3, 4, 5, 6] rfl ?_
              exact ih10 zq10 _ tq12 y4_22 _ e4_22 y3_22 _ e3_22 y2_22 _ e2_22 (by omega) (by omega) (by omega)
            · refine g_iload X 1 rfl dX7_mends_31 ?_
              refine g_aload_n X 5 rfl dX7_mends_33 ?_
              refine g_getr X f_X7_25 dX7_mends_34 ?_
              refine g_iload_n X 6 rfl dX7_mends_37 ?_
              refine g_iald X la_53 t1 dX7_mends_38 (by omega) (x := Mq.1 53 a1.toNat) rfl ?_
              have bq13 := ig_53 Iq0 a1.toNat (by omega)
              refine g_icmp_ne X e5_10 rfl (tgt := 46) dX7_mends_39 (by decide) (fun cq14 => ?_) (fun cq14 => ?_)
              · refine g_iconst X 1 dX7_mends_46 (by decide) ?_
                refine g_iload X 0 rfl dX7_mends_47 ?_
                refine g_aload_n X 5 rfl dX7_mends_49 ?_
                refine g_getr X f_X7_28 dX7_mends_50 ?_
                refine g_iload_n X 6 rfl dX7_mends_53 ?_
                refine g_iald X la_54 t1 dX7_mends_54 (by omega) (x := Mq.1 54 a1.toNat) rfl ?_
                have bq15 := ig_54 Iq0 a1.toNat (by omega)
                refine g_icmp_ne X e6_22 rfl (tgt := 62) dX7_mends_55 (by decide) (fun cq16 => ?_) (fun cq16 => ?_)
                · refine g_iconst X 1 dX7_mends_62 (by decide) ?_
                  refine g_iadd X dX7_mends_63 (fun zq17 eq18 => ?_)
                  have tq19 : zq17.toInt = 1 + 1 := add_nw eq18 (show (1 : Int32).toInt = 1 by decide) (show (1 : Int32).toInt = 1 by decide) (by omega)
                  refine g_istore X [(7, .int zq17), (6, .int y6_22), (5, .int y5_10), (4, .int y4_22), (3, .int y3_22), (2, .int y2_22), (0, .ref (ad 47)), (1, .int x1)] dX7_mends_64 (by decide) rfl ?_
                  refine g_iload X 0 rfl dX7_mends_66 ?_
                  refine g_iload_n X 5 rfl dX7_mends_68 ?_
                  refine g_icmp_ge X tq19 e2_22 (tgt := 102) dX7_mends_69 (by decide) (fun cq20 => ?_) (fun cq20 => ?_)
                  · refine g_iinc X 1 (fun v => [(6, .int v), (7, .int zq17), (5, .int y5_10), (4, .int y4_22), (3, .int y3_22), (2, .int y2_22), (0, .ref (ad 47)), (1, .int x1)]) dX7_mends_102 rfl (by decide) (fun _ => rfl) (fun zq21 eq22 => ?_)
                    have tq23 : zq21.toInt = b6_22 + 1 := add_nw eq22 e6_22 (show (Int32.ofInt 1).toInt = 1 by decide) (by omega)
                    refine g_goto X (tgt := 22) dX7_mends_105 (by decide) ?_
                    refine g_sub [0, 2, 3, 4, 5, 6, 7] rfl ?_
                    exact ih22 zq21 _ tq23 y4_22 _ e4_22 y3_22 _ e3_22 y2_22 _ e2_22 (by omega) (by omega) (by omega)
                  · refine g_aload_n X 6 rfl dX7_mends_72 ?_
                    refine g_iload X 2 rfl dX7_mends_73 ?_
                    refine g_iload X 1 rfl dX7_mends_75 ?_
                    refine g_aload_n X 6 rfl dX7_mends_77 ?_
                    refine g_getr X f_X7_34 dX7_mends_78 ?_
                    refine g_iload_n X 7 rfl dX7_mends_81 ?_
                    refine g_iald X la_56 t1 dX7_mends_82 (by omega) (x := Mq.1 56 a1.toNat) rfl ?_
                    have bq24 := ig_56 Iq0 a1.toNat (by omega)
                    refine g_callV X m_X7_189 (c_X7_scans ad Mq y5_10 e5_10 y6_22 e6_22 (Mq.1 56 a1.toNat) rfl (by omega) (by omega) (by omega)) rfl (by decide) (Nat.le_of_ble_eq_true rfl) rfl dX7_mends_83 ?_
                    rintro _ _ ⟨rq25, aq26, rfl, tq27, hq28, rfl⟩
                    show G Γ Mq 86 [(7, .int zq17), (6, .int y6_22), (5, .int y5_10), (4, .int y4_22), (3, .int y3_22), (2, .int y2_22), (0, .ref (ad 47)), (1, .int x1)] [.int rq25]
                    refine g_if_ne X tq27 (tgt := 92) dX7_mends_86 (by decide) (fun cq29 => ?_) (fun cq29 => ?_)
                    · refine g_iload X 0 rfl dX7_mends_92 ?_
                      refine g_istore_n X (i := 2) [(2, .int zq17), (7, .int zq17), (6, .int y6_22), (5, .int y5_10), (4, .int y4_22), (3, .int y3_22), (0, .ref (ad 47)), (1, .int x1)] dX7_mends_94 rfl (by decide) rfl ?_
                      refine g_iload X 3 rfl dX7_mends_95 ?_
                      refine g_istore_n X (i := 3) [(3, .int y5_10), (2, .int zq17), (7, .int zq17), (6, .int y6_22), (5, .int y5_10), (4, .int y4_22), (0, .ref (ad 47)), (1, .int x1)] dX7_mends_97 rfl (by decide) rfl ?_
                      refine g_iload X 3 rfl dX7_mends_98 ?_
                      refine g_istore X [(4, .int y6_22), (3, .int y5_10), (2, .int zq17), (7, .int zq17), (6, .int y6_22), (5, .int y5_10), (0, .ref (ad 47)), (1, .int x1)] dX7_mends_100 (by decide) rfl ?_
                      refine g_iinc X 4 (fun v => [(6, .int v), (4, .int y6_22), (3, .int y5_10), (2, .int zq17), (7, .int zq17), (5, .int y5_10), (0, .ref (ad 47)), (1, .int x1)]) dX7_mends_102 rfl (by decide) (fun _ => rfl) (fun zq30 eq31 => ?_)
                      have tq32 : zq30.toInt = b6_22 + 1 := add_nw eq31 e6_22 (show (Int32.ofInt 1).toInt = 1 by decide) (by omega)
                      refine g_goto X (tgt := 22) dX7_mends_105 (by decide) ?_
                      refine g_sub [0, 5, 1, 2, 3, 6, 7] rfl ?_
                      exact ih22 zq30 _ tq32 y6_22 _ e6_22 y5_10 _ e5_10 zq17 _ tq19 (by omega) (by omega) (by omega)
                    · refine g_goto X (tgt := 102) dX7_mends_89 (by decide) ?_
                      refine g_iinc X 1 (fun v => [(6, .int v), (7, .int zq17), (5, .int y5_10), (4, .int y4_22), (3, .int y3_22), (2, .int y2_22), (0, .ref (ad 47)), (1, .int x1)]) dX7_mends_102 rfl (by decide) (fun _ => rfl) (fun zq33 eq34 => ?_)
                      have tq35 : zq33.toInt = b6_22 + 1 := add_nw eq34 e6_22 (show (Int32.ofInt 1).toInt = 1 by decide) (by omega)
                      refine g_goto X (tgt := 22) dX7_mends_105 (by decide) ?_
                      refine g_sub [0, 2, 3, 4, 5, 6, 7] rfl ?_
                      exact ih22 zq33 _ tq35 y4_22 _ e4_22 y3_22 _ e3_22 y2_22 _ e2_22 (by omega) (by omega) (by omega)
                · refine g_iconst X 0 dX7_mends_58 (by decide) ?_
                  refine g_goto X (tgt := 63) dX7_mends_59 (by decide) ?_
                  refine g_iadd X dX7_mends_63 (fun zq36 eq37 => ?_)
                  have tq38 : zq36.toInt = 1 + 0 := add_nw eq37 (show (1 : Int32).toInt = 1 by decide) (show (0 : Int32).toInt = 0 by decide) (by omega)
                  refine g_istore X [(7, .int zq36), (6, .int y6_22), (5, .int y5_10), (4, .int y4_22), (3, .int y3_22), (2, .int y2_22), (0, .ref (ad 47)), (1, .int x1)] dX7_mends_64 (by decide) rfl ?_
                  refine g_iload X 0 rfl dX7_mends_66 ?_
                  refine g_iload_n X 5 rfl dX7_mends_68 ?_
                  refine g_icmp_ge X tq38 e2_22 (tgt := 102) dX7_mends_69 (by decide) (fun cq39 => ?_) (fun cq39 => ?_)
                  · refine g_iinc X 1 (fun v => [(6, .int v), (7, .int zq36), (5, .int y5_10), (4, .int y4_22), (3, .int y3_22), (2, .int y2_22), (0, .ref (ad 47)), (1, .int x1)]) dX7_mends_102 rfl (by decide) (fun _ => rfl) (fun zq40 eq41 => ?_)
                    have tq42 : zq40.toInt = b6_22 + 1 := add_nw eq41 e6_22 (show (Int32.ofInt 1).toInt = 1 by decide) (by omega)
                    refine g_goto X (tgt := 22) dX7_mends_105 (by decide) ?_
                    refine g_sub [0, 2, 3, 4, 5, 6, 7] rfl ?_
                    exact ih22 zq40 _ tq42 y4_22 _ e4_22 y3_22 _ e3_22 y2_22 _ e2_22 (by omega) (by omega) (by omega)
                  · refine g_aload_n X 6 rfl dX7_mends_72 ?_
                    refine g_iload X 2 rfl dX7_mends_73 ?_
                    refine g_iload X 1 rfl dX7_mends_75 ?_
                    refine g_aload_n X 6 rfl dX7_mends_77 ?_
                    refine g_getr X f_X7_34 dX7_mends_78 ?_
                    refine g_iload_n X 7 rfl dX7_mends_81 ?_
                    refine g_iald X la_56 t1 dX7_mends_82 (by omega) (x := Mq.1 56 a1.toNat) rfl ?_
                    have bq43 := ig_56 Iq0 a1.toNat (by omega)
                    refine g_callV X m_X7_189 (c_X7_scans ad Mq y5_10 e5_10 y6_22 e6_22 (Mq.1 56 a1.toNat) rfl (by omega) (by omega) (by omega)) rfl (by decide) (Nat.le_of_ble_eq_true rfl) rfl dX7_mends_83 ?_
                    rintro _ _ ⟨rq44, aq45, rfl, tq46, hq47, rfl⟩
                    show G Γ Mq 86 [(7, .int zq36), (6, .int y6_22), (5, .int y5_10), (4, .int y4_22), (3, .int y3_22), (2, .int y2_22), (0, .ref (ad 47)), (1, .int x1)] [.int rq44]
                    refine g_if_ne X tq46 (tgt := 92) dX7_mends_86 (by decide) (fun cq48 => ?_) (fun cq48 => ?_)
                    · refine g_iload X 0 rfl dX7_mends_92 ?_
                      refine g_istore_n X (i := 2) [(2, .int zq36), (7, .int zq36), (6, .int y6_22), (5, .int y5_10), (4, .int y4_22), (3, .int y3_22), (0, .ref (ad 47)), (1, .int x1)] dX7_mends_94 rfl (by decide) rfl ?_
                      refine g_iload X 3 rfl dX7_mends_95 ?_
                      refine g_istore_n X (i := 3) [(3, .int y5_10), (2, .int zq36), (7, .int zq36), (6, .int y6_22), (5, .int y5_10), (4, .int y4_22), (0, .ref (ad 47)), (1, .int x1)] dX7_mends_97 rfl (by decide) rfl ?_
                      refine g_iload X 3 rfl dX7_mends_98 ?_
                      refine g_istore X [(4, .int y6_22), (3, .int y5_10), (2, .int zq36), (7, .int zq36), (6, .int y6_22), (5, .int y5_10), (0, .ref (ad 47)), (1, .int x1)] dX7_mends_100 (by decide) rfl ?_
                      refine g_iinc X 4 (fun v => [(6, .int v), (4, .int y6_22), (3, .int y5_10), (2, .int zq36), (7, .int zq36), (5, .int y5_10), (0, .ref (ad 47)), (1, .int x1)]) dX7_mends_102 rfl (by decide) (fun _ => rfl) (fun zq49 eq50 => ?_)
                      have tq51 : zq49.toInt = b6_22 + 1 := add_nw eq50 e6_22 (show (Int32.ofInt 1).toInt = 1 by decide) (by omega)
                      refine g_goto X (tgt := 22) dX7_mends_105 (by decide) ?_
                      refine g_sub [0, 5, 1, 2, 3, 6, 7] rfl ?_
                      exact ih22 zq49 _ tq51 y6_22 _ e6_22 y5_10 _ e5_10 zq36 _ tq38 (by omega) (by omega) (by omega)
                    · refine g_goto X (tgt := 102) dX7_mends_89 (by decide) ?_
                      refine g_iinc X 1 (fun v => [(6, .int v), (7, .int zq36), (5, .int y5_10), (4, .int y4_22), (3, .int y3_22), (2, .int y2_22), (0, .ref (ad 47)), (1, .int x1)]) dX7_mends_102 rfl (by decide) (fun _ => rfl) (fun zq52 eq53 => ?_)
                      have tq54 : zq52.toInt = b6_22 + 1 := add_nw eq53 e6_22 (show (Int32.ofInt 1).toInt = 1 by decide) (by omega)
                      refine g_goto X (tgt := 22) dX7_mends_105 (by decide) ?_
                      refine g_sub [0, 2, 3, 4, 5, 6, 7] rfl ?_
                      exact ih22 zq52 _ tq54 y4_22 _ e4_22 y3_22 _ e3_22 y2_22 _ e2_22 (by omega) (by omega) (by omega)
              · refine g_iconst X 0 dX7_mends_42 (by decide) ?_
                refine g_goto X (tgt := 47) dX7_mends_43 (by decide) ?_
                refine g_iload X 0 rfl dX7_mends_47 ?_
                refine g_aload_n X 5 rfl dX7_mends_49 ?_
                refine g_getr X f_X7_28 dX7_mends_50 ?_
                refine g_iload_n X 6 rfl dX7_mends_53 ?_
                refine g_iald X la_54 t1 dX7_mends_54 (by omega) (x := Mq.1 54 a1.toNat) rfl ?_
                have bq55 := ig_54 Iq0 a1.toNat (by omega)
                refine g_icmp_ne X e6_22 rfl (tgt := 62) dX7_mends_55 (by decide) (fun cq56 => ?_) (fun cq56 => ?_)
                · refine g_iconst X 1 dX7_mends_62 (by decide) ?_
                  refine g_iadd X dX7_mends_63 (fun zq57 eq58 => ?_)
                  have tq59 : zq57.toInt = 0 + 1 := add_nw eq58 (show (0 : Int32).toInt = 0 by decide) (show (1 : Int32).toInt = 1 by decide) (by omega)
                  refine g_istore X [(7, .int zq57), (6, .int y6_22), (5, .int y5_10), (4, .int y4_22), (3, .int y3_22), (2, .int y2_22), (0, .ref (ad 47)), (1, .int x1)] dX7_mends_64 (by decide) rfl ?_
                  refine g_iload X 0 rfl dX7_mends_66 ?_
                  refine g_iload_n X 5 rfl dX7_mends_68 ?_
                  refine g_icmp_ge X tq59 e2_22 (tgt := 102) dX7_mends_69 (by decide) (fun cq60 => ?_) (fun cq60 => ?_)
                  · refine g_iinc X 1 (fun v => [(6, .int v), (7, .int zq57), (5, .int y5_10), (4, .int y4_22), (3, .int y3_22), (2, .int y2_22), (0, .ref (ad 47)), (1, .int x1)]) dX7_mends_102 rfl (by decide) (fun _ => rfl) (fun zq61 eq62 => ?_)
                    have tq63 : zq61.toInt = b6_22 + 1 := add_nw eq62 e6_22 (show (Int32.ofInt 1).toInt = 1 by decide) (by omega)
                    refine g_goto X (tgt := 22) dX7_mends_105 (by decide) ?_
                    refine g_sub [0, 2, 3, 4, 5, 6, 7] rfl ?_
                    exact ih22 zq61 _ tq63 y4_22 _ e4_22 y3_22 _ e3_22 y2_22 _ e2_22 (by omega) (by omega) (by omega)
                  · refine g_aload_n X 6 rfl dX7_mends_72 ?_
                    refine g_iload X 2 rfl dX7_mends_73 ?_
                    refine g_iload X 1 rfl dX7_mends_75 ?_
                    refine g_aload_n X 6 rfl dX7_mends_77 ?_
                    refine g_getr X f_X7_34 dX7_mends_78 ?_
                    refine g_iload_n X 7 rfl dX7_mends_81 ?_
                    refine g_iald X la_56 t1 dX7_mends_82 (by omega) (x := Mq.1 56 a1.toNat) rfl ?_
                    have bq64 := ig_56 Iq0 a1.toNat (by omega)
                    refine g_callV X m_X7_189 (c_X7_scans ad Mq y5_10 e5_10 y6_22 e6_22 (Mq.1 56 a1.toNat) rfl (by omega) (by omega) (by omega)) rfl (by decide) (Nat.le_of_ble_eq_true rfl) rfl dX7_mends_83 ?_
                    rintro _ _ ⟨rq65, aq66, rfl, tq67, hq68, rfl⟩
                    show G Γ Mq 86 [(7, .int zq57), (6, .int y6_22), (5, .int y5_10), (4, .int y4_22), (3, .int y3_22), (2, .int y2_22), (0, .ref (ad 47)), (1, .int x1)] [.int rq65]
                    refine g_if_ne X tq67 (tgt := 92) dX7_mends_86 (by decide) (fun cq69 => ?_) (fun cq69 => ?_)
                    · refine g_iload X 0 rfl dX7_mends_92 ?_
                      refine g_istore_n X (i := 2) [(2, .int zq57), (7, .int zq57), (6, .int y6_22), (5, .int y5_10), (4, .int y4_22), (3, .int y3_22), (0, .ref (ad 47)), (1, .int x1)] dX7_mends_94 rfl (by decide) rfl ?_
                      refine g_iload X 3 rfl dX7_mends_95 ?_
                      refine g_istore_n X (i := 3) [(3, .int y5_10), (2, .int zq57), (7, .int zq57), (6, .int y6_22), (5, .int y5_10), (4, .int y4_22), (0, .ref (ad 47)), (1, .int x1)] dX7_mends_97 rfl (by decide) rfl ?_
                      refine g_iload X 3 rfl dX7_mends_98 ?_
                      refine g_istore X [(4, .int y6_22), (3, .int y5_10), (2, .int zq57), (7, .int zq57), (6, .int y6_22), (5, .int y5_10), (0, .ref (ad 47)), (1, .int x1)] dX7_mends_100 (by decide) rfl ?_
                      refine g_iinc X 4 (fun v => [(6, .int v), (4, .int y6_22), (3, .int y5_10), (2, .int zq57), (7, .int zq57), (5, .int y5_10), (0, .ref (ad 47)), (1, .int x1)]) dX7_mends_102 rfl (by decide) (fun _ => rfl) (fun zq70 eq71 => ?_)
                      have tq72 : zq70.toInt = b6_22 + 1 := add_nw eq71 e6_22 (show (Int32.ofInt 1).toInt = 1 by decide) (by omega)
                      refine g_goto X (tgt := 22) dX7_mends_105 (by decide) ?_
                      refine g_sub [0, 5, 1, 2, 3, 6, 7] rfl ?_
                      exact ih22 zq70 _ tq72 y6_22 _ e6_22 y5_10 _ e5_10 zq57 _ tq59 (by omega) (by omega) (by omega)
                    · refine g_goto X (tgt := 102) dX7_mends_89 (by decide) ?_
                      refine g_iinc X 1 (fun v => [(6, .int v), (7, .int zq57), (5, .int y5_10), (4, .int y4_22), (3, .int y3_22), (2, .int y2_22), (0, .ref (ad 47)), (1, .int x1)]) dX7_mends_102 rfl (by decide) (fun _ => rfl) (fun zq73 eq74 => ?_)
                      have tq75 : zq73.toInt = b6_22 + 1 := add_nw eq74 e6_22 (show (Int32.ofInt 1).toInt = 1 by decide) (by omega)
                      refine g_goto X (tgt := 22) dX7_mends_105 (by decide) ?_
                      refine g_sub [0, 2, 3, 4, 5, 6, 7] rfl ?_
                      exact ih22 zq73 _ tq75 y4_22 _ e4_22 y3_22 _ e3_22 y2_22 _ e2_22 (by omega) (by omega) (by omega)
                · refine g_iconst X 0 dX7_mends_58 (by decide) ?_
                  refine g_goto X (tgt := 63) dX7_mends_59 (by decide) ?_
                  refine g_iadd X dX7_mends_63 (fun zq76 eq77 => ?_)
                  have tq78 : zq76.toInt = 0 + 0 := add_nw eq77 (show (0 : Int32).toInt = 0 by decide) (show (0 : Int32).toInt = 0 by decide) (by omega)
                  refine g_istore X [(7, .int zq76), (6, .int y6_22), (5, .int y5_10), (4, .int y4_22), (3, .int y3_22), (2, .int y2_22), (0, .ref (ad 47)), (1, .int x1)] dX7_mends_64 (by decide) rfl ?_
                  refine g_iload X 0 rfl dX7_mends_66 ?_
                  refine g_iload_n X 5 rfl dX7_mends_68 ?_
                  refine g_icmp_ge X tq78 e2_22 (tgt := 102) dX7_mends_69 (by decide) (fun cq79 => ?_) (fun cq79 => ?_)
                  · refine g_iinc X 1 (fun v => [(6, .int v), (7, .int zq76), (5, .int y5_10), (4, .int y4_22), (3, .int y3_22), (2, .int y2_22), (0, .ref (ad 47)), (1, .int x1)]) dX7_mends_102 rfl (by decide) (fun _ => rfl) (fun zq80 eq81 => ?_)
                    have tq82 : zq80.toInt = b6_22 + 1 := add_nw eq81 e6_22 (show (Int32.ofInt 1).toInt = 1 by decide) (by omega)
                    refine g_goto X (tgt := 22) dX7_mends_105 (by decide) ?_
                    refine g_sub [0, 2, 3, 4, 5, 6, 7] rfl ?_
                    exact ih22 zq80 _ tq82 y4_22 _ e4_22 y3_22 _ e3_22 y2_22 _ e2_22 (by omega) (by omega) (by omega)
                  · refine g_aload_n X 6 rfl dX7_mends_72 ?_
                    refine g_iload X 2 rfl dX7_mends_73 ?_
                    refine g_iload X 1 rfl dX7_mends_75 ?_
                    refine g_aload_n X 6 rfl dX7_mends_77 ?_
                    refine g_getr X f_X7_34 dX7_mends_78 ?_
                    refine g_iload_n X 7 rfl dX7_mends_81 ?_
                    refine g_iald X la_56 t1 dX7_mends_82 (by omega) (x := Mq.1 56 a1.toNat) rfl ?_
                    have bq83 := ig_56 Iq0 a1.toNat (by omega)
                    refine g_callV X m_X7_189 (c_X7_scans ad Mq y5_10 e5_10 y6_22 e6_22 (Mq.1 56 a1.toNat) rfl (by omega) (by omega) (by omega)) rfl (by decide) (Nat.le_of_ble_eq_true rfl) rfl dX7_mends_83 ?_
                    rintro _ _ ⟨rq84, aq85, rfl, tq86, hq87, rfl⟩
                    show G Γ Mq 86 [(7, .int zq76), (6, .int y6_22), (5, .int y5_10), (4, .int y4_22), (3, .int y3_22), (2, .int y2_22), (0, .ref (ad 47)), (1, .int x1)] [.int rq84]
                    refine g_if_ne X tq86 (tgt := 92) dX7_mends_86 (by decide) (fun cq88 => ?_) (fun cq88 => ?_)
                    · refine g_iload X 0 rfl dX7_mends_92 ?_
                      refine g_istore_n X (i := 2) [(2, .int zq76), (7, .int zq76), (6, .int y6_22), (5, .int y5_10), (4, .int y4_22), (3, .int y3_22), (0, .ref (ad 47)), (1, .int x1)] dX7_mends_94 rfl (by decide) rfl ?_
                      refine g_iload X 3 rfl dX7_mends_95 ?_
                      refine g_istore_n X (i := 3) [(3, .int y5_10), (2, .int zq76), (7, .int zq76), (6, .int y6_22), (5, .int y5_10), (4, .int y4_22), (0, .ref (ad 47)), (1, .int x1)] dX7_mends_97 rfl (by decide) rfl ?_
                      refine g_iload X 3 rfl dX7_mends_98 ?_
                      refine g_istore X [(4, .int y6_22), (3, .int y5_10), (2, .int zq76), (7, .int zq76), (6, .int y6_22), (5, .int y5_10), (0, .ref (ad 47)), (1, .int x1)] dX7_mends_100 (by decide) rfl ?_
                      refine g_iinc X 4 (fun v => [(6, .int v), (4, .int y6_22), (3, .int y5_10), (2, .int zq76), (7, .int zq76), (5, .int y5_10), (0, .ref (ad 47)), (1, .int x1)]) dX7_mends_102 rfl (by decide) (fun _ => rfl) (fun zq89 eq90 => ?_)
                      have tq91 : zq89.toInt = b6_22 + 1 := add_nw eq90 e6_22 (show (Int32.ofInt 1).toInt = 1 by decide) (by omega)
                      refine g_goto X (tgt := 22) dX7_mends_105 (by decide) ?_
                      refine g_sub [0, 5, 1, 2, 3, 6, 7] rfl ?_
                      exact ih22 zq89 _ tq91 y6_22 _ e6_22 y5_10 _ e5_10 zq76 _ tq78 (by omega) (by omega) (by omega)
                    · refine g_goto X (tgt := 102) dX7_mends_89 (by decide) ?_
                      refine g_iinc X 1 (fun v => [(6, .int v), (7, .int zq76), (5, .int y5_10), (4, .int y4_22), (3, .int y3_22), (2, .int y2_22), (0, .ref (ad 47)), (1, .int x1)]) dX7_mends_102 rfl (by decide) (fun _ => rfl) (fun zq92 eq93 => ?_)
                      have tq94 : zq92.toInt = b6_22 + 1 := add_nw eq93 e6_22 (show (Int32.ofInt 1).toInt = 1 by decide) (by omega)
                      refine g_goto X (tgt := 22) dX7_mends_105 (by decide) ?_
                      refine g_sub [0, 2, 3, 4, 5, 6, 7] rfl ?_
                      exact ih22 zq92 _ tq94 y4_22 _ e4_22 y3_22 _ e3_22 y2_22 _ e2_22 (by omega) (by omega) (by omega)
        refine g_sub [0, 1, 2, 3, 4, 5, 6] rfl ?_
        exact lp22 _ 0 _ (show (0 : Int32).toInt = 0 by decide) y4_10 _ e4_10 y3_10 _ e3_10 y2_10 _ e2_10 (by omega) (by omega) (Nat.lt_succ_self _)
  refine g_sub [0, 1, 2, 3, 4, 5] rfl ?_
  exact lp10 _ 0 _ (show (0 : Int32).toInt = 0 by decide) 0 _ (show (0 : Int32).toInt = 0 by decide) 0 _ (show (0 : Int32).toInt = 0 by decide) 3 _ (show (3 : Int32).toInt = 3 by decide) (by omega) (by omega) (Nat.lt_succ_self _)
abbrev W_X7_swap : List (Nat × Nat) := [(47, 14), (53, 99), (54, 99), (56, 99), (59, 99)]
set_option maxHeartbeats 4000000 in
set_option maxRecDepth 4000 in
theorem c_X7_swap (ad : Nat → Nat) (Mq : Mem) (x1 : Int32) {a1 : Int} (t1 : x1.toInt = a1) (x2 : Int32) {a2 : Int} (t2 : x2.toInt = a2) (Iq0 : Iv TM Mq) : Ctr ad yX7_swap cX7_swap 5 (some .int) 4 [.ref (ad 47), .int x1, .int x2] Mq (fun v M' => ∃ (r : Int32) (a : Int), v = some (.int r) ∧ r.toInt = a ∧ (True) ∧ Iv TM M' ∧ Fr W_X7_swap Mq M') := by
  refine ctr_of (L := [(0, .ref (ad 47)), (1, .int x1), (2, .int x2)]) (by decide) (Nat.le_of_ble_eq_true rfl) rfl ?_
  intro Γ X
  have X : gX Γ cX7_swap RX7 5 (some .int) 4 ad _ := X
  have frq0 : Fr W_X7_swap Mq Mq := Fr.rf
  have g11 := ig_47_11 Iq0
  have g12 := ig_47_12 Iq0
  have g14 := ig_47_14 Iq0
  have g32 := ig_47_32 Iq0
  have g43 := ig_47_43 Iq0
  have g44 := ig_47_44 Iq0
  have g52 := ig_47_52 Iq0
  have g53 := ig_47_53 Iq0
  have g59 := ig_47_59 Iq0
  refine g_iload_n X 1 rfl dX7_swap_0 ?_
  refine g_callS X m_X7_158 (c_X7_isName ad Mq x1 t1) rfl (by decide) (Nat.le_of_ble_eq_true rfl) rfl dX7_swap_1 ?_
  rintro _ _ ⟨rq1, aq2, rfl, tq3, hq4, rfl⟩
  show G Γ Mq 4 [(0, .ref (ad 47)), (1, .int x1), (2, .int x2)] [.int rq1]
  refine g_if_eq X tq3 (tgt := 14) dX7_swap_4 (by decide) (fun cq5 => ?_) (fun cq5 => ?_)
  · have pq6 : ¬ (0 ≤ a1 ∧ a1 ≤ 9) := by omega
    clear hq4 cq5 tq3
    refine g_iconst X (-1) dX7_swap_14 (by decide) ?_
    exact g_iret X dX7_swap_15 ⟨_, _, rfl, (show ((-1) : Int32).toInt = (-1) by decide), trivial, Iq0, frq0⟩
  · have pq7 : (0 ≤ a1 ∧ a1 ≤ 9) := by omega
    clear hq4 cq5 tq3
    refine g_iload_n X 2 rfl dX7_swap_7 ?_
    refine g_callS X m_X7_158 (c_X7_isName ad Mq x2 t2) rfl (by decide) (Nat.le_of_ble_eq_true rfl) rfl dX7_swap_8 ?_
    rintro _ _ ⟨rq8, aq9, rfl, tq10, hq11, rfl⟩
    show G Γ Mq 11 [(0, .ref (ad 47)), (1, .int x1), (2, .int x2)] [.int rq8]
    refine g_if_ne X tq10 (tgt := 16) dX7_swap_11 (by decide) (fun cq12 => ?_) (fun cq12 => ?_)
    · have pq13 : (0 ≤ a2 ∧ a2 ≤ 9) := by omega
      clear hq11 cq12 tq10
      refine g_iload_n X 1 rfl dX7_swap_16 ?_
      refine g_iload_n X 2 rfl dX7_swap_17 ?_
      refine g_icmp_ne X t1 t2 (tgt := 24) dX7_swap_18 (by decide) (fun cq14 => ?_) (fun cq14 => ?_)
      · refine g_aload_n X 0 rfl dX7_swap_24 ?_
        refine g_iconst X 0 dX7_swap_25 (by decide) ?_
        refine g_puti X p_X7_193 dX7_swap_26 ?_
        have ltq15 : (0 : Int32).toInt = 0 := by decide
        have Iq16 : Iv TM (ui Mq 47 14 0) := Iq0.put 0 40 (show (0 : Int32).toInt = 0 by decide) (by omega) rfl
        have frq17 : Fr W_X7_swap Mq (ui Mq 47 14 0) := frq0.ui rfl
        refine g_iconst X 0 dX7_swap_29 (by decide) ?_
        refine g_istore_n X (i := 3) [(3, .int 0), (0, .ref (ad 47)), (1, .int x1), (2, .int x2)] dX7_swap_30 rfl (by decide) rfl ?_
        refine g_iconst X 0 dX7_swap_31 (by decide) ?_
        refine g_istore X [(4, .int 0), (3, .int 0), (0, .ref (ad 47)), (1, .int x1), (2, .int x2)] dX7_swap_32 (by decide) rfl ?_
        have lp34 : ∀ n : Nat, ∀ (y4_34 : Int32) (b4_34 : Int), y4_34.toInt = b4_34 → ∀ (y3_34 : Int32) (b3_34 : Int), y3_34.toInt = b3_34 → ∀ (M_34 : Mem), (0 ≤ b4_34) → (0 ≤ (M_34.1 47 14).toInt ∧ (M_34.1 47 14).toInt ≤ b4_34) → (Iv TM M_34) → (Fr W_X7_swap Mq M_34) → ((Mq.1 47 12).toInt - b4_34).toNat < n → G Γ M_34 34 [(4, .int y4_34), (3, .int y3_34), (0, .ref (ad 47)), (1, .int x1), (2, .int x2)] [] := by
          intro n
          induction n with
          | zero => intro y4_34 b4_34 e4_34 y3_34 b3_34 e3_34 M_34 i1 i2 I_34 fr_34 hm; exact absurd hm (Nat.not_lt_zero _)
          | succ n ih34 =>
            intro y4_34 b4_34 e4_34 y3_34 b3_34 e3_34 M_34 i1 i2 I_34 fr_34 hm34
            have trq18 : (M_34.1 47 12).toInt = (Mq.1 47 12).toInt := congrArg Int32.toInt (fr_34.at 47 12 rfl)
            refine g_iload X 0 rfl dX7_swap_34 ?_
            refine g_aload_n X 2 rfl dX7_swap_36 ?_
            refine g_geti X f_X7_147 dX7_swap_37 (x := M_34.1 47 12) rfl ?_
            have bq19 := ig_47_12 I_34
            refine g_icmp_ge X e4_34 rfl (tgt := 132) dX7_swap_40 (by decide) (fun cq20 => ?_) (fun cq20 => ?_)
            · refine g_iload_n X 1 rfl dX7_swap_132 ?_
              exact g_iret X dX7_swap_133 ⟨_, _, rfl, e3_34, trivial, I_34, fr_34⟩
            · refine g_aload_n X 2 rfl dX7_swap_43 ?_
              refine g_getr X f_X7_34 dX7_swap_44 ?_
              refine g_iload X 0 rfl dX7_swap_47 ?_
              refine g_iald X la_56 e4_34 dX7_swap_49 (by omega) (x := M_34.1 56 b4_34.toNat) rfl ?_
              have bq21 := ig_56 I_34 b4_34.toNat (by omega)
              refine g_iload_n X 3 rfl dX7_swap_50 ?_
              refine g_icmp_eq X rfl t1 (tgt := 57) dX7_swap_51 (by decide) (fun cq22 => ?_) (fun cq22 => ?_)
              · refine g_aload_n X 2 rfl dX7_swap_57 ?_
                refine g_getr X f_X7_34 dX7_swap_58 ?_
                refine g_iload X 0 rfl dX7_swap_61 ?_
                refine g_iload_n X 4 rfl dX7_swap_63 ?_
                refine g_iast X la_56 e4_34 dX7_swap_64 (by omega) ?_
                have Iq23 : Iv TM (ui M_34 56 b4_34.toNat x2) := I_34.putA 0 9 t2 (by omega) rfl
                have frq24 : Fr W_X7_swap Mq (ui M_34 56 b4_34.toNat x2) := fr_34.ui rfl
                refine g_aload_n X 2 rfl dX7_swap_65 ?_
                refine g_aload_n X 2 rfl dX7_swap_66 ?_
                refine g_getr X f_X7_25 dX7_swap_67 ?_
                refine g_iload X 0 rfl dX7_swap_70 ?_
                refine g_iald X la_53 e4_34 dX7_swap_72 (by omega) (x := M_34.1 53 b4_34.toNat) rfl ?_
                have bq25 := ig_53 I_34 b4_34.toNat (by omega)
                refine g_aload_n X 2 rfl dX7_swap_73 ?_
                refine g_getr X f_X7_28 dX7_swap_74 ?_
                refine g_iload X 0 rfl dX7_swap_77 ?_
                refine g_iald X la_54 e4_34 dX7_swap_79 (by omega) (x := M_34.1 54 b4_34.toNat) rfl ?_
                have bq26 := ig_54 I_34 b4_34.toNat (by omega)
                refine g_iload_n X 4 rfl dX7_swap_80 ?_
                refine g_callV X m_X7_189 (c_X7_scans ad (ui M_34 56 b4_34.toNat x2) (M_34.1 53 b4_34.toNat) rfl (M_34.1 54 b4_34.toNat) rfl x2 t2 (by omega) (by omega) (by omega)) rfl (by decide) (Nat.le_of_ble_eq_true rfl) rfl dX7_swap_81 ?_
                rintro _ _ ⟨rq27, aq28, rfl, tq29, hq30, rfl⟩
                show G Γ (ui M_34 56 b4_34.toNat x2) 84 [(4, .int y4_34), (3, .int y3_34), (0, .ref (ad 47)), (1, .int x1), (2, .int x2)] [.int rq27]
                refine g_if_eq X tq29 (tgt := 90) dX7_swap_84 (by decide) (fun cq31 => ?_) (fun cq31 => ?_)
                · refine g_aload_n X 2 rfl dX7_swap_90 ?_
                  refine g_iload X 0 rfl dX7_swap_91 ?_
                  refine g_callV X m_X7_196 (c_X7_mends ad (ui M_34 56 b4_34.toNat x2) y4_34 e4_34 Iq23 (by omega)) rfl (by decide) (Nat.le_of_ble_eq_true rfl) rfl dX7_swap_93 ?_
                  rintro _ Mq36 ⟨rq32, aq33, rfl, tq34, hq35, Iq37, frq38⟩
                  have frq39 : Fr W_X7_swap Mq Mq36 := frq24.trans frq38 rfl
                  have trq40 : (Mq36.1 47 12).toInt = (M_34.1 47 12).toInt := congrArg Int32.toInt (frq38.at 47 12 rfl)
                  have trq41 : (Mq36.1 47 14).toInt = (M_34.1 47 14).toInt := congrArg Int32.toInt (frq38.at 47 14 rfl)
                  show G Γ Mq36 96 [(4, .int y4_34), (3, .int y3_34), (0, .ref (ad 47)), (1, .int x1), (2, .int x2)] [.int rq32]
                  refine g_if_eq X tq34 (tgt := 105) dX7_swap_96 (by decide) (fun cq42 => ?_) (fun cq42 => ?_)
                  · refine g_aload_n X 2 rfl dX7_swap_105 ?_
                    refine g_getr X f_X7_43 dX7_swap_106 ?_
                    refine g_aload_n X 2 rfl dX7_swap_109 ?_
                    refine g_geti X f_X7_193 dX7_swap_110 (x := Mq36.1 47 14) rfl ?_
                    have bq43 := ig_47_14 Iq37
                    refine g_iload X 0 rfl dX7_swap_113 ?_
                    refine g_iast X la_59 rfl dX7_swap_115 (by omega) ?_
                    have Iq44 : Iv TM (ui Mq36 59 (((Mq36.1 47 14).toInt).toNat) y4_34) := Iq37.otherA rfl
                    have frq45 : Fr W_X7_swap Mq (ui Mq36 59 (((Mq36.1 47 14).toInt).toNat) y4_34) := frq39.ui rfl
                    refine g_aload_n X 2 rfl dX7_swap_116 ?_
                    refine g_dup X dX7_swap_117 rfl ?_
                    refine g_geti X f_X7_193 dX7_swap_118 (x := Mq36.1 47 14) rfl ?_
                    have bq46 := ig_47_14 Iq37
                    refine g_iconst X 1 dX7_swap_121 (by decide) ?_
                    refine g_iadd X dX7_swap_122 (fun zq47 eq48 => ?_)
                    have tq49 : zq47.toInt = ((Mq36.1 47 14).toInt) + 1 := add_nw eq48 rfl (show (1 : Int32).toInt = 1 by decide) (by omega)
                    refine g_puti X p_X7_193 dX7_swap_123 ?_
                    have Iq50 : Iv TM (ui (ui Mq36 59 (((Mq36.1 47 14).toInt).toNat) y4_34) 47 14 zq47) := Iq44.put 0 40 tq49 (by omega) rfl
                    have frq51 : Fr W_X7_swap Mq (ui (ui Mq36 59 (((Mq36.1 47 14).toInt).toNat) y4_34) 47 14 zq47) := frq45.ui rfl
                    refine g_iinc X 0 (fun v => [(4, .int v), (3, .int y3_34), (0, .ref (ad 47)), (1, .int x1), (2, .int x2)]) dX7_swap_126 rfl (by decide) (fun _ => rfl) (fun zq52 eq53 => ?_)
                    have tq54 : zq52.toInt = b4_34 + 1 := add_nw eq53 e4_34 (show (Int32.ofInt 1).toInt = 1 by decide) (by omega)
                    refine g_goto X (tgt := 34) dX7_swap_129 (by decide) ?_
                    refine g_sub [0, 1, 2, 3, 4] rfl ?_
                    exact ih34 zq52 _ tq54 y3_34 _ e3_34 (ui (ui Mq36 59 (((Mq36.1 47 14).toInt).toNat) y4_34) 47 14 zq47) (by omega) (show 0 ≤ (zq47).toInt ∧ (zq47).toInt ≤ (b4_34 + 1) by omega) Iq50 frq51 (by omega)
                  · refine g_iinc X 1 (fun v => [(3, .int v), (4, .int y4_34), (0, .ref (ad 47)), (1, .int x1), (2, .int x2)]) dX7_swap_99 rfl (by decide) (fun _ => rfl) (fun zq55 eq56 => ?_)
                    refine g_goto X (tgt := 126) dX7_swap_102 (by decide) ?_
                    refine g_iinc X 1 (fun v => [(4, .int v), (3, .int zq55), (0, .ref (ad 47)), (1, .int x1), (2, .int x2)]) dX7_swap_126 rfl (by decide) (fun _ => rfl) (fun zq58 eq59 => ?_)
                    have tq60 : zq58.toInt = b4_34 + 1 := add_nw eq59 e4_34 (show (Int32.ofInt 1).toInt = 1 by decide) (by omega)
                    refine g_goto X (tgt := 34) dX7_swap_129 (by decide) ?_
                    refine g_sub [0, 1, 2, 3, 4] rfl ?_
                    exact ih34 zq58 _ tq60 zq55 _ rfl Mq36 (by omega) (by omega) Iq37 frq39 (by omega)
                · refine g_goto X (tgt := 126) dX7_swap_87 (by decide) ?_
                  refine g_iinc X 0 (fun v => [(4, .int v), (3, .int y3_34), (0, .ref (ad 47)), (1, .int x1), (2, .int x2)]) dX7_swap_126 rfl (by decide) (fun _ => rfl) (fun zq61 eq62 => ?_)
                  have tq63 : zq61.toInt = b4_34 + 1 := add_nw eq62 e4_34 (show (Int32.ofInt 1).toInt = 1 by decide) (by omega)
                  refine g_goto X (tgt := 34) dX7_swap_129 (by decide) ?_
                  refine g_sub [0, 1, 2, 3, 4] rfl ?_
                  exact ih34 zq61 _ tq63 y3_34 _ e3_34 (ui M_34 56 b4_34.toNat x2) (by omega) (show 0 ≤ ((M_34.1 47 14)).toInt ∧ ((M_34.1 47 14)).toInt ≤ (b4_34 + 1) by omega) Iq23 frq24 (by omega)
              · refine g_goto X (tgt := 126) dX7_swap_54 (by decide) ?_
                refine g_iinc X 0 (fun v => [(4, .int v), (3, .int y3_34), (0, .ref (ad 47)), (1, .int x1), (2, .int x2)]) dX7_swap_126 rfl (by decide) (fun _ => rfl) (fun zq64 eq65 => ?_)
                have tq66 : zq64.toInt = b4_34 + 1 := add_nw eq65 e4_34 (show (Int32.ofInt 1).toInt = 1 by decide) (by omega)
                refine g_goto X (tgt := 34) dX7_swap_129 (by decide) ?_
                refine g_sub [0, 1, 2, 3, 4] rfl ?_
                exact ih34 zq64 _ tq66 y3_34 _ e3_34 M_34 (by omega) (by omega) I_34 fr_34 (by omega)
        refine g_sub [0, 1, 2, 3, 4] rfl ?_
        exact lp34 _ 0 _ (show (0 : Int32).toInt = 0 by decide) 0 _ (show (0 : Int32).toInt = 0 by decide) (ui Mq 47 14 0) (by omega) (show 0 ≤ ((0 : Int32)).toInt ∧ ((0 : Int32)).toInt ≤ 0 by omega) Iq16 frq17 (Nat.lt_succ_self _)
      · refine g_bipush X (-2) dX7_swap_21 (by decide) ?_
        exact g_iret X dX7_swap_23 ⟨_, _, rfl, (show ((-2) : Int32).toInt = (-2) by decide), trivial, Iq0, frq0⟩
    · have pq67 : ¬ (0 ≤ a2 ∧ a2 ≤ 9) := by omega
      clear hq11 cq12 tq10
      refine g_iconst X (-1) dX7_swap_14 (by decide) ?_
      exact g_iret X dX7_swap_15 ⟨_, _, rfl, (show ((-1) : Int32).toInt = (-1) by decide), trivial, Iq0, frq0⟩
set_option maxHeartbeats 4000000 in
set_option maxRecDepth 4000 in
theorem c_X7_broken (ad : Nat → Nat) (Mq : Mem) (x1 : Int32) {a1 : Int} (t1 : x1.toInt = a1) (Iq0 : Iv TM Mq) : Ctr ad yX7_broken cX7_broken 2 (some .int) 1 [.ref (ad 47), .int x1] Mq (fun v M' => ∃ (r : Int32) (a : Int), v = some (.int r) ∧ r.toInt = a ∧ (True) ∧ Mq = M') := by
  refine ctr_of (L := [(0, .ref (ad 47)), (1, .int x1)]) (by decide) (Nat.le_of_ble_eq_true rfl) rfl ?_
  intro Γ X
  have X : gX Γ cX7_broken RX7 2 (some .int) 1 ad _ := X
  have g11 := ig_47_11 Iq0
  have g12 := ig_47_12 Iq0
  have g14 := ig_47_14 Iq0
  have g32 := ig_47_32 Iq0
  have g43 := ig_47_43 Iq0
  have g44 := ig_47_44 Iq0
  have g52 := ig_47_52 Iq0
  have g53 := ig_47_53 Iq0
  have g59 := ig_47_59 Iq0
  refine g_iload_n X 1 rfl dX7_broken_0 ?_
  refine g_iconst X (-1) dX7_broken_1 (by decide) ?_
  refine g_icmp_ne X t1 (show ((-1) : Int32).toInt = (-1) by decide) (tgt := 12) dX7_broken_2 (by decide) (fun cq1 => ?_) (fun cq1 => ?_)
  · refine g_iload_n X 1 rfl dX7_broken_12 ?_
    refine g_i2l X dX7_broken_13 (fun zq2 eq3 => ?_)
    have tq4 : zq2.toInt = a1 := i2l_nw eq3 t1
    refine g_lconst X 0 dX7_broken_14 (by decide) ?_
    refine g_aload_n X 0 rfl dX7_broken_15 ?_
    refine g_geti X f_X7_193 dX7_broken_16 (x := Mq.1 47 14) rfl ?_
    have bq5 := ig_47_14 Iq0
    refine g_iconst X 1 dX7_broken_19 (by decide) ?_
    refine g_isub X dX7_broken_20 (fun zq6 eq7 => ?_)
    have tq8 : zq6.toInt = ((Mq.1 47 14).toInt) - 1 := sub_nw eq7 rfl (show (1 : Int32).toInt = 1 by decide) (by omega)
    refine g_i2l X dX7_broken_21 (fun zq9 eq10 => ?_)
    have tq11 : zq9.toInt = ((Mq.1 47 14).toInt) - 1 := i2l_nw eq10 tq8
    refine g_callS X m_X7_152 (c_X7_isIn ad Mq zq2 tq4 0 (show (0 : Int64).toInt = 0 by decide) zq9 tq11) rfl (by decide) (Nat.le_of_ble_eq_true rfl) rfl dX7_broken_22 ?_
    rintro _ _ ⟨rq12, aq13, rfl, tq14, hq15, rfl⟩
    show G Γ Mq 25 [(0, .ref (ad 47)), (1, .int x1)] [.int rq12]
    refine g_if_eq X tq14 (tgt := 37) dX7_broken_25 (by decide) (fun cq16 => ?_) (fun cq16 => ?_)
    · have pq17 : ¬ (0 ≤ a1 ∧ a1 ≤ (((Mq.1 47 14).toInt) - 1)) := by omega
      clear hq15 cq16 tq14
      refine g_iconst X (-1) dX7_broken_37 (by decide) ?_
      exact g_iret X dX7_broken_38 ⟨_, _, rfl, (show ((-1) : Int32).toInt = (-1) by decide), trivial, rfl⟩
    · have pq18 : (0 ≤ a1 ∧ a1 ≤ (((Mq.1 47 14).toInt) - 1)) := by omega
      clear hq15 cq16 tq14
      refine g_aload_n X 0 rfl dX7_broken_28 ?_
      refine g_getr X f_X7_43 dX7_broken_29 ?_
      refine g_iload_n X 1 rfl dX7_broken_32 ?_
      refine g_iald X la_59 t1 dX7_broken_33 (by omega) (x := Mq.1 59 a1.toNat) rfl ?_
      refine g_goto X (tgt := 38) dX7_broken_34 (by decide) ?_
      exact g_iret X dX7_broken_38 ⟨_, _, rfl, rfl, trivial, rfl⟩
  · refine g_aload_n X 0 rfl dX7_broken_5 ?_
    refine g_geti X f_X7_193 dX7_broken_6 (x := Mq.1 47 14) rfl ?_
    have bq19 := ig_47_14 Iq0
    refine g_goto X (tgt := 38) dX7_broken_9 (by decide) ?_
    exact g_iret X dX7_broken_38 ⟨_, _, rfl, rfl, trivial, rfl⟩
set_option maxHeartbeats 4000000 in
set_option maxRecDepth 4000 in
theorem c_X7_sung (ad : Nat → Nat) (Mq : Mem) (x1 : Int32) {a1 : Int} (t1 : x1.toInt = a1) (Iq0 : Iv TM Mq) : Ctr ad yX7_sung cX7_sung 2 (some .int) 1 [.ref (ad 47), .int x1] Mq (fun v M' => ∃ (r : Int32) (a : Int), v = some (.int r) ∧ r.toInt = a ∧ (True) ∧ Mq = M') := by
  refine ctr_of (L := [(0, .ref (ad 47)), (1, .int x1)]) (by decide) (Nat.le_of_ble_eq_true rfl) rfl ?_
  intro Γ X
  have X : gX Γ cX7_sung RX7 2 (some .int) 1 ad _ := X
  have g11 := ig_47_11 Iq0
  have g12 := ig_47_12 Iq0
  have g14 := ig_47_14 Iq0
  have g32 := ig_47_32 Iq0
  have g43 := ig_47_43 Iq0
  have g44 := ig_47_44 Iq0
  have g52 := ig_47_52 Iq0
  have g53 := ig_47_53 Iq0
  have g59 := ig_47_59 Iq0
  refine g_iload_n X 1 rfl dX7_sung_0 ?_
  refine g_i2l X dX7_sung_1 (fun zq1 eq2 => ?_)
  have tq3 : zq1.toInt = a1 := i2l_nw eq2 t1
  refine g_lconst X 0 dX7_sung_2 (by decide) ?_
  refine g_aload_n X 0 rfl dX7_sung_3 ?_
  refine g_geti X f_X7_276 dX7_sung_4 (x := Mq.1 47 32) rfl ?_
  have bq4 := ig_47_32 Iq0
  refine g_iconst X 1 dX7_sung_7 (by decide) ?_
  refine g_isub X dX7_sung_8 (fun zq5 eq6 => ?_)
  have tq7 : zq5.toInt = ((Mq.1 47 32).toInt) - 1 := sub_nw eq6 rfl (show (1 : Int32).toInt = 1 by decide) (by omega)
  refine g_i2l X dX7_sung_9 (fun zq8 eq9 => ?_)
  have tq10 : zq8.toInt = ((Mq.1 47 32).toInt) - 1 := i2l_nw eq9 tq7
  refine g_callS X m_X7_152 (c_X7_isIn ad Mq zq1 tq3 0 (show (0 : Int64).toInt = 0 by decide) zq8 tq10) rfl (by decide) (Nat.le_of_ble_eq_true rfl) rfl dX7_sung_10 ?_
  rintro _ _ ⟨rq11, aq12, rfl, tq13, hq14, rfl⟩
  show G Γ Mq 13 [(0, .ref (ad 47)), (1, .int x1)] [.int rq11]
  refine g_if_eq X tq13 (tgt := 25) dX7_sung_13 (by decide) (fun cq15 => ?_) (fun cq15 => ?_)
  · have pq16 : ¬ (0 ≤ a1 ∧ a1 ≤ (((Mq.1 47 32).toInt) - 1)) := by omega
    clear hq14 cq15 tq13
    refine g_iconst X (-1) dX7_sung_25 (by decide) ?_
    exact g_iret X dX7_sung_26 ⟨_, _, rfl, (show ((-1) : Int32).toInt = (-1) by decide), trivial, rfl⟩
  · have pq17 : (0 ≤ a1 ∧ a1 ≤ (((Mq.1 47 32).toInt) - 1)) := by omega
    clear hq14 cq15 tq13
    refine g_aload_n X 0 rfl dX7_sung_16 ?_
    refine g_getr X f_X7_77 dX7_sung_17 ?_
    refine g_iload_n X 1 rfl dX7_sung_20 ?_
    refine g_iald X la_69 t1 dX7_sung_21 (by omega) (x := Mq.1 69 a1.toNat) rfl ?_
    refine g_goto X (tgt := 26) dX7_sung_22 (by decide) ?_
    exact g_iret X dX7_sung_26 ⟨_, _, rfl, rfl, trivial, rfl⟩
set_option maxHeartbeats 4000000 in
set_option maxRecDepth 4000 in
theorem c_X7_hasLine (ad : Nat → Nat) (Mq : Mem) (x1 : Int32) {a1 : Int} (t1 : x1.toInt = a1) (x2 : Int32) {a2 : Int} (t2 : x2.toInt = a2) (x3 : Int32) {a3 : Int} (t3 : x3.toInt = a3) (x4 : Int32) {a4 : Int} (t4 : x4.toInt = a4) (Iq0 : Iv TM Mq) (h4 : a4 ≤ 200) : Ctr ad yX7_hasLine cX7_hasLine 7 (some .boolean) 0 [.ref (ad 47), .int x1, .int x2, .int x3, .int x4] Mq (fun v M' => ∃ (r : Int32) (a : Int), v = some (.int r) ∧ r.toInt = a ∧ (a = 0 ∨ a = 1) ∧ Mq = M') := by
  refine ctr_of (L := [(0, .ref (ad 47)), (1, .int x1), (2, .int x2), (3, .int x3), (4, .int x4)]) (by decide) (Nat.le_of_ble_eq_true rfl) rfl ?_
  intro Γ X
  have X : gX Γ cX7_hasLine RX7 7 (some .boolean) 0 ad _ := X
  have g11 := ig_47_11 Iq0
  have g12 := ig_47_12 Iq0
  have g14 := ig_47_14 Iq0
  have g32 := ig_47_32 Iq0
  have g43 := ig_47_43 Iq0
  have g44 := ig_47_44 Iq0
  have g52 := ig_47_52 Iq0
  have g53 := ig_47_53 Iq0
  have g59 := ig_47_59 Iq0
  refine g_iconst X (-1) dX7_hasLine_0 (by decide) ?_
  refine g_istore X [(5, .int (-1)), (0, .ref (ad 47)), (1, .int x1), (2, .int x2), (3, .int x3), (4, .int x4)] dX7_hasLine_1 (by decide) rfl ?_
  refine g_iconst X 0 dX7_hasLine_3 (by decide) ?_
  refine g_istore X [(6, .int 0), (5, .int (-1)), (0, .ref (ad 47)), (1, .int x1), (2, .int x2), (3, .int x3), (4, .int x4)] dX7_hasLine_4 (by decide) rfl ?_
  have lp6 : ∀ n : Nat, ∀ (y6_6 : Int32) (b6_6 : Int), y6_6.toInt = b6_6 → ∀ (y5_6 : Int32) (b5_6 : Int), y5_6.toInt = b5_6 → (0 ≤ b6_6) → (b5_6 = -1 ∨ (0 ≤ b5_6 ∧ b5_6 < 200)) → (a4 - b6_6).toNat < n → G Γ Mq 6 [(6, .int y6_6), (5, .int y5_6), (0, .ref (ad 47)), (1, .int x1), (2, .int x2), (3, .int x3), (4, .int x4)] [] := by
    intro n
    induction n with
    | zero => intro y6_6 b6_6 e6_6 y5_6 b5_6 e5_6 i1 i2 hm; exact absurd hm (Nat.not_lt_zero _)
    | succ n ih6 =>
      intro y6_6 b6_6 e6_6 y5_6 b5_6 e5_6 i1 i2 hm6
      refine g_iload X 0 rfl dX7_hasLine_6 ?_
      refine g_iload X 6 rfl dX7_hasLine_8 ?_
      refine g_icmp_ge X e6_6 t4 (tgt := 78) dX7_hasLine_10 (by decide) (fun cq1 => ?_) (fun cq1 => ?_)
      · refine g_iload X 1 rfl dX7_hasLine_78 ?_
        refine g_if_lt X e5_6 (tgt := 97) dX7_hasLine_80 (by decide) (fun cq2 => ?_) (fun cq2 => ?_)
        · refine g_iconst X 0 dX7_hasLine_97 (by decide) ?_
          exact g_zret X (b01 (show (0 : Int32).toInt = 0 by decide) (by omega)) dX7_hasLine_98 ⟨_, _, rfl, (show (0 : Int32).toInt = 0 by decide), (by omega), rfl⟩
        · refine g_aload_n X 2 rfl dX7_hasLine_83 ?_
          refine g_getr X f_X7_122 dX7_hasLine_84 ?_
          refine g_iload X 1 rfl dX7_hasLine_87 ?_
          refine g_zald X la_84 e5_6 dX7_hasLine_89 (by omega) (x := Mq.1 84 b5_6.toNat) rfl ?_
          have bq3 := ig_84 Iq0 b5_6.toNat (by omega)
          refine g_if_eq X rfl (tgt := 97) dX7_hasLine_90 (by decide) (fun cq4 => ?_) (fun cq4 => ?_)
          · refine g_iconst X 0 dX7_hasLine_97 (by decide) ?_
            exact g_zret X (b01 (show (0 : Int32).toInt = 0 by decide) (by omega)) dX7_hasLine_98 ⟨_, _, rfl, (show (0 : Int32).toInt = 0 by decide), (by omega), rfl⟩
          · refine g_iconst X 1 dX7_hasLine_93 (by decide) ?_
            refine g_goto X (tgt := 98) dX7_hasLine_94 (by decide) ?_
            exact g_zret X (b01 (show (1 : Int32).toInt = 1 by decide) (by omega)) dX7_hasLine_98 ⟨_, _, rfl, (show (1 : Int32).toInt = 1 by decide), (by omega), rfl⟩
      · refine g_aload_n X 2 rfl dX7_hasLine_13 ?_
        refine g_getr X f_X7_113 dX7_hasLine_14 ?_
        refine g_iload X 0 rfl dX7_hasLine_17 ?_
        refine g_iald X la_81 e6_6 dX7_hasLine_19 (by omega) (x := Mq.1 81 b6_6.toNat) rfl ?_
        refine g_iload_n X 3 rfl dX7_hasLine_20 ?_
        refine g_icmp_ne X rfl t1 (tgt := 72) dX7_hasLine_21 (by decide) (fun cq5 => ?_) (fun cq5 => ?_)
        · refine g_iinc X 0 (fun v => [(6, .int v), (5, .int y5_6), (0, .ref (ad 47)), (1, .int x1), (2, .int x2), (3, .int x3), (4, .int x4)]) dX7_hasLine_72 rfl (by decide) (fun _ => rfl) (fun zq6 eq7 => ?_)
          have tq8 : zq6.toInt = b6_6 + 1 := add_nw eq7 e6_6 (show (Int32.ofInt 1).toInt = 1 by decide) (by omega)
          refine g_goto X (tgt := 6) dX7_hasLine_75 (by decide) ?_
          refine g_sub [0, 1, 2, 3, 4, 5, 6] rfl ?_
          exact ih6 zq6 _ tq8 y5_6 _ e5_6 (by omega) (by omega) (by omega)
        · refine g_aload_n X 2 rfl dX7_hasLine_24 ?_
          refine g_getr X f_X7_116 dX7_hasLine_25 ?_
          refine g_iload X 0 rfl dX7_hasLine_28 ?_
          refine g_iald X la_82 e6_6 dX7_hasLine_30 (by omega) (x := Mq.1 82 b6_6.toNat) rfl ?_
          refine g_iload_n X 4 rfl dX7_hasLine_31 ?_
          refine g_icmp_ne X rfl t2 (tgt := 72) dX7_hasLine_32 (by decide) (fun cq9 => ?_) (fun cq9 => ?_)
          · refine g_iinc X 0 (fun v => [(6, .int v), (5, .int y5_6), (0, .ref (ad 47)), (1, .int x1), (2, .int x2), (3, .int x3), (4, .int x4)]) dX7_hasLine_72 rfl (by decide) (fun _ => rfl) (fun zq10 eq11 => ?_)
            have tq12 : zq10.toInt = b6_6 + 1 := add_nw eq11 e6_6 (show (Int32.ofInt 1).toInt = 1 by decide) (by omega)
            refine g_goto X (tgt := 6) dX7_hasLine_75 (by decide) ?_
            refine g_sub [0, 1, 2, 3, 4, 5, 6] rfl ?_
            exact ih6 zq10 _ tq12 y5_6 _ e5_6 (by omega) (by omega) (by omega)
          · refine g_aload_n X 2 rfl dX7_hasLine_35 ?_
            refine g_getr X f_X7_119 dX7_hasLine_36 ?_
            refine g_iload X 0 rfl dX7_hasLine_39 ?_
            refine g_iald X la_83 e6_6 dX7_hasLine_41 (by omega) (x := Mq.1 83 b6_6.toNat) rfl ?_
            refine g_iload_n X 5 rfl dX7_hasLine_42 ?_
            refine g_icmp_gt X rfl t3 (tgt := 72) dX7_hasLine_43 (by decide) (fun cq13 => ?_) (fun cq13 => ?_)
            · refine g_iinc X 0 (fun v => [(6, .int v), (5, .int y5_6), (0, .ref (ad 47)), (1, .int x1), (2, .int x2), (3, .int x3), (4, .int x4)]) dX7_hasLine_72 rfl (by decide) (fun _ => rfl) (fun zq14 eq15 => ?_)
              have tq16 : zq14.toInt = b6_6 + 1 := add_nw eq15 e6_6 (show (Int32.ofInt 1).toInt = 1 by decide) (by omega)
              refine g_goto X (tgt := 6) dX7_hasLine_75 (by decide) ?_
              refine g_sub [0, 1, 2, 3, 4, 5, 6] rfl ?_
              exact ih6 zq14 _ tq16 y5_6 _ e5_6 (by omega) (by omega) (by omega)
            · refine g_iload X 1 rfl dX7_hasLine_46 ?_
              refine g_if_lt X e5_6 (tgt := 68) dX7_hasLine_48 (by decide) (fun cq17 => ?_) (fun cq17 => ?_)
              · refine g_iload X 0 rfl dX7_hasLine_68 ?_
                refine g_istore X [(5, .int y6_6), (6, .int y6_6), (0, .ref (ad 47)), (1, .int x1), (2, .int x2), (3, .int x3), (4, .int x4)] dX7_hasLine_70 (by decide) rfl ?_
                refine g_iinc X 1 (fun v => [(6, .int v), (5, .int y6_6), (0, .ref (ad 47)), (1, .int x1), (2, .int x2), (3, .int x3), (4, .int x4)]) dX7_hasLine_72 rfl (by decide) (fun _ => rfl) (fun zq18 eq19 => ?_)
                have tq20 : zq18.toInt = b6_6 + 1 := add_nw eq19 e6_6 (show (Int32.ofInt 1).toInt = 1 by decide) (by omega)
                refine g_goto X (tgt := 6) dX7_hasLine_75 (by decide) ?_
                refine g_sub [0, 1, 2, 3, 4, 5, 6] rfl ?_
                exact ih6 zq18 _ tq20 y6_6 _ e6_6 (by omega) (by omega) (by omega)
              · refine g_aload_n X 2 rfl dX7_hasLine_51 ?_
                refine g_getr X f_X7_119 dX7_hasLine_52 ?_
                refine g_iload X 0 rfl dX7_hasLine_55 ?_
                refine g_iald X la_83 e6_6 dX7_hasLine_57 (by omega) (x := Mq.1 83 b6_6.toNat) rfl ?_
                refine g_aload_n X 2 rfl dX7_hasLine_58 ?_
                refine g_getr X f_X7_119 dX7_hasLine_59 ?_
                refine g_iload X 1 rfl dX7_hasLine_62 ?_
                refine g_iald X la_83 e5_6 dX7_hasLine_64 (by omega) (x := Mq.1 83 b5_6.toNat) rfl ?_
                refine g_icmp_lt X rfl rfl (tgt := 72) dX7_hasLine_65 (by decide) (fun cq21 => ?_) (fun cq21 => ?_)
                · refine g_iinc X 0 (fun v => [(6, .int v), (5, .int y5_6), (0, .ref (ad 47)), (1, .int x1), (2, .int x2), (3, .int x3), (4, .int x4)]) dX7_hasLine_72 rfl (by decide) (fun _ => rfl) (fun zq22 eq23 => ?_)
                  have tq24 : zq22.toInt = b6_6 + 1 := add_nw eq23 e6_6 (show (Int32.ofInt 1).toInt = 1 by decide) (by omega)
                  refine g_goto X (tgt := 6) dX7_hasLine_75 (by decide) ?_
                  refine g_sub [0, 1, 2, 3, 4, 5, 6] rfl ?_
                  exact ih6 zq22 _ tq24 y5_6 _ e5_6 (by omega) (by omega) (by omega)
                · refine g_iload X 0 rfl dX7_hasLine_68 ?_
                  refine g_istore X [(5, .int y6_6), (6, .int y6_6), (0, .ref (ad 47)), (1, .int x1), (2, .int x2), (3, .int x3), (4, .int x4)] dX7_hasLine_70 (by decide) rfl ?_
                  refine g_iinc X 1 (fun v => [(6, .int v), (5, .int y6_6), (0, .ref (ad 47)), (1, .int x1), (2, .int x2), (3, .int x3), (4, .int x4)]) dX7_hasLine_72 rfl (by decide) (fun _ => rfl) (fun zq25 eq26 => ?_)
                  have tq27 : zq25.toInt = b6_6 + 1 := add_nw eq26 e6_6 (show (Int32.ofInt 1).toInt = 1 by decide) (by omega)
                  refine g_goto X (tgt := 6) dX7_hasLine_75 (by decide) ?_
                  refine g_sub [0, 1, 2, 3, 4, 5, 6] rfl ?_
                  exact ih6 zq25 _ tq27 y6_6 _ e6_6 (by omega) (by omega) (by omega)
  refine g_sub [0, 1, 2, 3, 4, 5, 6] rfl ?_
  exact lp6 _ 0 _ (show (0 : Int32).toInt = 0 by decide) (-1) _ (show ((-1) : Int32).toInt = (-1) by decide) (by omega) (by omega) (Nat.lt_succ_self _)
abbrev W_X7_findStock : List (Nat × Nat) := [(85, 99)]
set_option maxHeartbeats 4000000 in
set_option maxRecDepth 4000 in
theorem c_X7_findStock (ad : Nat → Nat) (Mq : Mem) (x1 : Int32) {a1 : Int} (t1 : x1.toInt = a1) (x2 : Int32) {a2 : Int} (t2 : x2.toInt = a2) (x3 : Int32) {a3 : Int} (t3 : x3.toInt = a3) (Iq0 : Iv TM Mq) (h3 : a3 ≤ 200) : Ctr ad yX7_findStock cX7_findStock 5 none 1 [.ref (ad 47), .int x1, .int x2, .int x3] Mq (fun v M' => v = none ∧ (True) ∧ Iv TM M' ∧ Fr W_X7_findStock Mq M') := by
  refine ctr_of (L := [(0, .ref (ad 47)), (1, .int x1), (2, .int x2), (3, .int x3)]) (by decide) (Nat.le_of_ble_eq_true rfl) rfl ?_
  intro Γ X
  have X : gX Γ cX7_findStock RX7 5 none 1 ad _ := X
  have frq0 : Fr W_X7_findStock Mq Mq := Fr.rf
  have g11 := ig_47_11 Iq0
  have g12 := ig_47_12 Iq0
  have g14 := ig_47_14 Iq0
  have g32 := ig_47_32 Iq0
  have g43 := ig_47_43 Iq0
  have g44 := ig_47_44 Iq0
  have g52 := ig_47_52 Iq0
  have g53 := ig_47_53 Iq0
  have g59 := ig_47_59 Iq0
  refine g_iconst X 0 dX7_findStock_0 (by decide) ?_
  refine g_istore X [(4, .int 0), (0, .ref (ad 47)), (1, .int x1), (2, .int x2), (3, .int x3)] dX7_findStock_1 (by decide) rfl ?_
  have lp3 : ∀ n : Nat, ∀ (y4_3 : Int32) (b4_3 : Int), y4_3.toInt = b4_3 → ∀ (M_3 : Mem), (0 ≤ b4_3 ∧ b4_3 ≤ 40) → (Iv TM M_3) → (Fr W_X7_findStock Mq M_3) → (40 - b4_3).toNat < n → G Γ M_3 3 [(4, .int y4_3), (0, .ref (ad 47)), (1, .int x1), (2, .int x2), (3, .int x3)] [] := by
    intro n
    induction n with
    | zero => intro y4_3 b4_3 e4_3 M_3 i1 I_3 fr_3 hm; exact absurd hm (Nat.not_lt_zero _)
    | succ n ih3 =>
      intro y4_3 b4_3 e4_3 M_3 i1 I_3 fr_3 hm3
      have trq1 : (M_3.1 47 12).toInt = (Mq.1 47 12).toInt := congrArg Int32.toInt (fr_3.at 47 12 rfl)
      refine g_iload X 0 rfl dX7_findStock_3 ?_
      refine g_bipush X 40 dX7_findStock_5 (by decide) ?_
      refine g_icmp_ge X e4_3 (show (40 : Int32).toInt = 40 by decide) (tgt := 49) dX7_findStock_7 (by decide) (fun cq2 => ?_) (fun cq2 => ?_)
      · exact g_vret X dX7_findStock_49 ⟨rfl, trivial, I_3, fr_3⟩
      · refine g_aload_n X 1 rfl dX7_findStock_10 ?_
        refine g_getr X f_X7_126 dX7_findStock_11 ?_
        refine g_iload X 0 rfl dX7_findStock_14 ?_
        refine g_iload X 0 rfl dX7_findStock_16 ?_
        refine g_aload_n X 1 rfl dX7_findStock_18 ?_
        refine g_geti X f_X7_147 dX7_findStock_19 (x := M_3.1 47 12) rfl ?_
        have bq3 := ig_47_12 I_3
        refine g_icmp_ge X e4_3 rfl (tgt := 41) dX7_findStock_22 (by decide) (fun cq4 => ?_) (fun cq4 => ?_)
        · refine g_iconst X 0 dX7_findStock_41 (by decide) ?_
          refine g_zast X la_85 (b01 (show (0 : Int32).toInt = 0 by decide) (by omega)) e4_3 dX7_findStock_42 (by omega) ?_
          have ltq5 : (0 : Int32).toInt = 0 := by decide
          have Iq6 : Iv TM (ui M_3 85 b4_3.toNat 0) := I_3.putA 0 1 (show (0 : Int32).toInt = 0 by decide) (by omega) rfl
          have frq7 : Fr W_X7_findStock Mq (ui M_3 85 b4_3.toNat 0) := fr_3.ui rfl
          refine g_iinc X 0 (fun v => [(4, .int v), (0, .ref (ad 47)), (1, .int x1), (2, .int x2), (3, .int x3)]) dX7_findStock_43 rfl (by decide) (fun _ => rfl) (fun zq8 eq9 => ?_)
          have tq10 : zq8.toInt = b4_3 + 1 := add_nw eq9 e4_3 (show (Int32.ofInt 1).toInt = 1 by decide) (by omega)
          refine g_goto X (tgt := 3) dX7_findStock_46 (by decide) ?_
          refine g_sub [0, 1, 2, 3, 4] rfl ?_
          exact ih3 zq8 _ tq10 (ui M_3 85 b4_3.toNat 0) (by omega) Iq6 frq7 (by omega)
        · refine g_aload_n X 1 rfl dX7_findStock_25 ?_
          refine g_iload_n X 2 rfl dX7_findStock_26 ?_
          refine g_iload X 0 rfl dX7_findStock_27 ?_
          refine g_iload_n X 3 rfl dX7_findStock_29 ?_
          refine g_iload_n X 4 rfl dX7_findStock_30 ?_
          refine g_callV X m_X7_322 (c_X7_hasLine ad M_3 x1 t1 y4_3 e4_3 x2 t2 x3 t3 I_3 (by omega)) rfl (by decide) (Nat.le_of_ble_eq_true rfl) rfl dX7_findStock_31 ?_
          rintro _ _ ⟨rq11, aq12, rfl, tq13, hq14, rfl⟩
          show G Γ M_3 34 [(4, .int y4_3), (0, .ref (ad 47)), (1, .int x1), (2, .int x2), (3, .int x3)] [.int rq11, .int y4_3, .ref (ad 85)]
          refine g_if_eq X tq13 (tgt := 41) dX7_findStock_34 (by decide) (fun cq15 => ?_) (fun cq15 => ?_)
          · refine g_iconst X 0 dX7_findStock_41 (by decide) ?_
            refine g_zast X la_85 (b01 (show (0 : Int32).toInt = 0 by decide) (by omega)) e4_3 dX7_findStock_42 (by omega) ?_
            have ltq16 : (0 : Int32).toInt = 0 := by decide
            have Iq17 : Iv TM (ui M_3 85 b4_3.toNat 0) := I_3.putA 0 1 (show (0 : Int32).toInt = 0 by decide) (by omega) rfl
            have frq18 : Fr W_X7_findStock Mq (ui M_3 85 b4_3.toNat 0) := fr_3.ui rfl
            refine g_iinc X 0 (fun v => [(4, .int v), (0, .ref (ad 47)), (1, .int x1), (2, .int x2), (3, .int x3)]) dX7_findStock_43 rfl (by decide) (fun _ => rfl) (fun zq19 eq20 => ?_)
            have tq21 : zq19.toInt = b4_3 + 1 := add_nw eq20 e4_3 (show (Int32.ofInt 1).toInt = 1 by decide) (by omega)
            refine g_goto X (tgt := 3) dX7_findStock_46 (by decide) ?_
            refine g_sub [0, 1, 2, 3, 4] rfl ?_
            exact ih3 zq19 _ tq21 (ui M_3 85 b4_3.toNat 0) (by omega) Iq17 frq18 (by omega)
          · refine g_iconst X 1 dX7_findStock_37 (by decide) ?_
            refine g_goto X (tgt := 42) dX7_findStock_38 (by decide) ?_
            refine g_zast X la_85 (b01 (show (1 : Int32).toInt = 1 by decide) (by omega)) e4_3 dX7_findStock_42 (by omega) ?_
            have ltq22 : (1 : Int32).toInt = 1 := by decide
            have Iq23 : Iv TM (ui M_3 85 b4_3.toNat 1) := I_3.putA 0 1 (show (1 : Int32).toInt = 1 by decide) (by omega) rfl
            have frq24 : Fr W_X7_findStock Mq (ui M_3 85 b4_3.toNat 1) := fr_3.ui rfl
            refine g_iinc X 0 (fun v => [(4, .int v), (0, .ref (ad 47)), (1, .int x1), (2, .int x2), (3, .int x3)]) dX7_findStock_43 rfl (by decide) (fun _ => rfl) (fun zq25 eq26 => ?_)
            have tq27 : zq25.toInt = b4_3 + 1 := add_nw eq26 e4_3 (show (Int32.ofInt 1).toInt = 1 by decide) (by omega)
            refine g_goto X (tgt := 3) dX7_findStock_46 (by decide) ?_
            refine g_sub [0, 1, 2, 3, 4] rfl ?_
            exact ih3 zq25 _ tq27 (ui M_3 85 b4_3.toNat 1) (by omega) Iq23 frq24 (by omega)
  refine g_sub [0, 1, 2, 3, 4] rfl ?_
  exact lp3 _ 0 _ (show (0 : Int32).toInt = 0 by decide) Mq (by omega) Iq0 frq0 (Nat.lt_succ_self _)
set_option maxHeartbeats 4000000 in
set_option maxRecDepth 4000 in
theorem c_X7_has (ad : Nat → Nat) (Mq : Mem) (x1 : Int32) {a1 : Int} (t1 : x1.toInt = a1) (x2 : Int32) {a2 : Int} (t2 : x2.toInt = a2) (x3 : Int32) {a3 : Int} (t3 : x3.toInt = a3) (x4 : Int32) {a4 : Int} (t4 : x4.toInt = a4) (Iq0 : Iv TM Mq) : Ctr ad yX7_has cX7_has 5 (some .int) 2 [.ref (ad 47), .int x1, .int x2, .int x3, .int x4] Mq (fun v M' => ∃ (r : Int32) (a : Int), v = some (.int r) ∧ r.toInt = a ∧ (True) ∧ Mq = M') := by
  refine ctr_of (L := [(0, .ref (ad 47)), (1, .int x1), (2, .int x2), (3, .int x3), (4, .int x4)]) (by decide) (Nat.le_of_ble_eq_true rfl) rfl ?_
  intro Γ X
  have X : gX Γ cX7_has RX7 5 (some .int) 2 ad _ := X
  have g11 := ig_47_11 Iq0
  have g12 := ig_47_12 Iq0
  have g14 := ig_47_14 Iq0
  have g32 := ig_47_32 Iq0
  have g43 := ig_47_43 Iq0
  have g44 := ig_47_44 Iq0
  have g52 := ig_47_52 Iq0
  have g53 := ig_47_53 Iq0
  have g59 := ig_47_59 Iq0
  refine g_aload_n X 0 rfl dX7_has_0 ?_
  refine g_iload_n X 1 rfl dX7_has_1 ?_
  refine g_callV X m_X7_260 (c_X7_isSinger ad Mq x1 t1) rfl (by decide) (Nat.le_of_ble_eq_true rfl) rfl dX7_has_2 ?_
  rintro _ _ ⟨rq1, aq2, rfl, tq3, hq4, rfl⟩
  show G Γ Mq 5 [(0, .ref (ad 47)), (1, .int x1), (2, .int x2), (3, .int x3), (4, .int x4)] [.int rq1]
  refine g_if_eq X tq3 (tgt := 25) dX7_has_5 (by decide) (fun cq5 => ?_) (fun cq5 => ?_)
  · have pq6 : ¬ (0 ≤ a1 ∧ a1 < ((Mq.1 47 52)).toInt) := by omega
    clear hq4 cq5 tq3
    refine g_iconst X (-1) dX7_has_25 (by decide) ?_
    exact g_iret X dX7_has_26 ⟨_, _, rfl, (show ((-1) : Int32).toInt = (-1) by decide), trivial, rfl⟩
  · have pq7 : (0 ≤ a1 ∧ a1 < ((Mq.1 47 52)).toInt) := by omega
    clear hq4 cq5 tq3
    refine g_aload_n X 0 rfl dX7_has_8 ?_
    refine g_iload_n X 2 rfl dX7_has_9 ?_
    refine g_callV X m_X7_186 (c_X7_isLine ad Mq x2 t2) rfl (by decide) (Nat.le_of_ble_eq_true rfl) rfl dX7_has_10 ?_
    rintro _ _ ⟨rq8, aq9, rfl, tq10, hq11, rfl⟩
    show G Γ Mq 13 [(0, .ref (ad 47)), (1, .int x1), (2, .int x2), (3, .int x3), (4, .int x4)] [.int rq8]
    refine g_if_eq X tq10 (tgt := 25) dX7_has_13 (by decide) (fun cq12 => ?_) (fun cq12 => ?_)
    · have pq13 : ¬ (0 ≤ a2 ∧ a2 < ((Mq.1 47 12)).toInt) := by omega
      clear hq11 cq12 tq10
      refine g_iconst X (-1) dX7_has_25 (by decide) ?_
      exact g_iret X dX7_has_26 ⟨_, _, rfl, (show ((-1) : Int32).toInt = (-1) by decide), trivial, rfl⟩
    · have pq14 : (0 ≤ a2 ∧ a2 < ((Mq.1 47 12)).toInt) := by omega
      clear hq11 cq12 tq10
      refine g_aload_n X 0 rfl dX7_has_16 ?_
      refine g_iload X 4 rfl dX7_has_17 ?_
      refine g_callV X m_X7_326 (c_X7_isKnown ad Mq x4 t4) rfl (by decide) (Nat.le_of_ble_eq_true rfl) rfl dX7_has_19 ?_
      rintro _ _ ⟨rq15, aq16, rfl, tq17, hq18, rfl⟩
      show G Γ Mq 22 [(0, .ref (ad 47)), (1, .int x1), (2, .int x2), (3, .int x3), (4, .int x4)] [.int rq15]
      refine g_if_ne X tq17 (tgt := 27) dX7_has_22 (by decide) (fun cq19 => ?_) (fun cq19 => ?_)
      · have pq20 : (-1 ≤ a4 ∧ a4 ≤ ((Mq.1 47 53)).toInt) := by omega
        clear hq18 cq19 tq17
        refine g_iload_n X 3 rfl dX7_has_27 ?_
        refine g_callS X m_X7_263 (c_X7_isYear ad Mq x3 t3) rfl (by decide) (Nat.le_of_ble_eq_true rfl) rfl dX7_has_28 ?_
        rintro _ _ ⟨rq21, aq22, rfl, tq23, hq24, rfl⟩
        show G Γ Mq 31 [(0, .ref (ad 47)), (1, .int x1), (2, .int x2), (3, .int x3), (4, .int x4)] [.int rq21]
        refine g_if_ne X tq23 (tgt := 37) dX7_has_31 (by decide) (fun cq25 => ?_) (fun cq25 => ?_)
        · have pq26 : (0 ≤ a3 ∧ a3 ≤ 999) := by omega
          clear hq24 cq25 tq23
          refine g_aload_n X 0 rfl dX7_has_37 ?_
          refine g_iload_n X 1 rfl dX7_has_38 ?_
          refine g_iload_n X 2 rfl dX7_has_39 ?_
          refine g_iload_n X 3 rfl dX7_has_40 ?_
          refine g_aload_n X 0 rfl dX7_has_41 ?_
          refine g_iload X 4 rfl dX7_has_42 ?_
          refine g_callV X m_X7_329 (c_X7_upTo ad Mq x4 t4) rfl (by decide) (Nat.le_of_ble_eq_true rfl) rfl dX7_has_44 ?_
          rintro _ _ ⟨rq27, aq28, rfl, tq29, hq30, rfl⟩
          show G Γ Mq 47 [(0, .ref (ad 47)), (1, .int x1), (2, .int x2), (3, .int x3), (4, .int x4)] [.int rq27, .int x3, .int x2, .int x1, .ref (ad 47)]
          refine g_callV X m_X7_322 (c_X7_hasLine ad Mq x1 t1 x2 t2 x3 t3 rq27 tq29 Iq0 (by omega)) rfl (by decide) (Nat.le_of_ble_eq_true rfl) rfl dX7_has_47 ?_
          rintro _ _ ⟨rq31, aq32, rfl, tq33, hq34, rfl⟩
          show G Γ Mq 50 [(0, .ref (ad 47)), (1, .int x1), (2, .int x2), (3, .int x3), (4, .int x4)] [.int rq31]
          refine g_if_eq X tq33 (tgt := 57) dX7_has_50 (by decide) (fun cq35 => ?_) (fun cq35 => ?_)
          · refine g_iconst X 0 dX7_has_57 (by decide) ?_
            exact g_iret X dX7_has_58 ⟨_, _, rfl, (show (0 : Int32).toInt = 0 by decide), trivial, rfl⟩
          · refine g_iconst X 1 dX7_has_53 (by decide) ?_
            refine g_goto X (tgt := 58) dX7_has_54 (by decide) ?_
            exact g_iret X dX7_has_58 ⟨_, _, rfl, (show (1 : Int32).toInt = 1 by decide), trivial, rfl⟩
        · have pq36 : ¬ (0 ≤ a3 ∧ a3 ≤ 999) := by omega
          clear hq24 cq25 tq23
          refine g_bipush X (-2) dX7_has_34 (by decide) ?_
          exact g_iret X dX7_has_36 ⟨_, _, rfl, (show ((-2) : Int32).toInt = (-2) by decide), trivial, rfl⟩
      · have pq37 : ¬ (-1 ≤ a4 ∧ a4 ≤ ((Mq.1 47 53)).toInt) := by omega
        clear hq18 cq19 tq17
        refine g_iconst X (-1) dX7_has_25 (by decide) ?_
        exact g_iret X dX7_has_26 ⟨_, _, rfl, (show ((-1) : Int32).toInt = (-1) by decide), trivial, rfl⟩
set_option maxHeartbeats 4000000 in
set_option maxRecDepth 4000 in
theorem c_X7_stock (ad : Nat → Nat) (Mq : Mem) (x1 : Int32) {a1 : Int} (t1 : x1.toInt = a1) (x2 : Int32) {a2 : Int} (t2 : x2.toInt = a2) (x3 : Int32) {a3 : Int} (t3 : x3.toInt = a3) (Iq0 : Iv TM Mq) : Ctr ad yX7_stock cX7_stock 6 (some .int) 2 [.ref (ad 47), .int x1, .int x2, .int x3] Mq (fun v M' => ∃ (r : Int32) (a : Int), v = some (.int r) ∧ r.toInt = a ∧ (True) ∧ Mq = M') := by
  refine ctr_of (L := [(0, .ref (ad 47)), (1, .int x1), (2, .int x2), (3, .int x3)]) (by decide) (Nat.le_of_ble_eq_true rfl) rfl ?_
  intro Γ X
  have X : gX Γ cX7_stock RX7 6 (some .int) 2 ad _ := X
  have g11 := ig_47_11 Iq0
  have g12 := ig_47_12 Iq0
  have g14 := ig_47_14 Iq0
  have g32 := ig_47_32 Iq0
  have g43 := ig_47_43 Iq0
  have g44 := ig_47_44 Iq0
  have g52 := ig_47_52 Iq0
  have g53 := ig_47_53 Iq0
  have g59 := ig_47_59 Iq0
  refine g_aload_n X 0 rfl dX7_stock_0 ?_
  refine g_iload_n X 1 rfl dX7_stock_1 ?_
  refine g_callV X m_X7_260 (c_X7_isSinger ad Mq x1 t1) rfl (by decide) (Nat.le_of_ble_eq_true rfl) rfl dX7_stock_2 ?_
  rintro _ _ ⟨rq1, aq2, rfl, tq3, hq4, rfl⟩
  show G Γ Mq 5 [(0, .ref (ad 47)), (1, .int x1), (2, .int x2), (3, .int x3)] [.int rq1]
  refine g_if_eq X tq3 (tgt := 16) dX7_stock_5 (by decide) (fun cq5 => ?_) (fun cq5 => ?_)
  · have pq6 : ¬ (0 ≤ a1 ∧ a1 < ((Mq.1 47 52)).toInt) := by omega
    clear hq4 cq5 tq3
    refine g_iconst X (-1) dX7_stock_16 (by decide) ?_
    exact g_iret X dX7_stock_17 ⟨_, _, rfl, (show ((-1) : Int32).toInt = (-1) by decide), trivial, rfl⟩
  · have pq7 : (0 ≤ a1 ∧ a1 < ((Mq.1 47 52)).toInt) := by omega
    clear hq4 cq5 tq3
    refine g_aload_n X 0 rfl dX7_stock_8 ?_
    refine g_iload_n X 3 rfl dX7_stock_9 ?_
    refine g_callV X m_X7_326 (c_X7_isKnown ad Mq x3 t3) rfl (by decide) (Nat.le_of_ble_eq_true rfl) rfl dX7_stock_10 ?_
    rintro _ _ ⟨rq8, aq9, rfl, tq10, hq11, rfl⟩
    show G Γ Mq 13 [(0, .ref (ad 47)), (1, .int x1), (2, .int x2), (3, .int x3)] [.int rq8]
    refine g_if_ne X tq10 (tgt := 18) dX7_stock_13 (by decide) (fun cq12 => ?_) (fun cq12 => ?_)
    · have pq13 : (-1 ≤ a3 ∧ a3 ≤ ((Mq.1 47 53)).toInt) := by omega
      clear hq11 cq12 tq10
      refine g_iload_n X 2 rfl dX7_stock_18 ?_
      refine g_callS X m_X7_263 (c_X7_isYear ad Mq x2 t2) rfl (by decide) (Nat.le_of_ble_eq_true rfl) rfl dX7_stock_19 ?_
      rintro _ _ ⟨rq14, aq15, rfl, tq16, hq17, rfl⟩
      show G Γ Mq 22 [(0, .ref (ad 47)), (1, .int x1), (2, .int x2), (3, .int x3)] [.int rq14]
      refine g_if_ne X tq16 (tgt := 28) dX7_stock_22 (by decide) (fun cq18 => ?_) (fun cq18 => ?_)
      · have pq19 : (0 ≤ a2 ∧ a2 ≤ 999) := by omega
        clear hq17 cq18 tq16
        refine g_iconst X 0 dX7_stock_28 (by decide) ?_
        refine g_istore X [(4, .int 0), (0, .ref (ad 47)), (1, .int x1), (2, .int x2), (3, .int x3)] dX7_stock_29 (by decide) rfl ?_
        refine g_iconst X 0 dX7_stock_31 (by decide) ?_
        refine g_istore X [(5, .int 0), (4, .int 0), (0, .ref (ad 47)), (1, .int x1), (2, .int x2), (3, .int x3)] dX7_stock_32 (by decide) rfl ?_
        have lp34 : ∀ n : Nat, ∀ (y5_34 : Int32) (b5_34 : Int), y5_34.toInt = b5_34 → ∀ (y4_34 : Int32) (b4_34 : Int), y4_34.toInt = b4_34 → (0 ≤ b5_34) → ((Mq.1 47 12).toInt - b5_34).toNat < n → G Γ Mq 34 [(5, .int y5_34), (4, .int y4_34), (0, .ref (ad 47)), (1, .int x1), (2, .int x2), (3, .int x3)] [] := by
          intro n
          induction n with
          | zero => intro y5_34 b5_34 e5_34 y4_34 b4_34 e4_34 i1 hm; exact absurd hm (Nat.not_lt_zero _)
          | succ n ih34 =>
            intro y5_34 b5_34 e5_34 y4_34 b4_34 e4_34 i1 hm34
            refine g_iload X 0 rfl dX7_stock_34 ?_
            refine g_aload_n X 2 rfl dX7_stock_36 ?_
            refine g_geti X f_X7_147 dX7_stock_37 (x := Mq.1 47 12) rfl ?_
            have bq20 := ig_47_12 Iq0
            refine g_icmp_ge X e5_34 rfl (tgt := 75) dX7_stock_40 (by decide) (fun cq21 => ?_) (fun cq21 => ?_)
            · refine g_iload X 1 rfl dX7_stock_75 ?_
              exact g_iret X dX7_stock_77 ⟨_, _, rfl, e4_34, trivial, rfl⟩
            · refine g_iload X 1 rfl dX7_stock_43 ?_
              refine g_aload_n X 2 rfl dX7_stock_45 ?_
              refine g_iload_n X 3 rfl dX7_stock_46 ?_
              refine g_iload X 0 rfl dX7_stock_47 ?_
              refine g_iload_n X 4 rfl dX7_stock_49 ?_
              refine g_aload_n X 2 rfl dX7_stock_50 ?_
              refine g_iload_n X 5 rfl dX7_stock_51 ?_
              refine g_callV X m_X7_329 (c_X7_upTo ad Mq x3 t3) rfl (by decide) (Nat.le_of_ble_eq_true rfl) rfl dX7_stock_52 ?_
              rintro _ _ ⟨rq22, aq23, rfl, tq24, hq25, rfl⟩
              show G Γ Mq 55 [(5, .int y5_34), (4, .int y4_34), (0, .ref (ad 47)), (1, .int x1), (2, .int x2), (3, .int x3)] [.int rq22, .int x2, .int y5_34, .int x1, .ref (ad 47), .int y4_34]
              refine g_callV X m_X7_322 (c_X7_hasLine ad Mq x1 t1 y5_34 e5_34 x2 t2 rq22 tq24 Iq0 (by omega)) rfl (by decide) (Nat.le_of_ble_eq_true rfl) rfl dX7_stock_55 ?_
              rintro _ _ ⟨rq26, aq27, rfl, tq28, hq29, rfl⟩
              show G Γ Mq 58 [(5, .int y5_34), (4, .int y4_34), (0, .ref (ad 47)), (1, .int x1), (2, .int x2), (3, .int x3)] [.int rq26, .int y4_34]
              refine g_if_eq X tq28 (tgt := 65) dX7_stock_58 (by decide) (fun cq30 => ?_) (fun cq30 => ?_)
              · refine g_iconst X 0 dX7_stock_65 (by decide) ?_
                refine g_iadd X dX7_stock_66 (fun zq31 eq32 => ?_)
                refine g_istore X [(4, .int zq31), (5, .int y5_34), (0, .ref (ad 47)), (1, .int x1), (2, .int x2), (3, .int x3)] dX7_stock_67 (by decide) rfl ?_
                refine g_iinc X 1 (fun v => [(5, .int v), (4, .int zq31), (0, .ref (ad 47)), (1, .int x1), (2, .int x2), (3, .int x3)]) dX7_stock_69 rfl (by decide) (fun _ => rfl) (fun zq34 eq35 => ?_)
                have tq36 : zq34.toInt = b5_34 + 1 := add_nw eq35 e5_34 (show (Int32.ofInt 1).toInt = 1 by decide) (by omega)
                refine g_goto X (tgt := 34) dX7_stock_72 (by decide) ?_
                refine g_sub [0, 1, 2, 3, 4, 5] rfl ?_
                exact ih34 zq34 _ tq36 zq31 _ rfl (by omega) (by omega)
              · refine g_iconst X 1 dX7_stock_61 (by decide) ?_
                refine g_goto X (tgt := 66) dX7_stock_62 (by decide) ?_
                refine g_iadd X dX7_stock_66 (fun zq37 eq38 => ?_)
                refine g_istore X [(4, .int zq37), (5, .int y5_34), (0, .ref (ad 47)), (1, .int x1), (2, .int x2), (3, .int x3)] dX7_stock_67 (by decide) rfl ?_
                refine g_iinc X 1 (fun v => [(5, .int v), (4, .int zq37), (0, .ref (ad 47)), (1, .int x1), (2, .int x2), (3, .int x3)]) dX7_stock_69 rfl (by decide) (fun _ => rfl) (fun zq40 eq41 => ?_)
                have tq42 : zq40.toInt = b5_34 + 1 := add_nw eq41 e5_34 (show (Int32.ofInt 1).toInt = 1 by decide) (by omega)
                refine g_goto X (tgt := 34) dX7_stock_72 (by decide) ?_
                refine g_sub [0, 1, 2, 3, 4, 5] rfl ?_
                exact ih34 zq40 _ tq42 zq37 _ rfl (by omega) (by omega)
        refine g_sub [0, 1, 2, 3, 4, 5] rfl ?_
        exact lp34 _ 0 _ (show (0 : Int32).toInt = 0 by decide) 0 _ (show (0 : Int32).toInt = 0 by decide) (by omega) (Nat.lt_succ_self _)
      · have pq43 : ¬ (0 ≤ a2 ∧ a2 ≤ 999) := by omega
        clear hq17 cq18 tq16
        refine g_bipush X (-2) dX7_stock_25 (by decide) ?_
        exact g_iret X dX7_stock_27 ⟨_, _, rfl, (show ((-2) : Int32).toInt = (-2) by decide), trivial, rfl⟩
    · have pq44 : ¬ (-1 ≤ a3 ∧ a3 ≤ ((Mq.1 47 53)).toInt) := by omega
      clear hq11 cq12 tq10
      refine g_iconst X (-1) dX7_stock_16 (by decide) ?_
      exact g_iret X dX7_stock_17 ⟨_, _, rfl, (show ((-1) : Int32).toInt = (-1) by decide), trivial, rfl⟩
set_option maxHeartbeats 4000000 in
set_option maxRecDepth 4000 in
theorem c_X7_unlikeBy (ad : Nat → Nat) (Mq : Mem) (x1 : Int32) {a1 : Int} (t1 : x1.toInt = a1) (x2 : Int32) {a2 : Int} (t2 : x2.toInt = a2) (x3 : Int32) {a3 : Int} (t3 : x3.toInt = a3) (x4 : Int32) {a4 : Int} (t4 : x4.toInt = a4) (Iq0 : Iv TM Mq) (h4 : a4 ≤ 200) : Ctr ad yX7_unlikeBy cX7_unlikeBy 7 (some .int) 1 [.ref (ad 47), .int x1, .int x2, .int x3, .int x4] Mq (fun v M' => ∃ (r : Int32) (a : Int), v = some (.int r) ∧ r.toInt = a ∧ (0 ≤ a ∧ a ≤ 40) ∧ Mq = M') := by
  refine ctr_of (L := [(0, .ref (ad 47)), (1, .int x1), (2, .int x2), (3, .int x3), (4, .int x4)]) (by decide) (Nat.le_of_ble_eq_true rfl) rfl ?_
  intro Γ X
  have X : gX Γ cX7_unlikeBy RX7 7 (some .int) 1 ad _ := X
  have g11 := ig_47_11 Iq0
  have g12 := ig_47_12 Iq0
  have g14 := ig_47_14 Iq0
  have g32 := ig_47_32 Iq0
  have g43 := ig_47_43 Iq0
  have g44 := ig_47_44 Iq0
  have g52 := ig_47_52 Iq0
  have g53 := ig_47_53 Iq0
  have g59 := ig_47_59 Iq0
  refine g_iconst X 0 dX7_unlikeBy_0 (by decide) ?_
  refine g_istore X [(5, .int 0), (0, .ref (ad 47)), (1, .int x1), (2, .int x2), (3, .int x3), (4, .int x4)] dX7_unlikeBy_1 (by decide) rfl ?_
  refine g_iconst X 0 dX7_unlikeBy_3 (by decide) ?_
  refine g_istore X [(6, .int 0), (5, .int 0), (0, .ref (ad 47)), (1, .int x1), (2, .int x2), (3, .int x3), (4, .int x4)] dX7_unlikeBy_4 (by decide) rfl ?_
  have lp6 : ∀ n : Nat, ∀ (y6_6 : Int32) (b6_6 : Int), y6_6.toInt = b6_6 → ∀ (y5_6 : Int32) (b5_6 : Int), y5_6.toInt = b5_6 → (0 ≤ b6_6 ∧ b6_6 ≤ (Mq.1 47 12).toInt) → (0 ≤ b5_6 ∧ b5_6 ≤ b6_6) → ((Mq.1 47 12).toInt - b6_6).toNat < n → G Γ Mq 6 [(6, .int y6_6), (5, .int y5_6), (0, .ref (ad 47)), (1, .int x1), (2, .int x2), (3, .int x3), (4, .int x4)] [] := by
    intro n
    induction n with
    | zero => intro y6_6 b6_6 e6_6 y5_6 b5_6 e5_6 i1 i2 hm; exact absurd hm (Nat.not_lt_zero _)
    | succ n ih6 =>
      intro y6_6 b6_6 e6_6 y5_6 b5_6 e5_6 i1 i2 hm6
      refine g_iload X 0 rfl dX7_unlikeBy_6 ?_
      refine g_aload_n X 2 rfl dX7_unlikeBy_8 ?_
      refine g_geti X f_X7_147 dX7_unlikeBy_9 (x := Mq.1 47 12) rfl ?_
      have bq1 := ig_47_12 Iq0
      refine g_icmp_ge X e6_6 rfl (tgt := 54) dX7_unlikeBy_12 (by decide) (fun cq2 => ?_) (fun cq2 => ?_)
      · refine g_iload X 1 rfl dX7_unlikeBy_54 ?_
        exact g_iret X dX7_unlikeBy_56 ⟨_, _, rfl, e5_6, (by omega), rfl⟩
      · refine g_iload X 1 rfl dX7_unlikeBy_15 ?_
        refine g_aload_n X 2 rfl dX7_unlikeBy_17 ?_
        refine g_iload_n X 3 rfl dX7_unlikeBy_18 ?_
        refine g_iload X 0 rfl dX7_unlikeBy_19 ?_
        refine g_iload_n X 5 rfl dX7_unlikeBy_21 ?_
        refine g_iload X 6 rfl dX7_unlikeBy_22 ?_
        refine g_callV X m_X7_322 (c_X7_hasLine ad Mq x1 t1 y6_6 e6_6 x3 t3 x4 t4 Iq0 (by omega)) rfl (by decide) (Nat.le_of_ble_eq_true rfl) rfl dX7_unlikeBy_24 ?_
        rintro _ _ ⟨rq3, aq4, rfl, tq5, hq6, rfl⟩
        show G Γ Mq 27 [(6, .int y6_6), (5, .int y5_6), (0, .ref (ad 47)), (1, .int x1), (2, .int x2), (3, .int x3), (4, .int x4)] [.int rq3, .int y5_6]
        refine g_aload_n X 2 rfl dX7_unlikeBy_27 ?_
        refine g_iload_n X 4 rfl dX7_unlikeBy_28 ?_
        refine g_iload X 0 rfl dX7_unlikeBy_29 ?_
        refine g_iload_n X 5 rfl dX7_unlikeBy_31 ?_
        refine g_iload X 6 rfl dX7_unlikeBy_32 ?_
        refine g_callV X m_X7_322 (c_X7_hasLine ad Mq x2 t2 y6_6 e6_6 x3 t3 x4 t4 Iq0 (by omega)) rfl (by decide) (Nat.le_of_ble_eq_true rfl) rfl dX7_unlikeBy_34 ?_
        rintro _ _ ⟨rq7, aq8, rfl, tq9, hq10, rfl⟩
        show G Γ Mq 37 [(6, .int y6_6), (5, .int y5_6), (0, .ref (ad 47)), (1, .int x1), (2, .int x2), (3, .int x3), (4, .int x4)] [.int rq7, .int rq3, .int y5_6]
        refine g_icmp_eq X tq5 tq9 (tgt := 44) dX7_unlikeBy_37 (by decide) (fun cq11 => ?_) (fun cq11 => ?_)
        · refine g_iconst X 0 dX7_unlikeBy_44 (by decide) ?_
          refine g_iadd X dX7_unlikeBy_45 (fun zq12 eq13 => ?_)
          have tq14 : zq12.toInt = b5_6 + 0 := add_nw eq13 e5_6 (show (0 : Int32).toInt = 0 by decide) (by omega)
          refine g_istore X [(5, .int zq12), (6, .int y6_6), (0, .ref (ad 47)), (1, .int x1), (2, .int x2), (3, .int x3), (4, .int x4)] dX7_unlikeBy_46 (by decide) rfl ?_
          refine g_iinc X 1 (fun v => [(6, .int v), (5, .int zq12), (0, .ref (ad 47)), (1, .int x1), (2, .int x2), (3, .int x3), (4, .int x4)]) dX7_unlikeBy_48 rfl (by decide) (fun _ => rfl) (fun zq15 eq16 => ?_)
          have tq17 : zq15.toInt = b6_6 + 1 := add_nw eq16 e6_6 (show (Int32.ofInt 1).toInt = 1 by decide) (by omega)
          refine g_goto X (tgt := 6) dX7_unlikeBy_51 (by decide) ?_
          refine g_sub [0, 1, 2, 3, 4, 5, 6] rfl ?_
          exact ih6 zq15 _ tq17 zq12 _ tq14 (by omega) (by omega) (by omega)
        · refine g_iconst X 1 dX7_unlikeBy_40 (by decide) ?_
          refine g_goto X (tgt := 45) dX7_unlikeBy_41 (by decide) ?_
          refine g_iadd X dX7_unlikeBy_45 (fun zq18 eq19 => ?_)
          have tq20 : zq18.toInt = b5_6 + 1 := add_nw eq19 e5_6 (show (1 : Int32).toInt = 1 by decide) (by omega)
          refine g_istore X [(5, .int zq18), (6, .int y6_6), (0, .ref (ad 47)), (1, .int x1), (2, .int x2), (3, .int x3), (4, .int x4)] dX7_unlikeBy_46 (by decide) rfl ?_
          refine g_iinc X 1 (fun v => [(6, .int v), (5, .int zq18), (0, .ref (ad 47)), (1, .int x1), (2, .int x2), (3, .int x3), (4, .int x4)]) dX7_unlikeBy_48 rfl (by decide) (fun _ => rfl) (fun zq21 eq22 => ?_)
          have tq23 : zq21.toInt = b6_6 + 1 := add_nw eq22 e6_6 (show (Int32.ofInt 1).toInt = 1 by decide) (by omega)
          refine g_goto X (tgt := 6) dX7_unlikeBy_51 (by decide) ?_
          refine g_sub [0, 1, 2, 3, 4, 5, 6] rfl ?_
          exact ih6 zq21 _ tq23 zq18 _ tq20 (by omega) (by omega) (by omega)
  refine g_sub [0, 1, 2, 3, 4, 5, 6] rfl ?_
  exact lp6 _ 0 _ (show (0 : Int32).toInt = 0 by decide) 0 _ (show (0 : Int32).toInt = 0 by decide) (by omega) (by omega) (Nat.lt_succ_self _)
set_option maxHeartbeats 4000000 in
set_option maxRecDepth 4000 in
theorem c_X7_unlike (ad : Nat → Nat) (Mq : Mem) (x1 : Int32) {a1 : Int} (t1 : x1.toInt = a1) (x2 : Int32) {a2 : Int} (t2 : x2.toInt = a2) (x3 : Int32) {a3 : Int} (t3 : x3.toInt = a3) (x4 : Int32) {a4 : Int} (t4 : x4.toInt = a4) (Iq0 : Iv TM Mq) : Ctr ad yX7_unlike cX7_unlike 5 (some .int) 2 [.ref (ad 47), .int x1, .int x2, .int x3, .int x4] Mq (fun v M' => ∃ (r : Int32) (a : Int), v = some (.int r) ∧ r.toInt = a ∧ (True) ∧ Mq = M') := by
  refine ctr_of (L := [(0, .ref (ad 47)), (1, .int x1), (2, .int x2), (3, .int x3), (4, .int x4)]) (by decide) (Nat.le_of_ble_eq_true rfl) rfl ?_
  intro Γ X
  have X : gX Γ cX7_unlike RX7 5 (some .int) 2 ad _ := X
  have g11 := ig_47_11 Iq0
  have g12 := ig_47_12 Iq0
  have g14 := ig_47_14 Iq0
  have g32 := ig_47_32 Iq0
  have g43 := ig_47_43 Iq0
  have g44 := ig_47_44 Iq0
  have g52 := ig_47_52 Iq0
  have g53 := ig_47_53 Iq0
  have g59 := ig_47_59 Iq0
  refine g_aload_n X 0 rfl dX7_unlike_0 ?_
  refine g_iload_n X 1 rfl dX7_unlike_1 ?_
  refine g_callV X m_X7_260 (c_X7_isSinger ad Mq x1 t1) rfl (by decide) (Nat.le_of_ble_eq_true rfl) rfl dX7_unlike_2 ?_
  rintro _ _ ⟨rq1, aq2, rfl, tq3, hq4, rfl⟩
  show G Γ Mq 5 [(0, .ref (ad 47)), (1, .int x1), (2, .int x2), (3, .int x3), (4, .int x4)] [.int rq1]
  refine g_if_eq X tq3 (tgt := 25) dX7_unlike_5 (by decide) (fun cq5 => ?_) (fun cq5 => ?_)
  · have pq6 : ¬ (0 ≤ a1 ∧ a1 < ((Mq.1 47 52)).toInt) := by omega
    clear hq4 cq5 tq3
    refine g_iconst X (-1) dX7_unlike_25 (by decide) ?_
    exact g_iret X dX7_unlike_26 ⟨_, _, rfl, (show ((-1) : Int32).toInt = (-1) by decide), trivial, rfl⟩
  · have pq7 : (0 ≤ a1 ∧ a1 < ((Mq.1 47 52)).toInt) := by omega
    clear hq4 cq5 tq3
    refine g_aload_n X 0 rfl dX7_unlike_8 ?_
    refine g_iload_n X 2 rfl dX7_unlike_9 ?_
    refine g_callV X m_X7_260 (c_X7_isSinger ad Mq x2 t2) rfl (by decide) (Nat.le_of_ble_eq_true rfl) rfl dX7_unlike_10 ?_
    rintro _ _ ⟨rq8, aq9, rfl, tq10, hq11, rfl⟩
    show G Γ Mq 13 [(0, .ref (ad 47)), (1, .int x1), (2, .int x2), (3, .int x3), (4, .int x4)] [.int rq8]
    refine g_if_eq X tq10 (tgt := 25) dX7_unlike_13 (by decide) (fun cq12 => ?_) (fun cq12 => ?_)
    · have pq13 : ¬ (0 ≤ a2 ∧ a2 < ((Mq.1 47 52)).toInt) := by omega
      clear hq11 cq12 tq10
      refine g_iconst X (-1) dX7_unlike_25 (by decide) ?_
      exact g_iret X dX7_unlike_26 ⟨_, _, rfl, (show ((-1) : Int32).toInt = (-1) by decide), trivial, rfl⟩
    · have pq14 : (0 ≤ a2 ∧ a2 < ((Mq.1 47 52)).toInt) := by omega
      clear hq11 cq12 tq10
      refine g_aload_n X 0 rfl dX7_unlike_16 ?_
      refine g_iload X 4 rfl dX7_unlike_17 ?_
      refine g_callV X m_X7_326 (c_X7_isKnown ad Mq x4 t4) rfl (by decide) (Nat.le_of_ble_eq_true rfl) rfl dX7_unlike_19 ?_
      rintro _ _ ⟨rq15, aq16, rfl, tq17, hq18, rfl⟩
      show G Γ Mq 22 [(0, .ref (ad 47)), (1, .int x1), (2, .int x2), (3, .int x3), (4, .int x4)] [.int rq15]
      refine g_if_ne X tq17 (tgt := 27) dX7_unlike_22 (by decide) (fun cq19 => ?_) (fun cq19 => ?_)
      · have pq20 : (-1 ≤ a4 ∧ a4 ≤ ((Mq.1 47 53)).toInt) := by omega
        clear hq18 cq19 tq17
        refine g_iload_n X 3 rfl dX7_unlike_27 ?_
        refine g_callS X m_X7_263 (c_X7_isYear ad Mq x3 t3) rfl (by decide) (Nat.le_of_ble_eq_true rfl) rfl dX7_unlike_28 ?_
        rintro _ _ ⟨rq21, aq22, rfl, tq23, hq24, rfl⟩
        show G Γ Mq 31 [(0, .ref (ad 47)), (1, .int x1), (2, .int x2), (3, .int x3), (4, .int x4)] [.int rq21]
        refine g_if_eq X tq23 (tgt := 50) dX7_unlike_31 (by decide) (fun cq25 => ?_) (fun cq25 => ?_)
        · have pq26 : ¬ (0 ≤ a3 ∧ a3 ≤ 999) := by omega
          clear hq24 cq25 tq23
          refine g_bipush X (-2) dX7_unlike_50 (by decide) ?_
          exact g_iret X dX7_unlike_52 ⟨_, _, rfl, (show ((-2) : Int32).toInt = (-2) by decide), trivial, rfl⟩
        · have pq27 : (0 ≤ a3 ∧ a3 ≤ 999) := by omega
          clear hq24 cq25 tq23
          refine g_aload_n X 0 rfl dX7_unlike_34 ?_
          refine g_iload_n X 1 rfl dX7_unlike_35 ?_
          refine g_iload_n X 2 rfl dX7_unlike_36 ?_
          refine g_iload_n X 3 rfl dX7_unlike_37 ?_
          refine g_aload_n X 0 rfl dX7_unlike_38 ?_
          refine g_iload X 4 rfl dX7_unlike_39 ?_
          refine g_callV X m_X7_329 (c_X7_upTo ad Mq x4 t4) rfl (by decide) (Nat.le_of_ble_eq_true rfl) rfl dX7_unlike_41 ?_
          rintro _ _ ⟨rq28, aq29, rfl, tq30, hq31, rfl⟩
          show G Γ Mq 44 [(0, .ref (ad 47)), (1, .int x1), (2, .int x2), (3, .int x3), (4, .int x4)] [.int rq28, .int x3, .int x2, .int x1, .ref (ad 47)]
          refine g_callV X m_X7_332 (c_X7_unlikeBy ad Mq x1 t1 x2 t2 x3 t3 rq28 tq30 Iq0 (by omega)) rfl (by decide) (Nat.le_of_ble_eq_true rfl) rfl dX7_unlike_44 ?_
          rintro _ _ ⟨rq32, aq33, rfl, tq34, hq35, rfl⟩
          show G Γ Mq 47 [(0, .ref (ad 47)), (1, .int x1), (2, .int x2), (3, .int x3), (4, .int x4)] [.int rq32]
          refine g_goto X (tgt := 52) dX7_unlike_47 (by decide) ?_
          exact g_iret X dX7_unlike_52 ⟨_, _, rfl, tq34, trivial, rfl⟩
      · have pq36 : ¬ (-1 ≤ a4 ∧ a4 ≤ ((Mq.1 47 53)).toInt) := by omega
        clear hq18 cq19 tq17
        refine g_iconst X (-1) dX7_unlike_25 (by decide) ?_
        exact g_iret X dX7_unlike_26 ⟨_, _, rfl, (show ((-1) : Int32).toInt = (-1) by decide), trivial, rfl⟩
set_option maxHeartbeats 4000000 in
set_option maxRecDepth 4000 in
theorem c_X7_masterOf (ad : Nat → Nat) (Mq : Mem) (x1 : Int32) {a1 : Int} (t1 : x1.toInt = a1) (x2 : Int32) {a2 : Int} (t2 : x2.toInt = a2) (x3 : Int32) {a3 : Int} (t3 : x3.toInt = a3) (Iq0 : Iv TM Mq) (h1 : 0 ≤ a1 ∧ a1 < (Mq.1 47 52).toInt) (h3 : a3 ≤ 200) : Ctr ad yX7_masterOf cX7_masterOf 8 (some .int) 2 [.ref (ad 47), .int x1, .int x2, .int x3] Mq (fun v M' => ∃ (r : Int32) (a : Int), v = some (.int r) ∧ r.toInt = a ∧ (a = -1 ∨ (0 ≤ a ∧ a < (Mq.1 47 52).toInt)) ∧ Mq = M') := by
  refine ctr_of (L := [(0, .ref (ad 47)), (1, .int x1), (2, .int x2), (3, .int x3)]) (by decide) (Nat.le_of_ble_eq_true rfl) rfl ?_
  intro Γ X
  have X : gX Γ cX7_masterOf RX7 8 (some .int) 2 ad _ := X
  have g11 := ig_47_11 Iq0
  have g12 := ig_47_12 Iq0
  have g14 := ig_47_14 Iq0
  have g32 := ig_47_32 Iq0
  have g43 := ig_47_43 Iq0
  have g44 := ig_47_44 Iq0
  have g52 := ig_47_52 Iq0
  have g53 := ig_47_53 Iq0
  have g59 := ig_47_59 Iq0
  refine g_iconst X (-1) dX7_masterOf_0 (by decide) ?_
  refine g_istore X [(4, .int (-1)), (0, .ref (ad 47)), (1, .int x1), (2, .int x2), (3, .int x3)] dX7_masterOf_1 (by decide) rfl ?_
  refine g_iconst X 0 dX7_masterOf_3 (by decide) ?_
  refine g_istore X [(5, .int 0), (4, .int (-1)), (0, .ref (ad 47)), (1, .int x1), (2, .int x2), (3, .int x3)] dX7_masterOf_4 (by decide) rfl ?_
  refine g_iconst X 0 dX7_masterOf_6 (by decide) ?_
  refine g_istore X [(6, .int 0), (5, .int 0), (4, .int (-1)), (0, .ref (ad 47)), (1, .int x1), (2, .int x2), (3, .int x3)] dX7_masterOf_7 (by decide) rfl ?_
  have lp9 : ∀ n : Nat, ∀ (y6_9 : Int32) (b6_9 : Int), y6_9.toInt = b6_9 → ∀ (y5_9 : Int32) (b5_9 : Int), y5_9.toInt = b5_9 → ∀ (y4_9 : Int32) (b4_9 : Int), y4_9.toInt = b4_9 → (0 ≤ b6_9) → (b4_9 = -1 ∨ (0 ≤ b4_9 ∧ b4_9 < (Mq.1 47 52).toInt)) → ((Mq.1 47 52).toInt - b6_9).toNat < n → G Γ Mq 9 [(6, .int y6_9), (5, .int y5_9), (4, .int y4_9), (0, .ref (ad 47)), (1, .int x1), (2, .int x2), (3, .int x3)] [] := by
    intro n
    induction n with
    | zero => intro y6_9 b6_9 e6_9 y5_9 b5_9 e5_9 y4_9 b4_9 e4_9 i1 i2 hm; exact absurd hm (Nat.not_lt_zero _)
    | succ n ih9 =>
      intro y6_9 b6_9 e6_9 y5_9 b5_9 e5_9 y4_9 b4_9 e4_9 i1 i2 hm9
      refine g_iload X 0 rfl dX7_masterOf_9 ?_
      refine g_aload_n X 3 rfl dX7_masterOf_11 ?_
      refine g_geti X f_X7_313 dX7_masterOf_12 (x := Mq.1 47 52) rfl ?_
      have bq1 := ig_47_52 Iq0
      refine g_icmp_ge X e6_9 rfl (tgt := 101) dX7_masterOf_15 (by decide) (fun cq2 => ?_) (fun cq2 => ?_)
      · refine g_iload X 2 rfl dX7_masterOf_101 ?_
        exact g_iret X dX7_masterOf_103 ⟨_, _, rfl, e4_9, (by omega), rfl⟩
      · refine g_aload_n X 3 rfl dX7_masterOf_18 ?_
        refine g_getr X f_X7_107 dX7_masterOf_19 ?_
        refine g_iload X 0 rfl dX7_masterOf_22 ?_
        refine g_iald X la_79 e6_9 dX7_masterOf_24 (by omega) (x := Mq.1 79 b6_9.toNat) rfl ?_
        refine g_aload_n X 3 rfl dX7_masterOf_25 ?_
        refine g_getr X f_X7_107 dX7_masterOf_26 ?_
        refine g_iload_n X 4 rfl dX7_masterOf_29 ?_
        refine g_iald X la_79 t1 dX7_masterOf_30 (by omega) (x := Mq.1 79 a1.toNat) rfl ?_
        refine g_icmp_lt X rfl rfl (tgt := 37) dX7_masterOf_31 (by decide) (fun cq3 => ?_) (fun cq3 => ?_)
        · refine g_aload_n X 3 rfl dX7_masterOf_37 ?_
          refine g_iload_n X 4 rfl dX7_masterOf_38 ?_
          refine g_iload X 0 rfl dX7_masterOf_39 ?_
          refine g_iload_n X 5 rfl dX7_masterOf_41 ?_
          refine g_iload_n X 6 rfl dX7_masterOf_42 ?_
          refine g_callV X m_X7_332 (c_X7_unlikeBy ad Mq x1 t1 y6_9 e6_9 x2 t2 x3 t3 Iq0 (by omega)) rfl (by decide) (Nat.le_of_ble_eq_true rfl) rfl dX7_masterOf_43 ?_
          rintro _ _ ⟨rq4, aq5, rfl, tq6, hq7, rfl⟩
          show G Γ Mq 46 [(6, .int y6_9), (5, .int y5_9), (4, .int y4_9), (0, .ref (ad 47)), (1, .int x1), (2, .int x2), (3, .int x3)] [.int rq4]
          refine g_istore X [(7, .int rq4), (6, .int y6_9), (5, .int y5_9), (4, .int y4_9), (0, .ref (ad 47)), (1, .int x1), (2, .int x2), (3, .int x3)] dX7_masterOf_46 (by decide) rfl ?_
          refine g_iload X 3 rfl dX7_masterOf_48 ?_
          refine g_if_lt X e4_9 (tgt := 87) dX7_masterOf_50 (by decide) (fun cq8 => ?_) (fun cq8 => ?_)
          · refine g_iload X 1 rfl dX7_masterOf_87 ?_
            refine g_istore X [(4, .int y6_9), (7, .int rq4), (6, .int y6_9), (5, .int y5_9), (0, .ref (ad 47)), (1, .int x1), (2, .int x2), (3, .int x3)] dX7_masterOf_89 (by decide) rfl ?_
            refine g_iload X 1 rfl dX7_masterOf_91 ?_
            refine g_istore X [(5, .int rq4), (4, .int y6_9), (7, .int rq4), (6, .int y6_9), (0, .ref (ad 47)), (1, .int x1), (2, .int x2), (3, .int x3)] dX7_masterOf_93 (by decide) rfl ?_
            refine g_iinc X 3 (fun v => [(6, .int v), (5, .int rq4), (4, .int y6_9), (7, .int rq4), (0, .ref (ad 47)), (1, .int x1), (2, .int x2), (3, .int x3)]) dX7_masterOf_95 rfl (by decide) (fun _ => rfl) (fun zq9 eq10 => ?_)
            have tq11 : zq9.toInt = b6_9 + 1 := add_nw eq10 e6_9 (show (Int32.ofInt 1).toInt = 1 by decide) (by omega)
            refine g_goto X (tgt := 9) dX7_masterOf_98 (by decide) ?_
            refine g_sub [0, 1, 2, 4, 5, 6, 7] rfl ?_
            exact ih9 zq9 _ tq11 rq4 _ tq6 y6_9 _ e6_9 (by omega) (by omega) (by omega)
          · refine g_iload X 0 rfl dX7_masterOf_53 ?_
            refine g_iload X 2 rfl dX7_masterOf_55 ?_
            refine g_icmp_gt X tq6 e5_9 (tgt := 95) dX7_masterOf_57 (by decide) (fun cq12 => ?_) (fun cq12 => ?_)
            · refine g_iinc X 1 (fun v => [(6, .int v), (7, .int rq4), (5, .int y5_9), (4, .int y4_9), (0, .ref (ad 47)), (1, .int x1), (2, .int x2), (3, .int x3)]) dX7_masterOf_95 rfl (by decide) (fun _ => rfl) (fun zq13 eq14 => ?_)
              have tq15 : zq13.toInt = b6_9 + 1 := add_nw eq14 e6_9 (show (Int32.ofInt 1).toInt = 1 by decide) (by omega)
              refine g_goto X (tgt := 9) dX7_masterOf_98 (by decide) ?_
              refine g_sub [0, 2, 3, 4, 5, 6, 7] rfl ?_
              exact ih9 zq13 _ tq15 y5_9 _ e5_9 y4_9 _ e4_9 (by omega) (by omega) (by omega)
            · refine g_iload X 0 rfl dX7_masterOf_60 ?_
              refine g_iload X 2 rfl dX7_masterOf_62 ?_
              refine g_icmp_ne X tq6 e5_9 (tgt := 87) dX7_masterOf_64 (by decide) (fun cq16 => ?_) (fun cq16 => ?_)
              · refine g_iload X 1 rfl dX7_masterOf_87 ?_
                refine g_istore X [(4, .int y6_9), (7, .int rq4), (6, .int y6_9), (5, .int y5_9), (0, .ref (ad 47)), (1, .int x1), (2, .int x2), (3, .int x3)] dX7_masterOf_89 (by decide) rfl ?_
                refine g_iload X 1 rfl dX7_masterOf_91 ?_
                refine g_istore X [(5, .int rq4), (4, .int y6_9), (7, .int rq4), (6, .int y6_9), (0, .ref (ad 47)), (1, .int x1), (2, .int x2), (3, .int x3)] dX7_masterOf_93 (by decide) rfl ?_
                refine g_iinc X 3 (fun v => [(6, .int v), (5, .int rq4), (4, .int y6_9), (7, .int rq4), (0, .ref (ad 47)), (1, .int x1), (2, .int x2), (3, .int x3)]) dX7_masterOf_95 rfl (by decide) (fun _ => rfl) (fun zq17 eq18 => ?_)
                have tq19 : zq17.toInt = b6_9 + 1 := add_nw eq18 e6_9 (show (Int32.ofInt 1).toInt = 1 by decide) (by omega)
                refine g_goto X (tgt := 9) dX7_masterOf_98 (by decide) ?_
                refine g_sub [0, 1, 2, 4, 5, 6, 7] rfl ?_
                exact ih9 zq17 _ tq19 rq4 _ tq6 y6_9 _ e6_9 (by omega) (by omega) (by omega)
              · refine g_aload_n X 4 rfl dX7_masterOf_67 ?_
                refine g_getr X f_X7_107 dX7_masterOf_68 ?_
                refine g_iload X 1 rfl dX7_masterOf_71 ?_
                refine g_iald X la_79 e6_9 dX7_masterOf_73 (by omega) (x := Mq.1 79 b6_9.toNat) rfl ?_
                refine g_aload_n X 4 rfl dX7_masterOf_74 ?_
                refine g_getr X f_X7_107 dX7_masterOf_75 ?_
                refine g_iload X 3 rfl dX7_masterOf_78 ?_
                refine g_iald X la_79 e4_9 dX7_masterOf_80 (by omega) (x := Mq.1 79 b4_9.toNat) rfl ?_
                refine g_icmp_gt X rfl rfl (tgt := 87) dX7_masterOf_81 (by decide) (fun cq20 => ?_) (fun cq20 => ?_)
                · refine g_iload X 1 rfl dX7_masterOf_87 ?_
                  refine g_istore X [(4, .int y6_9), (7, .int rq4), (6, .int y6_9), (5, .int y5_9), (0, .ref (ad 47)), (1, .int x1), (2, .int x2), (3, .int x3)] dX7_masterOf_89 (by decide) rfl ?_
                  refine g_iload X 1 rfl dX7_masterOf_91 ?_
                  refine g_istore X [(5, .int rq4), (4, .int y6_9), (7, .int rq4), (6, .int y6_9), (0, .ref (ad 47)), (1, .int x1), (2, .int x2), (3, .int x3)] dX7_masterOf_93 (by decide) rfl ?_
                  refine g_iinc X 3 (fun v => [(6, .int v), (5, .int rq4), (4, .int y6_9), (7, .int rq4), (0, .ref (ad 47)), (1, .int x1), (2, .int x2), (3, .int x3)]) dX7_masterOf_95 rfl (by decide) (fun _ => rfl) (fun zq21 eq22 => ?_)
                  have tq23 : zq21.toInt = b6_9 + 1 := add_nw eq22 e6_9 (show (Int32.ofInt 1).toInt = 1 by decide) (by omega)
                  refine g_goto X (tgt := 9) dX7_masterOf_98 (by decide) ?_
                  refine g_sub [0, 1, 2, 4, 5, 6, 7] rfl ?_
                  exact ih9 zq21 _ tq23 rq4 _ tq6 y6_9 _ e6_9 (by omega) (by omega) (by omega)
                · refine g_goto X (tgt := 95) dX7_masterOf_84 (by decide) ?_
                  refine g_iinc X 1 (fun v => [(6, .int v), (7, .int rq4), (5, .int y5_9), (4, .int y4_9), (0, .ref (ad 47)), (1, .int x1), (2, .int x2), (3, .int x3)]) dX7_masterOf_95 rfl (by decide) (fun _ => rfl) (fun zq24 eq25 => ?_)
                  have tq26 : zq24.toInt = b6_9 + 1 := add_nw eq25 e6_9 (show (Int32.ofInt 1).toInt = 1 by decide) (by omega)
                  refine g_goto X (tgt := 9) dX7_masterOf_98 (by decide) ?_
                  refine g_sub [0, 2, 3, 4, 5, 6, 7] rfl ?_
                  exact ih9 zq24 _ tq26 y5_9 _ e5_9 y4_9 _ e4_9 (by omega) (by omega) (by omega)
        · refine g_goto X (tgt := 95) dX7_masterOf_34 (by decide) ?_
          refine g_iinc X 0 (fun v => [(6, .int v), (5, .int y5_9), (4, .int y4_9), (0, .ref (ad 47)), (1, .int x1), (2, .int x2), (3, .int x3)]) dX7_masterOf_95 rfl (by decide) (fun _ => rfl) (fun zq27 eq28 => ?_)
          have tq29 : zq27.toInt = b6_9 + 1 := add_nw eq28 e6_9 (show (Int32.ofInt 1).toInt = 1 by decide) (by omega)
          refine g_goto X (tgt := 9) dX7_masterOf_98 (by decide) ?_
          refine g_sub [0, 1, 2, 3, 4, 5, 6] rfl ?_
          exact ih9 zq27 _ tq29 y5_9 _ e5_9 y4_9 _ e4_9 (by omega) (by omega) (by omega)
  refine g_sub [0, 1, 2, 3, 4, 5, 6] rfl ?_
  exact lp9 _ 0 _ (show (0 : Int32).toInt = 0 by decide) 0 _ (show (0 : Int32).toInt = 0 by decide) (-1) _ (show ((-1) : Int32).toInt = (-1) by decide) (by omega) (by omega) (Nat.lt_succ_self _)
set_option maxHeartbeats 4000000 in
set_option maxRecDepth 4000 in
theorem c_X7_master (ad : Nat → Nat) (Mq : Mem) (x1 : Int32) {a1 : Int} (t1 : x1.toInt = a1) (x2 : Int32) {a2 : Int} (t2 : x2.toInt = a2) (x3 : Int32) {a3 : Int} (t3 : x3.toInt = a3) (Iq0 : Iv TM Mq) : Ctr ad yX7_master cX7_master 5 (some .int) 3 [.ref (ad 47), .int x1, .int x2, .int x3] Mq (fun v M' => ∃ (r : Int32) (a : Int), v = some (.int r) ∧ r.toInt = a ∧ (True) ∧ Mq = M') := by
  refine ctr_of (L := [(0, .ref (ad 47)), (1, .int x1), (2, .int x2), (3, .int x3)]) (by decide) (Nat.le_of_ble_eq_true rfl) rfl ?_
  intro Γ X
  have X : gX Γ cX7_master RX7 5 (some .int) 3 ad _ := X
  have g11 := ig_47_11 Iq0
  have g12 := ig_47_12 Iq0
  have g14 := ig_47_14 Iq0
  have g32 := ig_47_32 Iq0
  have g43 := ig_47_43 Iq0
  have g44 := ig_47_44 Iq0
  have g52 := ig_47_52 Iq0
  have g53 := ig_47_53 Iq0
  have g59 := ig_47_59 Iq0
  refine g_aload_n X 0 rfl dX7_master_0 ?_
  refine g_iload_n X 1 rfl dX7_master_1 ?_
  refine g_callV X m_X7_260 (c_X7_isSinger ad Mq x1 t1) rfl (by decide) (Nat.le_of_ble_eq_true rfl) rfl dX7_master_2 ?_
  rintro _ _ ⟨rq1, aq2, rfl, tq3, hq4, rfl⟩
  show G Γ Mq 5 [(0, .ref (ad 47)), (1, .int x1), (2, .int x2), (3, .int x3)] [.int rq1]
  refine g_if_eq X tq3 (tgt := 16) dX7_master_5 (by decide) (fun cq5 => ?_) (fun cq5 => ?_)
  · have pq6 : ¬ (0 ≤ a1 ∧ a1 < ((Mq.1 47 52)).toInt) := by omega
    clear hq4 cq5 tq3
    refine g_iconst X (-1) dX7_master_16 (by decide) ?_
    exact g_iret X dX7_master_17 ⟨_, _, rfl, (show ((-1) : Int32).toInt = (-1) by decide), trivial, rfl⟩
  · have pq7 : (0 ≤ a1 ∧ a1 < ((Mq.1 47 52)).toInt) := by omega
    clear hq4 cq5 tq3
    refine g_aload_n X 0 rfl dX7_master_8 ?_
    refine g_iload_n X 3 rfl dX7_master_9 ?_
    refine g_callV X m_X7_326 (c_X7_isKnown ad Mq x3 t3) rfl (by decide) (Nat.le_of_ble_eq_true rfl) rfl dX7_master_10 ?_
    rintro _ _ ⟨rq8, aq9, rfl, tq10, hq11, rfl⟩
    show G Γ Mq 13 [(0, .ref (ad 47)), (1, .int x1), (2, .int x2), (3, .int x3)] [.int rq8]
    refine g_if_ne X tq10 (tgt := 18) dX7_master_13 (by decide) (fun cq12 => ?_) (fun cq12 => ?_)
    · have pq13 : (-1 ≤ a3 ∧ a3 ≤ ((Mq.1 47 53)).toInt) := by omega
      clear hq11 cq12 tq10
      refine g_iload_n X 2 rfl dX7_master_18 ?_
      refine g_callS X m_X7_263 (c_X7_isYear ad Mq x2 t2) rfl (by decide) (Nat.le_of_ble_eq_true rfl) rfl dX7_master_19 ?_
      rintro _ _ ⟨rq14, aq15, rfl, tq16, hq17, rfl⟩
      show G Γ Mq 22 [(0, .ref (ad 47)), (1, .int x1), (2, .int x2), (3, .int x3)] [.int rq14]
      refine g_if_ne X tq16 (tgt := 28) dX7_master_22 (by decide) (fun cq18 => ?_) (fun cq18 => ?_)
      · have pq19 : (0 ≤ a2 ∧ a2 ≤ 999) := by omega
        clear hq17 cq18 tq16
        refine g_aload_n X 0 rfl dX7_master_28 ?_
        refine g_iload_n X 1 rfl dX7_master_29 ?_
        refine g_iload_n X 2 rfl dX7_master_30 ?_
        refine g_aload_n X 0 rfl dX7_master_31 ?_
        refine g_iload_n X 3 rfl dX7_master_32 ?_
        refine g_callV X m_X7_329 (c_X7_upTo ad Mq x3 t3) rfl (by decide) (Nat.le_of_ble_eq_true rfl) rfl dX7_master_33 ?_
        rintro _ _ ⟨rq20, aq21, rfl, tq22, hq23, rfl⟩
        show G Γ Mq 36 [(0, .ref (ad 47)), (1, .int x1), (2, .int x2), (3, .int x3)] [.int rq20, .int x2, .int x1, .ref (ad 47)]
        refine g_callV X m_X7_336 (c_X7_masterOf ad Mq x1 t1 x2 t2 rq20 tq22 Iq0 (by omega) (by omega)) rfl (by decide) (Nat.le_of_ble_eq_true rfl) rfl dX7_master_36 ?_
        rintro _ _ ⟨rq24, aq25, rfl, tq26, hq27, rfl⟩
        show G Γ Mq 39 [(0, .ref (ad 47)), (1, .int x1), (2, .int x2), (3, .int x3)] [.int rq24]
        refine g_istore X [(4, .int rq24), (0, .ref (ad 47)), (1, .int x1), (2, .int x2), (3, .int x3)] dX7_master_39 (by decide) rfl ?_
        refine g_iload X 0 rfl dX7_master_41 ?_
        refine g_if_ge X tq26 (tgt := 51) dX7_master_43 (by decide) (fun cq28 => ?_) (fun cq28 => ?_)
        · refine g_iload X 0 rfl dX7_master_51 ?_
          exact g_iret X dX7_master_53 ⟨_, _, rfl, tq26, trivial, rfl⟩
        · refine g_bipush X (-5) dX7_master_46 (by decide) ?_
          refine g_goto X (tgt := 53) dX7_master_48 (by decide) ?_
          exact g_iret X dX7_master_53 ⟨_, _, rfl, (show ((-5) : Int32).toInt = (-5) by decide), trivial, rfl⟩
      · have pq29 : ¬ (0 ≤ a2 ∧ a2 ≤ 999) := by omega
        clear hq17 cq18 tq16
        refine g_bipush X (-2) dX7_master_25 (by decide) ?_
        exact g_iret X dX7_master_27 ⟨_, _, rfl, (show ((-2) : Int32).toInt = (-2) by decide), trivial, rfl⟩
    · have pq30 : ¬ (-1 ≤ a3 ∧ a3 ≤ ((Mq.1 47 53)).toInt) := by omega
      clear hq11 cq12 tq10
      refine g_iconst X (-1) dX7_master_16 (by decide) ?_
      exact g_iret X dX7_master_17 ⟨_, _, rfl, (show ((-1) : Int32).toInt = (-1) by decide), trivial, rfl⟩
set_option maxHeartbeats 4000000 in
set_option maxRecDepth 4000 in
theorem c_X7_lineage (ad : Nat → Nat) (Mq : Mem) (x1 : Int32) {a1 : Int} (t1 : x1.toInt = a1) (x2 : Int32) {a2 : Int} (t2 : x2.toInt = a2) (Iq0 : Iv TM Mq) : Ctr ad yX7_lineage cX7_lineage 6 (some .int) 3 [.ref (ad 47), .int x1, .int x2] Mq (fun v M' => ∃ (r : Int32) (a : Int), v = some (.int r) ∧ r.toInt = a ∧ (True) ∧ Mq = M') := by
  refine ctr_of (L := [(0, .ref (ad 47)), (1, .int x1), (2, .int x2)]) (by decide) (Nat.le_of_ble_eq_true rfl) rfl ?_
  intro Γ X
  have X : gX Γ cX7_lineage RX7 6 (some .int) 3 ad _ := X
  have g11 := ig_47_11 Iq0
  have g12 := ig_47_12 Iq0
  have g14 := ig_47_14 Iq0
  have g32 := ig_47_32 Iq0
  have g43 := ig_47_43 Iq0
  have g44 := ig_47_44 Iq0
  have g52 := ig_47_52 Iq0
  have g53 := ig_47_53 Iq0
  have g59 := ig_47_59 Iq0
  refine g_aload_n X 0 rfl dX7_lineage_0 ?_
  refine g_iload_n X 2 rfl dX7_lineage_1 ?_
  refine g_callV X m_X7_326 (c_X7_isKnown ad Mq x2 t2) rfl (by decide) (Nat.le_of_ble_eq_true rfl) rfl dX7_lineage_2 ?_
  rintro _ _ ⟨rq1, aq2, rfl, tq3, hq4, rfl⟩
  show G Γ Mq 5 [(0, .ref (ad 47)), (1, .int x1), (2, .int x2)] [.int rq1]
  refine g_if_ne X tq3 (tgt := 10) dX7_lineage_5 (by decide) (fun cq5 => ?_) (fun cq5 => ?_)
  · have pq6 : (-1 ≤ a2 ∧ a2 ≤ ((Mq.1 47 53)).toInt) := by omega
    clear hq4 cq5 tq3
    refine g_iload_n X 1 rfl dX7_lineage_10 ?_
    refine g_callS X m_X7_263 (c_X7_isYear ad Mq x1 t1) rfl (by decide) (Nat.le_of_ble_eq_true rfl) rfl dX7_lineage_11 ?_
    rintro _ _ ⟨rq7, aq8, rfl, tq9, hq10, rfl⟩
    show G Γ Mq 14 [(0, .ref (ad 47)), (1, .int x1), (2, .int x2)] [.int rq7]
    refine g_if_ne X tq9 (tgt := 20) dX7_lineage_14 (by decide) (fun cq11 => ?_) (fun cq11 => ?_)
    · have pq12 : (0 ≤ a1 ∧ a1 ≤ 999) := by omega
      clear hq10 cq11 tq9
      refine g_iconst X 0 dX7_lineage_20 (by decide) ?_
      refine g_istore_n X (i := 3) [(3, .int 0), (0, .ref (ad 47)), (1, .int x1), (2, .int x2)] dX7_lineage_21 rfl (by decide) rfl ?_
      refine g_iconst X 0 dX7_lineage_22 (by decide) ?_
      refine g_istore X [(4, .int 0), (3, .int 0), (0, .ref (ad 47)), (1, .int x1), (2, .int x2)] dX7_lineage_23 (by decide) rfl ?_
      have lp25 : ∀ n : Nat, ∀ (y4_25 : Int32) (b4_25 : Int), y4_25.toInt = b4_25 → ∀ (y3_25 : Int32) (b3_25 : Int), y3_25.toInt = b3_25 → (0 ≤ b4_25) → ((Mq.1 47 52).toInt - b4_25).toNat < n → G Γ Mq 25 [(4, .int y4_25), (3, .int y3_25), (0, .ref (ad 47)), (1, .int x1), (2, .int x2)] [] := by
        intro n
        induction n with
        | zero => intro y4_25 b4_25 e4_25 y3_25 b3_25 e3_25 i1 hm; exact absurd hm (Nat.not_lt_zero _)
        | succ n ih25 =>
          intro y4_25 b4_25 e4_25 y3_25 b3_25 e3_25 i1 hm25
          refine g_iload X 0 rfl dX7_lineage_25 ?_
          refine g_aload_n X 2 rfl dX7_lineage_27 ?_
          refine g_geti X f_X7_313 dX7_lineage_28 (x := Mq.1 47 52) rfl ?_
          have bq13 := ig_47_52 Iq0
          refine g_icmp_ge X e4_25 rfl (tgt := 80) dX7_lineage_31 (by decide) (fun cq14 => ?_) (fun cq14 => ?_)
          · refine g_iload_n X 1 rfl dX7_lineage_80 ?_
            exact g_iret X dX7_lineage_81 ⟨_, _, rfl, e3_25, trivial, rfl⟩
          · refine g_aload_n X 2 rfl dX7_lineage_34 ?_
            refine g_iload X 0 rfl dX7_lineage_35 ?_
            refine g_iload_n X 3 rfl dX7_lineage_37 ?_
            refine g_aload_n X 2 rfl dX7_lineage_38 ?_
            refine g_iload_n X 4 rfl dX7_lineage_39 ?_
            refine g_callV X m_X7_329 (c_X7_upTo ad Mq x2 t2) rfl (by decide) (Nat.le_of_ble_eq_true rfl) rfl dX7_lineage_40 ?_
            rintro _ _ ⟨rq15, aq16, rfl, tq17, hq18, rfl⟩
            show G Γ Mq 43 [(4, .int y4_25), (3, .int y3_25), (0, .ref (ad 47)), (1, .int x1), (2, .int x2)] [.int rq15, .int x1, .int y4_25, .ref (ad 47)]
            refine g_callV X m_X7_336 (c_X7_masterOf ad Mq y4_25 e4_25 x1 t1 rq15 tq17 Iq0 (by omega) (by omega)) rfl (by decide) (Nat.le_of_ble_eq_true rfl) rfl dX7_lineage_43 ?_
            rintro _ _ ⟨rq19, aq20, rfl, tq21, hq22, rfl⟩
            show G Γ Mq 46 [(4, .int y4_25), (3, .int y3_25), (0, .ref (ad 47)), (1, .int x1), (2, .int x2)] [.int rq19]
            refine g_istore X [(5, .int rq19), (4, .int y4_25), (3, .int y3_25), (0, .ref (ad 47)), (1, .int x1), (2, .int x2)] dX7_lineage_46 (by decide) rfl ?_
            refine g_iload_n X 2 rfl dX7_lineage_48 ?_
            refine g_iload X 0 rfl dX7_lineage_49 ?_
            refine g_if_ge X tq21 (tgt := 58) dX7_lineage_51 (by decide) (fun cq23 => ?_) (fun cq23 => ?_)
            · refine g_aload_n X 3 rfl dX7_lineage_58 ?_
              refine g_iload X 1 rfl dX7_lineage_59 ?_
              refine g_iload X 0 rfl dX7_lineage_61 ?_
              refine g_iload_n X 4 rfl dX7_lineage_63 ?_
              refine g_aload_n X 3 rfl dX7_lineage_64 ?_
              refine g_iload_n X 5 rfl dX7_lineage_65 ?_
              refine g_callV X m_X7_329 (c_X7_upTo ad Mq x2 t2) rfl (by decide) (Nat.le_of_ble_eq_true rfl) rfl dX7_lineage_66 ?_
              rintro _ _ ⟨rq24, aq25, rfl, tq26, hq27, rfl⟩
              show G Γ Mq 69 [(5, .int rq19), (4, .int y4_25), (3, .int y3_25), (0, .ref (ad 47)), (1, .int x1), (2, .int x2)] [.int rq24, .int x1, .int rq19, .int y4_25, .ref (ad 47), .int y3_25]
              refine g_callV X m_X7_332 (c_X7_unlikeBy ad Mq y4_25 e4_25 rq19 tq21 x1 t1 rq24 tq26 Iq0 (by omega)) rfl (by decide) (Nat.le_of_ble_eq_true rfl) rfl dX7_lineage_69 ?_
              rintro _ _ ⟨rq28, aq29, rfl, tq30, hq31, rfl⟩
              show G Γ Mq 72 [(5, .int rq19), (4, .int y4_25), (3, .int y3_25), (0, .ref (ad 47)), (1, .int x1), (2, .int x2)] [.int rq28, .int y3_25]
              refine g_iadd X dX7_lineage_72 (fun zq32 eq33 => ?_)
              refine g_istore_n X (i := 3) [(3, .int zq32), (5, .int rq19), (4, .int y4_25), (0, .ref (ad 47)), (1, .int x1), (2, .int x2)] dX7_lineage_73 rfl (by decide) rfl ?_
              refine g_iinc X 2 (fun v => [(4, .int v), (3, .int zq32), (5, .int rq19), (0, .ref (ad 47)), (1, .int x1), (2, .int x2)]) dX7_lineage_74 rfl (by decide) (fun _ => rfl) (fun zq35 eq36 => ?_)
              have tq37 : zq35.toInt = b4_25 + 1 := add_nw eq36 e4_25 (show (Int32.ofInt 1).toInt = 1 by decide) (by omega)
              refine g_goto X (tgt := 25) dX7_lineage_77 (by decide) ?_
              refine g_sub [0, 1, 3, 4, 5] rfl ?_
              exact ih25 zq35 _ tq37 zq32 _ rfl (by omega) (by omega)
            · refine g_iconst X 0 dX7_lineage_54 (by decide) ?_
              refine g_goto X (tgt := 72) dX7_lineage_55 (by decide) ?_
              refine g_iadd X dX7_lineage_72 (fun zq38 eq39 => ?_)
              refine g_istore_n X (i := 3) [(3, .int zq38), (5, .int rq19), (4, .int y4_25), (0, .ref (ad 47)), (1, .int x1), (2, .int x2)] dX7_lineage_73 rfl (by decide) rfl ?_
              refine g_iinc X 2 (fun v => [(4, .int v), (3, .int zq38), (5, .int rq19), (0, .ref (ad 47)), (1, .int x1), (2, .int x2)]) dX7_lineage_74 rfl (by decide) (fun _ => rfl) (fun zq41 eq42 => ?_)
              have tq43 : zq41.toInt = b4_25 + 1 := add_nw eq42 e4_25 (show (Int32.ofInt 1).toInt = 1 by decide) (by omega)
              refine g_goto X (tgt := 25) dX7_lineage_77 (by decide) ?_
              refine g_sub [0, 1, 3, 4, 5] rfl ?_
              exact ih25 zq41 _ tq43 zq38 _ rfl (by omega) (by omega)
      refine g_sub [0, 1, 2, 3, 4] rfl ?_
      exact lp25 _ 0 _ (show (0 : Int32).toInt = 0 by decide) 0 _ (show (0 : Int32).toInt = 0 by decide) (by omega) (Nat.lt_succ_self _)
    · have pq44 : ¬ (0 ≤ a1 ∧ a1 ≤ 999) := by omega
      clear hq10 cq11 tq9
      refine g_bipush X (-2) dX7_lineage_17 (by decide) ?_
      exact g_iret X dX7_lineage_19 ⟨_, _, rfl, (show ((-2) : Int32).toInt = (-2) by decide), trivial, rfl⟩
  · have pq45 : ¬ (-1 ≤ a2 ∧ a2 ≤ ((Mq.1 47 53)).toInt) := by omega
    clear hq4 cq5 tq3
    refine g_iconst X (-1) dX7_lineage_8 (by decide) ?_
    exact g_iret X dX7_lineage_9 ⟨_, _, rfl, (show ((-1) : Int32).toInt = (-1) by decide), trivial, rfl⟩
set_option maxHeartbeats 4000000 in
set_option maxRecDepth 4000 in
theorem c_X7_whose (ad : Nat → Nat) (Mq : Mem) (x1 : Int32) {a1 : Int} (t1 : x1.toInt = a1) (x2 : Int32) {a2 : Int} (t2 : x2.toInt = a2) (x3 : Int32) {a3 : Int} (t3 : x3.toInt = a3) (Iq0 : Iv TM Mq) : Ctr ad yX7_whose cX7_whose 9 (some .int) 2 [.ref (ad 47), .int x1, .int x2, .int x3] Mq (fun v M' => ∃ (r : Int32) (a : Int), v = some (.int r) ∧ r.toInt = a ∧ (True) ∧ Mq = M') := by
  refine ctr_of (L := [(0, .ref (ad 47)), (1, .int x1), (2, .int x2), (3, .int x3)]) (by decide) (Nat.le_of_ble_eq_true rfl) rfl ?_
  intro Γ X
  have X : gX Γ cX7_whose RX7 9 (some .int) 2 ad _ := X
  have g11 := ig_47_11 Iq0
  have g12 := ig_47_12 Iq0
  have g14 := ig_47_14 Iq0
  have g32 := ig_47_32 Iq0
  have g43 := ig_47_43 Iq0
  have g44 := ig_47_44 Iq0
  have g52 := ig_47_52 Iq0
  have g53 := ig_47_53 Iq0
  have g59 := ig_47_59 Iq0
  refine g_aload_n X 0 rfl dX7_whose_0 ?_
  refine g_iload_n X 1 rfl dX7_whose_1 ?_
  refine g_callV X m_X7_186 (c_X7_isLine ad Mq x1 t1) rfl (by decide) (Nat.le_of_ble_eq_true rfl) rfl dX7_whose_2 ?_
  rintro _ _ ⟨rq1, aq2, rfl, tq3, hq4, rfl⟩
  show G Γ Mq 5 [(0, .ref (ad 47)), (1, .int x1), (2, .int x2), (3, .int x3)] [.int rq1]
  refine g_if_eq X tq3 (tgt := 16) dX7_whose_5 (by decide) (fun cq5 => ?_) (fun cq5 => ?_)
  · have pq6 : ¬ (0 ≤ a1 ∧ a1 < ((Mq.1 47 12)).toInt) := by omega
    clear hq4 cq5 tq3
    refine g_iconst X (-1) dX7_whose_16 (by decide) ?_
    exact g_iret X dX7_whose_17 ⟨_, _, rfl, (show ((-1) : Int32).toInt = (-1) by decide), trivial, rfl⟩
  · have pq7 : (0 ≤ a1 ∧ a1 < ((Mq.1 47 12)).toInt) := by omega
    clear hq4 cq5 tq3
    refine g_aload_n X 0 rfl dX7_whose_8 ?_
    refine g_iload_n X 3 rfl dX7_whose_9 ?_
    refine g_callV X m_X7_326 (c_X7_isKnown ad Mq x3 t3) rfl (by decide) (Nat.le_of_ble_eq_true rfl) rfl dX7_whose_10 ?_
    rintro _ _ ⟨rq8, aq9, rfl, tq10, hq11, rfl⟩
    show G Γ Mq 13 [(0, .ref (ad 47)), (1, .int x1), (2, .int x2), (3, .int x3)] [.int rq8]
    refine g_if_ne X tq10 (tgt := 18) dX7_whose_13 (by decide) (fun cq12 => ?_) (fun cq12 => ?_)
    · have pq13 : (-1 ≤ a3 ∧ a3 ≤ ((Mq.1 47 53)).toInt) := by omega
      clear hq11 cq12 tq10
      refine g_iload_n X 2 rfl dX7_whose_18 ?_
      refine g_callS X m_X7_263 (c_X7_isYear ad Mq x2 t2) rfl (by decide) (Nat.le_of_ble_eq_true rfl) rfl dX7_whose_19 ?_
      rintro _ _ ⟨rq14, aq15, rfl, tq16, hq17, rfl⟩
      show G Γ Mq 22 [(0, .ref (ad 47)), (1, .int x1), (2, .int x2), (3, .int x3)] [.int rq14]
      refine g_if_ne X tq16 (tgt := 28) dX7_whose_22 (by decide) (fun cq18 => ?_) (fun cq18 => ?_)
      · have pq19 : (0 ≤ a2 ∧ a2 ≤ 999) := by omega
        clear hq17 cq18 tq16
        refine g_bipush X (-5) dX7_whose_28 (by decide) ?_
        refine g_istore X [(4, .int (-5)), (0, .ref (ad 47)), (1, .int x1), (2, .int x2), (3, .int x3)] dX7_whose_30 (by decide) rfl ?_
        refine g_iconst X 0 dX7_whose_32 (by decide) ?_
        refine g_istore X [(5, .int 0), (4, .int (-5)), (0, .ref (ad 47)), (1, .int x1), (2, .int x2), (3, .int x3)] dX7_whose_33 (by decide) rfl ?_
        refine g_iconst X 0 dX7_whose_35 (by decide) ?_
        refine g_istore X [(6, .int 0), (5, .int 0), (4, .int (-5)), (0, .ref (ad 47)), (1, .int x1), (2, .int x2), (3, .int x3)] dX7_whose_36 (by decide) rfl ?_
        have lp38 : ∀ n : Nat, ∀ (y6_38 : Int32) (b6_38 : Int), y6_38.toInt = b6_38 → ∀ (y5_38 : Int32) (b5_38 : Int), y5_38.toInt = b5_38 → ∀ (y4_38 : Int32) (b4_38 : Int), y4_38.toInt = b4_38 → (0 ≤ b6_38 ∧ b6_38 ≤ 10) → (10 - b6_38).toNat < n → G Γ Mq 38 [(6, .int y6_38), (5, .int y5_38), (4, .int y4_38), (0, .ref (ad 47)), (1, .int x1), (2, .int x2), (3, .int x3)] [] := by
          intro n
          induction n with
          | zero => intro y6_38 b6_38 e6_38 y5_38 b5_38 e5_38 y4_38 b4_38 e4_38 i1 hm; exact absurd hm (Nat.not_lt_zero _)
          | succ n ih38 =>
            intro y6_38 b6_38 e6_38 y5_38 b5_38 e5_38 y4_38 b4_38 e4_38 i1 hm38
            refine g_iload X 0 rfl dX7_whose_38 ?_
            refine g_bipush X 10 dX7_whose_40 (by decide) ?_
            refine g_icmp_ge X e6_38 (show (10 : Int32).toInt = 10 by decide) (tgt := 128) dX7_whose_42 (by decide) (fun cq20 => ?_) (fun cq20 => ?_)
            · refine g_iload X 2 rfl dX7_whose_128 ?_
              exact g_iret X dX7_whose_130 ⟨_, _, rfl, e4_38, trivial, rfl⟩
            · refine g_iconst X 0 dX7_whose_45 (by decide) ?_
              refine g_istore X [(7, .int 0), (6, .int y6_38), (5, .int y5_38), (4, .int y4_38), (0, .ref (ad 47)), (1, .int x1), (2, .int x2), (3, .int x3)] dX7_whose_46 (by decide) rfl ?_
              refine g_iconst X 0 dX7_whose_48 (by decide) ?_
              refine g_istore X [(8, .int 0), (7, .int 0), (6, .int y6_38), (5, .int y5_38), (4, .int y4_38), (0, .ref (ad 47)), (1, .int x1), (2, .int x2), (3, .int x3)] dX7_whose_49 (by decide) rfl ?_
              have lp51 : ∀ n : Nat, ∀ (y8_51 : Int32) (b8_51 : Int), y8_51.toInt = b8_51 → ∀ (y7_51 : Int32) (b7_51 : Int), y7_51.toInt = b7_51 → (0 ≤ b8_51) → ((Mq.1 47 52).toInt - b8_51).toNat < n → G Γ Mq 51 [(8, .int y8_51), (7, .int y7_51), (6, .int y6_38), (5, .int y5_38), (4, .int y4_38), (0, .ref (ad 47)), (1, .int x1), (2, .int x2), (3, .int x3)] [] := by
                intro n
                induction n with
                | zero => intro y8_51 b8_51 e8_51 y7_51 b7_51 e7_51 j1 hm; exact absurd hm (Nat.not_lt_zero _)
                | succ n ih51 =>
                  intro y8_51 b8_51 e8_51 y7_51 b7_51 e7_51 j1 hm51
                  refine g_iload X 0 rfl dX7_whose_51 ?_
                  refine g_aload_n X 5 rfl dX7_whose_53 ?_
                  refine g_geti X f_X7_313 dX7_whose_54 (x := Mq.1 47 52) rfl ?_
                  have bq21 := ig_47_52 Iq0
                  refine g_icmp_ge X e8_51 rfl (tgt := 104) dX7_whose_57 (by decide) (fun cq22 => ?_) (fun cq22 => ?_)
                  · refine g_iload X 1 rfl dX7_whose_104 ?_
                    refine g_iload X 3 rfl dX7_whose_106 ?_
                    refine g_icmp_gt X e7_51 e5_38 (tgt := 114) dX7_whose_108 (by decide) (fun cq23 => ?_) (fun cq23 => ?_)
                    · refine g_iload X 1 rfl dX7_whose_114 ?_
                      refine g_istore X [(5, .int y7_51), (8, .int y8_51), (7, .int y7_51), (6, .int y6_38), (4, .int y4_38), (0, .ref (ad 47)), (1, .int x1), (2, .int x2), (3, .int x3)] dX7_whose_116 (by decide) rfl ?_
                      refine g_iload X 3 rfl dX7_whose_118 ?_
                      refine g_istore X [(4, .int y6_38), (5, .int y7_51), (8, .int y8_51), (7, .int y7_51), (6, .int y6_38), (0, .ref (ad 47)), (1, .int x1), (2, .int x2), (3, .int x3)] dX7_whose_120 (by decide) rfl ?_
                      refine g_iinc X 4 (fun v => [(6, .int v), (4, .int y6_38), (5, .int y7_51), (8, .int y8_51), (7, .int y7_51), (0, .ref (ad 47)), (1, .int x1), (2, .int x2), (3, .int x3)]) dX7_whose_122 rfl (by decide) (fun _ => rfl) (fun zq24 eq25 => ?_)
                      have tq26 : zq24.toInt = b6_38 + 1 := add_nw eq25 e6_38 (show (Int32.ofInt 1).toInt = 1 by decide) (by omega)
                      refine g_goto X (tgt := 38) dX7_whose_125 (by decide) ?_
                      refine g_sub [0, 2, 1, 5, 6, 7, 8] rfl ?_
                      exact ih38 zq24 _ tq26 y7_51 _ e7_51 y6_38 _ e6_38 (by omega) (by omega)
                    · refine g_goto X (tgt := 122) dX7_whose_111 (by decide) ?_
                      refine g_iinc X 2 (fun v => [(6, .int v), (8, .int y8_51), (7, .int y7_51), (5, .int y5_38), (4, .int y4_38), (0, .ref (ad 47)), (1, .int x1), (2, .int x2), (3, .int x3)]) dX7_whose_122 rfl (by decide) (fun _ => rfl) (fun zq27 eq28 => ?_)
                      have tq29 : zq27.toInt = b6_38 + 1 := add_nw eq28 e6_38 (show (Int32.ofInt 1).toInt = 1 by decide) (by omega)
                      refine g_goto X (tgt := 38) dX7_whose_125 (by decide) ?_
                      refine g_sub [0, 3, 4, 5, 6, 7, 8] rfl ?_
                      exact ih38 zq27 _ tq29 y5_38 _ e5_38 y4_38 _ e4_38 (by omega) (by omega)
                  · refine g_iload X 1 rfl dX7_whose_60 ?_
                    refine g_aload_n X 5 rfl dX7_whose_62 ?_
                    refine g_getr X f_X7_110 dX7_whose_63 ?_
                    refine g_iload X 0 rfl dX7_whose_66 ?_
                    refine g_iald X la_80 e8_51 dX7_whose_68 (by omega) (x := Mq.1 80 b8_51.toNat) rfl ?_
                    refine g_iload X 2 rfl dX7_whose_69 ?_
                    refine g_icmp_ne X rfl e6_38 (tgt := 94) dX7_whose_71 (by decide) (fun cq30 => ?_) (fun cq30 => ?_)
                    · refine g_iconst X 0 dX7_whose_94 (by decide) ?_
                      refine g_iadd X dX7_whose_95 (fun zq31 eq32 => ?_)
                      refine g_istore X [(7, .int zq31), (8, .int y8_51), (6, .int y6_38), (5, .int y5_38), (4, .int y4_38), (0, .ref (ad 47)), (1, .int x1), (2, .int x2), (3, .int x3)] dX7_whose_96 (by decide) rfl ?_
                      refine g_iinc X 1 (fun v => [(8, .int v), (7, .int zq31), (6, .int y6_38), (5, .int y5_38), (4, .int y4_38), (0, .ref (ad 47)), (1, .int x1), (2, .int x2), (3, .int x3)]) dX7_whose_98 rfl (by decide) (fun _ => rfl) (fun zq34 eq35 => ?_)
                      have tq36 : zq34.toInt = b8_51 + 1 := add_nw eq35 e8_51 (show (Int32.ofInt 1).toInt = 1 by decide) (by omega)
                      refine g_goto X (tgt := 51) dX7_whose_101 (by decide) ?_
                      refine g_sub [0, 1, 2, 3, 4, 5, 6, 7, 8] rfl ?_
                      exact ih51 zq34 _ tq36 zq31 _ rfl (by omega) (by omega)
                    · refine g_aload_n X 5 rfl dX7_whose_74 ?_
                      refine g_iload X 0 rfl dX7_whose_75 ?_
                      refine g_iload_n X 6 rfl dX7_whose_77 ?_
                      refine g_iload_n X 7 rfl dX7_whose_78 ?_
                      refine g_aload_n X 5 rfl dX7_whose_79 ?_
                      refine g_iload_n X 8 rfl dX7_whose_80 ?_
                      refine g_callV X m_X7_329 (c_X7_upTo ad Mq x3 t3) rfl (by decide) (Nat.le_of_ble_eq_true rfl) rfl dX7_whose_81 ?_
                      rintro _ _ ⟨rq37, aq38, rfl, tq39, hq40, rfl⟩
                      show G Γ Mq 84 [(8, .int y8_51), (7, .int y7_51), (6, .int y6_38), (5, .int y5_38), (4, .int y4_38), (0, .ref (ad 47)), (1, .int x1), (2, .int x2), (3, .int x3)] [.int rq37, .int x2, .int x1, .int y8_51, .ref (ad 47), .int y7_51]
                      refine g_callV X m_X7_322 (c_X7_hasLine ad Mq y8_51 e8_51 x1 t1 x2 t2 rq37 tq39 Iq0 (by omega)) rfl (by decide) (Nat.le_of_ble_eq_true rfl) rfl dX7_whose_84 ?_
                      rintro _ _ ⟨rq41, aq42, rfl, tq43, hq44, rfl⟩
                      show G Γ Mq 87 [(8, .int y8_51), (7, .int y7_51), (6, .int y6_38), (5, .int y5_38), (4, .int y4_38), (0, .ref (ad 47)), (1, .int x1), (2, .int x2), (3, .int x3)] [.int rq41, .int y7_51]
                      refine g_if_eq X tq43 (tgt := 94) dX7_whose_87 (by decide) (fun cq45 => ?_) (fun cq45 => ?_)
                      · refine g_iconst X 0 dX7_whose_94 (by decide) ?_
                        refine g_iadd X dX7_whose_95 (fun zq46 eq47 => ?_)
                        refine g_istore X [(7, .int zq46), (8, .int y8_51), (6, .int y6_38), (5, .int y5_38), (4, .int y4_38), (0, .ref (ad 47)), (1, .int x1), (2, .int x2), (3, .int x3)] dX7_whose_96 (by decide) rfl ?_
                        refine g_iinc X 1 (fun v => [(8, .int v), (7, .int zq46), (6, .int y6_38), (5, .int y5_38), (4, .int y4_38), (0, .ref (ad 47)), (1, .int x1), (2, .int x2), (3, .int x3)]) dX7_whose_98 rfl (by decide) (fun _ => rfl) (fun zq49 eq50 => ?_)
                        have tq51 : zq49.toInt = b8_51 + 1 := add_nw eq50 e8_51 (show (Int32.ofInt 1).toInt = 1 by decide) (by omega)
                        refine g_goto X (tgt := 51) dX7_whose_101 (by decide) ?_
                        refine g_sub [0, 1, 2, 3, 4, 5, 6, 7, 8] rfl ?_
                        exact ih51 zq49 _ tq51 zq46 _ rfl (by omega) (by omega)
                      · refine g_iconst X 1 dX7_whose_90 (by decide) ?_
                        refine g_goto X (tgt := 95) dX7_whose_91 (by decide) ?_
                        refine g_iadd X dX7_whose_95 (fun zq52 eq53 => ?_)
                        refine g_istore X [(7, .int zq52), (8, .int y8_51), (6, .int y6_38), (5, .int y5_38), (4, .int y4_38), (0, .ref (ad 47)), (1, .int x1), (2, .int x2), (3, .int x3)] dX7_whose_96 (by decide) rfl ?_
                        refine g_iinc X 1 (fun v => [(8, .int v), (7, .int zq52), (6, .int y6_38), (5, .int y5_38), (4, .int y4_38), (0, .ref (ad 47)), (1, .int x1), (2, .int x2), (3, .int x3)]) dX7_whose_98 rfl (by decide) (fun _ => rfl) (fun zq55 eq56 => ?_)
                        have tq57 : zq55.toInt = b8_51 + 1 := add_nw eq56 e8_51 (show (Int32.ofInt 1).toInt = 1 by decide) (by omega)
                        refine g_goto X (tgt := 51) dX7_whose_101 (by decide) ?_
                        refine g_sub [0, 1, 2, 3, 4, 5, 6, 7, 8] rfl ?_
                        exact ih51 zq55 _ tq57 zq52 _ rfl (by omega) (by omega)
              refine g_sub [0, 1, 2, 3, 4, 5, 6, 7, 8] rfl ?_
              exact lp51 _ 0 _ (show (0 : Int32).toInt = 0 by decide) 0 _ (show (0 : Int32).toInt = 0 by decide) (by omega) (Nat.lt_succ_self _)
        refine g_sub [0, 1, 2, 3, 4, 5, 6] rfl ?_
        exact lp38 _ 0 _ (show (0 : Int32).toInt = 0 by decide) 0 _ (show (0 : Int32).toInt = 0 by decide) (-5) _ (show ((-5) : Int32).toInt = (-5) by decide) (by omega) (Nat.lt_succ_self _)
      · have pq58 : ¬ (0 ≤ a2 ∧ a2 ≤ 999) := by omega
        clear hq17 cq18 tq16
        refine g_bipush X (-2) dX7_whose_25 (by decide) ?_
        exact g_iret X dX7_whose_27 ⟨_, _, rfl, (show ((-2) : Int32).toInt = (-2) by decide), trivial, rfl⟩
    · have pq59 : ¬ (-1 ≤ a3 ∧ a3 ≤ ((Mq.1 47 53)).toInt) := by omega
      clear hq11 cq12 tq10
      refine g_iconst X (-1) dX7_whose_16 (by decide) ?_
      exact g_iret X dX7_whose_17 ⟨_, _, rfl, (show ((-1) : Int32).toInt = (-1) by decide), trivial, rfl⟩
set_option maxHeartbeats 4000000 in
set_option maxRecDepth 4000 in
theorem c_X7_core (ad : Nat → Nat) (Mq : Mem) (x1 : Int32) {a1 : Int} (t1 : x1.toInt = a1) (x2 : Int32) {a2 : Int} (t2 : x2.toInt = a2) (x3 : Int32) {a3 : Int} (t3 : x3.toInt = a3) (Iq0 : Iv TM Mq) : Ctr ad yX7_core cX7_core 8 (some .int) 2 [.ref (ad 47), .int x1, .int x2, .int x3] Mq (fun v M' => ∃ (r : Int32) (a : Int), v = some (.int r) ∧ r.toInt = a ∧ (True) ∧ Mq = M') := by
  refine ctr_of (L := [(0, .ref (ad 47)), (1, .int x1), (2, .int x2), (3, .int x3)]) (by decide) (Nat.le_of_ble_eq_true rfl) rfl ?_
  intro Γ X
  have X : gX Γ cX7_core RX7 8 (some .int) 2 ad _ := X
  have g11 := ig_47_11 Iq0
  have g12 := ig_47_12 Iq0
  have g14 := ig_47_14 Iq0
  have g32 := ig_47_32 Iq0
  have g43 := ig_47_43 Iq0
  have g44 := ig_47_44 Iq0
  have g52 := ig_47_52 Iq0
  have g53 := ig_47_53 Iq0
  have g59 := ig_47_59 Iq0
  refine g_aload_n X 0 rfl dX7_core_0 ?_
  refine g_iload_n X 2 rfl dX7_core_1 ?_
  refine g_callV X m_X7_326 (c_X7_isKnown ad Mq x2 t2) rfl (by decide) (Nat.le_of_ble_eq_true rfl) rfl dX7_core_2 ?_
  rintro _ _ ⟨rq1, aq2, rfl, tq3, hq4, rfl⟩
  show G Γ Mq 5 [(0, .ref (ad 47)), (1, .int x1), (2, .int x2), (3, .int x3)] [.int rq1]
  refine g_if_eq X tq3 (tgt := 13) dX7_core_5 (by decide) (fun cq5 => ?_) (fun cq5 => ?_)
  · have pq6 : ¬ (-1 ≤ a2 ∧ a2 ≤ ((Mq.1 47 53)).toInt) := by omega
    clear hq4 cq5 tq3
    refine g_iconst X (-1) dX7_core_13 (by decide) ?_
    exact g_iret X dX7_core_14 ⟨_, _, rfl, (show ((-1) : Int32).toInt = (-1) by decide), trivial, rfl⟩
  · have pq7 : (-1 ≤ a2 ∧ a2 ≤ ((Mq.1 47 53)).toInt) := by omega
    clear hq4 cq5 tq3
    refine g_iload_n X 3 rfl dX7_core_8 ?_
    refine g_iconst X (-1) dX7_core_9 (by decide) ?_
    refine g_icmp_ge X t3 (show ((-1) : Int32).toInt = (-1) by decide) (tgt := 15) dX7_core_10 (by decide) (fun cq8 => ?_) (fun cq8 => ?_)
    · refine g_iload_n X 1 rfl dX7_core_15 ?_
      refine g_callS X m_X7_263 (c_X7_isYear ad Mq x1 t1) rfl (by decide) (Nat.le_of_ble_eq_true rfl) rfl dX7_core_16 ?_
      rintro _ _ ⟨rq9, aq10, rfl, tq11, hq12, rfl⟩
      show G Γ Mq 19 [(0, .ref (ad 47)), (1, .int x1), (2, .int x2), (3, .int x3)] [.int rq9]
      refine g_if_ne X tq11 (tgt := 25) dX7_core_19 (by decide) (fun cq13 => ?_) (fun cq13 => ?_)
      · have pq14 : (0 ≤ a1 ∧ a1 ≤ 999) := by omega
        clear hq12 cq13 tq11
        refine g_iconst X 0 dX7_core_25 (by decide) ?_
        refine g_istore X [(4, .int 0), (0, .ref (ad 47)), (1, .int x1), (2, .int x2), (3, .int x3)] dX7_core_26 (by decide) rfl ?_
        refine g_iconst X 0 dX7_core_28 (by decide) ?_
        refine g_istore X [(5, .int 0), (4, .int 0), (0, .ref (ad 47)), (1, .int x1), (2, .int x2), (3, .int x3)] dX7_core_29 (by decide) rfl ?_
        have lp31 : ∀ n : Nat, ∀ (y5_31 : Int32) (b5_31 : Int), y5_31.toInt = b5_31 → ∀ (y4_31 : Int32) (b4_31 : Int), y4_31.toInt = b4_31 → (0 ≤ b5_31) → ((Mq.1 47 12).toInt - b5_31).toNat < n → G Γ Mq 31 [(5, .int y5_31), (4, .int y4_31), (0, .ref (ad 47)), (1, .int x1), (2, .int x2), (3, .int x3)] [] := by
          intro n
          induction n with
          | zero => intro y5_31 b5_31 e5_31 y4_31 b4_31 e4_31 i1 hm; exact absurd hm (Nat.not_lt_zero _)
          | succ n ih31 =>
            intro y5_31 b5_31 e5_31 y4_31 b4_31 e4_31 i1 hm31
            refine g_iload X 0 rfl dX7_core_31 ?_
            refine g_aload_n X 2 rfl dX7_core_33 ?_
            refine g_geti X f_X7_147 dX7_core_34 (x := Mq.1 47 12) rfl ?_
            have bq15 := ig_47_12 Iq0
            refine g_icmp_ge X e5_31 rfl (tgt := 123) dX7_core_37 (by decide) (fun cq16 => ?_) (fun cq16 => ?_)
            · refine g_iload_n X 5 rfl dX7_core_123 ?_
              refine g_iconst X (-1) dX7_core_124 (by decide) ?_
              refine g_icmp_ne X t3 (show ((-1) : Int32).toInt = (-1) by decide) (tgt := 133) dX7_core_125 (by decide) (fun cq17 => ?_) (fun cq17 => ?_)
              · refine g_iconst X (-1) dX7_core_133 (by decide) ?_
                exact g_iret X dX7_core_134 ⟨_, _, rfl, (show ((-1) : Int32).toInt = (-1) by decide), trivial, rfl⟩
              · refine g_iload X 1 rfl dX7_core_128 ?_
                refine g_goto X (tgt := 134) dX7_core_130 (by decide) ?_
                exact g_iret X dX7_core_134 ⟨_, _, rfl, e4_31, trivial, rfl⟩
            · refine g_aload_n X 2 rfl dX7_core_40 ?_
              refine g_geti X f_X7_313 dX7_core_41 (x := Mq.1 47 52) rfl ?_
              have bq18 := ig_47_52 Iq0
              refine g_if_le X rfl (tgt := 123) dX7_core_44 (by decide) (fun cq19 => ?_) (fun cq19 => ?_)
              · refine g_iload_n X 5 rfl dX7_core_123 ?_
                refine g_iconst X (-1) dX7_core_124 (by decide) ?_
                refine g_icmp_ne X t3 (show ((-1) : Int32).toInt = (-1) by decide) (tgt := 133) dX7_core_125 (by decide) (fun cq20 => ?_) (fun cq20 => ?_)
                · refine g_iconst X (-1) dX7_core_133 (by decide) ?_
                  exact g_iret X dX7_core_134 ⟨_, _, rfl, (show ((-1) : Int32).toInt = (-1) by decide), trivial, rfl⟩
                · refine g_iload X 1 rfl dX7_core_128 ?_
                  refine g_goto X (tgt := 134) dX7_core_130 (by decide) ?_
                  exact g_iret X dX7_core_134 ⟨_, _, rfl, e4_31, trivial, rfl⟩
              · refine g_iconst X 1 dX7_core_47 (by decide) ?_
                refine g_istore X [(6, .int 1), (5, .int y5_31), (4, .int y4_31), (0, .ref (ad 47)), (1, .int x1), (2, .int x2), (3, .int x3)] dX7_core_48 (by decide) rfl ?_
                refine g_iconst X 0 dX7_core_50 (by decide) ?_
                refine g_istore X [(7, .int 0), (6, .int 1), (5, .int y5_31), (4, .int y4_31), (0, .ref (ad 47)), (1, .int x1), (2, .int x2), (3, .int x3)] dX7_core_51 (by decide) rfl ?_
                have lp53 : ∀ n : Nat, ∀ (y7_53 : Int32) (b7_53 : Int), y7_53.toInt = b7_53 → ∀ (y6_53 : Int32) (b6_53 : Int), y6_53.toInt = b6_53 → (0 ≤ b7_53) → (b6_53 = 0 ∨ b6_53 = 1) → ((Mq.1 47 52).toInt - b7_53).toNat < n → G Γ Mq 53 [(7, .int y7_53), (6, .int y6_53), (5, .int y5_31), (4, .int y4_31), (0, .ref (ad 47)), (1, .int x1), (2, .int x2), (3, .int x3)] [] := by
                  intro n
                  induction n with
                  | zero => intro y7_53 b7_53 e7_53 y6_53 b6_53 e6_53 j1 j2 hm; exact absurd hm (Nat.not_lt_zero _)
                  | succ n ih53 =>
                    intro y7_53 b7_53 e7_53 y6_53 b6_53 e6_53 j1 j2 hm53
                    refine g_iload X 0 rfl dX7_core_53 ?_
                    refine g_aload_n X 4 rfl dX7_core_55 ?_
                    refine g_geti X f_X7_313 dX7_core_56 (x := Mq.1 47 52) rfl ?_
                    have bq21 := ig_47_52 Iq0
                    refine g_icmp_ge X e7_53 rfl (tgt := 97) dX7_core_59 (by decide) (fun cq22 => ?_) (fun cq22 => ?_)
                    · refine g_iload X 1 rfl dX7_core_97 ?_
                      refine g_if_ne X e6_53 (tgt := 105) dX7_core_99 (by decide) (fun cq23 => ?_) (fun cq23 => ?_)
                      · refine g_iload X 3 rfl dX7_core_105 ?_
                        refine g_iload_n X 7 rfl dX7_core_107 ?_
                        refine g_icmp_ne X e4_31 t3 (tgt := 114) dX7_core_108 (by decide) (fun cq24 => ?_) (fun cq24 => ?_)
                        · refine g_iinc X 3 (fun v => [(4, .int v), (7, .int y7_53), (6, .int y6_53), (5, .int y5_31), (0, .ref (ad 47)), (1, .int x1), (2, .int x2), (3, .int x3)]) dX7_core_114 rfl (by decide) (fun _ => rfl) (fun zq25 eq26 => ?_)
                          refine g_iinc X 3 (fun v => [(5, .int v), (4, .int zq25), (7, .int y7_53), (6, .int y6_53), (0, .ref (ad 47)), (1, .int x1), (2, .int x2), (3, .int x3)]) dX7_core_117 rfl (by decide) (fun _ => rfl) (fun zq28 eq29 => ?_)
                          have tq30 : zq28.toInt = b5_31 + 1 := add_nw eq29 e5_31 (show (Int32.ofInt 1).toInt = 1 by decide) (by omega)
                          refine g_goto X (tgt := 31) dX7_core_120 (by decide) ?_
                          refine g_sub [0, 1, 4, 5, 6, 7] rfl ?_
                          exact ih31 zq28 _ tq30 zq25 _ rfl (by omega) (by omega)
                        · refine g_iload X 2 rfl dX7_core_111 ?_
                          exact g_iret X dX7_core_113 ⟨_, _, rfl, e5_31, trivial, rfl⟩
                      · refine g_goto X (tgt := 117) dX7_core_102 (by decide) ?_
                        refine g_iinc X 2 (fun v => [(5, .int v), (7, .int y7_53), (6, .int y6_53), (4, .int y4_31), (0, .ref (ad 47)), (1, .int x1), (2, .int x2), (3, .int x3)]) dX7_core_117 rfl (by decide) (fun _ => rfl) (fun zq31 eq32 => ?_)
                        have tq33 : zq31.toInt = b5_31 + 1 := add_nw eq32 e5_31 (show (Int32.ofInt 1).toInt = 1 by decide) (by omega)
                        refine g_goto X (tgt := 31) dX7_core_120 (by decide) ?_
                        refine g_sub [0, 3, 4, 5, 6, 7] rfl ?_
                        exact ih31 zq31 _ tq33 y4_31 _ e4_31 (by omega) (by omega)
                    · refine g_iload X 1 rfl dX7_core_62 ?_
                      refine g_if_eq X e6_53 (tgt := 88) dX7_core_64 (by decide) (fun cq34 => ?_) (fun cq34 => ?_)
                      · refine g_iconst X 0 dX7_core_88 (by decide) ?_
                        refine g_istore X [(6, .int 0), (7, .int y7_53), (5, .int y5_31), (4, .int y4_31), (0, .ref (ad 47)), (1, .int x1), (2, .int x2), (3, .int x3)] dX7_core_89 (by decide) rfl ?_
                        refine g_iinc X 1 (fun v => [(7, .int v), (6, .int 0), (5, .int y5_31), (4, .int y4_31), (0, .ref (ad 47)), (1, .int x1), (2, .int x2), (3, .int x3)]) dX7_core_91 rfl (by decide) (fun _ => rfl) (fun zq35 eq36 => ?_)
                        have tq37 : zq35.toInt = b7_53 + 1 := add_nw eq36 e7_53 (show (Int32.ofInt 1).toInt = 1 by decide) (by omega)
                        refine g_goto X (tgt := 53) dX7_core_94 (by decide) ?_
                        refine g_sub [0, 1, 2, 3, 4, 5, 6, 7] rfl ?_
                        exact ih53 zq35 _ tq37 0 _ (show (0 : Int32).toInt = 0 by decide) (by omega) (by omega) (by omega)
                      · refine g_aload_n X 4 rfl dX7_core_67 ?_
                        refine g_iload X 0 rfl dX7_core_68 ?_
                        refine g_iload X 2 rfl dX7_core_70 ?_
                        refine g_iload_n X 5 rfl dX7_core_72 ?_
                        refine g_aload_n X 4 rfl dX7_core_73 ?_
                        refine g_iload_n X 6 rfl dX7_core_74 ?_
                        refine g_callV X m_X7_329 (c_X7_upTo ad Mq x2 t2) rfl (by decide) (Nat.le_of_ble_eq_true rfl) rfl dX7_core_75 ?_
                        rintro _ _ ⟨rq38, aq39, rfl, tq40, hq41, rfl⟩
                        show G Γ Mq 78 [(7, .int y7_53), (6, .int y6_53), (5, .int y5_31), (4, .int y4_31), (0, .ref (ad 47)), (1, .int x1), (2, .int x2), (3, .int x3)] [.int rq38, .int x1, .int y5_31, .int y7_53, .ref (ad 47)]
                        refine g_callV X m_X7_322 (c_X7_hasLine ad Mq y7_53 e7_53 y5_31 e5_31 x1 t1 rq38 tq40 Iq0 (by omega)) rfl (by decide) (Nat.le_of_ble_eq_true rfl) rfl dX7_core_78 ?_
                        rintro _ _ ⟨rq42, aq43, rfl, tq44, hq45, rfl⟩
                        show G Γ Mq 81 [(7, .int y7_53), (6, .int y6_53), (5, .int y5_31), (4, .int y4_31), (0, .ref (ad 47)), (1, .int x1), (2, .int x2), (3, .int x3)] [.int rq42]
                        refine g_if_eq X tq44 (tgt := 88) dX7_core_81 (by decide) (fun cq46 => ?_) (fun cq46 => ?_)
                        · refine g_iconst X 0 dX7_core_88 (by decide) ?_
                          refine g_istore X [(6, .int 0), (7, .int y7_53), (5, .int y5_31), (4, .int y4_31), (0, .ref (ad 47)), (1, .int x1), (2, .int x2), (3, .int x3)] dX7_core_89 (by decide) rfl ?_
                          refine g_iinc X 1 (fun v => [(7, .int v), (6, .int 0), (5, .int y5_31), (4, .int y4_31), (0, .ref (ad 47)), (1, .int x1), (2, .int x2), (3, .int x3)]) dX7_core_91 rfl (by decide) (fun _ => rfl) (fun zq47 eq48 => ?_)
                          have tq49 : zq47.toInt = b7_53 + 1 := add_nw eq48 e7_53 (show (Int32.ofInt 1).toInt = 1 by decide) (by omega)
                          refine g_goto X (tgt := 53) dX7_core_94 (by decide) ?_
                          refine g_sub [0, 1, 2, 3, 4, 5, 6, 7] rfl ?_
                          exact ih53 zq47 _ tq49 0 _ (show (0 : Int32).toInt = 0 by decide) (by omega) (by omega) (by omega)
                        · refine g_iconst X 1 dX7_core_84 (by decide) ?_
                          refine g_goto X (tgt := 89) dX7_core_85 (by decide) ?_
                          refine g_istore X [(6, .int 1), (7, .int y7_53), (5, .int y5_31), (4, .int y4_31), (0, .ref (ad 47)), (1, .int x1), (2, .int x2), (3, .int x3)] dX7_core_89 (by decide) rfl ?_
                          refine g_iinc X 1 (fun v => [(7, .int v), (6, .int 1), (5, .int y5_31), (4, .int y4_31), (0, .ref (ad 47)), (1, .int x1), (2, .int x2), (3, .int x3)]) dX7_core_91 rfl (by decide) (fun _ => rfl) (fun zq50 eq51 => ?_)
                          have tq52 : zq50.toInt = b7_53 + 1 := add_nw eq51 e7_53 (show (Int32.ofInt 1).toInt = 1 by decide) (by omega)
                          refine g_goto X (tgt := 53) dX7_core_94 (by decide) ?_
                          refine g_sub [0, 1, 2, 3, 4, 5, 6, 7] rfl ?_
                          exact ih53 zq50 _ tq52 1 _ (show (1 : Int32).toInt = 1 by decide) (by omega) (by omega) (by omega)
                refine g_sub [0, 1, 2, 3, 4, 5, 6, 7] rfl ?_
                exact lp53 _ 0 _ (show (0 : Int32).toInt = 0 by decide) 1 _ (show (1 : Int32).toInt = 1 by decide) (by omega) (by omega) (Nat.lt_succ_self _)
        refine g_sub [0, 1, 2, 3, 4, 5] rfl ?_
        exact lp31 _ 0 _ (show (0 : Int32).toInt = 0 by decide) 0 _ (show (0 : Int32).toInt = 0 by decide) (by omega) (Nat.lt_succ_self _)
      · have pq53 : ¬ (0 ≤ a1 ∧ a1 ≤ 999) := by omega
        clear hq12 cq13 tq11
        refine g_bipush X (-2) dX7_core_22 (by decide) ?_
        exact g_iret X dX7_core_24 ⟨_, _, rfl, (show ((-2) : Int32).toInt = (-2) by decide), trivial, rfl⟩
    · refine g_iconst X (-1) dX7_core_13 (by decide) ?_
      exact g_iret X dX7_core_14 ⟨_, _, rfl, (show ((-1) : Int32).toInt = (-1) by decide), trivial, rfl⟩
set_option maxHeartbeats 4000000 in
set_option maxRecDepth 4000 in
theorem c_X7_isForged (ad : Nat → Nat) (Mq : Mem) (x1 : Int32) {a1 : Int} (t1 : x1.toInt = a1) (x2 : Int32) {a2 : Int} (t2 : x2.toInt = a2) (x3 : Int32) {a3 : Int} (t3 : x3.toInt = a3) (x4 : Int32) {a4 : Int} (t4 : x4.toInt = a4) (Iq0 : Iv TM Mq) (h1 : 0 ≤ a1 ∧ a1 < (Mq.1 47 52).toInt) (h4 : a4 ≤ 200) : Ctr ad yX7_isForged cX7_isForged 7 (some .boolean) 3 [.ref (ad 47), .int x1, .int x2, .int x3, .int x4] Mq (fun v M' => ∃ (r : Int32) (a : Int), v = some (.int r) ∧ r.toInt = a ∧ (a = 0 ∨ a = 1) ∧ Mq = M') := by
  refine ctr_of (L := [(0, .ref (ad 47)), (1, .int x1), (2, .int x2), (3, .int x3), (4, .int x4)]) (by decide) (Nat.le_of_ble_eq_true rfl) rfl ?_
  intro Γ X
  have X : gX Γ cX7_isForged RX7 7 (some .boolean) 3 ad _ := X
  have g11 := ig_47_11 Iq0
  have g12 := ig_47_12 Iq0
  have g14 := ig_47_14 Iq0
  have g32 := ig_47_32 Iq0
  have g43 := ig_47_43 Iq0
  have g44 := ig_47_44 Iq0
  have g52 := ig_47_52 Iq0
  have g53 := ig_47_53 Iq0
  have g59 := ig_47_59 Iq0
  refine g_aload_n X 0 rfl dX7_isForged_0 ?_
  refine g_iload_n X 1 rfl dX7_isForged_1 ?_
  refine g_iload_n X 2 rfl dX7_isForged_2 ?_
  refine g_iload_n X 3 rfl dX7_isForged_3 ?_
  refine g_iload X 4 rfl dX7_isForged_4 ?_
  refine g_callV X m_X7_322 (c_X7_hasLine ad Mq x1 t1 x2 t2 x3 t3 x4 t4 Iq0 (by omega)) rfl (by decide) (Nat.le_of_ble_eq_true rfl) rfl dX7_isForged_6 ?_
  rintro _ _ ⟨rq1, aq2, rfl, tq3, hq4, rfl⟩
  show G Γ Mq 9 [(0, .ref (ad 47)), (1, .int x1), (2, .int x2), (3, .int x3), (4, .int x4)] [.int rq1]
  refine g_if_eq X tq3 (tgt := 14) dX7_isForged_9 (by decide) (fun cq5 => ?_) (fun cq5 => ?_)
  · refine g_iconst X 0 dX7_isForged_14 (by decide) ?_
    refine g_istore X [(5, .int 0), (0, .ref (ad 47)), (1, .int x1), (2, .int x2), (3, .int x3), (4, .int x4)] dX7_isForged_15 (by decide) rfl ?_
    have lp17 : ∀ n : Nat, ∀ (y5_17 : Int32) (b5_17 : Int), y5_17.toInt = b5_17 → (0 ≤ b5_17) → ((Mq.1 47 52).toInt - b5_17).toNat < n → G Γ Mq 17 [(5, .int y5_17), (0, .ref (ad 47)), (1, .int x1), (2, .int x2), (3, .int x3), (4, .int x4)] [] := by
      intro n
      induction n with
      | zero => intro y5_17 b5_17 e5_17 i1 hm; exact absurd hm (Nat.not_lt_zero _)
      | succ n ih17 =>
        intro y5_17 b5_17 e5_17 i1 hm17
        refine g_iload X 0 rfl dX7_isForged_17 ?_
        refine g_aload_n X 1 rfl dX7_isForged_19 ?_
        refine g_geti X f_X7_313 dX7_isForged_20 (x := Mq.1 47 52) rfl ?_
        have bq6 := ig_47_52 Iq0
        refine g_icmp_ge X e5_17 rfl (tgt := 85) dX7_isForged_23 (by decide) (fun cq7 => ?_) (fun cq7 => ?_)
        · refine g_iconst X 1 dX7_isForged_85 (by decide) ?_
          exact g_zret X (b01 (show (1 : Int32).toInt = 1 by decide) (by omega)) dX7_isForged_86 ⟨_, _, rfl, (show (1 : Int32).toInt = 1 by decide), (by omega), rfl⟩
        · refine g_aload_n X 1 rfl dX7_isForged_26 ?_
          refine g_iload_n X 2 rfl dX7_isForged_27 ?_
          refine g_iload_n X 4 rfl dX7_isForged_28 ?_
          refine g_iload X 5 rfl dX7_isForged_29 ?_
          refine g_callV X m_X7_336 (c_X7_masterOf ad Mq x1 t1 x3 t3 x4 t4 Iq0 (by omega) (by omega)) rfl (by decide) (Nat.le_of_ble_eq_true rfl) rfl dX7_isForged_31 ?_
          rintro _ _ ⟨rq8, aq9, rfl, tq10, hq11, rfl⟩
          show G Γ Mq 34 [(5, .int y5_17), (0, .ref (ad 47)), (1, .int x1), (2, .int x2), (3, .int x3), (4, .int x4)] [.int rq8]
          refine g_iload X 0 rfl dX7_isForged_34 ?_
          refine g_icmp_eq X tq10 e5_17 (tgt := 52) dX7_isForged_36 (by decide) (fun cq12 => ?_) (fun cq12 => ?_)
          · refine g_iconst X 1 dX7_isForged_52 (by decide) ?_
            refine g_goto X (tgt := 57) dX7_isForged_53 (by decide) ?_
            refine g_istore X [(6, .int 1), (5, .int y5_17), (0, .ref (ad 47)), (1, .int x1), (2, .int x2), (3, .int x3), (4, .int x4)] dX7_isForged_57 (by decide) rfl ?_
            refine g_iload X 0 rfl dX7_isForged_59 ?_
            refine g_if_eq X (show (1 : Int32).toInt = 1 by decide) (tgt := 79) dX7_isForged_61 (by decide) (fun cq13 => ?_) (fun cq13 => ?_)
            · refine g_iinc X 1 (fun v => [(5, .int v), (6, .int 1), (0, .ref (ad 47)), (1, .int x1), (2, .int x2), (3, .int x3), (4, .int x4)]) dX7_isForged_79 rfl (by decide) (fun _ => rfl) (fun zq14 eq15 => ?_)
              have tq16 : zq14.toInt = b5_17 + 1 := add_nw eq15 e5_17 (show (Int32.ofInt 1).toInt = 1 by decide) (by omega)
              refine g_goto X (tgt := 17) dX7_isForged_82 (by decide) ?_
              refine g_sub [0, 2, 3, 4, 5, 6] rfl ?_
              exact ih17 zq14 _ tq16 (by omega) (by omega)
            · refine g_aload_n X 2 rfl dX7_isForged_64 ?_
              refine g_iload X 1 rfl dX7_isForged_65 ?_
              refine g_iload_n X 4 rfl dX7_isForged_67 ?_
              refine g_iload_n X 5 rfl dX7_isForged_68 ?_
              refine g_iload X 6 rfl dX7_isForged_69 ?_
              refine g_callV X m_X7_322 (c_X7_hasLine ad Mq y5_17 e5_17 x2 t2 x3 t3 x4 t4 Iq0 (by omega)) rfl (by decide) (Nat.le_of_ble_eq_true rfl) rfl dX7_isForged_71 ?_
              rintro _ _ ⟨rq17, aq18, rfl, tq19, hq20, rfl⟩
              show G Γ Mq 74 [(6, .int 1), (5, .int y5_17), (0, .ref (ad 47)), (1, .int x1), (2, .int x2), (3, .int x3), (4, .int x4)] [.int rq17]
              refine g_if_eq X tq19 (tgt := 79) dX7_isForged_74 (by decide) (fun cq21 => ?_) (fun cq21 => ?_)
              · refine g_iinc X 1 (fun v => [(5, .int v), (6, .int 1), (0, .ref (ad 47)), (1, .int x1), (2, .int x2), (3, .int x3), (4, .int x4)]) dX7_isForged_79 rfl (by decide) (fun _ => rfl) (fun zq22 eq23 => ?_)
                have tq24 : zq22.toInt = b5_17 + 1 := add_nw eq23 e5_17 (show (Int32.ofInt 1).toInt = 1 by decide) (by omega)
                refine g_goto X (tgt := 17) dX7_isForged_82 (by decide) ?_
                refine g_sub [0, 2, 3, 4, 5, 6] rfl ?_
                exact ih17 zq22 _ tq24 (by omega) (by omega)
              · refine g_iconst X 0 dX7_isForged_77 (by decide) ?_
                exact g_zret X (b01 (show (0 : Int32).toInt = 0 by decide) (by omega)) dX7_isForged_78 ⟨_, _, rfl, (show (0 : Int32).toInt = 0 by decide), (by omega), rfl⟩
          · refine g_aload_n X 1 rfl dX7_isForged_39 ?_
            refine g_iload X 0 rfl dX7_isForged_40 ?_
            refine g_iload_n X 4 rfl dX7_isForged_42 ?_
            refine g_iload X 5 rfl dX7_isForged_43 ?_
            refine g_callV X m_X7_336 (c_X7_masterOf ad Mq y5_17 e5_17 x3 t3 x4 t4 Iq0 (by omega) (by omega)) rfl (by decide) (Nat.le_of_ble_eq_true rfl) rfl dX7_isForged_45 ?_
            rintro _ _ ⟨rq25, aq26, rfl, tq27, hq28, rfl⟩
            show G Γ Mq 48 [(5, .int y5_17), (0, .ref (ad 47)), (1, .int x1), (2, .int x2), (3, .int x3), (4, .int x4)] [.int rq25]
            refine g_iload_n X 2 rfl dX7_isForged_48 ?_
            refine g_icmp_ne X tq27 t1 (tgt := 56) dX7_isForged_49 (by decide) (fun cq29 => ?_) (fun cq29 => ?_)
            · refine g_iconst X 0 dX7_isForged_56 (by decide) ?_
              refine g_istore X [(6, .int 0), (5, .int y5_17), (0, .ref (ad 47)), (1, .int x1), (2, .int x2), (3, .int x3), (4, .int x4)] dX7_isForged_57 (by decide) rfl ?_
              refine g_iload X 0 rfl dX7_isForged_59 ?_
              refine g_if_eq X (show (0 : Int32).toInt = 0 by decide) (tgt := 79) dX7_isForged_61 (by decide) (fun cq30 => ?_) (fun cq30 => ?_)
              · refine g_iinc X 1 (fun v => [(5, .int v), (6, .int 0), (0, .ref (ad 47)), (1, .int x1), (2, .int x2), (3, .int x3), (4, .int x4)]) dX7_isForged_79 rfl (by decide) (fun _ => rfl) (fun zq31 eq32 => ?_)
                have tq33 : zq31.toInt = b5_17 + 1 := add_nw eq32 e5_17 (show (Int32.ofInt 1).toInt = 1 by decide) (by omega)
                refine g_goto X (tgt := 17) dX7_isForged_82 (by decide) ?_
                refine g_sub [0, 2, 3, 4, 5, 6] rfl ?_
                exact ih17 zq31 _ tq33 (by omega) (by omega)
              · refine g_aload_n X 2 rfl dX7_isForged_64 ?_
                refine g_iload X 1 rfl dX7_isForged_65 ?_
                refine g_iload_n X 4 rfl dX7_isForged_67 ?_
                refine g_iload_n X 5 rfl dX7_isForged_68 ?_
                refine g_iload X 6 rfl dX7_isForged_69 ?_
                refine g_callV X m_X7_322 (c_X7_hasLine ad Mq y5_17 e5_17 x2 t2 x3 t3 x4 t4 Iq0 (by omega)) rfl (by decide) (Nat.le_of_ble_eq_true rfl) rfl dX7_isForged_71 ?_
                rintro _ _ ⟨rq34, aq35, rfl, tq36, hq37, rfl⟩
                show G Γ Mq 74 [(6, .int 0), (5, .int y5_17), (0, .ref (ad 47)), (1, .int x1), (2, .int x2), (3, .int x3), (4, .int x4)] [.int rq34]
                refine g_if_eq X tq36 (tgt := 79) dX7_isForged_74 (by decide) (fun cq38 => ?_) (fun cq38 => ?_)
                · refine g_iinc X 1 (fun v => [(5, .int v), (6, .int 0), (0, .ref (ad 47)), (1, .int x1), (2, .int x2), (3, .int x3), (4, .int x4)]) dX7_isForged_79 rfl (by decide) (fun _ => rfl) (fun zq39 eq40 => ?_)
                  have tq41 : zq39.toInt = b5_17 + 1 := add_nw eq40 e5_17 (show (Int32.ofInt 1).toInt = 1 by decide) (by omega)
                  refine g_goto X (tgt := 17) dX7_isForged_82 (by decide) ?_
                  refine g_sub [0, 2, 3, 4, 5, 6] rfl ?_
                  exact ih17 zq39 _ tq41 (by omega) (by omega)
                · refine g_iconst X 0 dX7_isForged_77 (by decide) ?_
                  exact g_zret X (b01 (show (0 : Int32).toInt = 0 by decide) (by omega)) dX7_isForged_78 ⟨_, _, rfl, (show (0 : Int32).toInt = 0 by decide), (by omega), rfl⟩
            · refine g_iconst X 1 dX7_isForged_52 (by decide) ?_
              refine g_goto X (tgt := 57) dX7_isForged_53 (by decide) ?_
              refine g_istore X [(6, .int 1), (5, .int y5_17), (0, .ref (ad 47)), (1, .int x1), (2, .int x2), (3, .int x3), (4, .int x4)] dX7_isForged_57 (by decide) rfl ?_
              refine g_iload X 0 rfl dX7_isForged_59 ?_
              refine g_if_eq X (show (1 : Int32).toInt = 1 by decide) (tgt := 79) dX7_isForged_61 (by decide) (fun cq42 => ?_) (fun cq42 => ?_)
              · refine g_iinc X 1 (fun v => [(5, .int v), (6, .int 1), (0, .ref (ad 47)), (1, .int x1), (2, .int x2), (3, .int x3), (4, .int x4)]) dX7_isForged_79 rfl (by decide) (fun _ => rfl) (fun zq43 eq44 => ?_)
                have tq45 : zq43.toInt = b5_17 + 1 := add_nw eq44 e5_17 (show (Int32.ofInt 1).toInt = 1 by decide) (by omega)
                refine g_goto X (tgt := 17) dX7_isForged_82 (by decide) ?_
                refine g_sub [0, 2, 3, 4, 5, 6] rfl ?_
                exact ih17 zq43 _ tq45 (by omega) (by omega)
              · refine g_aload_n X 2 rfl dX7_isForged_64 ?_
                refine g_iload X 1 rfl dX7_isForged_65 ?_
                refine g_iload_n X 4 rfl dX7_isForged_67 ?_
                refine g_iload_n X 5 rfl dX7_isForged_68 ?_
                refine g_iload X 6 rfl dX7_isForged_69 ?_
                refine g_callV X m_X7_322 (c_X7_hasLine ad Mq y5_17 e5_17 x2 t2 x3 t3 x4 t4 Iq0 (by omega)) rfl (by decide) (Nat.le_of_ble_eq_true rfl) rfl dX7_isForged_71 ?_
                rintro _ _ ⟨rq46, aq47, rfl, tq48, hq49, rfl⟩
                show G Γ Mq 74 [(6, .int 1), (5, .int y5_17), (0, .ref (ad 47)), (1, .int x1), (2, .int x2), (3, .int x3), (4, .int x4)] [.int rq46]
                refine g_if_eq X tq48 (tgt := 79) dX7_isForged_74 (by decide) (fun cq50 => ?_) (fun cq50 => ?_)
                · refine g_iinc X 1 (fun v => [(5, .int v), (6, .int 1), (0, .ref (ad 47)), (1, .int x1), (2, .int x2), (3, .int x3), (4, .int x4)]) dX7_isForged_79 rfl (by decide) (fun _ => rfl) (fun zq51 eq52 => ?_)
                  have tq53 : zq51.toInt = b5_17 + 1 := add_nw eq52 e5_17 (show (Int32.ofInt 1).toInt = 1 by decide) (by omega)
                  refine g_goto X (tgt := 17) dX7_isForged_82 (by decide) ?_
                  refine g_sub [0, 2, 3, 4, 5, 6] rfl ?_
                  exact ih17 zq51 _ tq53 (by omega) (by omega)
                · refine g_iconst X 0 dX7_isForged_77 (by decide) ?_
                  exact g_zret X (b01 (show (0 : Int32).toInt = 0 by decide) (by omega)) dX7_isForged_78 ⟨_, _, rfl, (show (0 : Int32).toInt = 0 by decide), (by omega), rfl⟩
    refine g_sub [0, 1, 2, 3, 4, 5] rfl ?_
    exact lp17 _ 0 _ (show (0 : Int32).toInt = 0 by decide) (by omega) (Nat.lt_succ_self _)
  · refine g_iconst X 0 dX7_isForged_12 (by decide) ?_
    exact g_zret X (b01 (show (0 : Int32).toInt = 0 by decide) (by omega)) dX7_isForged_13 ⟨_, _, rfl, (show (0 : Int32).toInt = 0 by decide), (by omega), rfl⟩
set_option maxHeartbeats 4000000 in
set_option maxRecDepth 4000 in
theorem c_X7_forged (ad : Nat → Nat) (Mq : Mem) (x1 : Int32) {a1 : Int} (t1 : x1.toInt = a1) (x2 : Int32) {a2 : Int} (t2 : x2.toInt = a2) (x3 : Int32) {a3 : Int} (t3 : x3.toInt = a3) (Iq0 : Iv TM Mq) : Ctr ad yX7_forged cX7_forged 5 (some .int) 4 [.ref (ad 47), .int x1, .int x2, .int x3] Mq (fun v M' => ∃ (r : Int32) (a : Int), v = some (.int r) ∧ r.toInt = a ∧ (True) ∧ Mq = M') := by
  refine ctr_of (L := [(0, .ref (ad 47)), (1, .int x1), (2, .int x2), (3, .int x3)]) (by decide) (Nat.le_of_ble_eq_true rfl) rfl ?_
  intro Γ X
  have X : gX Γ cX7_forged RX7 5 (some .int) 4 ad _ := X
  have g11 := ig_47_11 Iq0
  have g12 := ig_47_12 Iq0
  have g14 := ig_47_14 Iq0
  have g32 := ig_47_32 Iq0
  have g43 := ig_47_43 Iq0
  have g44 := ig_47_44 Iq0
  have g52 := ig_47_52 Iq0
  have g53 := ig_47_53 Iq0
  have g59 := ig_47_59 Iq0
  refine g_aload_n X 0 rfl dX7_forged_0 ?_
  refine g_iload_n X 1 rfl dX7_forged_1 ?_
  refine g_callV X m_X7_260 (c_X7_isSinger ad Mq x1 t1) rfl (by decide) (Nat.le_of_ble_eq_true rfl) rfl dX7_forged_2 ?_
  rintro _ _ ⟨rq1, aq2, rfl, tq3, hq4, rfl⟩
  show G Γ Mq 5 [(0, .ref (ad 47)), (1, .int x1), (2, .int x2), (3, .int x3)] [.int rq1]
  refine g_if_eq X tq3 (tgt := 16) dX7_forged_5 (by decide) (fun cq5 => ?_) (fun cq5 => ?_)
  · have pq6 : ¬ (0 ≤ a1 ∧ a1 < ((Mq.1 47 52)).toInt) := by omega
    clear hq4 cq5 tq3
    refine g_iconst X (-1) dX7_forged_16 (by decide) ?_
    exact g_iret X dX7_forged_17 ⟨_, _, rfl, (show ((-1) : Int32).toInt = (-1) by decide), trivial, rfl⟩
  · have pq7 : (0 ≤ a1 ∧ a1 < ((Mq.1 47 52)).toInt) := by omega
    clear hq4 cq5 tq3
    refine g_aload_n X 0 rfl dX7_forged_8 ?_
    refine g_iload_n X 3 rfl dX7_forged_9 ?_
    refine g_callV X m_X7_326 (c_X7_isKnown ad Mq x3 t3) rfl (by decide) (Nat.le_of_ble_eq_true rfl) rfl dX7_forged_10 ?_
    rintro _ _ ⟨rq8, aq9, rfl, tq10, hq11, rfl⟩
    show G Γ Mq 13 [(0, .ref (ad 47)), (1, .int x1), (2, .int x2), (3, .int x3)] [.int rq8]
    refine g_if_ne X tq10 (tgt := 18) dX7_forged_13 (by decide) (fun cq12 => ?_) (fun cq12 => ?_)
    · have pq13 : (-1 ≤ a3 ∧ a3 ≤ ((Mq.1 47 53)).toInt) := by omega
      clear hq11 cq12 tq10
      refine g_iload_n X 2 rfl dX7_forged_18 ?_
      refine g_callS X m_X7_263 (c_X7_isYear ad Mq x2 t2) rfl (by decide) (Nat.le_of_ble_eq_true rfl) rfl dX7_forged_19 ?_
      rintro _ _ ⟨rq14, aq15, rfl, tq16, hq17, rfl⟩
      show G Γ Mq 22 [(0, .ref (ad 47)), (1, .int x1), (2, .int x2), (3, .int x3)] [.int rq14]
      refine g_if_ne X tq16 (tgt := 28) dX7_forged_22 (by decide) (fun cq18 => ?_) (fun cq18 => ?_)
      · have pq19 : (0 ≤ a2 ∧ a2 ≤ 999) := by omega
        clear hq17 cq18 tq16
        refine g_aload_n X 0 rfl dX7_forged_28 ?_
        refine g_geti X f_X7_339 dX7_forged_29 (x := Mq.1 47 43) rfl ?_
        have bq20 := ig_47_43 Iq0
        refine g_if_ne X rfl (tgt := 38) dX7_forged_32 (by decide) (fun cq21 => ?_) (fun cq21 => ?_)
        · refine g_iconst X 0 dX7_forged_38 (by decide) ?_
          refine g_istore X [(4, .int 0), (0, .ref (ad 47)), (1, .int x1), (2, .int x2), (3, .int x3)] dX7_forged_39 (by decide) rfl ?_
          have lp41 : ∀ n : Nat, ∀ (y4_41 : Int32) (b4_41 : Int), y4_41.toInt = b4_41 → (0 ≤ b4_41) → ((Mq.1 47 43).toInt - b4_41).toNat < n → G Γ Mq 41 [(4, .int y4_41), (0, .ref (ad 47)), (1, .int x1), (2, .int x2), (3, .int x3)] [] := by
            intro n
            induction n with
            | zero => intro y4_41 b4_41 e4_41 i1 hm; exact absurd hm (Nat.not_lt_zero _)
            | succ n ih41 =>
              intro y4_41 b4_41 e4_41 i1 hm41
              refine g_iload X 0 rfl dX7_forged_41 ?_
              refine g_aload_n X 1 rfl dX7_forged_43 ?_
              refine g_geti X f_X7_339 dX7_forged_44 (x := Mq.1 47 43) rfl ?_
              have bq22 := ig_47_43 Iq0
              refine g_icmp_ge X e4_41 rfl (tgt := 92) dX7_forged_47 (by decide) (fun cq23 => ?_) (fun cq23 => ?_)
              · refine g_bipush X (-5) dX7_forged_92 (by decide) ?_
                exact g_iret X dX7_forged_94 ⟨_, _, rfl, (show ((-5) : Int32).toInt = (-5) by decide), trivial, rfl⟩
              · refine g_aload_n X 1 rfl dX7_forged_50 ?_
                refine g_getr X f_X7_101 dX7_forged_51 ?_
                refine g_iload X 0 rfl dX7_forged_54 ?_
                refine g_iald X la_77 e4_41 dX7_forged_56 (by omega) (x := Mq.1 77 b4_41.toNat) rfl ?_
                have bq24 := ig_77 Iq0 b4_41.toNat (by omega)
                refine g_bipush X 40 dX7_forged_57 (by decide) ?_
                refine g_icmp_eq X rfl (show (40 : Int32).toInt = 40 by decide) (tgt := 86) dX7_forged_59 (by decide) (fun cq25 => ?_) (fun cq25 => ?_)
                · refine g_iinc X 0 (fun v => [(4, .int v), (0, .ref (ad 47)), (1, .int x1), (2, .int x2), (3, .int x3)]) dX7_forged_86 rfl (by decide) (fun _ => rfl) (fun zq26 eq27 => ?_)
                  have tq28 : zq26.toInt = b4_41 + 1 := add_nw eq27 e4_41 (show (Int32.ofInt 1).toInt = 1 by decide) (by omega)
                  refine g_goto X (tgt := 41) dX7_forged_89 (by decide) ?_
                  refine g_sub [0, 1, 2, 3, 4] rfl ?_
                  exact ih41 zq26 _ tq28 (by omega) (by omega)
                · refine g_aload_n X 1 rfl dX7_forged_62 ?_
                  refine g_iload_n X 2 rfl dX7_forged_63 ?_
                  refine g_aload_n X 1 rfl dX7_forged_64 ?_
                  refine g_getr X f_X7_101 dX7_forged_65 ?_
                  refine g_iload X 0 rfl dX7_forged_68 ?_
                  refine g_iald X la_77 e4_41 dX7_forged_70 (by omega) (x := Mq.1 77 b4_41.toNat) rfl ?_
                  have bq29 := ig_77 Iq0 b4_41.toNat (by omega)
                  refine g_iload_n X 3 rfl dX7_forged_71 ?_
                  refine g_aload_n X 1 rfl dX7_forged_72 ?_
                  refine g_iload_n X 4 rfl dX7_forged_73 ?_
                  refine g_callV X m_X7_329 (c_X7_upTo ad Mq x3 t3) rfl (by decide) (Nat.le_of_ble_eq_true rfl) rfl dX7_forged_74 ?_
                  rintro _ _ ⟨rq30, aq31, rfl, tq32, hq33, rfl⟩
                  show G Γ Mq 77 [(4, .int y4_41), (0, .ref (ad 47)), (1, .int x1), (2, .int x2), (3, .int x3)] [.int rq30, .int x2, .int (Mq.1 77 b4_41.toNat), .int x1, .ref (ad 47)]
                  refine g_callV X m_X7_349 (c_X7_isForged ad Mq x1 t1 (Mq.1 77 b4_41.toNat) rfl x2 t2 rq30 tq32 Iq0 (by omega) (by omega)) rfl (by decide) (Nat.le_of_ble_eq_true rfl) rfl dX7_forged_77 ?_
                  rintro _ _ ⟨rq34, aq35, rfl, tq36, hq37, rfl⟩
                  show G Γ Mq 80 [(4, .int y4_41), (0, .ref (ad 47)), (1, .int x1), (2, .int x2), (3, .int x3)] [.int rq34]
                  refine g_if_eq X tq36 (tgt := 86) dX7_forged_80 (by decide) (fun cq38 => ?_) (fun cq38 => ?_)
                  · refine g_iinc X 0 (fun v => [(4, .int v), (0, .ref (ad 47)), (1, .int x1), (2, .int x2), (3, .int x3)]) dX7_forged_86 rfl (by decide) (fun _ => rfl) (fun zq39 eq40 => ?_)
                    have tq41 : zq39.toInt = b4_41 + 1 := add_nw eq40 e4_41 (show (Int32.ofInt 1).toInt = 1 by decide) (by omega)
                    refine g_goto X (tgt := 41) dX7_forged_89 (by decide) ?_
                    refine g_sub [0, 1, 2, 3, 4] rfl ?_
                    exact ih41 zq39 _ tq41 (by omega) (by omega)
                  · refine g_iload X 0 rfl dX7_forged_83 ?_
                    exact g_iret X dX7_forged_85 ⟨_, _, rfl, e4_41, trivial, rfl⟩
          refine g_sub [0, 1, 2, 3, 4] rfl ?_
          exact lp41 _ 0 _ (show (0 : Int32).toInt = 0 by decide) (by omega) (Nat.lt_succ_self _)
        · refine g_bipush X (-3) dX7_forged_35 (by decide) ?_
          exact g_iret X dX7_forged_37 ⟨_, _, rfl, (show ((-3) : Int32).toInt = (-3) by decide), trivial, rfl⟩
      · have pq42 : ¬ (0 ≤ a2 ∧ a2 ≤ 999) := by omega
        clear hq17 cq18 tq16
        refine g_bipush X (-2) dX7_forged_25 (by decide) ?_
        exact g_iret X dX7_forged_27 ⟨_, _, rfl, (show ((-2) : Int32).toInt = (-2) by decide), trivial, rfl⟩
    · have pq43 : ¬ (-1 ≤ a3 ∧ a3 ≤ ((Mq.1 47 53)).toInt) := by omega
      clear hq11 cq12 tq10
      refine g_iconst X (-1) dX7_forged_16 (by decide) ?_
      exact g_iret X dX7_forged_17 ⟨_, _, rfl, (show ((-1) : Int32).toInt = (-1) by decide), trivial, rfl⟩
abbrev W_X7_record : List (Nat × Nat) := [(47, 59), (86, 99), (87, 99), (88, 99), (89, 99), (90, 99)]
set_option maxHeartbeats 4000000 in
set_option maxRecDepth 4000 in
theorem c_X7_record (ad : Nat → Nat) (Mq : Mem) (x1 : Int32) {a1 : Int} (t1 : x1.toInt = a1) (x2 : Int32) {a2 : Int} (t2 : x2.toInt = a2) (x3 : Int32) {a3 : Int} (t3 : x3.toInt = a3) (Iq0 : Iv TM Mq) : Ctr ad yX7_record cX7_record 5 (some .int) 2 [.ref (ad 47), .int x1, .int x2, .int x3] Mq (fun v M' => ∃ (r : Int32) (a : Int), v = some (.int r) ∧ r.toInt = a ∧ (True) ∧ Iv TM M' ∧ Fr W_X7_record Mq M') := by
  refine ctr_of (L := [(0, .ref (ad 47)), (1, .int x1), (2, .int x2), (3, .int x3)]) (by decide) (Nat.le_of_ble_eq_true rfl) rfl ?_
  intro Γ X
  have X : gX Γ cX7_record RX7 5 (some .int) 2 ad _ := X
  have frq0 : Fr W_X7_record Mq Mq := Fr.rf
  have g11 := ig_47_11 Iq0
  have g12 := ig_47_12 Iq0
  have g14 := ig_47_14 Iq0
  have g32 := ig_47_32 Iq0
  have g43 := ig_47_43 Iq0
  have g44 := ig_47_44 Iq0
  have g52 := ig_47_52 Iq0
  have g53 := ig_47_53 Iq0
  have g59 := ig_47_59 Iq0
  refine g_aload_n X 0 rfl dX7_record_0 ?_
  refine g_iload_n X 1 rfl dX7_record_1 ?_
  refine g_callV X m_X7_260 (c_X7_isSinger ad Mq x1 t1) rfl (by decide) (Nat.le_of_ble_eq_true rfl) rfl dX7_record_2 ?_
  rintro _ _ ⟨rq1, aq2, rfl, tq3, hq4, rfl⟩
  show G Γ Mq 5 [(0, .ref (ad 47)), (1, .int x1), (2, .int x2), (3, .int x3)] [.int rq1]
  refine g_if_eq X tq3 (tgt := 16) dX7_record_5 (by decide) (fun cq5 => ?_) (fun cq5 => ?_)
  · have pq6 : ¬ (0 ≤ a1 ∧ a1 < ((Mq.1 47 52)).toInt) := by omega
    clear hq4 cq5 tq3
    refine g_iconst X (-1) dX7_record_16 (by decide) ?_
    exact g_iret X dX7_record_17 ⟨_, _, rfl, (show ((-1) : Int32).toInt = (-1) by decide), trivial, Iq0, frq0⟩
  · have pq7 : (0 ≤ a1 ∧ a1 < ((Mq.1 47 52)).toInt) := by omega
    clear hq4 cq5 tq3
    refine g_aload_n X 0 rfl dX7_record_8 ?_
    refine g_iload_n X 2 rfl dX7_record_9 ?_
    refine g_callV X m_X7_220 (c_X7_isTold ad Mq x2 t2) rfl (by decide) (Nat.le_of_ble_eq_true rfl) rfl dX7_record_10 ?_
    rintro _ _ ⟨rq8, aq9, rfl, tq10, hq11, rfl⟩
    show G Γ Mq 13 [(0, .ref (ad 47)), (1, .int x1), (2, .int x2), (3, .int x3)] [.int rq8]
    refine g_if_ne X tq10 (tgt := 18) dX7_record_13 (by decide) (fun cq12 => ?_) (fun cq12 => ?_)
    · have pq13 : (0 ≤ a2 ∧ a2 ≤ 7 ∧ 0 < (Mq.1 63 a2.toNat).toInt) := by omega
      clear hq11 cq12 tq10
      refine g_iload_n X 3 rfl dX7_record_18 ?_
      refine g_callS X m_X7_263 (c_X7_isYear ad Mq x3 t3) rfl (by decide) (Nat.le_of_ble_eq_true rfl) rfl dX7_record_19 ?_
      rintro _ _ ⟨rq14, aq15, rfl, tq16, hq17, rfl⟩
      show G Γ Mq 22 [(0, .ref (ad 47)), (1, .int x1), (2, .int x2), (3, .int x3)] [.int rq14]
      refine g_if_ne X tq16 (tgt := 28) dX7_record_22 (by decide) (fun cq18 => ?_) (fun cq18 => ?_)
      · have pq19 : (0 ≤ a3 ∧ a3 ≤ 999) := by omega
        clear hq17 cq18 tq16
        refine g_aload_n X 0 rfl dX7_record_28 ?_
        refine g_geti X f_X7_339 dX7_record_29 (x := Mq.1 47 43) rfl ?_
        have bq20 := ig_47_43 Iq0
        refine g_if_ne X rfl (tgt := 38) dX7_record_32 (by decide) (fun cq21 => ?_) (fun cq21 => ?_)
        · refine g_aload_n X 0 rfl dX7_record_38 ?_
          refine g_geti X f_X7_352 dX7_record_39 (x := Mq.1 47 59) rfl ?_
          have bq22 := ig_47_59 Iq0
          refine g_bipush X 12 dX7_record_42 (by decide) ?_
          refine g_icmp_ne X rfl (show (12 : Int32).toInt = 12 by decide) (tgt := 50) dX7_record_44 (by decide) (fun cq23 => ?_) (fun cq23 => ?_)
          · refine g_aload_n X 0 rfl dX7_record_50 ?_
            refine g_getr X f_X7_129 dX7_record_51 ?_
            refine g_aload_n X 0 rfl dX7_record_54 ?_
            refine g_geti X f_X7_352 dX7_record_55 (x := Mq.1 47 59) rfl ?_
            have bq24 := ig_47_59 Iq0
            refine g_iload_n X 1 rfl dX7_record_58 ?_
            refine g_iast X la_86 rfl dX7_record_59 (by omega) ?_
            have Iq25 : Iv TM (ui Mq 86 (((Mq.1 47 59).toInt).toNat) x1) := Iq0.otherA rfl
            have frq26 : Fr W_X7_record Mq (ui Mq 86 (((Mq.1 47 59).toInt).toNat) x1) := frq0.ui rfl
            refine g_aload_n X 0 rfl dX7_record_60 ?_
            refine g_getr X f_X7_132 dX7_record_61 ?_
            refine g_aload_n X 0 rfl dX7_record_64 ?_
            refine g_geti X f_X7_352 dX7_record_65 (x := Mq.1 47 59) rfl ?_
            have bq27 := ig_47_59 Iq0
            refine g_iload_n X 2 rfl dX7_record_68 ?_
            refine g_iast X la_87 rfl dX7_record_69 (by omega) ?_
            have Iq28 : Iv TM (ui (ui Mq 86 (((Mq.1 47 59).toInt).toNat) x1) 87 (((Mq.1 47 59).toInt).toNat) x2) := Iq25.putA 0 7 t2 (by omega) rfl
            have frq29 : Fr W_X7_record Mq (ui (ui Mq 86 (((Mq.1 47 59).toInt).toNat) x1) 87 (((Mq.1 47 59).toInt).toNat) x2) := frq26.ui rfl
            refine g_aload_n X 0 rfl dX7_record_70 ?_
            refine g_getr X f_X7_135 dX7_record_71 ?_
            refine g_aload_n X 0 rfl dX7_record_74 ?_
            refine g_geti X f_X7_352 dX7_record_75 (x := Mq.1 47 59) rfl ?_
            have bq30 := ig_47_59 Iq0
            refine g_iload_n X 3 rfl dX7_record_78 ?_
            refine g_iast X la_88 rfl dX7_record_79 (by omega) ?_
            have Iq31 : Iv TM (ui (ui (ui Mq 86 (((Mq.1 47 59).toInt).toNat) x1) 87 (((Mq.1 47 59).toInt).toNat) x2) 88 (((Mq.1 47 59).toInt).toNat) x3) := Iq28.otherA rfl
            have frq32 : Fr W_X7_record Mq (ui (ui (ui Mq 86 (((Mq.1 47 59).toInt).toNat) x1) 87 (((Mq.1 47 59).toInt).toNat) x2) 88 (((Mq.1 47 59).toInt).toNat) x3) := frq29.ui rfl
            refine g_aload_n X 0 rfl dX7_record_80 ?_
            refine g_getr X f_X7_138 dX7_record_81 ?_
            refine g_aload_n X 0 rfl dX7_record_84 ?_
            refine g_geti X f_X7_352 dX7_record_85 (x := Mq.1 47 59) rfl ?_
            have bq33 := ig_47_59 Iq0
            refine g_aload_n X 0 rfl dX7_record_88 ?_
            refine g_geti X f_X7_339 dX7_record_89 (x := Mq.1 47 43) rfl ?_
            have bq34 := ig_47_43 Iq0
            refine g_iast X la_89 rfl dX7_record_92 (by omega) ?_
            have Iq35 : Iv TM (ui (ui (ui (ui Mq 86 (((Mq.1 47 59).toInt).toNat) x1) 87 (((Mq.1 47 59).toInt).toNat) x2) 88 (((Mq.1 47 59).toInt).toNat) x3) 89 (((Mq.1 47 59).toInt).toNat) (Mq.1 47 43)) := Iq31.putA 0 24 rfl (by omega) rfl
            have frq36 : Fr W_X7_record Mq (ui (ui (ui (ui Mq 86 (((Mq.1 47 59).toInt).toNat) x1) 87 (((Mq.1 47 59).toInt).toNat) x2) 88 (((Mq.1 47 59).toInt).toNat) x3) 89 (((Mq.1 47 59).toInt).toNat) (Mq.1 47 43)) := frq32.ui rfl
            refine g_iconst X 0 dX7_record_93 (by decide) ?_
            refine g_istore X [(4, .int 0), (0, .ref (ad 47)), (1, .int x1), (2, .int x2), (3, .int x3)] dX7_record_94 (by decide) rfl ?_
            have lp96 : ∀ n : Nat, ∀ (y4_96 : Int32) (b4_96 : Int), y4_96.toInt = b4_96 → ∀ (M_96 : Mem), (0 ≤ b4_96) → ((M_96.1 47 59).toInt = (Mq.1 47 59).toInt) → (Iv TM M_96) → (Fr W_X7_record Mq M_96) → ((Mq.1 47 43).toInt - b4_96).toNat < n → G Γ M_96 96 [(4, .int y4_96), (0, .ref (ad 47)), (1, .int x1), (2, .int x2), (3, .int x3)] [] := by
              intro n
              induction n with
              | zero => intro y4_96 b4_96 e4_96 M_96 i1 i2 I_96 fr_96 hm; exact absurd hm (Nat.not_lt_zero _)
              | succ n ih96 =>
                intro y4_96 b4_96 e4_96 M_96 i1 i2 I_96 fr_96 hm96
                have trq37 : (M_96.1 47 43).toInt = (Mq.1 47 43).toInt := congrArg Int32.toInt (fr_96.at 47 43 rfl)
                refine g_iload X 0 rfl dX7_record_96 ?_
                refine g_aload_n X 1 rfl dX7_record_98 ?_
                refine g_geti X f_X7_339 dX7_record_99 (x := M_96.1 47 43) rfl ?_
                have bq38 := ig_47_43 I_96
                refine g_icmp_ge X e4_96 rfl (tgt := 133) dX7_record_102 (by decide) (fun cq39 => ?_) (fun cq39 => ?_)
                · refine g_aload_n X 1 rfl dX7_record_133 ?_
                  refine g_dup X dX7_record_134 rfl ?_
                  refine g_geti X f_X7_352 dX7_record_135 (x := M_96.1 47 59) rfl ?_
                  have bq40 := ig_47_59 I_96
                  refine g_iconst X 1 dX7_record_138 (by decide) ?_
                  refine g_iadd X dX7_record_139 (fun zq41 eq42 => ?_)
                  have tq43 : zq41.toInt = ((M_96.1 47 59).toInt) + 1 := add_nw eq42 rfl (show (1 : Int32).toInt = 1 by decide) (by omega)
                  refine g_puti X p_X7_352 dX7_record_140 ?_
                  have Iq44 : Iv TM (ui M_96 47 59 zq41) := I_96.put 0 12 tq43 (by omega) rfl
                  have frq45 : Fr W_X7_record Mq (ui M_96 47 59 zq41) := fr_96.ui rfl
                  refine g_aload_n X 1 rfl dX7_record_143 ?_
                  refine g_geti X f_X7_352 dX7_record_144 (x := zq41) rfl ?_
                  refine g_iconst X 1 dX7_record_147 (by decide) ?_
                  refine g_isub X dX7_record_148 (fun zq46 eq47 => ?_)
                  have tq48 : zq46.toInt = (((M_96.1 47 59).toInt) + 1) - 1 := sub_nw eq47 tq43 (show (1 : Int32).toInt = 1 by decide) (by omega)
                  exact g_iret X dX7_record_149 ⟨_, _, rfl, tq48, trivial, Iq44, frq45⟩
                · refine g_aload_n X 1 rfl dX7_record_105 ?_
                  refine g_getr X f_X7_141 dX7_record_106 ?_
                  refine g_bipush X 24 dX7_record_109 (by decide) ?_
                  refine g_aload_n X 1 rfl dX7_record_111 ?_
                  refine g_geti X f_X7_352 dX7_record_112 (x := M_96.1 47 59) rfl ?_
                  have bq49 := ig_47_59 I_96
                  refine g_imul X dX7_record_115 (fun zq50 eq51 => ?_)
                  have tq52 : zq50.toInt = 24 * ((M_96.1 47 59).toInt) := mul_nw eq51 (show (24 : Int32).toInt = 24 by decide) rfl (by omega)
                  refine g_iload X 0 rfl dX7_record_116 ?_
                  refine g_iadd X dX7_record_118 (fun zq53 eq54 => ?_)
                  have tq55 : zq53.toInt = (24 * ((M_96.1 47 59).toInt)) + b4_96 := add_nw eq54 tq52 e4_96 (by omega)
                  refine g_aload_n X 1 rfl dX7_record_119 ?_
                  refine g_getr X f_X7_101 dX7_record_120 ?_
                  refine g_iload X 0 rfl dX7_record_123 ?_
                  refine g_iald X la_77 e4_96 dX7_record_125 (by omega) (x := M_96.1 77 b4_96.toNat) rfl ?_
                  have bq56 := ig_77 I_96 b4_96.toNat (by omega)
                  refine g_iast X la_90 tq55 dX7_record_126 (by omega) ?_
                  have Iq57 : Iv TM (ui M_96 90 (((24 * ((M_96.1 47 59).toInt)) + b4_96).toNat) (M_96.1 77 b4_96.toNat)) := I_96.putA 0 40 rfl (by omega) rfl
                  have frq58 : Fr W_X7_record Mq (ui M_96 90 (((24 * ((M_96.1 47 59).toInt)) + b4_96).toNat) (M_96.1 77 b4_96.toNat)) := fr_96.ui rfl
                  refine g_iinc X 0 (fun v => [(4, .int v), (0, .ref (ad 47)), (1, .int x1), (2, .int x2), (3, .int x3)]) dX7_record_127 rfl (by decide) (fun _ => rfl) (fun zq59 eq60 => ?_)
                  have tq61 : zq59.toInt = b4_96 + 1 := add_nw eq60 e4_96 (show (Int32.ofInt 1).toInt = 1 by decide) (by omega)
                  refine g_goto X (tgt := 96) dX7_record_130 (by decide) ?_
                  refine g_sub [0, 1, 2, 3, 4] rfl ?_
                  exact ih96 zq59 _ tq61 (ui M_96 90 (((24 * ((M_96.1 47 59).toInt)) + b4_96).toNat) (M_96.1 77 b4_96.toNat)) (by omega) i2 Iq57 frq58 (by omega)
            refine g_sub [0, 1, 2, 3, 4] rfl ?_
            exact lp96 _ 0 _ (show (0 : Int32).toInt = 0 by decide) (ui (ui (ui (ui Mq 86 (((Mq.1 47 59).toInt).toNat) x1) 87 (((Mq.1 47 59).toInt).toNat) x2) 88 (((Mq.1 47 59).toInt).toNat) x3) 89 (((Mq.1 47 59).toInt).toNat) (Mq.1 47 43)) (by omega) rfl Iq35 frq36 (Nat.lt_succ_self _)
          · refine g_bipush X (-4) dX7_record_47 (by decide) ?_
            exact g_iret X dX7_record_49 ⟨_, _, rfl, (show ((-4) : Int32).toInt = (-4) by decide), trivial, Iq0, frq0⟩
        · refine g_bipush X (-3) dX7_record_35 (by decide) ?_
          exact g_iret X dX7_record_37 ⟨_, _, rfl, (show ((-3) : Int32).toInt = (-3) by decide), trivial, Iq0, frq0⟩
      · have pq62 : ¬ (0 ≤ a3 ∧ a3 ≤ 999) := by omega
        clear hq17 cq18 tq16
        refine g_bipush X (-2) dX7_record_25 (by decide) ?_
        exact g_iret X dX7_record_27 ⟨_, _, rfl, (show ((-2) : Int32).toInt = (-2) by decide), trivial, Iq0, frq0⟩
    · have pq63 : ¬ (0 ≤ a2 ∧ a2 ≤ 7 ∧ 0 < (Mq.1 63 a2.toNat).toInt) := by omega
      clear hq11 cq12 tq10
      refine g_iconst X (-1) dX7_record_16 (by decide) ?_
      exact g_iret X dX7_record_17 ⟨_, _, rfl, (show ((-1) : Int32).toInt = (-1) by decide), trivial, Iq0, frq0⟩
abbrev W_X7_sees_77 : List (Nat × Nat) := [(47, 44), (78, 99)]
set_option maxHeartbeats 4000000 in
set_option maxRecDepth 4000 in
theorem c_X7_sees_77 (ad : Nat → Nat) (Mq : Mem) (x2 : Int32) {a2 : Int} (t2 : x2.toInt = a2) (x3 : Int32) {a3 : Int} (t3 : x3.toInt = a3) (Iq0 : Iv TM Mq) (h1 : 0 ≤ a2 ∧ a2 + a3 ≤ 24) (h2 : 0 ≤ a3 ∧ a3 ≤ 24) : Ctr ad yX7_sees cX7_sees 5 none 0 [.ref (ad 47), .ref (ad 77), .int x2, .int x3] Mq (fun v M' => v = none ∧ (True) ∧ Iv TM M' ∧ Fr W_X7_sees_77 Mq M') := by
  refine ctr_of (L := [(0, .ref (ad 47)), (1, .ref (ad 77)), (2, .int x2), (3, .int x3)]) (by decide) (Nat.le_of_ble_eq_true rfl) rfl ?_
  intro Γ X
  have X : gX Γ cX7_sees RX7 5 none 0 ad _ := X
  have frq0 : Fr W_X7_sees_77 Mq Mq := Fr.rf
  have g11 := ig_47_11 Iq0
  have g12 := ig_47_12 Iq0
  have g14 := ig_47_14 Iq0
  have g32 := ig_47_32 Iq0
  have g43 := ig_47_43 Iq0
  have g44 := ig_47_44 Iq0
  have g52 := ig_47_52 Iq0
  have g53 := ig_47_53 Iq0
  have g59 := ig_47_59 Iq0
  refine g_aload_n X 0 rfl dX7_sees_0 ?_
  refine g_iload_n X 3 rfl dX7_sees_1 ?_
  refine g_puti X p_X7_282 dX7_sees_2 ?_
  have Iq1 : Iv TM (ui Mq 47 44 x3) := Iq0.put 0 24 t3 (by omega) rfl
  have frq2 : Fr W_X7_sees_77 Mq (ui Mq 47 44 x3) := frq0.ui rfl
  refine g_iconst X 0 dX7_sees_5 (by decide) ?_
  refine g_istore X [(4, .int 0), (0, .ref (ad 47)), (1, .ref (ad 77)), (2, .int x2), (3, .int x3)] dX7_sees_6 (by decide) rfl ?_
  have lp8 : ∀ n : Nat, ∀ (y4_8 : Int32) (b4_8 : Int), y4_8.toInt = b4_8 → ∀ (M_8 : Mem), (0 ≤ b4_8) → (Iv TM M_8) → (Fr W_X7_sees_77 Mq M_8) → (a3 - b4_8).toNat < n → G Γ M_8 8 [(4, .int y4_8), (0, .ref (ad 47)), (1, .ref (ad 77)), (2, .int x2), (3, .int x3)] [] := by
    intro n
    induction n with
    | zero => intro y4_8 b4_8 e4_8 M_8 i1 I_8 fr_8 hm; exact absurd hm (Nat.not_lt_zero _)
    | succ n ih8 =>
      intro y4_8 b4_8 e4_8 M_8 i1 I_8 fr_8 hm8
      refine g_iload X 0 rfl dX7_sees_8 ?_
      refine g_iload_n X 4 rfl dX7_sees_10 ?_
      refine g_icmp_ge X e4_8 t3 (tgt := 33) dX7_sees_11 (by decide) (fun cq3 => ?_) (fun cq3 => ?_)
      · exact g_vret X dX7_sees_33 ⟨rfl, trivial, I_8, fr_8⟩
      · refine g_aload_n X 1 rfl dX7_sees_14 ?_
        refine g_getr X f_X7_104 dX7_sees_15 ?_
        refine g_iload X 0 rfl dX7_sees_18 ?_
        refine g_aload_n X 2 rfl dX7_sees_20 ?_
        refine g_iload_n X 3 rfl dX7_sees_21 ?_
        refine g_iload X 0 rfl dX7_sees_22 ?_
        refine g_iadd X dX7_sees_24 (fun zq4 eq5 => ?_)
        have tq6 : zq4.toInt = a2 + b4_8 := add_nw eq5 t2 e4_8 (by omega)
        refine g_iald X la_77 tq6 dX7_sees_25 (by omega) (x := M_8.1 77 ((a2 + b4_8).toNat)) rfl ?_
        have bq7 := ig_77 I_8 ((a2 + b4_8).toNat) (by omega)
        refine g_iast X la_78 e4_8 dX7_sees_26 (by omega) ?_
        have Iq8 : Iv TM (ui M_8 78 b4_8.toNat (M_8.1 77 ((a2 + b4_8).toNat))) := I_8.putA 0 40 rfl (by omega) rfl
        have frq9 : Fr W_X7_sees_77 Mq (ui M_8 78 b4_8.toNat (M_8.1 77 ((a2 + b4_8).toNat))) := fr_8.ui rfl
        refine g_iinc X 0 (fun v => [(4, .int v), (0, .ref (ad 47)), (1, .ref (ad 77)), (2, .int x2), (3, .int x3)]) dX7_sees_27 rfl (by decide) (fun _ => rfl) (fun zq10 eq11 => ?_)
        have tq12 : zq10.toInt = b4_8 + 1 := add_nw eq11 e4_8 (show (Int32.ofInt 1).toInt = 1 by decide) (by omega)
        refine g_goto X (tgt := 8) dX7_sees_30 (by decide) ?_
        refine g_sub [0, 1, 2, 3, 4] rfl ?_
        exact ih8 zq10 _ tq12 (ui M_8 78 b4_8.toNat (M_8.1 77 ((a2 + b4_8).toNat))) (by omega) Iq8 frq9 (by omega)
  refine g_sub [0, 1, 2, 3, 4] rfl ?_
  exact lp8 _ 0 _ (show (0 : Int32).toInt = 0 by decide) (ui Mq 47 44 x3) (by omega) Iq1 frq2 (Nat.lt_succ_self _)
abbrev W_X7_sees_90 : List (Nat × Nat) := [(47, 44), (78, 99)]
set_option maxHeartbeats 4000000 in
set_option maxRecDepth 4000 in
theorem c_X7_sees_90 (ad : Nat → Nat) (Mq : Mem) (x2 : Int32) {a2 : Int} (t2 : x2.toInt = a2) (x3 : Int32) {a3 : Int} (t3 : x3.toInt = a3) (Iq0 : Iv TM Mq) (h1 : 0 ≤ a2 ∧ a2 + a3 ≤ 288) (h2 : 0 ≤ a3 ∧ a3 ≤ 24) : Ctr ad yX7_sees cX7_sees 5 none 0 [.ref (ad 47), .ref (ad 90), .int x2, .int x3] Mq (fun v M' => v = none ∧ (True) ∧ Iv TM M' ∧ Fr W_X7_sees_90 Mq M') := by
  refine ctr_of (L := [(0, .ref (ad 47)), (1, .ref (ad 90)), (2, .int x2), (3, .int x3)]) (by decide) (Nat.le_of_ble_eq_true rfl) rfl ?_
  intro Γ X
  have X : gX Γ cX7_sees RX7 5 none 0 ad _ := X
  have frq0 : Fr W_X7_sees_90 Mq Mq := Fr.rf
  have g11 := ig_47_11 Iq0
  have g12 := ig_47_12 Iq0
  have g14 := ig_47_14 Iq0
  have g32 := ig_47_32 Iq0
  have g43 := ig_47_43 Iq0
  have g44 := ig_47_44 Iq0
  have g52 := ig_47_52 Iq0
  have g53 := ig_47_53 Iq0
  have g59 := ig_47_59 Iq0
  refine g_aload_n X 0 rfl dX7_sees_0 ?_
  refine g_iload_n X 3 rfl dX7_sees_1 ?_
  refine g_puti X p_X7_282 dX7_sees_2 ?_
  have Iq1 : Iv TM (ui Mq 47 44 x3) := Iq0.put 0 24 t3 (by omega) rfl
  have frq2 : Fr W_X7_sees_90 Mq (ui Mq 47 44 x3) := frq0.ui rfl
  refine g_iconst X 0 dX7_sees_5 (by decide) ?_
  refine g_istore X [(4, .int 0), (0, .ref (ad 47)), (1, .ref (ad 90)), (2, .int x2), (3, .int x3)] dX7_sees_6 (by decide) rfl ?_
  have lp8 : ∀ n : Nat, ∀ (y4_8 : Int32) (b4_8 : Int), y4_8.toInt = b4_8 → ∀ (M_8 : Mem), (0 ≤ b4_8) → (Iv TM M_8) → (Fr W_X7_sees_90 Mq M_8) → (a3 - b4_8).toNat < n → G Γ M_8 8 [(4, .int y4_8), (0, .ref (ad 47)), (1, .ref (ad 90)), (2, .int x2), (3, .int x3)] [] := by
    intro n
    induction n with
    | zero => intro y4_8 b4_8 e4_8 M_8 i1 I_8 fr_8 hm; exact absurd hm (Nat.not_lt_zero _)
    | succ n ih8 =>
      intro y4_8 b4_8 e4_8 M_8 i1 I_8 fr_8 hm8
      refine g_iload X 0 rfl dX7_sees_8 ?_
      refine g_iload_n X 4 rfl dX7_sees_10 ?_
      refine g_icmp_ge X e4_8 t3 (tgt := 33) dX7_sees_11 (by decide) (fun cq3 => ?_) (fun cq3 => ?_)
      · exact g_vret X dX7_sees_33 ⟨rfl, trivial, I_8, fr_8⟩
      · refine g_aload_n X 1 rfl dX7_sees_14 ?_
        refine g_getr X f_X7_104 dX7_sees_15 ?_
        refine g_iload X 0 rfl dX7_sees_18 ?_
        refine g_aload_n X 2 rfl dX7_sees_20 ?_
        refine g_iload_n X 3 rfl dX7_sees_21 ?_
        refine g_iload X 0 rfl dX7_sees_22 ?_
        refine g_iadd X dX7_sees_24 (fun zq4 eq5 => ?_)
        have tq6 : zq4.toInt = a2 + b4_8 := add_nw eq5 t2 e4_8 (by omega)
        refine g_iald X la_90 tq6 dX7_sees_25 (by omega) (x := M_8.1 90 ((a2 + b4_8).toNat)) rfl ?_
        have bq7 := ig_90 I_8 ((a2 + b4_8).toNat) (by omega)
        refine g_iast X la_78 e4_8 dX7_sees_26 (by omega) ?_
        have Iq8 : Iv TM (ui M_8 78 b4_8.toNat (M_8.1 90 ((a2 + b4_8).toNat))) := I_8.putA 0 40 rfl (by omega) rfl
        have frq9 : Fr W_X7_sees_90 Mq (ui M_8 78 b4_8.toNat (M_8.1 90 ((a2 + b4_8).toNat))) := fr_8.ui rfl
        refine g_iinc X 0 (fun v => [(4, .int v), (0, .ref (ad 47)), (1, .ref (ad 90)), (2, .int x2), (3, .int x3)]) dX7_sees_27 rfl (by decide) (fun _ => rfl) (fun zq10 eq11 => ?_)
        have tq12 : zq10.toInt = b4_8 + 1 := add_nw eq11 e4_8 (show (Int32.ofInt 1).toInt = 1 by decide) (by omega)
        refine g_goto X (tgt := 8) dX7_sees_30 (by decide) ?_
        refine g_sub [0, 1, 2, 3, 4] rfl ?_
        exact ih8 zq10 _ tq12 (ui M_8 78 b4_8.toNat (M_8.1 90 ((a2 + b4_8).toNat))) (by omega) Iq8 frq9 (by omega)
  refine g_sub [0, 1, 2, 3, 4] rfl ?_
  exact lp8 _ 0 _ (show (0 : Int32).toInt = 0 by decide) (ui Mq 47 44 x3) (by omega) Iq1 frq2 (Nat.lt_succ_self _)
abbrev W_X7_plays : List (Nat × Nat) := [(47, 44), (78, 99), (85, 99)]
set_option maxHeartbeats 4000000 in
set_option maxRecDepth 4000 in
theorem c_X7_plays (ad : Nat → Nat) (Mq : Mem) (x1 : Int32) {a1 : Int} (t1 : x1.toInt = a1) (x2 : Int32) {a2 : Int} (t2 : x2.toInt = a2) (Iq0 : Iv TM Mq) (h1 : 0 ≤ a1 ∧ a1 < 12) (h2 : -1 ≤ a2 ∧ a2 ≤ (Mq.1 47 53).toInt) : Ctr ad yX7_plays cX7_plays 3 none 2 [.ref (ad 47), .int x1, .int x2] Mq (fun v M' => v = none ∧ (True) ∧ Iv TM M' ∧ Fr W_X7_plays Mq M') := by
  refine ctr_of (L := [(0, .ref (ad 47)), (1, .int x1), (2, .int x2)]) (by decide) (Nat.le_of_ble_eq_true rfl) rfl ?_
  intro Γ X
  have X : gX Γ cX7_plays RX7 3 none 2 ad _ := X
  have frq0 : Fr W_X7_plays Mq Mq := Fr.rf
  have g11 := ig_47_11 Iq0
  have g12 := ig_47_12 Iq0
  have g14 := ig_47_14 Iq0
  have g32 := ig_47_32 Iq0
  have g43 := ig_47_43 Iq0
  have g44 := ig_47_44 Iq0
  have g52 := ig_47_52 Iq0
  have g53 := ig_47_53 Iq0
  have g59 := ig_47_59 Iq0
  refine g_aload_n X 0 rfl dX7_plays_0 ?_
  refine g_aload_n X 0 rfl dX7_plays_1 ?_
  refine g_getr X f_X7_129 dX7_plays_2 ?_
  refine g_iload_n X 1 rfl dX7_plays_5 ?_
  refine g_iald X la_86 t1 dX7_plays_6 (by omega) (x := Mq.1 86 a1.toNat) rfl ?_
  refine g_aload_n X 0 rfl dX7_plays_7 ?_
  refine g_getr X f_X7_135 dX7_plays_8 ?_
  refine g_iload_n X 1 rfl dX7_plays_11 ?_
  refine g_iald X la_88 t1 dX7_plays_12 (by omega) (x := Mq.1 88 a1.toNat) rfl ?_
  refine g_aload_n X 0 rfl dX7_plays_13 ?_
  refine g_iload_n X 2 rfl dX7_plays_14 ?_
  refine g_callV X m_X7_329 (c_X7_upTo ad Mq x2 t2) rfl (by decide) (Nat.le_of_ble_eq_true rfl) rfl dX7_plays_15 ?_
  rintro _ _ ⟨rq1, aq2, rfl, tq3, hq4, rfl⟩
  show G Γ Mq 18 [(0, .ref (ad 47)), (1, .int x1), (2, .int x2)] [.int rq1, .int (Mq.1 88 a1.toNat), .int (Mq.1 86 a1.toNat), .ref (ad 47)]
  refine g_callV X m_X7_269 (c_X7_findStock ad Mq (Mq.1 86 a1.toNat) rfl (Mq.1 88 a1.toNat) rfl rq1 tq3 Iq0 (by omega)) rfl (by decide) (Nat.le_of_ble_eq_true rfl) rfl dX7_plays_18 ?_
  rintro _ Mq9 ⟨rfl, hq8, Iq10, frq11⟩
  have frq12 : Fr W_X7_plays Mq Mq9 := frq0.trans frq11 rfl
  show G Γ Mq9 21 [(0, .ref (ad 47)), (1, .int x1), (2, .int x2)] []
  refine g_aload_n X 0 rfl dX7_plays_21 ?_
  refine g_aload_n X 0 rfl dX7_plays_22 ?_
  refine g_getr X f_X7_141 dX7_plays_23 ?_
  refine g_bipush X 24 dX7_plays_26 (by decide) ?_
  refine g_iload_n X 1 rfl dX7_plays_28 ?_
  refine g_imul X dX7_plays_29 (fun zq13 eq14 => ?_)
  have tq15 : zq13.toInt = 24 * a1 := mul_nw eq14 (show (24 : Int32).toInt = 24 by decide) t1 (by omega)
  refine g_aload_n X 0 rfl dX7_plays_30 ?_
  refine g_getr X f_X7_138 dX7_plays_31 ?_
  refine g_iload_n X 1 rfl dX7_plays_34 ?_
  refine g_iald X la_89 t1 dX7_plays_35 (by omega) (x := Mq9.1 89 a1.toNat) rfl ?_
  have bq16 := ig_89 Iq10 a1.toNat (by omega)
  refine g_callV X m_X7_342 (c_X7_sees_90 ad Mq9 zq13 tq15 (Mq9.1 89 a1.toNat) rfl Iq10 (by omega) (by omega)) rfl (by decide) (Nat.le_of_ble_eq_true rfl) rfl dX7_plays_36 ?_
  rintro _ Mq21 ⟨rfl, hq20, Iq22, frq23⟩
  have frq24 : Fr W_X7_plays Mq Mq21 := frq12.trans frq23 rfl
  show G Γ Mq21 39 [(0, .ref (ad 47)), (1, .int x1), (2, .int x2)] []
  exact g_vret X dX7_plays_39 ⟨rfl, trivial, Iq22, frq24⟩
set_option maxHeartbeats 4000000 in
set_option maxRecDepth 4000 in
theorem c_X7_count (ad : Nat → Nat) (Mq : Mem) (x1 : Int32) {a1 : Int} (t1 : x1.toInt = a1) (Iq0 : Iv TM Mq) : Ctr ad yX7_count cX7_count 4 (some .int) 3 [.ref (ad 47), .int x1] Mq (fun v M' => ∃ (r : Int32) (a : Int), v = some (.int r) ∧ r.toInt = a ∧ (True) ∧ Mq = M') := by
  refine ctr_of (L := [(0, .ref (ad 47)), (1, .int x1)]) (by decide) (Nat.le_of_ble_eq_true rfl) rfl ?_
  intro Γ X
  have X : gX Γ cX7_count RX7 4 (some .int) 3 ad _ := X
  have g11 := ig_47_11 Iq0
  have g12 := ig_47_12 Iq0
  have g14 := ig_47_14 Iq0
  have g32 := ig_47_32 Iq0
  have g43 := ig_47_43 Iq0
  have g44 := ig_47_44 Iq0
  have g52 := ig_47_52 Iq0
  have g53 := ig_47_53 Iq0
  have g59 := ig_47_59 Iq0
  refine g_iconst X 0 dX7_count_0 (by decide) ?_
  refine g_istore_n X (i := 2) [(2, .int 0), (0, .ref (ad 47)), (1, .int x1)] dX7_count_1 rfl (by decide) rfl ?_
  refine g_iload_n X 2 rfl dX7_count_2 ?_
  rcases (show (a1 < 0 ∨ 8 < a1) ∨ a1 = 0 ∨ a1 = 1 ∨ a1 = 2 ∨ a1 = 3 ∨ a1 = 4 ∨ a1 = 5 ∨ a1 = 6 ∨ a1 = 7 ∨ a1 = 8 by omega) with cq1 | cq1 | cq1 | cq1 | cq1 | cq1 | cq1 | cq1 | cq1 | cq1
  · refine g_tabOut X dX7_count_3 t1 cq1 (tgt := 170) (by decide) ?_
    refine g_iconst X (-1) dX7_count_170 (by decide) ?_
    exact g_iret X dX7_count_171 ⟨_, _, rfl, (show ((-1) : Int32).toInt = (-1) by decide), trivial, rfl⟩
  · refine g_tabIn X dX7_count_3 (a := 0) (t1.trans cq1) (by decide) (by decide) rfl (tgt := 52) (by decide) ?_
    refine g_aload_n X 1 rfl dX7_count_52 ?_
    refine g_geti X f_X7_144 dX7_count_53 (x := Mq.1 47 11) rfl ?_
    have bq2 := ig_47_11 Iq0
    exact g_iret X dX7_count_56 ⟨_, _, rfl, rfl, trivial, rfl⟩
  · refine g_tabIn X dX7_count_3 (a := 1) (t1.trans cq1) (by decide) (by decide) rfl (tgt := 57) (by decide) ?_
    refine g_aload_n X 1 rfl dX7_count_57 ?_
    refine g_geti X f_X7_147 dX7_count_58 (x := Mq.1 47 12) rfl ?_
    have bq3 := ig_47_12 Iq0
    exact g_iret X dX7_count_61 ⟨_, _, rfl, rfl, trivial, rfl⟩
  · refine g_tabIn X dX7_count_3 (a := 2) (t1.trans cq1) (by decide) (by decide) rfl (tgt := 62) (by decide) ?_
    refine g_iconst X 0 dX7_count_62 (by decide) ?_
    refine g_istore_n X (i := 3) [(3, .int 0), (2, .int 0), (0, .ref (ad 47)), (1, .int x1)] dX7_count_63 rfl (by decide) rfl ?_
    have lp64 : ∀ n : Nat, ∀ (y3_64 : Int32) (b3_64 : Int), y3_64.toInt = b3_64 → ∀ (y2_64 : Int32) (b2_64 : Int), y2_64.toInt = b2_64 → (0 ≤ b3_64 ∧ b3_64 ≤ 8) → (8 - b3_64).toNat < n → G Γ Mq 64 [(3, .int y3_64), (2, .int y2_64), (0, .ref (ad 47)), (1, .int x1)] [] := by
      intro n
      induction n with
      | zero => intro y3_64 b3_64 e3_64 y2_64 b2_64 e2_64 i1 hm; exact absurd hm (Nat.not_lt_zero _)
      | succ n ih64 =>
        intro y3_64 b3_64 e3_64 y2_64 b2_64 e2_64 i1 hm64
        refine g_iload_n X 0 rfl dX7_count_64 ?_
        refine g_bipush X 8 dX7_count_65 (by decide) ?_
        refine g_icmp_ge X e3_64 (show (8 : Int32).toInt = 8 by decide) (tgt := 92) dX7_count_67 (by decide) (fun cq4 => ?_) (fun cq4 => ?_)
        · refine g_iload_n X 1 rfl dX7_count_92 ?_
          exact g_iret X dX7_count_93 ⟨_, _, rfl, e2_64, trivial, rfl⟩
        · refine g_iload_n X 1 rfl dX7_count_70 ?_
          refine g_aload_n X 2 rfl dX7_count_71 ?_
          refine g_iload_n X 0 rfl dX7_count_72 ?_
          refine g_callV X m_X7_220 (c_X7_isTold ad Mq y3_64 e3_64) rfl (by decide) (Nat.le_of_ble_eq_true rfl) rfl dX7_count_73 ?_
          rintro _ _ ⟨rq5, aq6, rfl, tq7, hq8, rfl⟩
          show G Γ Mq 76 [(3, .int y3_64), (2, .int y2_64), (0, .ref (ad 47)), (1, .int x1)] [.int rq5, .int y2_64]
          refine g_if_eq X tq7 (tgt := 83) dX7_count_76 (by decide) (fun cq9 => ?_) (fun cq9 => ?_)
          · have pq10 : ¬ (0 ≤ b3_64 ∧ b3_64 ≤ 7 ∧ 0 < (Mq.1 63 b3_64.toNat).toInt) := by omega
            clear hq8 cq9 tq7
            refine g_iconst X 0 dX7_count_83 (by decide) ?_
            refine g_iadd X dX7_count_84 (fun zq11 eq12 => ?_)
            refine g_istore_n X (i := 2) [(2, .int zq11), (3, .int y3_64), (0, .ref (ad 47)), (1, .int x1)] dX7_count_85 rfl (by decide) rfl ?_
            refine g_iinc X 1 (fun v => [(3, .int v), (2, .int zq11), (0, .ref (ad 47)), (1, .int x1)]) dX7_count_86 rfl (by decide) (fun _ => rfl) (fun zq14 eq15 => ?_)
            have tq16 : zq14.toInt = b3_64 + 1 := add_nw eq15 e3_64 (show (Int32.ofInt 1).toInt = 1 by decide) (by omega)
            refine g_goto X (tgt := 64) dX7_count_89 (by decide) ?_
            refine g_sub [0, 1, 2, 3] rfl ?_
            exact ih64 zq14 _ tq16 zq11 _ rfl (by omega) (by omega)
          · have pq17 : (0 ≤ b3_64 ∧ b3_64 ≤ 7 ∧ 0 < (Mq.1 63 b3_64.toNat).toInt) := by omega
            clear hq8 cq9 tq7
            refine g_iconst X 1 dX7_count_79 (by decide) ?_
            refine g_goto X (tgt := 84) dX7_count_80 (by decide) ?_
            refine g_iadd X dX7_count_84 (fun zq18 eq19 => ?_)
            refine g_istore_n X (i := 2) [(2, .int zq18), (3, .int y3_64), (0, .ref (ad 47)), (1, .int x1)] dX7_count_85 rfl (by decide) rfl ?_
            refine g_iinc X 1 (fun v => [(3, .int v), (2, .int zq18), (0, .ref (ad 47)), (1, .int x1)]) dX7_count_86 rfl (by decide) (fun _ => rfl) (fun zq21 eq22 => ?_)
            have tq23 : zq21.toInt = b3_64 + 1 := add_nw eq22 e3_64 (show (Int32.ofInt 1).toInt = 1 by decide) (by omega)
            refine g_goto X (tgt := 64) dX7_count_89 (by decide) ?_
            refine g_sub [0, 1, 2, 3] rfl ?_
            exact ih64 zq21 _ tq23 zq18 _ rfl (by omega) (by omega)
    refine g_sub [0, 1, 2, 3] rfl ?_
    exact lp64 _ 0 _ (show (0 : Int32).toInt = 0 by decide) 0 _ (show (0 : Int32).toInt = 0 by decide) (by omega) (Nat.lt_succ_self _)
  · refine g_tabIn X dX7_count_3 (a := 3) (t1.trans cq1) (by decide) (by decide) rfl (tgt := 94) (by decide) ?_
    refine g_aload_n X 1 rfl dX7_count_94 ?_
    refine g_geti X f_X7_313 dX7_count_95 (x := Mq.1 47 52) rfl ?_
    have bq24 := ig_47_52 Iq0
    exact g_iret X dX7_count_98 ⟨_, _, rfl, rfl, trivial, rfl⟩
  · refine g_tabIn X dX7_count_3 (a := 4) (t1.trans cq1) (by decide) (by decide) rfl (tgt := 99) (by decide) ?_
    refine g_aload_n X 1 rfl dX7_count_99 ?_
    refine g_geti X f_X7_266 dX7_count_100 (x := Mq.1 47 53) rfl ?_
    have bq25 := ig_47_53 Iq0
    exact g_iret X dX7_count_103 ⟨_, _, rfl, rfl, trivial, rfl⟩
  · refine g_tabIn X dX7_count_3 (a := 5) (t1.trans cq1) (by decide) (by decide) rfl (tgt := 104) (by decide) ?_
    refine g_aload_n X 1 rfl dX7_count_104 ?_
    refine g_geti X f_X7_352 dX7_count_105 (x := Mq.1 47 59) rfl ?_
    have bq26 := ig_47_59 Iq0
    exact g_iret X dX7_count_108 ⟨_, _, rfl, rfl, trivial, rfl⟩
  · refine g_tabIn X dX7_count_3 (a := 6) (t1.trans cq1) (by decide) (by decide) rfl (tgt := 109) (by decide) ?_
    refine g_aload_n X 1 rfl dX7_count_109 ?_
    refine g_geti X f_X7_199 dX7_count_110 (x := Mq.1 47 20) rfl ?_
    have bq27 := ig_47_20 Iq0
    exact g_iret X dX7_count_113 ⟨_, _, rfl, rfl, trivial, rfl⟩
  · refine g_tabIn X dX7_count_3 (a := 7) (t1.trans cq1) (by decide) (by decide) rfl (tgt := 114) (by decide) ?_
    refine g_aload_n X 1 rfl dX7_count_114 ?_
    refine g_geti X f_X7_61 dX7_count_115 (x := Mq.1 47 24) rfl ?_
    have bq28 := ig_47_24 Iq0
    exact g_iret X dX7_count_118 ⟨_, _, rfl, rfl, trivial, rfl⟩
  · refine g_tabIn X dX7_count_3 (a := 8) (t1.trans cq1) (by decide) (by decide) rfl (tgt := 119) (by decide) ?_
    refine g_iconst X 0 dX7_count_119 (by decide) ?_
    refine g_istore_n X (i := 3) [(3, .int 0), (2, .int 0), (0, .ref (ad 47)), (1, .int x1)] dX7_count_120 rfl (by decide) rfl ?_
    have lp121 : ∀ n : Nat, ∀ (y3_121 : Int32) (b3_121 : Int), y3_121.toInt = b3_121 → ∀ (y2_121 : Int32) (b2_121 : Int), y2_121.toInt = b2_121 → (0 ≤ b3_121) → ((Mq.1 47 12).toInt - b3_121).toNat < n → G Γ Mq 121 [(3, .int y3_121), (2, .int y2_121), (0, .ref (ad 47)), (1, .int x1)] [] := by
      intro n
      induction n with
      | zero => intro y3_121 b3_121 e3_121 y2_121 b2_121 e2_121 i1 hm; exact absurd hm (Nat.not_lt_zero _)
      | succ n ih121 =>
        intro y3_121 b3_121 e3_121 y2_121 b2_121 e2_121 i1 hm121
        refine g_iload_n X 0 rfl dX7_count_121 ?_
        refine g_aload_n X 2 rfl dX7_count_122 ?_
        refine g_geti X f_X7_147 dX7_count_123 (x := Mq.1 47 12) rfl ?_
        have bq29 := ig_47_12 Iq0
        refine g_icmp_ge X e3_121 rfl (tgt := 168) dX7_count_126 (by decide) (fun cq30 => ?_) (fun cq30 => ?_)
        · refine g_iload_n X 1 rfl dX7_count_168 ?_
          exact g_iret X dX7_count_169 ⟨_, _, rfl, e2_121, trivial, rfl⟩
        · refine g_iload_n X 1 rfl dX7_count_129 ?_
          refine g_aload_n X 2 rfl dX7_count_130 ?_
          refine g_aload_n X 2 rfl dX7_count_131 ?_
          refine g_getr X f_X7_25 dX7_count_132 ?_
          refine g_iload_n X 0 rfl dX7_count_135 ?_
          refine g_iald X la_53 e3_121 dX7_count_136 (by omega) (x := Mq.1 53 b3_121.toNat) rfl ?_
          have bq31 := ig_53 Iq0 b3_121.toNat (by omega)
          refine g_aload_n X 2 rfl dX7_count_137 ?_
          refine g_getr X f_X7_28 dX7_count_138 ?_
          refine g_iload_n X 0 rfl dX7_count_141 ?_
          refine g_iald X la_54 e3_121 dX7_count_142 (by omega) (x := Mq.1 54 b3_121.toNat) rfl ?_
          have bq32 := ig_54 Iq0 b3_121.toNat (by omega)
          refine g_aload_n X 2 rfl dX7_count_143 ?_
          refine g_getr X f_X7_34 dX7_count_144 ?_
          refine g_iload_n X 0 rfl dX7_count_147 ?_
          refine g_iald X la_56 e3_121 dX7_count_148 (by omega) (x := Mq.1 56 b3_121.toNat) rfl ?_
          have bq33 := ig_56 Iq0 b3_121.toNat (by omega)
          refine g_callV X m_X7_189 (c_X7_scans ad Mq (Mq.1 53 b3_121.toNat) rfl (Mq.1 54 b3_121.toNat) rfl (Mq.1 56 b3_121.toNat) rfl (by omega) (by omega) (by omega)) rfl (by decide) (Nat.le_of_ble_eq_true rfl) rfl dX7_count_149 ?_
          rintro _ _ ⟨rq34, aq35, rfl, tq36, hq37, rfl⟩
          show G Γ Mq 152 [(3, .int y3_121), (2, .int y2_121), (0, .ref (ad 47)), (1, .int x1)] [.int rq34, .int y2_121]
          refine g_if_eq X tq36 (tgt := 159) dX7_count_152 (by decide) (fun cq38 => ?_) (fun cq38 => ?_)
          · refine g_iconst X 0 dX7_count_159 (by decide) ?_
            refine g_iadd X dX7_count_160 (fun zq39 eq40 => ?_)
            refine g_istore_n X (i := 2) [(2, .int zq39), (3, .int y3_121), (0, .ref (ad 47)), (1, .int x1)] dX7_count_161 rfl (by decide) rfl ?_
            refine g_iinc X 1 (fun v => [(3, .int v), (2, .int zq39), (0, .ref (ad 47)), (1, .int x1)]) dX7_count_162 rfl (by decide) (fun _ => rfl) (fun zq42 eq43 => ?_)
            have tq44 : zq42.toInt = b3_121 + 1 := add_nw eq43 e3_121 (show (Int32.ofInt 1).toInt = 1 by decide) (by omega)
            refine g_goto X (tgt := 121) dX7_count_165 (by decide) ?_
            refine g_sub [0, 1, 2, 3] rfl ?_
            exact ih121 zq42 _ tq44 zq39 _ rfl (by omega) (by omega)
          · refine g_iconst X 1 dX7_count_155 (by decide) ?_
            refine g_goto X (tgt := 160) dX7_count_156 (by decide) ?_
            refine g_iadd X dX7_count_160 (fun zq45 eq46 => ?_)
            refine g_istore_n X (i := 2) [(2, .int zq45), (3, .int y3_121), (0, .ref (ad 47)), (1, .int x1)] dX7_count_161 rfl (by decide) rfl ?_
            refine g_iinc X 1 (fun v => [(3, .int v), (2, .int zq45), (0, .ref (ad 47)), (1, .int x1)]) dX7_count_162 rfl (by decide) (fun _ => rfl) (fun zq48 eq49 => ?_)
            have tq50 : zq48.toInt = b3_121 + 1 := add_nw eq49 e3_121 (show (Int32.ofInt 1).toInt = 1 by decide) (by omega)
            refine g_goto X (tgt := 121) dX7_count_165 (by decide) ?_
            refine g_sub [0, 1, 2, 3] rfl ?_
            exact ih121 zq48 _ tq50 zq45 _ rfl (by omega) (by omega)
    refine g_sub [0, 1, 2, 3] rfl ?_
    exact lp121 _ 0 _ (show (0 : Int32).toInt = 0 by decide) 0 _ (show (0 : Int32).toInt = 0 by decide) (by omega) (Nat.lt_succ_self _)
set_option maxHeartbeats 4000000 in
set_option maxRecDepth 4000 in
theorem c_X7_loan (ad : Nat → Nat) (Mq : Mem) (x1 : Int32) {a1 : Int} (t1 : x1.toInt = a1) (x2 : Int32) {a2 : Int} (t2 : x2.toInt = a2) (x3 : Int32) {a3 : Int} (t3 : x3.toInt = a3) (x4 : Int32) {a4 : Int} (t4 : x4.toInt = a4) (Iq0 : Iv TM Mq) : Ctr ad yX7_loan cX7_loan 12 (some .int) 3 [.ref (ad 47), .int x1, .int x2, .int x3, .int x4] Mq (fun v M' => ∃ (r : Int32) (a : Int), v = some (.int r) ∧ r.toInt = a ∧ (True) ∧ Mq = M') := by
  refine ctr_of (L := [(0, .ref (ad 47)), (1, .int x1), (2, .int x2), (3, .int x3), (4, .int x4)]) (by decide) (Nat.le_of_ble_eq_true rfl) rfl ?_
  intro Γ X
  have X : gX Γ cX7_loan RX7 12 (some .int) 3 ad _ := X
  have g11 := ig_47_11 Iq0
  have g12 := ig_47_12 Iq0
  have g14 := ig_47_14 Iq0
  have g32 := ig_47_32 Iq0
  have g43 := ig_47_43 Iq0
  have g44 := ig_47_44 Iq0
  have g52 := ig_47_52 Iq0
  have g53 := ig_47_53 Iq0
  have g59 := ig_47_59 Iq0
  refine g_aload_n X 0 rfl dX7_loan_0 ?_
  refine g_iload_n X 1 rfl dX7_loan_1 ?_
  refine g_callV X m_X7_260 (c_X7_isSinger ad Mq x1 t1) rfl (by decide) (Nat.le_of_ble_eq_true rfl) rfl dX7_loan_2 ?_
  rintro _ _ ⟨rq1, aq2, rfl, tq3, hq4, rfl⟩
  show G Γ Mq 5 [(0, .ref (ad 47)), (1, .int x1), (2, .int x2), (3, .int x3), (4, .int x4)] [.int rq1]
  refine g_if_eq X tq3 (tgt := 25) dX7_loan_5 (by decide) (fun cq5 => ?_) (fun cq5 => ?_)
  · have pq6 : ¬ (0 ≤ a1 ∧ a1 < ((Mq.1 47 52)).toInt) := by omega
    clear hq4 cq5 tq3
    refine g_iconst X (-1) dX7_loan_25 (by decide) ?_
    exact g_iret X dX7_loan_26 ⟨_, _, rfl, (show ((-1) : Int32).toInt = (-1) by decide), trivial, rfl⟩
  · have pq7 : (0 ≤ a1 ∧ a1 < ((Mq.1 47 52)).toInt) := by omega
    clear hq4 cq5 tq3
    refine g_aload_n X 0 rfl dX7_loan_8 ?_
    refine g_iload_n X 2 rfl dX7_loan_9 ?_
    refine g_callV X m_X7_260 (c_X7_isSinger ad Mq x2 t2) rfl (by decide) (Nat.le_of_ble_eq_true rfl) rfl dX7_loan_10 ?_
    rintro _ _ ⟨rq8, aq9, rfl, tq10, hq11, rfl⟩
    show G Γ Mq 13 [(0, .ref (ad 47)), (1, .int x1), (2, .int x2), (3, .int x3), (4, .int x4)] [.int rq8]
    refine g_if_eq X tq10 (tgt := 25) dX7_loan_13 (by decide) (fun cq12 => ?_) (fun cq12 => ?_)
    · have pq13 : ¬ (0 ≤ a2 ∧ a2 < ((Mq.1 47 52)).toInt) := by omega
      clear hq11 cq12 tq10
      refine g_iconst X (-1) dX7_loan_25 (by decide) ?_
      exact g_iret X dX7_loan_26 ⟨_, _, rfl, (show ((-1) : Int32).toInt = (-1) by decide), trivial, rfl⟩
    · have pq14 : (0 ≤ a2 ∧ a2 < ((Mq.1 47 52)).toInt) := by omega
      clear hq11 cq12 tq10
      refine g_aload_n X 0 rfl dX7_loan_16 ?_
      refine g_iload X 4 rfl dX7_loan_17 ?_
      refine g_callV X m_X7_326 (c_X7_isKnown ad Mq x4 t4) rfl (by decide) (Nat.le_of_ble_eq_true rfl) rfl dX7_loan_19 ?_
      rintro _ _ ⟨rq15, aq16, rfl, tq17, hq18, rfl⟩
      show G Γ Mq 22 [(0, .ref (ad 47)), (1, .int x1), (2, .int x2), (3, .int x3), (4, .int x4)] [.int rq15]
      refine g_if_ne X tq17 (tgt := 27) dX7_loan_22 (by decide) (fun cq19 => ?_) (fun cq19 => ?_)
      · have pq20 : (-1 ≤ a4 ∧ a4 ≤ ((Mq.1 47 53)).toInt) := by omega
        clear hq18 cq19 tq17
        refine g_iload_n X 3 rfl dX7_loan_27 ?_
        refine g_callS X m_X7_263 (c_X7_isYear ad Mq x3 t3) rfl (by decide) (Nat.le_of_ble_eq_true rfl) rfl dX7_loan_28 ?_
        rintro _ _ ⟨rq21, aq22, rfl, tq23, hq24, rfl⟩
        show G Γ Mq 31 [(0, .ref (ad 47)), (1, .int x1), (2, .int x2), (3, .int x3), (4, .int x4)] [.int rq21]
        refine g_if_eq X tq23 (tgt := 39) dX7_loan_31 (by decide) (fun cq25 => ?_) (fun cq25 => ?_)
        · have pq26 : ¬ (0 ≤ a3 ∧ a3 ≤ 999) := by omega
          clear hq24 cq25 tq23
          refine g_bipush X (-2) dX7_loan_39 (by decide) ?_
          exact g_iret X dX7_loan_41 ⟨_, _, rfl, (show ((-2) : Int32).toInt = (-2) by decide), trivial, rfl⟩
        · have pq27 : (0 ≤ a3 ∧ a3 ≤ 999) := by omega
          clear hq24 cq25 tq23
          refine g_iload_n X 1 rfl dX7_loan_34 ?_
          refine g_iload_n X 2 rfl dX7_loan_35 ?_
          refine g_icmp_ne X t1 t2 (tgt := 42) dX7_loan_36 (by decide) (fun cq28 => ?_) (fun cq28 => ?_)
          · refine g_aload_n X 0 rfl dX7_loan_42 ?_
            refine g_iload X 4 rfl dX7_loan_43 ?_
            refine g_callV X m_X7_329 (c_X7_upTo ad Mq x4 t4) rfl (by decide) (Nat.le_of_ble_eq_true rfl) rfl dX7_loan_45 ?_
            rintro _ _ ⟨rq29, aq30, rfl, tq31, hq32, rfl⟩
            show G Γ Mq 48 [(0, .ref (ad 47)), (1, .int x1), (2, .int x2), (3, .int x3), (4, .int x4)] [.int rq29]
            refine g_istore X [(5, .int rq29), (0, .ref (ad 47)), (1, .int x1), (2, .int x2), (3, .int x3), (4, .int x4)] dX7_loan_48 (by decide) rfl ?_
            refine g_aload_n X 1 rfl dX7_loan_50 ?_
            refine g_iload_n X 2 rfl dX7_loan_51 ?_
            refine g_iload_n X 4 rfl dX7_loan_52 ?_
            refine g_iload X 0 rfl dX7_loan_53 ?_
            refine g_callV X m_X7_336 (c_X7_masterOf ad Mq x1 t1 x3 t3 rq29 tq31 Iq0 (by omega) (by omega)) rfl (by decide) (Nat.le_of_ble_eq_true rfl) rfl dX7_loan_55 ?_
            rintro _ _ ⟨rq33, aq34, rfl, tq35, hq36, rfl⟩
            show G Γ Mq 58 [(5, .int rq29), (0, .ref (ad 47)), (1, .int x1), (2, .int x2), (3, .int x3), (4, .int x4)] [.int rq33]
            refine g_istore X [(6, .int rq33), (5, .int rq29), (0, .ref (ad 47)), (1, .int x1), (2, .int x2), (3, .int x3), (4, .int x4)] dX7_loan_58 (by decide) rfl ?_
            refine g_aload_n X 2 rfl dX7_loan_60 ?_
            refine g_iload_n X 4 rfl dX7_loan_61 ?_
            refine g_iload_n X 5 rfl dX7_loan_62 ?_
            refine g_iload X 1 rfl dX7_loan_63 ?_
            refine g_callV X m_X7_336 (c_X7_masterOf ad Mq x2 t2 x3 t3 rq29 tq31 Iq0 (by omega) (by omega)) rfl (by decide) (Nat.le_of_ble_eq_true rfl) rfl dX7_loan_65 ?_
            rintro _ _ ⟨rq37, aq38, rfl, tq39, hq40, rfl⟩
            show G Γ Mq 68 [(6, .int rq33), (5, .int rq29), (0, .ref (ad 47)), (1, .int x1), (2, .int x2), (3, .int x3), (4, .int x4)] [.int rq37]
            refine g_istore X [(7, .int rq37), (6, .int rq33), (5, .int rq29), (0, .ref (ad 47)), (1, .int x1), (2, .int x2), (3, .int x3), (4, .int x4)] dX7_loan_68 (by decide) rfl ?_
            refine g_iconst X 0 dX7_loan_70 (by decide) ?_
            refine g_istore X [(8, .int 0), (7, .int rq37), (6, .int rq33), (5, .int rq29), (0, .ref (ad 47)), (1, .int x1), (2, .int x2), (3, .int x3), (4, .int x4)] dX7_loan_71 (by decide) rfl ?_
            refine g_iconst X 0 dX7_loan_73 (by decide) ?_
            refine g_istore X [(9, .int 0), (8, .int 0), (7, .int rq37), (6, .int rq33), (5, .int rq29), (0, .ref (ad 47)), (1, .int x1), (2, .int x2), (3, .int x3), (4, .int x4)] dX7_loan_74 (by decide) rfl ?_
            have lp76 : ∀ n : Nat, ∀ (y9_76 : Int32) (b9_76 : Int), y9_76.toInt = b9_76 → ∀ (y8_76 : Int32) (b8_76 : Int), y8_76.toInt = b8_76 → (0 ≤ b9_76) → ((Mq.1 47 12).toInt - b9_76).toNat < n → G Γ Mq 76 [(9, .int y9_76), (8, .int y8_76), (7, .int rq37), (6, .int rq33), (5, .int rq29), (0, .ref (ad 47)), (1, .int x1), (2, .int x2), (3, .int x3), (4, .int x4)] [] := by
              intro n
              induction n with
              | zero => intro y9_76 b9_76 e9_76 y8_76 b8_76 e8_76 i1 hm; exact absurd hm (Nat.not_lt_zero _)
              | succ n ih76 =>
                intro y9_76 b9_76 e9_76 y8_76 b8_76 e8_76 i1 hm76
                refine g_iload X 0 rfl dX7_loan_76 ?_
                refine g_aload_n X 5 rfl dX7_loan_78 ?_
                refine g_geti X f_X7_147 dX7_loan_79 (x := Mq.1 47 12) rfl ?_
                have bq41 := ig_47_12 Iq0
                refine g_icmp_ge X e9_76 rfl (tgt := 210) dX7_loan_82 (by decide) (fun cq42 => ?_) (fun cq42 => ?_)
                · refine g_iload X 1 rfl dX7_loan_210 ?_
                  exact g_iret X dX7_loan_212 ⟨_, _, rfl, e8_76, trivial, rfl⟩
                · refine g_aload_n X 5 rfl dX7_loan_85 ?_
                  refine g_getr X f_X7_37 dX7_loan_86 ?_
                  refine g_iload X 0 rfl dX7_loan_89 ?_
                  refine g_iald X la_57 e9_76 dX7_loan_91 (by omega) (x := Mq.1 57 b9_76.toNat) rfl ?_
                  refine g_iconst X 1 dX7_loan_92 (by decide) ?_
                  refine g_icmp_ne X rfl (show (1 : Int32).toInt = 1 by decide) (tgt := 126) dX7_loan_93 (by decide) (fun cq43 => ?_) (fun cq43 => ?_)
                  · refine g_iconst X 0 dX7_loan_126 (by decide) ?_
                    refine g_istore X [(10, .int 0), (9, .int y9_76), (8, .int y8_76), (7, .int rq37), (6, .int rq33), (5, .int rq29), (0, .ref (ad 47)), (1, .int x1), (2, .int x2), (3, .int x3), (4, .int x4)] dX7_loan_127 (by decide) rfl ?_
                    refine g_iload X 4 rfl dX7_loan_129 ?_
                    refine g_if_lt X tq35 (tgt := 153) dX7_loan_131 (by decide) (fun cq44 => ?_) (fun cq44 => ?_)
                    · refine g_iload X 3 rfl dX7_loan_153 ?_
                      refine g_if_lt X tq39 (tgt := 181) dX7_loan_155 (by decide) (fun cq45 => ?_) (fun cq45 => ?_)
                      · refine g_iconst X 0 dX7_loan_181 (by decide) ?_
                        refine g_istore X [(11, .int 0), (10, .int 0), (9, .int y9_76), (8, .int y8_76), (7, .int rq37), (6, .int rq33), (5, .int rq29), (0, .ref (ad 47)), (1, .int x1), (2, .int x2), (3, .int x3), (4, .int x4)] dX7_loan_182 (by decide) rfl ?_
                        refine g_iload X 3 rfl dX7_loan_184 ?_
                        refine g_iload X 1 rfl dX7_loan_186 ?_
                        refine g_if_eq X (show (0 : Int32).toInt = 0 by decide) (tgt := 200) dX7_loan_188 (by decide) (fun cq46 => ?_) (fun cq46 => ?_)
                        · refine g_iconst X 0 dX7_loan_200 (by decide) ?_
                          refine g_iadd X dX7_loan_201 (fun zq47 eq48 => ?_)
                          refine g_istore X [(8, .int zq47), (11, .int 0), (10, .int 0), (9, .int y9_76), (7, .int rq37), (6, .int rq33), (5, .int rq29), (0, .ref (ad 47)), (1, .int x1), (2, .int x2), (3, .int x3), (4, .int x4)] dX7_loan_202 (by decide) rfl ?_
                          refine g_iinc X 3 (fun v => [(9, .int v), (8, .int zq47), (11, .int 0), (10, .int 0), (7, .int rq37), (6, .int rq33), (5, .int rq29), (0, .ref (ad 47)), (1, .int x1), (2, .int x2), (3, .int x3), (4, .int x4)]) dX7_loan_204 rfl (by decide) (fun _ => rfl) (fun zq50 eq51 => ?_)
                          have tq52 : zq50.toInt = b9_76 + 1 := add_nw eq51 e9_76 (show (Int32.ofInt 1).toInt = 1 by decide) (by omega)
                          refine g_goto X (tgt := 76) dX7_loan_207 (by decide) ?_
                          refine g_sub [0, 1, 4, 5, 6, 7, 8, 9, 10, 11] rfl ?_
                          exact ih76 zq50 _ tq52 zq47 _ rfl (by omega) (by omega)
                        · exfalso; omega
                      · refine g_iload X 0 rfl dX7_loan_158 ?_
                        refine g_if_eq X (show (0 : Int32).toInt = 0 by decide) (tgt := 181) dX7_loan_160 (by decide) (fun cq53 => ?_) (fun cq53 => ?_)
                        · refine g_iconst X 0 dX7_loan_181 (by decide) ?_
                          refine g_istore X [(11, .int 0), (10, .int 0), (9, .int y9_76), (8, .int y8_76), (7, .int rq37), (6, .int rq33), (5, .int rq29), (0, .ref (ad 47)), (1, .int x1), (2, .int x2), (3, .int x3), (4, .int x4)] dX7_loan_182 (by decide) rfl ?_
                          refine g_iload X 3 rfl dX7_loan_184 ?_
                          refine g_iload X 1 rfl dX7_loan_186 ?_
                          refine g_if_eq X (show (0 : Int32).toInt = 0 by decide) (tgt := 200) dX7_loan_188 (by decide) (fun cq54 => ?_) (fun cq54 => ?_)
                          · refine g_iconst X 0 dX7_loan_200 (by decide) ?_
                            refine g_iadd X dX7_loan_201 (fun zq55 eq56 => ?_)
                            refine g_istore X [(8, .int zq55), (11, .int 0), (10, .int 0), (9, .int y9_76), (7, .int rq37), (6, .int rq33), (5, .int rq29), (0, .ref (ad 47)), (1, .int x1), (2, .int x2), (3, .int x3), (4, .int x4)] dX7_loan_202 (by decide) rfl ?_
                            refine g_iinc X 3 (fun v => [(9, .int v), (8, .int zq55), (11, .int 0), (10, .int 0), (7, .int rq37), (6, .int rq33), (5, .int rq29), (0, .ref (ad 47)), (1, .int x1), (2, .int x2), (3, .int x3), (4, .int x4)]) dX7_loan_204 rfl (by decide) (fun _ => rfl) (fun zq58 eq59 => ?_)
                            have tq60 : zq58.toInt = b9_76 + 1 := add_nw eq59 e9_76 (show (Int32.ofInt 1).toInt = 1 by decide) (by omega)
                            refine g_goto X (tgt := 76) dX7_loan_207 (by decide) ?_
                            refine g_sub [0, 1, 4, 5, 6, 7, 8, 9, 10, 11] rfl ?_
                            exact ih76 zq58 _ tq60 zq55 _ rfl (by omega) (by omega)
                          · exfalso; omega
                        · exfalso; omega
                    · refine g_iload X 0 rfl dX7_loan_134 ?_
                      refine g_if_eq X (show (0 : Int32).toInt = 0 by decide) (tgt := 153) dX7_loan_136 (by decide) (fun cq61 => ?_) (fun cq61 => ?_)
                      · refine g_iload X 3 rfl dX7_loan_153 ?_
                        refine g_if_lt X tq39 (tgt := 181) dX7_loan_155 (by decide) (fun cq62 => ?_) (fun cq62 => ?_)
                        · refine g_iconst X 0 dX7_loan_181 (by decide) ?_
                          refine g_istore X [(11, .int 0), (10, .int 0), (9, .int y9_76), (8, .int y8_76), (7, .int rq37), (6, .int rq33), (5, .int rq29), (0, .ref (ad 47)), (1, .int x1), (2, .int x2), (3, .int x3), (4, .int x4)] dX7_loan_182 (by decide) rfl ?_
                          refine g_iload X 3 rfl dX7_loan_184 ?_
                          refine g_iload X 1 rfl dX7_loan_186 ?_
                          refine g_if_eq X (show (0 : Int32).toInt = 0 by decide) (tgt := 200) dX7_loan_188 (by decide) (fun cq63 => ?_) (fun cq63 => ?_)
                          · refine g_iconst X 0 dX7_loan_200 (by decide) ?_
                            refine g_iadd X dX7_loan_201 (fun zq64 eq65 => ?_)
                            refine g_istore X [(8, .int zq64), (11, .int 0), (10, .int 0), (9, .int y9_76), (7, .int rq37), (6, .int rq33), (5, .int rq29), (0, .ref (ad 47)), (1, .int x1), (2, .int x2), (3, .int x3), (4, .int x4)] dX7_loan_202 (by decide) rfl ?_
                            refine g_iinc X 3 (fun v => [(9, .int v), (8, .int zq64), (11, .int 0), (10, .int 0), (7, .int rq37), (6, .int rq33), (5, .int rq29), (0, .ref (ad 47)), (1, .int x1), (2, .int x2), (3, .int x3), (4, .int x4)]) dX7_loan_204 rfl (by decide) (fun _ => rfl) (fun zq67 eq68 => ?_)
                            have tq69 : zq67.toInt = b9_76 + 1 := add_nw eq68 e9_76 (show (Int32.ofInt 1).toInt = 1 by decide) (by omega)
                            refine g_goto X (tgt := 76) dX7_loan_207 (by decide) ?_
                            refine g_sub [0, 1, 4, 5, 6, 7, 8, 9, 10, 11] rfl ?_
                            exact ih76 zq67 _ tq69 zq64 _ rfl (by omega) (by omega)
                          · exfalso; omega
                        · refine g_iload X 0 rfl dX7_loan_158 ?_
                          refine g_if_eq X (show (0 : Int32).toInt = 0 by decide) (tgt := 181) dX7_loan_160 (by decide) (fun cq70 => ?_) (fun cq70 => ?_)
                          · refine g_iconst X 0 dX7_loan_181 (by decide) ?_
                            refine g_istore X [(11, .int 0), (10, .int 0), (9, .int y9_76), (8, .int y8_76), (7, .int rq37), (6, .int rq33), (5, .int rq29), (0, .ref (ad 47)), (1, .int x1), (2, .int x2), (3, .int x3), (4, .int x4)] dX7_loan_182 (by decide) rfl ?_
                            refine g_iload X 3 rfl dX7_loan_184 ?_
                            refine g_iload X 1 rfl dX7_loan_186 ?_
                            refine g_if_eq X (show (0 : Int32).toInt = 0 by decide) (tgt := 200) dX7_loan_188 (by decide) (fun cq71 => ?_) (fun cq71 => ?_)
                            · refine g_iconst X 0 dX7_loan_200 (by decide) ?_
                              refine g_iadd X dX7_loan_201 (fun zq72 eq73 => ?_)
                              refine g_istore X [(8, .int zq72), (11, .int 0), (10, .int 0), (9, .int y9_76), (7, .int rq37), (6, .int rq33), (5, .int rq29), (0, .ref (ad 47)), (1, .int x1), (2, .int x2), (3, .int x3), (4, .int x4)] dX7_loan_202 (by decide) rfl ?_
                              refine g_iinc X 3 (fun v => [(9, .int v), (8, .int zq72), (11, .int 0), (10, .int 0), (7, .int rq37), (6, .int rq33), (5, .int rq29), (0, .ref (ad 47)), (1, .int x1), (2, .int x2), (3, .int x3), (4, .int x4)]) dX7_loan_204 rfl (by decide) (fun _ => rfl) (fun zq75 eq76 => ?_)
                              have tq77 : zq75.toInt = b9_76 + 1 := add_nw eq76 e9_76 (show (Int32.ofInt 1).toInt = 1 by decide) (by omega)
                              refine g_goto X (tgt := 76) dX7_loan_207 (by decide) ?_
                              refine g_sub [0, 1, 4, 5, 6, 7, 8, 9, 10, 11] rfl ?_
                              exact ih76 zq75 _ tq77 zq72 _ rfl (by omega) (by omega)
                            · exfalso; omega
                          · exfalso; omega
                      · exfalso; omega
                  · refine g_aload_n X 5 rfl dX7_loan_96 ?_
                    refine g_iload_n X 6 rfl dX7_loan_97 ?_
                    refine g_iload X 0 rfl dX7_loan_98 ?_
                    refine g_iload_n X 8 rfl dX7_loan_100 ?_
                    refine g_iload X 4 rfl dX7_loan_101 ?_
                    refine g_callV X m_X7_322 (c_X7_hasLine ad Mq x1 t1 y9_76 e9_76 x3 t3 rq29 tq31 Iq0 (by omega)) rfl (by decide) (Nat.le_of_ble_eq_true rfl) rfl dX7_loan_103 ?_
                    rintro _ _ ⟨rq78, aq79, rfl, tq80, hq81, rfl⟩
                    show G Γ Mq 106 [(9, .int y9_76), (8, .int y8_76), (7, .int rq37), (6, .int rq33), (5, .int rq29), (0, .ref (ad 47)), (1, .int x1), (2, .int x2), (3, .int x3), (4, .int x4)] [.int rq78]
                    refine g_if_eq X tq80 (tgt := 126) dX7_loan_106 (by decide) (fun cq82 => ?_) (fun cq82 => ?_)
                    · refine g_iconst X 0 dX7_loan_126 (by decide) ?_
                      refine g_istore X [(10, .int 0), (9, .int y9_76), (8, .int y8_76), (7, .int rq37), (6, .int rq33), (5, .int rq29), (0, .ref (ad 47)), (1, .int x1), (2, .int x2), (3, .int x3), (4, .int x4)] dX7_loan_127 (by decide) rfl ?_
                      refine g_iload X 4 rfl dX7_loan_129 ?_
                      refine g_if_lt X tq35 (tgt := 153) dX7_loan_131 (by decide) (fun cq83 => ?_) (fun cq83 => ?_)
                      · refine g_iload X 3 rfl dX7_loan_153 ?_
                        refine g_if_lt X tq39 (tgt := 181) dX7_loan_155 (by decide) (fun cq84 => ?_) (fun cq84 => ?_)
                        · refine g_iconst X 0 dX7_loan_181 (by decide) ?_
                          refine g_istore X [(11, .int 0), (10, .int 0), (9, .int y9_76), (8, .int y8_76), (7, .int rq37), (6, .int rq33), (5, .int rq29), (0, .ref (ad 47)), (1, .int x1), (2, .int x2), (3, .int x3), (4, .int x4)] dX7_loan_182 (by decide) rfl ?_
                          refine g_iload X 3 rfl dX7_loan_184 ?_
                          refine g_iload X 1 rfl dX7_loan_186 ?_
                          refine g_if_eq X (show (0 : Int32).toInt = 0 by decide) (tgt := 200) dX7_loan_188 (by decide) (fun cq85 => ?_) (fun cq85 => ?_)
                          · refine g_iconst X 0 dX7_loan_200 (by decide) ?_
                            refine g_iadd X dX7_loan_201 (fun zq86 eq87 => ?_)
                            refine g_istore X [(8, .int zq86), (11, .int 0), (10, .int 0), (9, .int y9_76), (7, .int rq37), (6, .int rq33), (5, .int rq29), (0, .ref (ad 47)), (1, .int x1), (2, .int x2), (3, .int x3), (4, .int x4)] dX7_loan_202 (by decide) rfl ?_
                            refine g_iinc X 3 (fun v => [(9, .int v), (8, .int zq86), (11, .int 0), (10, .int 0), (7, .int rq37), (6, .int rq33), (5, .int rq29), (0, .ref (ad 47)), (1, .int x1), (2, .int x2), (3, .int x3), (4, .int x4)]) dX7_loan_204 rfl (by decide) (fun _ => rfl) (fun zq89 eq90 => ?_)
                            have tq91 : zq89.toInt = b9_76 + 1 := add_nw eq90 e9_76 (show (Int32.ofInt 1).toInt = 1 by decide) (by omega)
                            refine g_goto X (tgt := 76) dX7_loan_207 (by decide) ?_
                            refine g_sub [0, 1, 4, 5, 6, 7, 8, 9, 10, 11] rfl ?_
                            exact ih76 zq89 _ tq91 zq86 _ rfl (by omega) (by omega)
                          · exfalso; omega
                        · refine g_iload X 0 rfl dX7_loan_158 ?_
                          refine g_if_eq X (show (0 : Int32).toInt = 0 by decide) (tgt := 181) dX7_loan_160 (by decide) (fun cq92 => ?_) (fun cq92 => ?_)
                          · refine g_iconst X 0 dX7_loan_181 (by decide) ?_
                            refine g_istore X [(11, .int 0), (10, .int 0), (9, .int y9_76), (8, .int y8_76), (7, .int rq37), (6, .int rq33), (5, .int rq29), (0, .ref (ad 47)), (1, .int x1), (2, .int x2), (3, .int x3), (4, .int x4)] dX7_loan_182 (by decide) rfl ?_
                            refine g_iload X 3 rfl dX7_loan_184 ?_
                            refine g_iload X 1 rfl dX7_loan_186 ?_
                            refine g_if_eq X (show (0 : Int32).toInt = 0 by decide) (tgt := 200) dX7_loan_188 (by decide) (fun cq93 => ?_) (fun cq93 => ?_)
                            · refine g_iconst X 0 dX7_loan_200 (by decide) ?_
                              refine g_iadd X dX7_loan_201 (fun zq94 eq95 => ?_)
                              refine g_istore X [(8, .int zq94), (11, .int 0), (10, .int 0), (9, .int y9_76), (7, .int rq37), (6, .int rq33), (5, .int rq29), (0, .ref (ad 47)), (1, .int x1), (2, .int x2), (3, .int x3), (4, .int x4)] dX7_loan_202 (by decide) rfl ?_
                              refine g_iinc X 3 (fun v => [(9, .int v), (8, .int zq94), (11, .int 0), (10, .int 0), (7, .int rq37), (6, .int rq33), (5, .int rq29), (0, .ref (ad 47)), (1, .int x1), (2, .int x2), (3, .int x3), (4, .int x4)]) dX7_loan_204 rfl (by decide) (fun _ => rfl) (fun zq97 eq98 => ?_)
                              have tq99 : zq97.toInt = b9_76 + 1 := add_nw eq98 e9_76 (show (Int32.ofInt 1).toInt = 1 by decide) (by omega)
                              refine g_goto X (tgt := 76) dX7_loan_207 (by decide) ?_
                              refine g_sub [0, 1, 4, 5, 6, 7, 8, 9, 10, 11] rfl ?_
                              exact ih76 zq97 _ tq99 zq94 _ rfl (by omega) (by omega)
                            · exfalso; omega
                          · exfalso; omega
                      · refine g_iload X 0 rfl dX7_loan_134 ?_
                        refine g_if_eq X (show (0 : Int32).toInt = 0 by decide) (tgt := 153) dX7_loan_136 (by decide) (fun cq100 => ?_) (fun cq100 => ?_)
                        · refine g_iload X 3 rfl dX7_loan_153 ?_
                          refine g_if_lt X tq39 (tgt := 181) dX7_loan_155 (by decide) (fun cq101 => ?_) (fun cq101 => ?_)
                          · refine g_iconst X 0 dX7_loan_181 (by decide) ?_
                            refine g_istore X [(11, .int 0), (10, .int 0), (9, .int y9_76), (8, .int y8_76), (7, .int rq37), (6, .int rq33), (5, .int rq29), (0, .ref (ad 47)), (1, .int x1), (2, .int x2), (3, .int x3), (4, .int x4)] dX7_loan_182 (by decide) rfl ?_
                            refine g_iload X 3 rfl dX7_loan_184 ?_
                            refine g_iload X 1 rfl dX7_loan_186 ?_
                            refine g_if_eq X (show (0 : Int32).toInt = 0 by decide) (tgt := 200) dX7_loan_188 (by decide) (fun cq102 => ?_) (fun cq102 => ?_)
                            · refine g_iconst X 0 dX7_loan_200 (by decide) ?_
                              refine g_iadd X dX7_loan_201 (fun zq103 eq104 => ?_)
                              refine g_istore X [(8, .int zq103), (11, .int 0), (10, .int 0), (9, .int y9_76), (7, .int rq37), (6, .int rq33), (5, .int rq29), (0, .ref (ad 47)), (1, .int x1), (2, .int x2), (3, .int x3), (4, .int x4)] dX7_loan_202 (by decide) rfl ?_
                              refine g_iinc X 3 (fun v => [(9, .int v), (8, .int zq103), (11, .int 0), (10, .int 0), (7, .int rq37), (6, .int rq33), (5, .int rq29), (0, .ref (ad 47)), (1, .int x1), (2, .int x2), (3, .int x3), (4, .int x4)]) dX7_loan_204 rfl (by decide) (fun _ => rfl) (fun zq106 eq107 => ?_)
                              have tq108 : zq106.toInt = b9_76 + 1 := add_nw eq107 e9_76 (show (Int32.ofInt 1).toInt = 1 by decide) (by omega)
                              refine g_goto X (tgt := 76) dX7_loan_207 (by decide) ?_
                              refine g_sub [0, 1, 4, 5, 6, 7, 8, 9, 10, 11] rfl ?_
                              exact ih76 zq106 _ tq108 zq103 _ rfl (by omega) (by omega)
                            · exfalso; omega
                          · refine g_iload X 0 rfl dX7_loan_158 ?_
                            refine g_if_eq X (show (0 : Int32).toInt = 0 by decide) (tgt := 181) dX7_loan_160 (by decide) (fun cq109 => ?_) (fun cq109 => ?_)
                            · refine g_iconst X 0 dX7_loan_181 (by decide) ?_
                              refine g_istore X [(11, .int 0), (10, .int 0), (9, .int y9_76), (8, .int y8_76), (7, .int rq37), (6, .int rq33), (5, .int rq29), (0, .ref (ad 47)), (1, .int x1), (2, .int x2), (3, .int x3), (4, .int x4)] dX7_loan_182 (by decide) rfl ?_
                              refine g_iload X 3 rfl dX7_loan_184 ?_
                              refine g_iload X 1 rfl dX7_loan_186 ?_
                              refine g_if_eq X (show (0 : Int32).toInt = 0 by decide) (tgt := 200) dX7_loan_188 (by decide) (fun cq110 => ?_) (fun cq110 => ?_)
                              · refine g_iconst X 0 dX7_loan_200 (by decide) ?_
                                refine g_iadd X dX7_loan_201 (fun zq111 eq112 => ?_)
                                refine g_istore X [(8, .int zq111), (11, .int 0), (10, .int 0), (9, .int y9_76), (7, .int rq37), (6, .int rq33), (5, .int rq29), (0, .ref (ad 47)), (1, .int x1), (2, .int x2), (3, .int x3), (4, .int x4)] dX7_loan_202 (by decide) rfl ?_
                                refine g_iinc X 3 (fun v => [(9, .int v), (8, .int zq111), (11, .int 0), (10, .int 0), (7, .int rq37), (6, .int rq33), (5, .int rq29), (0, .ref (ad 47)), (1, .int x1), (2, .int x2), (3, .int x3), (4, .int x4)]) dX7_loan_204 rfl (by decide) (fun _ => rfl) (fun zq114 eq115 => ?_)
                                have tq116 : zq114.toInt = b9_76 + 1 := add_nw eq115 e9_76 (show (Int32.ofInt 1).toInt = 1 by decide) (by omega)
                                refine g_goto X (tgt := 76) dX7_loan_207 (by decide) ?_
                                refine g_sub [0, 1, 4, 5, 6, 7, 8, 9, 10, 11] rfl ?_
                                exact ih76 zq114 _ tq116 zq111 _ rfl (by omega) (by omega)
                              · exfalso; omega
                            · exfalso; omega
                        · exfalso; omega
                    · refine g_aload_n X 5 rfl dX7_loan_109 ?_
                      refine g_iload_n X 7 rfl dX7_loan_110 ?_
                      refine g_iload X 0 rfl dX7_loan_111 ?_
                      refine g_iload_n X 8 rfl dX7_loan_113 ?_
                      refine g_iload X 4 rfl dX7_loan_114 ?_
                      refine g_callV X m_X7_322 (c_X7_hasLine ad Mq x2 t2 y9_76 e9_76 x3 t3 rq29 tq31 Iq0 (by omega)) rfl (by decide) (Nat.le_of_ble_eq_true rfl) rfl dX7_loan_116 ?_
                      rintro _ _ ⟨rq117, aq118, rfl, tq119, hq120, rfl⟩
                      show G Γ Mq 119 [(9, .int y9_76), (8, .int y8_76), (7, .int rq37), (6, .int rq33), (5, .int rq29), (0, .ref (ad 47)), (1, .int x1), (2, .int x2), (3, .int x3), (4, .int x4)] [.int rq117]
                      refine g_if_eq X tq119 (tgt := 126) dX7_loan_119 (by decide) (fun cq121 => ?_) (fun cq121 => ?_)
                      · refine g_iconst X 0 dX7_loan_126 (by decide) ?_
                        refine g_istore X [(10, .int 0), (9, .int y9_76), (8, .int y8_76), (7, .int rq37), (6, .int rq33), (5, .int rq29), (0, .ref (ad 47)), (1, .int x1), (2, .int x2), (3, .int x3), (4, .int x4)] dX7_loan_127 (by decide) rfl ?_
                        refine g_iload X 4 rfl dX7_loan_129 ?_
                        refine g_if_lt X tq35 (tgt := 153) dX7_loan_131 (by decide) (fun cq122 => ?_) (fun cq122 => ?_)
                        · refine g_iload X 3 rfl dX7_loan_153 ?_
                          refine g_if_lt X tq39 (tgt := 181) dX7_loan_155 (by decide) (fun cq123 => ?_) (fun cq123 => ?_)
                          · refine g_iconst X 0 dX7_loan_181 (by decide) ?_
                            refine g_istore X [(11, .int 0), (10, .int 0), (9, .int y9_76), (8, .int y8_76), (7, .int rq37), (6, .int rq33), (5, .int rq29), (0, .ref (ad 47)), (1, .int x1), (2, .int x2), (3, .int x3), (4, .int x4)] dX7_loan_182 (by decide) rfl ?_
                            refine g_iload X 3 rfl dX7_loan_184 ?_
                            refine g_iload X 1 rfl dX7_loan_186 ?_
                            refine g_if_eq X (show (0 : Int32).toInt = 0 by decide) (tgt := 200) dX7_loan_188 (by decide) (fun cq124 => ?_) (fun cq124 => ?_)
                            · refine g_iconst X 0 dX7_loan_200 (by decide) ?_
                              refine g_iadd X dX7_loan_201 (fun zq125 eq126 => ?_)
                              refine g_istore X [(8, .int zq125), (11, .int 0), (10, .int 0), (9, .int y9_76), (7, .int rq37), (6, .int rq33), (5, .int rq29), (0, .ref (ad 47)), (1, .int x1), (2, .int x2), (3, .int x3), (4, .int x4)] dX7_loan_202 (by decide) rfl ?_
                              refine g_iinc X 3 (fun v => [(9, .int v), (8, .int zq125), (11, .int 0), (10, .int 0), (7, .int rq37), (6, .int rq33), (5, .int rq29), (0, .ref (ad 47)), (1, .int x1), (2, .int x2), (3, .int x3), (4, .int x4)]) dX7_loan_204 rfl (by decide) (fun _ => rfl) (fun zq128 eq129 => ?_)
                              have tq130 : zq128.toInt = b9_76 + 1 := add_nw eq129 e9_76 (show (Int32.ofInt 1).toInt = 1 by decide) (by omega)
                              refine g_goto X (tgt := 76) dX7_loan_207 (by decide) ?_
                              refine g_sub [0, 1, 4, 5, 6, 7, 8, 9, 10, 11] rfl ?_
                              exact ih76 zq128 _ tq130 zq125 _ rfl (by omega) (by omega)
                            · exfalso; omega
                          · refine g_iload X 0 rfl dX7_loan_158 ?_
                            refine g_if_eq X (show (0 : Int32).toInt = 0 by decide) (tgt := 181) dX7_loan_160 (by decide) (fun cq131 => ?_) (fun cq131 => ?_)
                            · refine g_iconst X 0 dX7_loan_181 (by decide) ?_
                              refine g_istore X [(11, .int 0), (10, .int 0), (9, .int y9_76), (8, .int y8_76), (7, .int rq37), (6, .int rq33), (5, .int rq29), (0, .ref (ad 47)), (1, .int x1), (2, .int x2), (3, .int x3), (4, .int x4)] dX7_loan_182 (by decide) rfl ?_
                              refine g_iload X 3 rfl dX7_loan_184 ?_
                              refine g_iload X 1 rfl dX7_loan_186 ?_
                              refine g_if_eq X (show (0 : Int32).toInt = 0 by decide) (tgt := 200) dX7_loan_188 (by decide) (fun cq132 => ?_) (fun cq132 => ?_)
                              · refine g_iconst X 0 dX7_loan_200 (by decide) ?_
                                refine g_iadd X dX7_loan_201 (fun zq133 eq134 => ?_)
                                refine g_istore X [(8, .int zq133), (11, .int 0), (10, .int 0), (9, .int y9_76), (7, .int rq37), (6, .int rq33), (5, .int rq29), (0, .ref (ad 47)), (1, .int x1), (2, .int x2), (3, .int x3), (4, .int x4)] dX7_loan_202 (by decide) rfl ?_
                                refine g_iinc X 3 (fun v => [(9, .int v), (8, .int zq133), (11, .int 0), (10, .int 0), (7, .int rq37), (6, .int rq33), (5, .int rq29), (0, .ref (ad 47)), (1, .int x1), (2, .int x2), (3, .int x3), (4, .int x4)]) dX7_loan_204 rfl (by decide) (fun _ => rfl) (fun zq136 eq137 => ?_)
                                have tq138 : zq136.toInt = b9_76 + 1 := add_nw eq137 e9_76 (show (Int32.ofInt 1).toInt = 1 by decide) (by omega)
                                refine g_goto X (tgt := 76) dX7_loan_207 (by decide) ?_
                                refine g_sub [0, 1, 4, 5, 6, 7, 8, 9, 10, 11] rfl ?_
                                exact ih76 zq136 _ tq138 zq133 _ rfl (by omega) (by omega)
                              · exfalso; omega
                            · exfalso; omega
                        · refine g_iload X 0 rfl dX7_loan_134 ?_
                          refine g_if_eq X (show (0 : Int32).toInt = 0 by decide) (tgt := 153) dX7_loan_136 (by decide) (fun cq139 => ?_) (fun cq139 => ?_)
                          · refine g_iload X 3 rfl dX7_loan_153 ?_
                            refine g_if_lt X tq39 (tgt := 181) dX7_loan_155 (by decide) (fun cq140 => ?_) (fun cq140 => ?_)
                            · refine g_iconst X 0 dX7_loan_181 (by decide) ?_
                              refine g_istore X [(11, .int 0), (10, .int 0), (9, .int y9_76), (8, .int y8_76), (7, .int rq37), (6, .int rq33), (5, .int rq29), (0, .ref (ad 47)), (1, .int x1), (2, .int x2), (3, .int x3), (4, .int x4)] dX7_loan_182 (by decide) rfl ?_
                              refine g_iload X 3 rfl dX7_loan_184 ?_
                              refine g_iload X 1 rfl dX7_loan_186 ?_
                              refine g_if_eq X (show (0 : Int32).toInt = 0 by decide) (tgt := 200) dX7_loan_188 (by decide) (fun cq141 => ?_) (fun cq141 => ?_)
                              · refine g_iconst X 0 dX7_loan_200 (by decide) ?_
                                refine g_iadd X dX7_loan_201 (fun zq142 eq143 => ?_)
                                refine g_istore X [(8, .int zq142), (11, .int 0), (10, .int 0), (9, .int y9_76), (7, .int rq37), (6, .int rq33), (5, .int rq29), (0, .ref (ad 47)), (1, .int x1), (2, .int x2), (3, .int x3), (4, .int x4)] dX7_loan_202 (by decide) rfl ?_
                                refine g_iinc X 3 (fun v => [(9, .int v), (8, .int zq142), (11, .int 0), (10, .int 0), (7, .int rq37), (6, .int rq33), (5, .int rq29), (0, .ref (ad 47)), (1, .int x1), (2, .int x2), (3, .int x3), (4, .int x4)]) dX7_loan_204 rfl (by decide) (fun _ => rfl) (fun zq145 eq146 => ?_)
                                have tq147 : zq145.toInt = b9_76 + 1 := add_nw eq146 e9_76 (show (Int32.ofInt 1).toInt = 1 by decide) (by omega)
                                refine g_goto X (tgt := 76) dX7_loan_207 (by decide) ?_
                                refine g_sub [0, 1, 4, 5, 6, 7, 8, 9, 10, 11] rfl ?_
                                exact ih76 zq145 _ tq147 zq142 _ rfl (by omega) (by omega)
                              · exfalso; omega
                            · refine g_iload X 0 rfl dX7_loan_158 ?_
                              refine g_if_eq X (show (0 : Int32).toInt = 0 by decide) (tgt := 181) dX7_loan_160 (by decide) (fun cq148 => ?_) (fun cq148 => ?_)
                              · refine g_iconst X 0 dX7_loan_181 (by decide) ?_
                                refine g_istore X [(11, .int 0), (10, .int 0), (9, .int y9_76), (8, .int y8_76), (7, .int rq37), (6, .int rq33), (5, .int rq29), (0, .ref (ad 47)), (1, .int x1), (2, .int x2), (3, .int x3), (4, .int x4)] dX7_loan_182 (by decide) rfl ?_
                                refine g_iload X 3 rfl dX7_loan_184 ?_
                                refine g_iload X 1 rfl dX7_loan_186 ?_
                                refine g_if_eq X (show (0 : Int32).toInt = 0 by decide) (tgt := 200) dX7_loan_188 (by decide) (fun cq149 => ?_) (fun cq149 => ?_)
                                · refine g_iconst X 0 dX7_loan_200 (by decide) ?_
                                  refine g_iadd X dX7_loan_201 (fun zq150 eq151 => ?_)
                                  refine g_istore X [(8, .int zq150), (11, .int 0), (10, .int 0), (9, .int y9_76), (7, .int rq37), (6, .int rq33), (5, .int rq29), (0, .ref (ad 47)), (1, .int x1), (2, .int x2), (3, .int x3), (4, .int x4)] dX7_loan_202 (by decide) rfl ?_
                                  refine g_iinc X 3 (fun v => [(9, .int v), (8, .int zq150), (11, .int 0), (10, .int 0), (7, .int rq37), (6, .int rq33), (5, .int rq29), (0, .ref (ad 47)), (1, .int x1), (2, .int x2), (3, .int x3), (4, .int x4)]) dX7_loan_204 rfl (by decide) (fun _ => rfl) (fun zq153 eq154 => ?_)
                                  have tq155 : zq153.toInt = b9_76 + 1 := add_nw eq154 e9_76 (show (Int32.ofInt 1).toInt = 1 by decide) (by omega)
                                  refine g_goto X (tgt := 76) dX7_loan_207 (by decide) ?_
                                  refine g_sub [0, 1, 4, 5, 6, 7, 8, 9, 10, 11] rfl ?_
                                  exact ih76 zq153 _ tq155 zq150 _ rfl (by omega) (by omega)
                                · exfalso; omega
                              · exfalso; omega
                          · exfalso; omega
                      · refine g_iconst X 1 dX7_loan_122 (by decide) ?_
                        refine g_goto X (tgt := 127) dX7_loan_123 (by decide) ?_
                        refine g_istore X [(10, .int 1), (9, .int y9_76), (8, .int y8_76), (7, .int rq37), (6, .int rq33), (5, .int rq29), (0, .ref (ad 47)), (1, .int x1), (2, .int x2), (3, .int x3), (4, .int x4)] dX7_loan_127 (by decide) rfl ?_
                        refine g_iload X 4 rfl dX7_loan_129 ?_
                        refine g_if_lt X tq35 (tgt := 153) dX7_loan_131 (by decide) (fun cq156 => ?_) (fun cq156 => ?_)
                        · refine g_iload X 3 rfl dX7_loan_153 ?_
                          refine g_if_lt X tq39 (tgt := 181) dX7_loan_155 (by decide) (fun cq157 => ?_) (fun cq157 => ?_)
                          · refine g_iconst X 0 dX7_loan_181 (by decide) ?_
                            refine g_istore X [(11, .int 0), (10, .int 1), (9, .int y9_76), (8, .int y8_76), (7, .int rq37), (6, .int rq33), (5, .int rq29), (0, .ref (ad 47)), (1, .int x1), (2, .int x2), (3, .int x3), (4, .int x4)] dX7_loan_182 (by decide) rfl ?_
                            refine g_iload X 3 rfl dX7_loan_184 ?_
                            refine g_iload X 1 rfl dX7_loan_186 ?_
                            refine g_if_eq X (show (1 : Int32).toInt = 1 by decide) (tgt := 200) dX7_loan_188 (by decide) (fun cq158 => ?_) (fun cq158 => ?_)
                            · exfalso; omega
                            · refine g_iload X 0 rfl dX7_loan_191 ?_
                              refine g_if_ne X (show (0 : Int32).toInt = 0 by decide) (tgt := 200) dX7_loan_193 (by decide) (fun cq159 => ?_) (fun cq159 => ?_)
                              · exfalso; omega
                              · refine g_iconst X 1 dX7_loan_196 (by decide) ?_
                                refine g_goto X (tgt := 201) dX7_loan_197 (by decide) ?_
                                refine g_iadd X dX7_loan_201 (fun zq160 eq161 => ?_)
                                refine g_istore X [(8, .int zq160), (11, .int 0), (10, .int 1), (9, .int y9_76), (7, .int rq37), (6, .int rq33), (5, .int rq29), (0, .ref (ad 47)), (1, .int x1), (2, .int x2), (3, .int x3), (4, .int x4)] dX7_loan_202 (by decide) rfl ?_
                                refine g_iinc X 3 (fun v => [(9, .int v), (8, .int zq160), (11, .int 0), (10, .int 1), (7, .int rq37), (6, .int rq33), (5, .int rq29), (0, .ref (ad 47)), (1, .int x1), (2, .int x2), (3, .int x3), (4, .int x4)]) dX7_loan_204 rfl (by decide) (fun _ => rfl) (fun zq163 eq164 => ?_)
                                have tq165 : zq163.toInt = b9_76 + 1 := add_nw eq164 e9_76 (show (Int32.ofInt 1).toInt = 1 by decide) (by omega)
                                refine g_goto X (tgt := 76) dX7_loan_207 (by decide) ?_
                                refine g_sub [0, 1, 4, 5, 6, 7, 8, 9, 10, 11] rfl ?_
                                exact ih76 zq163 _ tq165 zq160 _ rfl (by omega) (by omega)
                          · refine g_iload X 0 rfl dX7_loan_158 ?_
                            refine g_if_eq X (show (1 : Int32).toInt = 1 by decide) (tgt := 181) dX7_loan_160 (by decide) (fun cq166 => ?_) (fun cq166 => ?_)
                            · exfalso; omega
                            · refine g_aload_n X 6 rfl dX7_loan_163 ?_
                              refine g_iload X 3 rfl dX7_loan_164 ?_
                              refine g_iload X 1 rfl dX7_loan_166 ?_
                              refine g_iload_n X 9 rfl dX7_loan_168 ?_
                              refine g_iload X 5 rfl dX7_loan_169 ?_
                              refine g_callV X m_X7_322 (c_X7_hasLine ad Mq rq37 tq39 y9_76 e9_76 x3 t3 rq29 tq31 Iq0 (by omega)) rfl (by decide) (Nat.le_of_ble_eq_true rfl) rfl dX7_loan_171 ?_
                              rintro _ _ ⟨rq167, aq168, rfl, tq169, hq170, rfl⟩
                              show G Γ Mq 174 [(10, .int 1), (9, .int y9_76), (8, .int y8_76), (7, .int rq37), (6, .int rq33), (5, .int rq29), (0, .ref (ad 47)), (1, .int x1), (2, .int x2), (3, .int x3), (4, .int x4)] [.int rq167]
                              refine g_if_eq X tq169 (tgt := 181) dX7_loan_174 (by decide) (fun cq171 => ?_) (fun cq171 => ?_)
                              · refine g_iconst X 0 dX7_loan_181 (by decide) ?_
                                refine g_istore X [(11, .int 0), (10, .int 1), (9, .int y9_76), (8, .int y8_76), (7, .int rq37), (6, .int rq33), (5, .int rq29), (0, .ref (ad 47)), (1, .int x1), (2, .int x2), (3, .int x3), (4, .int x4)] dX7_loan_182 (by decide) rfl ?_
                                refine g_iload X 3 rfl dX7_loan_184 ?_
                                refine g_iload X 1 rfl dX7_loan_186 ?_
                                refine g_if_eq X (show (1 : Int32).toInt = 1 by decide) (tgt := 200) dX7_loan_188 (by decide) (fun cq172 => ?_) (fun cq172 => ?_)
                                · exfalso; omega
                                · refine g_iload X 0 rfl dX7_loan_191 ?_
                                  refine g_if_ne X (show (0 : Int32).toInt = 0 by decide) (tgt := 200) dX7_loan_193 (by decide) (fun cq173 => ?_) (fun cq173 => ?_)
                                  · exfalso; omega
                                  · refine g_iconst X 1 dX7_loan_196 (by decide) ?_
                                    refine g_goto X (tgt := 201) dX7_loan_197 (by decide) ?_
                                    refine g_iadd X dX7_loan_201 (fun zq174 eq175 => ?_)
                                    refine g_istore X [(8, .int zq174), (11, .int 0), (10, .int 1), (9, .int y9_76), (7, .int rq37), (6, .int rq33), (5, .int rq29), (0, .ref (ad 47)), (1, .int x1), (2, .int x2), (3, .int x3), (4, .int x4)] dX7_loan_202 (by decide) rfl ?_
                                    refine g_iinc X 3 (fun v => [(9, .int v), (8, .int zq174), (11, .int 0), (10, .int 1), (7, .int rq37), (6, .int rq33), (5, .int rq29), (0, .ref (ad 47)), (1, .int x1), (2, .int x2), (3, .int x3), (4, .int x4)]) dX7_loan_204 rfl (by decide) (fun _ => rfl) (fun zq177 eq178 => ?_)
                                    have tq179 : zq177.toInt = b9_76 + 1 := add_nw eq178 e9_76 (show (Int32.ofInt 1).toInt = 1 by decide) (by omega)
                                    refine g_goto X (tgt := 76) dX7_loan_207 (by decide) ?_
                                    refine g_sub [0, 1, 4, 5, 6, 7, 8, 9, 10, 11] rfl ?_
                                    exact ih76 zq177 _ tq179 zq174 _ rfl (by omega) (by omega)
                              · refine g_iconst X 1 dX7_loan_177 (by decide) ?_
                                refine g_goto X (tgt := 182) dX7_loan_178 (by decide) ?_
                                refine g_istore X [(11, .int 1), (10, .int 1), (9, .int y9_76), (8, .int y8_76), (7, .int rq37), (6, .int rq33), (5, .int rq29), (0, .ref (ad 47)), (1, .int x1), (2, .int x2), (3, .int x3), (4, .int x4)] dX7_loan_182 (by decide) rfl ?_
                                refine g_iload X 3 rfl dX7_loan_184 ?_
                                refine g_iload X 1 rfl dX7_loan_186 ?_
                                refine g_if_eq X (show (1 : Int32).toInt = 1 by decide) (tgt := 200) dX7_loan_188 (by decide) (fun cq180 => ?_) (fun cq180 => ?_)
                                · exfalso; omega
                                · refine g_iload X 0 rfl dX7_loan_191 ?_
                                  refine g_if_ne X (show (1 : Int32).toInt = 1 by decide) (tgt := 200) dX7_loan_193 (by decide) (fun cq181 => ?_) (fun cq181 => ?_)
                                  · refine g_iconst X 0 dX7_loan_200 (by decide) ?_
                                    refine g_iadd X dX7_loan_201 (fun zq182 eq183 => ?_)
                                    refine g_istore X [(8, .int zq182), (11, .int 1), (10, .int 1), (9, .int y9_76), (7, .int rq37), (6, .int rq33), (5, .int rq29), (0, .ref (ad 47)), (1, .int x1), (2, .int x2), (3, .int x3), (4, .int x4)] dX7_loan_202 (by decide) rfl ?_
                                    refine g_iinc X 3 (fun v => [(9, .int v), (8, .int zq182), (11, .int 1), (10, .int 1), (7, .int rq37), (6, .int rq33), (5, .int rq29), (0, .ref (ad 47)), (1, .int x1), (2, .int x2), (3, .int x3), (4, .int x4)]) dX7_loan_204 rfl (by decide) (fun _ => rfl) (fun zq185 eq186 => ?_)
                                    have tq187 : zq185.toInt = b9_76 + 1 := add_nw eq186 e9_76 (show (Int32.ofInt 1).toInt = 1 by decide) (by omega)
                                    refine g_goto X (tgt := 76) dX7_loan_207 (by decide) ?_
                                    refine g_sub [0, 1, 4, 5, 6, 7, 8, 9, 10, 11] rfl ?_
                                    exact ih76 zq185 _ tq187 zq182 _ rfl (by omega) (by omega)
                                  · exfalso; omega
                        · refine g_iload X 0 rfl dX7_loan_134 ?_
                          refine g_if_eq X (show (1 : Int32).toInt = 1 by decide) (tgt := 153) dX7_loan_136 (by decide) (fun cq188 => ?_) (fun cq188 => ?_)
                          · exfalso; omega
                          · refine g_aload_n X 6 rfl dX7_loan_139 ?_
                            refine g_iload X 4 rfl dX7_loan_140 ?_
                            refine g_iload X 1 rfl dX7_loan_142 ?_
                            refine g_iload_n X 9 rfl dX7_loan_144 ?_
                            refine g_iload X 5 rfl dX7_loan_145 ?_
                            refine g_callV X m_X7_322 (c_X7_hasLine ad Mq rq33 tq35 y9_76 e9_76 x3 t3 rq29 tq31 Iq0 (by omega)) rfl (by decide) (Nat.le_of_ble_eq_true rfl) rfl dX7_loan_147 ?_
                            rintro _ _ ⟨rq189, aq190, rfl, tq191, hq192, rfl⟩
                            show G Γ Mq 150 [(10, .int 1), (9, .int y9_76), (8, .int y8_76), (7, .int rq37), (6, .int rq33), (5, .int rq29), (0, .ref (ad 47)), (1, .int x1), (2, .int x2), (3, .int x3), (4, .int x4)] [.int rq189]
                            refine g_if_ne X tq191 (tgt := 177) dX7_loan_150 (by decide) (fun cq193 => ?_) (fun cq193 => ?_)
                            · refine g_iconst X 1 dX7_loan_177 (by decide) ?_
                              refine g_goto X (tgt := 182) dX7_loan_178 (by decide) ?_
                              refine g_istore X [(11, .int 1), (10, .int 1), (9, .int y9_76), (8, .int y8_76), (7, .int rq37), (6, .int rq33), (5, .int rq29), (0, .ref (ad 47)), (1, .int x1), (2, .int x2), (3, .int x3), (4, .int x4)] dX7_loan_182 (by decide) rfl ?_
                              refine g_iload X 3 rfl dX7_loan_184 ?_
                              refine g_iload X 1 rfl dX7_loan_186 ?_
                              refine g_if_eq X (show (1 : Int32).toInt = 1 by decide) (tgt := 200) dX7_loan_188 (by decide) (fun cq194 => ?_) (fun cq194 => ?_)
                              · exfalso; omega
                              · refine g_iload X 0 rfl dX7_loan_191 ?_
                                refine g_if_ne X (show (1 : Int32).toInt = 1 by decide) (tgt := 200) dX7_loan_193 (by decide) (fun cq195 => ?_) (fun cq195 => ?_)
                                · refine g_iconst X 0 dX7_loan_200 (by decide) ?_
                                  refine g_iadd X dX7_loan_201 (fun zq196 eq197 => ?_)
                                  refine g_istore X [(8, .int zq196), (11, .int 1), (10, .int 1), (9, .int y9_76), (7, .int rq37), (6, .int rq33), (5, .int rq29), (0, .ref (ad 47)), (1, .int x1), (2, .int x2), (3, .int x3), (4, .int x4)] dX7_loan_202 (by decide) rfl ?_
                                  refine g_iinc X 3 (fun v => [(9, .int v), (8, .int zq196), (11, .int 1), (10, .int 1), (7, .int rq37), (6, .int rq33), (5, .int rq29), (0, .ref (ad 47)), (1, .int x1), (2, .int x2), (3, .int x3), (4, .int x4)]) dX7_loan_204 rfl (by decide) (fun _ => rfl) (fun zq199 eq200 => ?_)
                                  have tq201 : zq199.toInt = b9_76 + 1 := add_nw eq200 e9_76 (show (Int32.ofInt 1).toInt = 1 by decide) (by omega)
                                  refine g_goto X (tgt := 76) dX7_loan_207 (by decide) ?_
                                  refine g_sub [0, 1, 4, 5, 6, 7, 8, 9, 10, 11] rfl ?_
                                  exact ih76 zq199 _ tq201 zq196 _ rfl (by omega) (by omega)
                                · exfalso; omega
                            · refine g_iload X 3 rfl dX7_loan_153 ?_
                              refine g_if_lt X tq39 (tgt := 181) dX7_loan_155 (by decide) (fun cq202 => ?_) (fun cq202 => ?_)
                              · refine g_iconst X 0 dX7_loan_181 (by decide) ?_
                                refine g_istore X [(11, .int 0), (10, .int 1), (9, .int y9_76), (8, .int y8_76), (7, .int rq37), (6, .int rq33), (5, .int rq29), (0, .ref (ad 47)), (1, .int x1), (2, .int x2), (3, .int x3), (4, .int x4)] dX7_loan_182 (by decide) rfl ?_
                                refine g_iload X 3 rfl dX7_loan_184 ?_
                                refine g_iload X 1 rfl dX7_loan_186 ?_
                                refine g_if_eq X (show (1 : Int32).toInt = 1 by decide) (tgt := 200) dX7_loan_188 (by decide) (fun cq203 => ?_) (fun cq203 => ?_)
                                · exfalso; omega
                                · refine g_iload X 0 rfl dX7_loan_191 ?_
                                  refine g_if_ne X (show (0 : Int32).toInt = 0 by decide) (tgt := 200) dX7_loan_193 (by decide) (fun cq204 => ?_) (fun cq204 => ?_)
                                  · exfalso; omega
                                  · refine g_iconst X 1 dX7_loan_196 (by decide) ?_
                                    refine g_goto X (tgt := 201) dX7_loan_197 (by decide) ?_
                                    refine g_iadd X dX7_loan_201 (fun zq205 eq206 => ?_)
                                    refine g_istore X [(8, .int zq205), (11, .int 0), (10, .int 1), (9, .int y9_76), (7, .int rq37), (6, .int rq33), (5, .int rq29), (0, .ref (ad 47)), (1, .int x1), (2, .int x2), (3, .int x3), (4, .int x4)] dX7_loan_202 (by decide) rfl ?_
                                    refine g_iinc X 3 (fun v => [(9, .int v), (8, .int zq205), (11, .int 0), (10, .int 1), (7, .int rq37), (6, .int rq33), (5, .int rq29), (0, .ref (ad 47)), (1, .int x1), (2, .int x2), (3, .int x3), (4, .int x4)]) dX7_loan_204 rfl (by decide) (fun _ => rfl) (fun zq208 eq209 => ?_)
                                    have tq210 : zq208.toInt = b9_76 + 1 := add_nw eq209 e9_76 (show (Int32.ofInt 1).toInt = 1 by decide) (by omega)
                                    refine g_goto X (tgt := 76) dX7_loan_207 (by decide) ?_
                                    refine g_sub [0, 1, 4, 5, 6, 7, 8, 9, 10, 11] rfl ?_
                                    exact ih76 zq208 _ tq210 zq205 _ rfl (by omega) (by omega)
                              · refine g_iload X 0 rfl dX7_loan_158 ?_
                                refine g_if_eq X (show (1 : Int32).toInt = 1 by decide) (tgt := 181) dX7_loan_160 (by decide) (fun cq211 => ?_) (fun cq211 => ?_)
                                · exfalso; omega
                                · refine g_aload_n X 6 rfl dX7_loan_163 ?_
                                  refine g_iload X 3 rfl dX7_loan_164 ?_
                                  refine g_iload X 1 rfl dX7_loan_166 ?_
                                  refine g_iload_n X 9 rfl dX7_loan_168 ?_
                                  refine g_iload X 5 rfl dX7_loan_169 ?_
                                  refine g_callV X m_X7_322 (c_X7_hasLine ad Mq rq37 tq39 y9_76 e9_76 x3 t3 rq29 tq31 Iq0 (by omega)) rfl (by decide) (Nat.le_of_ble_eq_true rfl) rfl dX7_loan_171 ?_
                                  rintro _ _ ⟨rq212, aq213, rfl, tq214, hq215, rfl⟩
                                  show G Γ Mq 174 [(10, .int 1), (9, .int y9_76), (8, .int y8_76), (7, .int rq37), (6, .int rq33), (5, .int rq29), (0, .ref (ad 47)), (1, .int x1), (2, .int x2), (3, .int x3), (4, .int x4)] [.int rq212]
                                  refine g_if_eq X tq214 (tgt := 181) dX7_loan_174 (by decide) (fun cq216 => ?_) (fun cq216 => ?_)
                                  · refine g_iconst X 0 dX7_loan_181 (by decide) ?_
                                    refine g_istore X [(11, .int 0), (10, .int 1), (9, .int y9_76), (8, .int y8_76), (7, .int rq37), (6, .int rq33), (5, .int rq29), (0, .ref (ad 47)), (1, .int x1), (2, .int x2), (3, .int x3), (4, .int x4)] dX7_loan_182 (by decide) rfl ?_
                                    refine g_iload X 3 rfl dX7_loan_184 ?_
                                    refine g_iload X 1 rfl dX7_loan_186 ?_
                                    refine g_if_eq X (show (1 : Int32).toInt = 1 by decide) (tgt := 200) dX7_loan_188 (by decide) (fun cq217 => ?_) (fun cq217 => ?_)
                                    · exfalso; omega
                                    · refine g_iload X 0 rfl dX7_loan_191 ?_
                                      refine g_if_ne X (show (0 : Int32).toInt = 0 by decide) (tgt := 200) dX7_loan_193 (by decide) (fun cq218 => ?_) (fun cq218 => ?_)
                                      · exfalso; omega
                                      · refine g_iconst X 1 dX7_loan_196 (by decide) ?_
                                        refine g_goto X (tgt := 201) dX7_loan_197 (by decide) ?_
                                        refine g_iadd X dX7_loan_201 (fun zq219 eq220 => ?_)
                                        refine g_istore X [(8, .int zq219), (11, .int 0), (10, .int 1), (9, .int y9_76), (7, .int rq37), (6, .int rq33), (5, .int rq29), (0, .ref (ad 47)), (1, .int x1), (2, .int x2), (3, .int x3), (4, .int x4)] dX7_loan_202 (by decide) rfl ?_
                                        refine g_iinc X 3 (fun v => [(9, .int v), (8, .int zq219), (11, .int 0), (10, .int 1), (7, .int rq37), (6, .int rq33), (5, .int rq29), (0, .ref (ad 47)), (1, .int x1), (2, .int x2), (3, .int x3), (4, .int x4)]) dX7_loan_204 rfl (by decide) (fun _ => rfl) (fun zq222 eq223 => ?_)
                                        have tq224 : zq222.toInt = b9_76 + 1 := add_nw eq223 e9_76 (show (Int32.ofInt 1).toInt = 1 by decide) (by omega)
                                        refine g_goto X (tgt := 76) dX7_loan_207 (by decide) ?_
                                        refine g_sub [0, 1, 4, 5, 6, 7, 8, 9, 10, 11] rfl ?_
                                        exact ih76 zq222 _ tq224 zq219 _ rfl (by omega) (by omega)
                                  · refine g_iconst X 1 dX7_loan_177 (by decide) ?_
                                    refine g_goto X (tgt := 182) dX7_loan_178 (by decide) ?_
                                    refine g_istore X [(11, .int 1), (10, .int 1), (9, .int y9_76), (8, .int y8_76), (7, .int rq37), (6, .int rq33), (5, .int rq29), (0, .ref (ad 47)), (1, .int x1), (2, .int x2), (3, .int x3), (4, .int x4)] dX7_loan_182 (by decide) rfl ?_
                                    refine g_iload X 3 rfl dX7_loan_184 ?_
                                    refine g_iload X 1 rfl dX7_loan_186 ?_
                                    refine g_if_eq X (show (1 : Int32).toInt = 1 by decide) (tgt := 200) dX7_loan_188 (by decide) (fun cq225 => ?_) (fun cq225 => ?_)
                                    · exfalso; omega
                                    · refine g_iload X 0 rfl dX7_loan_191 ?_
                                      refine g_if_ne X (show (1 : Int32).toInt = 1 by decide) (tgt := 200) dX7_loan_193 (by decide) (fun cq226 => ?_) (fun cq226 => ?_)
                                      · refine g_iconst X 0 dX7_loan_200 (by decide) ?_
                                        refine g_iadd X dX7_loan_201 (fun zq227 eq228 => ?_)
                                        refine g_istore X [(8, .int zq227), (11, .int 1), (10, .int 1), (9, .int y9_76), (7, .int rq37), (6, .int rq33), (5, .int rq29), (0, .ref (ad 47)), (1, .int x1), (2, .int x2), (3, .int x3), (4, .int x4)] dX7_loan_202 (by decide) rfl ?_
                                        refine g_iinc X 3 (fun v => [(9, .int v), (8, .int zq227), (11, .int 1), (10, .int 1), (7, .int rq37), (6, .int rq33), (5, .int rq29), (0, .ref (ad 47)), (1, .int x1), (2, .int x2), (3, .int x3), (4, .int x4)]) dX7_loan_204 rfl (by decide) (fun _ => rfl) (fun zq230 eq231 => ?_)
                                        have tq232 : zq230.toInt = b9_76 + 1 := add_nw eq231 e9_76 (show (Int32.ofInt 1).toInt = 1 by decide) (by omega)
                                        refine g_goto X (tgt := 76) dX7_loan_207 (by decide) ?_
                                        refine g_sub [0, 1, 4, 5, 6, 7, 8, 9, 10, 11] rfl ?_
                                        exact ih76 zq230 _ tq232 zq227 _ rfl (by omega) (by omega)
                                      · exfalso; omega
            refine g_sub [0, 1, 2, 3, 4, 5, 6, 7, 8, 9] rfl ?_
            exact lp76 _ 0 _ (show (0 : Int32).toInt = 0 by decide) 0 _ (show (0 : Int32).toInt = 0 by decide) (by omega) (Nat.lt_succ_self _)
          · refine g_bipush X (-2) dX7_loan_39 (by decide) ?_
            exact g_iret X dX7_loan_41 ⟨_, _, rfl, (show ((-2) : Int32).toInt = (-2) by decide), trivial, rfl⟩
      · have pq233 : ¬ (-1 ≤ a4 ∧ a4 ≤ ((Mq.1 47 53)).toInt) := by omega
        clear hq18 cq19 tq17
        refine g_iconst X (-1) dX7_loan_25 (by decide) ?_
        exact g_iret X dX7_loan_26 ⟨_, _, rfl, (show ((-1) : Int32).toInt = (-1) by decide), trivial, rfl⟩
end
