section
set_option maxHeartbeats 4000000 in
set_option maxRecDepth 4000 in
theorem c_X7_longOf (ad : Nat → Nat) (Mq : Mem) (x1 : Int32) {a1 : Int} (t1 : x1.toInt = a1) (x2 : Int32) {a2 : Int} (t2 : x2.toInt = a2) (h1 : 0 ≤ a1 ∧ a1 < 40) (h2 : 0 ≤ a2 ∧ a2 ≤ 9) : Ctr ad yX7_longOf cX7_longOf 3 (some .int) 0 [.ref (ad 47), .int x1, .int x2] Mq (fun v M' => ∃ (r : Int32) (a : Int), v = some (.int r) ∧ r.toInt = a ∧ (True) ∧ Mq = M') := by
  refine ctr_of (L := [(0, .ref (ad 47)), (1, .int x1), (2, .int x2)]) (by decide) (Nat.le_of_ble_eq_true rfl) rfl ?_
  intro Γ X
  have X : gX Γ cX7_longOf RX7 3 (some .int) 0 ad _ := X
  refine g_aload_n X 0 rfl dX7_longOf_0 ?_
  refine g_getr X f_X7_7 dX7_longOf_1 ?_
  refine g_iload_n X 1 rfl dX7_longOf_4 ?_
  refine g_iald X la_48 t1 dX7_longOf_5 (by omega) (x := Mq.1 48 a1.toNat) rfl ?_
  refine g_aload_n X 0 rfl dX7_longOf_6 ?_
  refine g_getr X f_X7_16 dX7_longOf_7 ?_
  refine g_iload_n X 1 rfl dX7_longOf_10 ?_
  refine g_iald X la_50 t1 dX7_longOf_11 (by omega) (x := Mq.1 50 a1.toNat) rfl ?_
  refine g_if_ge X rfl (tgt := 19) dX7_longOf_12 (by decide) (fun cq1 => ?_) (fun cq1 => ?_)
  · refine g_aload_n X 0 rfl dX7_longOf_19 ?_
    refine g_getr X f_X7_19 dX7_longOf_20 ?_
    refine g_iload_n X 2 rfl dX7_longOf_23 ?_
    refine g_iald X la_51 t2 dX7_longOf_24 (by omega) (x := Mq.1 51 a2.toNat) rfl ?_
    refine g_iadd X dX7_longOf_25 (fun zq2 eq3 => ?_)
    exact g_iret X dX7_longOf_26 ⟨_, _, rfl, rfl, trivial, rfl⟩
  · refine g_iconst X 0 dX7_longOf_15 (by decide) ?_
    refine g_goto X (tgt := 25) dX7_longOf_16 (by decide) ?_
    refine g_iadd X dX7_longOf_25 (fun zq5 eq6 => ?_)
    exact g_iret X dX7_longOf_26 ⟨_, _, rfl, rfl, trivial, rfl⟩
set_option maxHeartbeats 4000000 in
set_option maxRecDepth 4000 in
theorem c_X7_heavyOf (ad : Nat → Nat) (Mq : Mem) (x1 : Int32) {a1 : Int} (t1 : x1.toInt = a1) (x2 : Int32) {a2 : Int} (t2 : x2.toInt = a2) (h1 : 0 ≤ a1 ∧ a1 < 40) (h2 : 0 ≤ a2 ∧ a2 ≤ 9) : Ctr ad yX7_heavyOf cX7_heavyOf 5 (some .int) 0 [.ref (ad 47), .int x1, .int x2] Mq (fun v M' => ∃ (r : Int32) (a : Int), v = some (.int r) ∧ r.toInt = a ∧ (True) ∧ Mq = M') := by
  refine ctr_of (L := [(0, .ref (ad 47)), (1, .int x1), (2, .int x2)]) (by decide) (Nat.le_of_ble_eq_true rfl) rfl ?_
  intro Γ X
  have X : gX Γ cX7_heavyOf RX7 5 (some .int) 0 ad _ := X
  refine g_aload_n X 0 rfl dX7_heavyOf_0 ?_
  refine g_getr X f_X7_16 dX7_heavyOf_1 ?_
  refine g_iload_n X 1 rfl dX7_heavyOf_4 ?_
  refine g_iald X la_50 t1 dX7_heavyOf_5 (by omega) (x := Mq.1 50 a1.toNat) rfl ?_
  refine g_istore_n X (i := 3) [(3, .int (Mq.1 50 a1.toNat)), (0, .ref (ad 47)), (1, .int x1), (2, .int x2)] dX7_heavyOf_6 rfl (by decide) rfl ?_
  refine g_iload_n X 0 rfl dX7_heavyOf_7 ?_
  refine g_if_ge X rfl (tgt := 18) dX7_heavyOf_8 (by decide) (fun cq1 => ?_) (fun cq1 => ?_)
  · refine g_aload_n X 1 rfl dX7_heavyOf_18 ?_
    refine g_getr X f_X7_13 dX7_heavyOf_19 ?_
    refine g_iload_n X 2 rfl dX7_heavyOf_22 ?_
    refine g_iald X la_49 t1 dX7_heavyOf_23 (by omega) (x := Mq.1 49 a1.toNat) rfl ?_
    refine g_iconst X 1 dX7_heavyOf_24 (by decide) ?_
    refine g_iload_n X 0 rfl dX7_heavyOf_25 ?_
    refine g_ishl X dX7_heavyOf_26 (fun zq2 eq3 => ?_)
    refine g_iconst X 1 dX7_heavyOf_27 (by decide) ?_
    refine g_isub X dX7_heavyOf_28 (fun zq5 eq6 => ?_)
    refine g_iand X dX7_heavyOf_29 (fun zq8 eq9 => ?_)
    refine g_istore X [(4, .int zq8), (3, .int (Mq.1 50 a1.toNat)), (0, .ref (ad 47)), (1, .int x1), (2, .int x2)] dX7_heavyOf_30 (by decide) rfl ?_
    refine g_iload X 0 rfl dX7_heavyOf_32 ?_
    refine g_aload_n X 2 rfl dX7_heavyOf_34 ?_
    refine g_getr X f_X7_22 dX7_heavyOf_35 ?_
    refine g_iload_n X 4 rfl dX7_heavyOf_38 ?_
    refine g_iald X la_52 t2 dX7_heavyOf_39 (by omega) (x := Mq.1 52 a2.toNat) rfl ?_
    refine g_iload_n X 1 rfl dX7_heavyOf_40 ?_
    refine g_ishl X dX7_heavyOf_41 (fun zq11 eq12 => ?_)
    refine g_ior X dX7_heavyOf_42 (fun zq14 eq15 => ?_)
    refine g_aload_n X 2 rfl dX7_heavyOf_43 ?_
    refine g_getr X f_X7_13 dX7_heavyOf_44 ?_
    refine g_iload_n X 3 rfl dX7_heavyOf_47 ?_
    refine g_iald X la_49 t1 dX7_heavyOf_48 (by omega) (x := Mq.1 49 a1.toNat) rfl ?_
    refine g_iload_n X 1 rfl dX7_heavyOf_49 ?_
    refine g_ishr X dX7_heavyOf_50 (fun zq17 eq18 => ?_)
    refine g_iload_n X 1 rfl dX7_heavyOf_51 ?_
    refine g_aload_n X 2 rfl dX7_heavyOf_52 ?_
    refine g_getr X f_X7_19 dX7_heavyOf_53 ?_
    refine g_iload_n X 4 rfl dX7_heavyOf_56 ?_
    refine g_iald X la_51 t2 dX7_heavyOf_57 (by omega) (x := Mq.1 51 a2.toNat) rfl ?_
    refine g_iadd X dX7_heavyOf_58 (fun zq20 eq21 => ?_)
    refine g_ishl X dX7_heavyOf_59 (fun zq23 eq24 => ?_)
    refine g_ior X dX7_heavyOf_60 (fun zq26 eq27 => ?_)
    exact g_iret X dX7_heavyOf_61 ⟨_, _, rfl, rfl, trivial, rfl⟩
  · refine g_aload_n X 1 rfl dX7_heavyOf_11 ?_
    refine g_getr X f_X7_13 dX7_heavyOf_12 ?_
    refine g_iload_n X 2 rfl dX7_heavyOf_15 ?_
    refine g_iald X la_49 t1 dX7_heavyOf_16 (by omega) (x := Mq.1 49 a1.toNat) rfl ?_
    exact g_iret X dX7_heavyOf_17 ⟨_, _, rfl, rfl, trivial, rfl⟩
set_option maxHeartbeats 4000000 in
set_option maxRecDepth 4000 in
theorem c_X7_heavyAll (ad : Nat → Nat) (Mq : Mem) (x1 : Int32) {a1 : Int} (t1 : x1.toInt = a1) (x2 : Int32) {a2 : Int} (t2 : x2.toInt = a2) (x3 : Int32) {a3 : Int} (t3 : x3.toInt = a3) (h1 : 0 ≤ a1 ∧ a1 < 40) (h2 : 0 ≤ a2 ∧ a2 < 40) (h3 : 0 ≤ a3 ∧ a3 ≤ 9) : Ctr ad yX7_heavyAll cX7_heavyAll 4 (some .int) 1 [.ref (ad 47), .int x1, .int x2, .int x3] Mq (fun v M' => ∃ (r : Int32) (a : Int), v = some (.int r) ∧ r.toInt = a ∧ (True) ∧ Mq = M') := by
  refine ctr_of (L := [(0, .ref (ad 47)), (1, .int x1), (2, .int x2), (3, .int x3)]) (by decide) (Nat.le_of_ble_eq_true rfl) rfl ?_
  intro Γ X
  have X : gX Γ cX7_heavyAll RX7 4 (some .int) 1 ad _ := X
  refine g_aload_n X 0 rfl dX7_heavyAll_0 ?_
  refine g_iload_n X 1 rfl dX7_heavyAll_1 ?_
  refine g_iload_n X 3 rfl dX7_heavyAll_2 ?_
  refine g_callV X m_X7_175 (c_X7_heavyOf ad Mq x1 t1 x3 t3 (by omega) (by omega)) rfl (by decide) (Nat.le_of_ble_eq_true rfl) rfl dX7_heavyAll_3 ?_
  rintro _ _ ⟨rq1, aq2, rfl, tq3, hq4, rfl⟩
  show G Γ Mq 6 [(0, .ref (ad 47)), (1, .int x1), (2, .int x2), (3, .int x3)] [.int rq1]
  refine g_aload_n X 0 rfl dX7_heavyAll_6 ?_
  refine g_iload_n X 2 rfl dX7_heavyAll_7 ?_
  refine g_iload_n X 3 rfl dX7_heavyAll_8 ?_
  refine g_callV X m_X7_175 (c_X7_heavyOf ad Mq x2 t2 x3 t3 (by omega) (by omega)) rfl (by decide) (Nat.le_of_ble_eq_true rfl) rfl dX7_heavyAll_9 ?_
  rintro _ _ ⟨rq5, aq6, rfl, tq7, hq8, rfl⟩
  show G Γ Mq 12 [(0, .ref (ad 47)), (1, .int x1), (2, .int x2), (3, .int x3)] [.int rq5, .int rq1]
  refine g_aload_n X 0 rfl dX7_heavyAll_12 ?_
  refine g_iload_n X 1 rfl dX7_heavyAll_13 ?_
  refine g_iload_n X 3 rfl dX7_heavyAll_14 ?_
  refine g_callV X m_X7_179 (c_X7_longOf ad Mq x1 t1 x3 t3 (by omega) (by omega)) rfl (by decide) (Nat.le_of_ble_eq_true rfl) rfl dX7_heavyAll_15 ?_
  rintro _ _ ⟨rq9, aq10, rfl, tq11, hq12, rfl⟩
  show G Γ Mq 18 [(0, .ref (ad 47)), (1, .int x1), (2, .int x2), (3, .int x3)] [.int rq9, .int rq5, .int rq1]
  refine g_ishl X dX7_heavyAll_18 (fun zq13 eq14 => ?_)
  refine g_ior X dX7_heavyAll_19 (fun zq16 eq17 => ?_)
  exact g_iret X dX7_heavyAll_20 ⟨_, _, rfl, rfl, trivial, rfl⟩
set_option maxHeartbeats 4000000 in
set_option maxRecDepth 4000 in
theorem c_X7_scans (ad : Nat → Nat) (Mq : Mem) (x1 : Int32) {a1 : Int} (t1 : x1.toInt = a1) (x2 : Int32) {a2 : Int} (t2 : x2.toInt = a2) (x3 : Int32) {a3 : Int} (t3 : x3.toInt = a3) (h1 : 0 ≤ a1 ∧ a1 < 40) (h2 : 0 ≤ a2 ∧ a2 < 40) (h3 : 0 ≤ a3 ∧ a3 ≤ 9) : Ctr ad yX7_scans cX7_scans 4 (some .boolean) 2 [.ref (ad 47), .int x1, .int x2, .int x3] Mq (fun v M' => ∃ (r : Int32) (a : Int), v = some (.int r) ∧ r.toInt = a ∧ (a = 0 ∨ a = 1) ∧ Mq = M') := by
  refine ctr_of (L := [(0, .ref (ad 47)), (1, .int x1), (2, .int x2), (3, .int x3)]) (by decide) (Nat.le_of_ble_eq_true rfl) rfl ?_
  intro Γ X
  have X : gX Γ cX7_scans RX7 4 (some .boolean) 2 ad _ := X
  refine g_aload_n X 0 rfl dX7_scans_0 ?_
  refine g_iload_n X 1 rfl dX7_scans_1 ?_
  refine g_iload_n X 3 rfl dX7_scans_2 ?_
  refine g_callV X m_X7_179 (c_X7_longOf ad Mq x1 t1 x3 t3 (by omega) (by omega)) rfl (by decide) (Nat.le_of_ble_eq_true rfl) rfl dX7_scans_3 ?_
  rintro _ _ ⟨rq1, aq2, rfl, tq3, hq4, rfl⟩
  show G Γ Mq 6 [(0, .ref (ad 47)), (1, .int x1), (2, .int x2), (3, .int x3)] [.int rq1]
  refine g_aload_n X 0 rfl dX7_scans_6 ?_
  refine g_getr X f_X7_40 dX7_scans_7 ?_
  refine g_iconst X 0 dX7_scans_10 (by decide) ?_
  refine g_iald X la_58 (show (0 : Int32).toInt = 0 by decide) dX7_scans_11 (by omega) (x := Mq.1 58 0) rfl ?_
  refine g_icmp_ne X tq3 rfl (tgt := 53) dX7_scans_12 (by decide) (fun cq5 => ?_) (fun cq5 => ?_)
  · refine g_iconst X 0 dX7_scans_53 (by decide) ?_
    exact g_zret X (b01 (show (0 : Int32).toInt = 0 by decide) (by omega)) dX7_scans_54 ⟨_, _, rfl, (show (0 : Int32).toInt = 0 by decide), (by omega), rfl⟩
  · refine g_aload_n X 0 rfl dX7_scans_15 ?_
    refine g_iload_n X 2 rfl dX7_scans_16 ?_
    refine g_iload_n X 3 rfl dX7_scans_17 ?_
    refine g_callV X m_X7_179 (c_X7_longOf ad Mq x2 t2 x3 t3 (by omega) (by omega)) rfl (by decide) (Nat.le_of_ble_eq_true rfl) rfl dX7_scans_18 ?_
    rintro _ _ ⟨rq6, aq7, rfl, tq8, hq9, rfl⟩
    show G Γ Mq 21 [(0, .ref (ad 47)), (1, .int x1), (2, .int x2), (3, .int x3)] [.int rq6]
    refine g_aload_n X 0 rfl dX7_scans_21 ?_
    refine g_getr X f_X7_40 dX7_scans_22 ?_
    refine g_iconst X 1 dX7_scans_25 (by decide) ?_
    refine g_iald X la_58 (show (1 : Int32).toInt = 1 by decide) dX7_scans_26 (by omega) (x := Mq.1 58 1) rfl ?_
    refine g_icmp_ne X tq8 rfl (tgt := 53) dX7_scans_27 (by decide) (fun cq10 => ?_) (fun cq10 => ?_)
    · refine g_iconst X 0 dX7_scans_53 (by decide) ?_
      exact g_zret X (b01 (show (0 : Int32).toInt = 0 by decide) (by omega)) dX7_scans_54 ⟨_, _, rfl, (show (0 : Int32).toInt = 0 by decide), (by omega), rfl⟩
    · refine g_aload_n X 0 rfl dX7_scans_30 ?_
      refine g_getr X f_X7_40 dX7_scans_31 ?_
      refine g_iconst X 2 dX7_scans_34 (by decide) ?_
      refine g_iald X la_58 (show (2 : Int32).toInt = 2 by decide) dX7_scans_35 (by omega) (x := Mq.1 58 2) rfl ?_
      refine g_aload_n X 0 rfl dX7_scans_36 ?_
      refine g_iload_n X 1 rfl dX7_scans_37 ?_
      refine g_iload_n X 2 rfl dX7_scans_38 ?_
      refine g_iload_n X 3 rfl dX7_scans_39 ?_
      refine g_callV X m_X7_182 (c_X7_heavyAll ad Mq x1 t1 x2 t2 x3 t3 (by omega) (by omega) (by omega)) rfl (by decide) (Nat.le_of_ble_eq_true rfl) rfl dX7_scans_40 ?_
      rintro _ _ ⟨rq11, aq12, rfl, tq13, hq14, rfl⟩
      show G Γ Mq 43 [(0, .ref (ad 47)), (1, .int x1), (2, .int x2), (3, .int x3)] [.int rq11, .int (Mq.1 58 2)]
      refine g_iconst X (-1) dX7_scans_43 (by decide) ?_
      refine g_ixor X dX7_scans_44 (fun zq15 eq16 => ?_)
      refine g_iand X dX7_scans_45 (fun zq18 eq19 => ?_)
      refine g_if_ne X rfl (tgt := 53) dX7_scans_46 (by decide) (fun cq21 => ?_) (fun cq21 => ?_)
      · refine g_iconst X 0 dX7_scans_53 (by decide) ?_
        exact g_zret X (b01 (show (0 : Int32).toInt = 0 by decide) (by omega)) dX7_scans_54 ⟨_, _, rfl, (show (0 : Int32).toInt = 0 by decide), (by omega), rfl⟩
      · refine g_iconst X 1 dX7_scans_49 (by decide) ?_
        refine g_goto X (tgt := 54) dX7_scans_50 (by decide) ?_
        exact g_zret X (b01 (show (1 : Int32).toInt = 1 by decide) (by omega)) dX7_scans_54 ⟨_, _, rfl, (show (1 : Int32).toInt = 1 by decide), (by omega), rfl⟩
set_option maxHeartbeats 4000000 in
set_option maxRecDepth 4000 in
theorem c_X7_told (ad : Nat → Nat) (Mq : Mem) (x1 : Int32) {a1 : Int} (t1 : x1.toInt = a1) (x2 : Int32) {a2 : Int} (t2 : x2.toInt = a2) (Iq0 : Iv TM Mq) : Ctr ad yX7_told cX7_told 3 (some .int) 3 [.ref (ad 47), .int x1, .int x2] Mq (fun v M' => ∃ (r : Int32) (a : Int), v = some (.int r) ∧ r.toInt = a ∧ (True) ∧ Mq = M') := by
  refine ctr_of (L := [(0, .ref (ad 47)), (1, .int x1), (2, .int x2)]) (by decide) (Nat.le_of_ble_eq_true rfl) rfl ?_
  intro Γ X
  have X : gX Γ cX7_told RX7 3 (some .int) 3 ad _ := X
  have g11 := ig_47_11 Iq0
  have g12 := ig_47_12 Iq0
  have g14 := ig_47_14 Iq0
  have g32 := ig_47_32 Iq0
  have g43 := ig_47_43 Iq0
  have g44 := ig_47_44 Iq0
  have g52 := ig_47_52 Iq0
  have g53 := ig_47_53 Iq0
  have g59 := ig_47_59 Iq0
  refine g_aload_n X 0 rfl dX7_told_0 ?_
  refine g_iload_n X 1 rfl dX7_told_1 ?_
  refine g_callV X m_X7_186 (c_X7_isLine ad Mq x1 t1) rfl (by decide) (Nat.le_of_ble_eq_true rfl) rfl dX7_told_2 ?_
  rintro _ _ ⟨rq1, aq2, rfl, tq3, hq4, rfl⟩
  show G Γ Mq 5 [(0, .ref (ad 47)), (1, .int x1), (2, .int x2)] [.int rq1]
  refine g_if_ne X tq3 (tgt := 10) dX7_told_5 (by decide) (fun cq5 => ?_) (fun cq5 => ?_)
  · have pq6 : (0 ≤ a1 ∧ a1 < ((Mq.1 47 12)).toInt) := by omega
    clear hq4 cq5 tq3
    refine g_iload_n X 2 rfl dX7_told_10 ?_
    rcases (show (a2 < 0 ∨ 7 < a2) ∨ a2 = 0 ∨ a2 = 1 ∨ a2 = 2 ∨ a2 = 3 ∨ a2 = 4 ∨ a2 = 5 ∨ a2 = 6 ∨ a2 = 7 by omega) with cq7 | cq7 | cq7 | cq7 | cq7 | cq7 | cq7 | cq7 | cq7
    · refine g_tabOut X dX7_told_11 t2 cq7 (tgt := 179) (by decide) ?_
      refine g_iconst X (-1) dX7_told_179 (by decide) ?_
      exact g_iret X dX7_told_180 ⟨_, _, rfl, (show ((-1) : Int32).toInt = (-1) by decide), trivial, rfl⟩
    · refine g_tabIn X dX7_told_11 (a := 0) (t2.trans cq7) (by decide) (by decide) rfl (tgt := 56) (by decide) ?_
      refine g_aload_n X 0 rfl dX7_told_56 ?_
      refine g_getr X f_X7_25 dX7_told_57 ?_
      refine g_iload_n X 1 rfl dX7_told_60 ?_
      refine g_iald X la_53 t1 dX7_told_61 (by omega) (x := Mq.1 53 a1.toNat) rfl ?_
      have bq8 := ig_53 Iq0 a1.toNat (by omega)
      exact g_iret X dX7_told_62 ⟨_, _, rfl, rfl, trivial, rfl⟩
    · refine g_tabIn X dX7_told_11 (a := 1) (t2.trans cq7) (by decide) (by decide) rfl (tgt := 63) (by decide) ?_
      refine g_aload_n X 0 rfl dX7_told_63 ?_
      refine g_getr X f_X7_28 dX7_told_64 ?_
      refine g_iload_n X 1 rfl dX7_told_67 ?_
      refine g_iald X la_54 t1 dX7_told_68 (by omega) (x := Mq.1 54 a1.toNat) rfl ?_
      have bq9 := ig_54 Iq0 a1.toNat (by omega)
      exact g_iret X dX7_told_69 ⟨_, _, rfl, rfl, trivial, rfl⟩
    · refine g_tabIn X dX7_told_11 (a := 2) (t2.trans cq7) (by decide) (by decide) rfl (tgt := 70) (by decide) ?_
      refine g_aload_n X 0 rfl dX7_told_70 ?_
      refine g_getr X f_X7_31 dX7_told_71 ?_
      refine g_iload_n X 1 rfl dX7_told_74 ?_
      refine g_iald X la_55 t1 dX7_told_75 (by omega) (x := Mq.1 55 a1.toNat) rfl ?_
      exact g_iret X dX7_told_76 ⟨_, _, rfl, rfl, trivial, rfl⟩
    · refine g_tabIn X dX7_told_11 (a := 3) (t2.trans cq7) (by decide) (by decide) rfl (tgt := 77) (by decide) ?_
      refine g_aload_n X 0 rfl dX7_told_77 ?_
      refine g_getr X f_X7_34 dX7_told_78 ?_
      refine g_iload_n X 1 rfl dX7_told_81 ?_
      refine g_iald X la_56 t1 dX7_told_82 (by omega) (x := Mq.1 56 a1.toNat) rfl ?_
      have bq10 := ig_56 Iq0 a1.toNat (by omega)
      exact g_iret X dX7_told_83 ⟨_, _, rfl, rfl, trivial, rfl⟩
    · refine g_tabIn X dX7_told_11 (a := 4) (t2.trans cq7) (by decide) (by decide) rfl (tgt := 84) (by decide) ?_
      refine g_aload_n X 0 rfl dX7_told_84 ?_
      refine g_getr X f_X7_37 dX7_told_85 ?_
      refine g_iload_n X 1 rfl dX7_told_88 ?_
      refine g_iald X la_57 t1 dX7_told_89 (by omega) (x := Mq.1 57 a1.toNat) rfl ?_
      exact g_iret X dX7_told_90 ⟨_, _, rfl, rfl, trivial, rfl⟩
    · refine g_tabIn X dX7_told_11 (a := 5) (t2.trans cq7) (by decide) (by decide) rfl (tgt := 91) (by decide) ?_
      refine g_aload_n X 0 rfl dX7_told_91 ?_
      refine g_aload_n X 0 rfl dX7_told_92 ?_
      refine g_getr X f_X7_25 dX7_told_93 ?_
      refine g_iload_n X 1 rfl dX7_told_96 ?_
      refine g_iald X la_53 t1 dX7_told_97 (by omega) (x := Mq.1 53 a1.toNat) rfl ?_
      have bq11 := ig_53 Iq0 a1.toNat (by omega)
      refine g_aload_n X 0 rfl dX7_told_98 ?_
      refine g_getr X f_X7_28 dX7_told_99 ?_
      refine g_iload_n X 1 rfl dX7_told_102 ?_
      refine g_iald X la_54 t1 dX7_told_103 (by omega) (x := Mq.1 54 a1.toNat) rfl ?_
      have bq12 := ig_54 Iq0 a1.toNat (by omega)
      refine g_aload_n X 0 rfl dX7_told_104 ?_
      refine g_getr X f_X7_34 dX7_told_105 ?_
      refine g_iload_n X 1 rfl dX7_told_108 ?_
      refine g_iald X la_56 t1 dX7_told_109 (by omega) (x := Mq.1 56 a1.toNat) rfl ?_
      have bq13 := ig_56 Iq0 a1.toNat (by omega)
      refine g_callV X m_X7_189 (c_X7_scans ad Mq (Mq.1 53 a1.toNat) rfl (Mq.1 54 a1.toNat) rfl (Mq.1 56 a1.toNat) rfl (by omega) (by omega) (by omega)) rfl (by decide) (Nat.le_of_ble_eq_true rfl) rfl dX7_told_110 ?_
      rintro _ _ ⟨rq14, aq15, rfl, tq16, hq17, rfl⟩
      show G Γ Mq 113 [(0, .ref (ad 47)), (1, .int x1), (2, .int x2)] [.int rq14]
      refine g_if_eq X tq16 (tgt := 120) dX7_told_113 (by decide) (fun cq18 => ?_) (fun cq18 => ?_)
      · refine g_iconst X 0 dX7_told_120 (by decide) ?_
        exact g_iret X dX7_told_121 ⟨_, _, rfl, (show (0 : Int32).toInt = 0 by decide), trivial, rfl⟩
      · refine g_iconst X 1 dX7_told_116 (by decide) ?_
        refine g_goto X (tgt := 121) dX7_told_117 (by decide) ?_
        exact g_iret X dX7_told_121 ⟨_, _, rfl, (show (1 : Int32).toInt = 1 by decide), trivial, rfl⟩
    · refine g_tabIn X dX7_told_11 (a := 6) (t2.trans cq7) (by decide) (by decide) rfl (tgt := 122) (by decide) ?_
      refine g_aload_n X 0 rfl dX7_told_122 ?_
      refine g_aload_n X 0 rfl dX7_told_123 ?_
      refine g_getr X f_X7_25 dX7_told_124 ?_
      refine g_iload_n X 1 rfl dX7_told_127 ?_
      refine g_iald X la_53 t1 dX7_told_128 (by omega) (x := Mq.1 53 a1.toNat) rfl ?_
      have bq19 := ig_53 Iq0 a1.toNat (by omega)
      refine g_aload_n X 0 rfl dX7_told_129 ?_
      refine g_getr X f_X7_34 dX7_told_130 ?_
      refine g_iload_n X 1 rfl dX7_told_133 ?_
      refine g_iald X la_56 t1 dX7_told_134 (by omega) (x := Mq.1 56 a1.toNat) rfl ?_
      have bq20 := ig_56 Iq0 a1.toNat (by omega)
      refine g_callV X m_X7_179 (c_X7_longOf ad Mq (Mq.1 53 a1.toNat) rfl (Mq.1 56 a1.toNat) rfl (by omega) (by omega)) rfl (by decide) (Nat.le_of_ble_eq_true rfl) rfl dX7_told_135 ?_
      rintro _ _ ⟨rq21, aq22, rfl, tq23, hq24, rfl⟩
      show G Γ Mq 138 [(0, .ref (ad 47)), (1, .int x1), (2, .int x2)] [.int rq21]
      refine g_aload_n X 0 rfl dX7_told_138 ?_
      refine g_aload_n X 0 rfl dX7_told_139 ?_
      refine g_getr X f_X7_28 dX7_told_140 ?_
      refine g_iload_n X 1 rfl dX7_told_143 ?_
      refine g_iald X la_54 t1 dX7_told_144 (by omega) (x := Mq.1 54 a1.toNat) rfl ?_
      have bq25 := ig_54 Iq0 a1.toNat (by omega)
      refine g_aload_n X 0 rfl dX7_told_145 ?_
      refine g_getr X f_X7_34 dX7_told_146 ?_
      refine g_iload_n X 1 rfl dX7_told_149 ?_
      refine g_iald X la_56 t1 dX7_told_150 (by omega) (x := Mq.1 56 a1.toNat) rfl ?_
      have bq26 := ig_56 Iq0 a1.toNat (by omega)
      refine g_callV X m_X7_179 (c_X7_longOf ad Mq (Mq.1 54 a1.toNat) rfl (Mq.1 56 a1.toNat) rfl (by omega) (by omega)) rfl (by decide) (Nat.le_of_ble_eq_true rfl) rfl dX7_told_151 ?_
      rintro _ _ ⟨rq27, aq28, rfl, tq29, hq30, rfl⟩
      show G Γ Mq 154 [(0, .ref (ad 47)), (1, .int x1), (2, .int x2)] [.int rq27, .int rq21]
      refine g_iadd X dX7_told_154 (fun zq31 eq32 => ?_)
      exact g_iret X dX7_told_155 ⟨_, _, rfl, rfl, trivial, rfl⟩
    · refine g_tabIn X dX7_told_11 (a := 7) (t2.trans cq7) (by decide) (by decide) rfl (tgt := 156) (by decide) ?_
      refine g_aload_n X 0 rfl dX7_told_156 ?_
      refine g_aload_n X 0 rfl dX7_told_157 ?_
      refine g_getr X f_X7_25 dX7_told_158 ?_
      refine g_iload_n X 1 rfl dX7_told_161 ?_
      refine g_iald X la_53 t1 dX7_told_162 (by omega) (x := Mq.1 53 a1.toNat) rfl ?_
      have bq34 := ig_53 Iq0 a1.toNat (by omega)
      refine g_aload_n X 0 rfl dX7_told_163 ?_
      refine g_getr X f_X7_28 dX7_told_164 ?_
      refine g_iload_n X 1 rfl dX7_told_167 ?_
      refine g_iald X la_54 t1 dX7_told_168 (by omega) (x := Mq.1 54 a1.toNat) rfl ?_
      have bq35 := ig_54 Iq0 a1.toNat (by omega)
      refine g_aload_n X 0 rfl dX7_told_169 ?_
      refine g_getr X f_X7_34 dX7_told_170 ?_
      refine g_iload_n X 1 rfl dX7_told_173 ?_
      refine g_iald X la_56 t1 dX7_told_174 (by omega) (x := Mq.1 56 a1.toNat) rfl ?_
      have bq36 := ig_56 Iq0 a1.toNat (by omega)
      refine g_callV X m_X7_182 (c_X7_heavyAll ad Mq (Mq.1 53 a1.toNat) rfl (Mq.1 54 a1.toNat) rfl (Mq.1 56 a1.toNat) rfl (by omega) (by omega) (by omega)) rfl (by decide) (Nat.le_of_ble_eq_true rfl) rfl dX7_told_175 ?_
      rintro _ _ ⟨rq37, aq38, rfl, tq39, hq40, rfl⟩
      show G Γ Mq 178 [(0, .ref (ad 47)), (1, .int x1), (2, .int x2)] [.int rq37]
      exact g_iret X dX7_told_178 ⟨_, _, rfl, tq39, trivial, rfl⟩
  · have pq41 : ¬ (0 ≤ a1 ∧ a1 < ((Mq.1 47 12)).toInt) := by omega
    clear hq4 cq5 tq3
    refine g_iconst X (-1) dX7_told_8 (by decide) ?_
    exact g_iret X dX7_told_9 ⟨_, _, rfl, (show ((-1) : Int32).toInt = (-1) by decide), trivial, rfl⟩
abbrev W_X7_mends : List (Nat × Nat) := [(53, 99), (54, 99)]
set_option maxHeartbeats 4000000 in
set_option maxRecDepth 4000 in
theorem c_X7_mends (ad : Nat → Nat) (Mq : Mem) (x1 : Int32) {a1 : Int} (t1 : x1.toInt = a1) (Iq0 : Iv TM Mq) (h1 : 0 ≤ a1 ∧ a1 < 40) : Ctr ad yX7_mends cX7_mends 8 (some .boolean) 3 [.ref (ad 47), .int x1] Mq (fun v M' => ∃ (r : Int32) (a : Int), v = some (.int r) ∧ r.toInt = a ∧ (a = 0 ∨ a = 1) ∧ Iv TM M' ∧ Fr W_X7_mends Mq M') := by
  refine ctr_of (L := [(0, .ref (ad 47)), (1, .int x1)]) (by decide) (Nat.le_of_ble_eq_true rfl) rfl ?_
  intro Γ X
  have X : gX Γ cX7_mends RX7 8 (some .boolean) 3 ad _ := X
  have frq0 : Fr W_X7_mends Mq Mq := Fr.rf
  have g11 := ig_47_11 Iq0
  have g12 := ig_47_12 Iq0
  have g14 := ig_47_14 Iq0
  have g32 := ig_47_32 Iq0
  have g43 := ig_47_43 Iq0
  have g44 := ig_47_44 Iq0
  have g52 := ig_47_52 Iq0
  have g53 := ig_47_53 Iq0
  have g59 := ig_47_59 Iq0
  refine g_iconst X 3 dX7_mends_0 (by decide) ?_
  refine g_istore_n X (i := 2) [(2, .int 3), (0, .ref (ad 47)), (1, .int x1)] dX7_mends_1 rfl (by decide) rfl ?_
  refine g_iconst X 0 dX7_mends_2 (by decide) ?_
  refine g_istore_n X (i := 3) [(3, .int 0), (2, .int 3), (0, .ref (ad 47)), (1, .int x1)] dX7_mends_3 rfl (by decide) rfl ?_
  refine g_iconst X 0 dX7_mends_4 (by decide) ?_
  refine g_istore X [(4, .int 0), (3, .int 0), (2, .int 3), (0, .ref (ad 47)), (1, .int x1)] dX7_mends_5 (by decide) rfl ?_
  refine g_iconst X 0 dX7_mends_7 (by decide) ?_
  refine g_istore X [(5, .int 0), (4, .int 0), (3, .int 0), (2, .int 3), (0, .ref (ad 47)), (1, .int x1)] dX7_mends_8 (by decide) rfl ?_
  have lp10 : ∀ n : Nat, ∀ (y5_10 : Int32) (b5_10 : Int), y5_10.toInt = b5_10 → ∀ (y4_10 : Int32) (b4_10 : Int), y4_10.toInt = b4_10 → ∀ (y3_10 : Int32) (b3_10 : Int), y3_10.toInt = b3_10 → ∀ (y2_10 : Int32) (b2_10 : Int), y2_10.toInt = b2_10 → (0 ≤ b5_10) → (0 ≤ b3_10 ∧ b3_10 < 40 ∧ 0 ≤ b4_10 ∧ b4_10 < 40) → ((Mq.1 47 11).toInt - b5_10).toNat < n → G Γ Mq 10 [(5, .int y5_10), (4, .int y4_10), (3, .int y3_10), (2, .int y2_10), (0, .ref (ad 47)), (1, .int x1)] [] := by
    intro n
    induction n with
    | zero => intro y5_10 b5_10 e5_10 y4_10 b4_10 e4_10 y3_10 b3_10 e3_10 y2_10 b2_10 e2_10 i1 i2 hm; exact absurd hm (Nat.not_lt_zero _)
    | succ n ih10 =>
      intro y5_10 b5_10 e5_10 y4_10 b4_10 e4_10 y3_10 b3_10 e3_10 y2_10 b2_10 e2_10 i1 i2 hm10
      refine g_iload X 0 rfl dX7_mends_10 ?_
      refine g_aload_n X 4 rfl dX7_mends_12 ?_
      refine g_geti X f_X7_144 dX7_mends_13 (x := Mq.1 47 11) rfl ?_
      have bq1 := ig_47_11 Iq0
      refine g_icmp_ge X e5_10 rfl (tgt := 114) dX7_mends_16 (by decide) (fun cq2 => ?_) (fun cq2 => ?_)
      · refine g_iload_n X 3 rfl dX7_mends_114 ?_
        refine g_iconst X 3 dX7_mends_115 (by decide) ?_
        refine g_icmp_ne X e2_10 (show (3 : Int32).toInt = 3 by decide) (tgt := 121) dX7_mends_116 (by decide) (fun cq3 => ?_) (fun cq3 => ?_)
        · refine g_aload_n X 4 rfl dX7_mends_121 ?_
          refine g_getr X f_X7_25 dX7_mends_122 ?_
          refine g_iload_n X 5 rfl dX7_mends_125 ?_
          refine g_iload_n X 2 rfl dX7_mends_126 ?_
          refine g_iast X la_53 t1 dX7_mends_127 (by omega) ?_
          have Iq4 : Iv TM (ui Mq 53 a1.toNat y3_10) := Iq0.putA 0 39 e3_10 (by omega) rfl
          have frq5 : Fr W_X7_mends Mq (ui Mq 53 a1.toNat y3_10) := frq0.ui rfl
          refine g_aload_n X 4 rfl dX7_mends_128 ?_
          refine g_getr X f_X7_28 dX7_mends_129 ?_
          refine g_iload_n X 5 rfl dX7_mends_132 ?_
          refine g_iload X 1 rfl dX7_mends_133 ?_
          refine g_iast X la_54 t1 dX7_mends_135 (by omega) ?_
          have Iq6 : Iv TM (ui (ui Mq 53 a1.toNat y3_10) 54 a1.toNat y4_10) := Iq4.putA 0 39 e4_10 (by omega) rfl
          have frq7 : Fr W_X7_mends Mq (ui (ui Mq 53 a1.toNat y3_10) 54 a1.toNat y4_10) := frq5.ui rfl
          refine g_iconst X 1 dX7_mends_136 (by decide) ?_
          exact g_zret X (b01 (show (1 : Int32).toInt = 1 by decide) (by omega)) dX7_mends_137 ⟨_, _, rfl, (show (1 : Int32).toInt = 1 by decide), (by omega), Iq6, frq7⟩
        · refine g_iconst X 0 dX7_mends_119 (by decide) ?_
          exact g_zret X (b01 (show (0 : Int32).toInt = 0 by decide) (by omega)) dX7_mends_120 ⟨_, _, rfl, (show (0 : Int32).toInt = 0 by decide), (by omega), Iq0, frq0⟩
      · refine g_iconst X 0 dX7_mends_19 (by decide) ?_
        refine g_istore X [(6, .int 0), (5, .int y5_10), (4, .int y4_10), (3, .int y3_10), (2, .int y2_10), (0, .ref (ad 47)), (1, .int x1)] dX7_mends_20 (by decide) rfl ?_
        have lp22 : ∀ n : Nat, ∀ (y6_22 : Int32) (b6_22 : Int), y6_22.toInt = b6_22 → ∀ (y4_22 : Int32) (b4_22 : Int), y4_22.toInt = b4_22 → ∀ (y3_22 : Int32) (b3_22 : Int), y3_22.toInt = b3_22 → ∀ (y2_22 : Int32) (b2_22 : Int), y2_22.toInt = b2_22 → (0 ≤ b6_22) → (0 ≤ b3_22 ∧ b3_22 < 40 ∧ 0 ≤ b4_22 ∧ b4_22 < 40) → ((Mq.1 47 11).toInt - b6_22).toNat < n → G Γ Mq 22 [(6, .int y6_22), (5, .int y5_10), (4, .int y4_22), (3, .int y3_22), (2, .int y2_22), (0, .ref (ad 47)), (1, .int x1)] [] := by
          intro n
          induction n with
          | zero => intro y6_22 b6_22 e6_22 y4_22 b4_22 e4_22 y3_22 b3_22 e3_22 y2_22 b2_22 e2_22 j1 j2 hm; exact absurd hm (Nat.not_lt_zero _)
          | succ n ih22 =>
            intro y6_22 b6_22 e6_22 y4_22 b4_22 e4_22 y3_22 b3_22 e3_22 y2_22 b2_22 e2_22 j1 j2 hm22
            refine g_iload X 0 rfl dX7_mends_22 ?_
            refine g_aload_n X 5 rfl dX7_mends_24 ?_
            refine g_geti X f_X7_144 dX7_mends_25 (x := Mq.1 47 11) rfl ?_
            have bq8 := ig_47_11 Iq0
            refine g_icmp_ge X e6_22 rfl (tgt := 108) dX7_mends_28 (by decide) (fun cq9 => ?_) (fun cq9 => ?_)
            · refine g_iinc X 1 (fun v => [(5, .int v), (6, .int y6_22), (4, .int y4_22), (3, .int y3_22), (2, .int y2_22), (0, .ref (ad 47)), (1, .int x1)]) dX7_mends_108 rfl (by decide) (fun _ => rfl) (fun zq10 eq11 => ?_)
              have tq12 : zq10.toInt = b5_10 + 1 := add_nw eq11 e5_10 (show (Int32.ofInt 1).toInt = 1 by decide) (by omega)
              refine g_goto X (tgt := 10) dX7_mends_111 (by decide) ?_
              refine g_sub [0, 2, 3, 4, 5, 6] rfl ?_
              exact ih10 zq10 _ tq12 y4_22 _ e4_22 y3_22 _ e3_22 y2_22 _ e2_22 (by omega) (by omega) (by omega)
            · refine g_iload X 1 rfl dX7_mends_31 ?_
              refine g_aload_n X 5 rfl dX7_mends_33 ?_
              refine g_getr X f_X7_25 dX7_mends_34 ?_
              refine g_iload_n X 6 rfl dX7_mends_37 ?_
              refine g_iald X la_53 t1 dX7_mends_38 (by omega) (x := Mq.1 53 a1.toNat) rfl ?_
              have bq13 := ig_53 Iq0 a1.toNat (by omega)
              refine g_icmp_ne X e5_10 rfl (tgt := 46) dX7_mends_39 (by decide) (fun cq14 => ?_) (fun cq14 => ?_)
              · refine g_iconst X 1 dX7_mends_46 (by decide) ?_
                refine g_iload X 0 rfl dX7_mends_47 ?_
                refine g_aload_n X 5 rfl dX7_mends_49 ?_
                refine g_getr X f_X7_28 dX7_mends_50 ?_
                refine g_iload_n X 6 rfl dX7_mends_53 ?_
                refine g_iald X la_54 t1 dX7_mends_54 (by omega) (x := Mq.1 54 a1.toNat) rfl ?_
                have bq15 := ig_54 Iq0 a1.toNat (by omega)
                refine g_icmp_ne X e6_22 rfl (tgt := 62) dX7_mends_55 (by decide) (fun cq16 => ?_) (fun cq16 => ?_)
                · refine g_iconst X 1 dX7_mends_62 (by decide) ?_
                  refine g_iadd X dX7_mends_63 (fun zq17 eq18 => ?_)
                  have tq19 : zq17.toInt = 1 + 1 := add_nw eq18 (show (1 : Int32).toInt = 1 by decide) (show (1 : Int32).toInt = 1 by decide) (by omega)
                  refine g_istore X [(7, .int zq17), (6, .int y6_22), (5, .int y5_10), (4, .int y4_22), (3, .int y3_22), (2, .int y2_22), (0, .ref (ad 47)), (1, .int x1)] dX7_mends_64 (by decide) rfl ?_
                  refine g_iload X 0 rfl dX7_mends_66 ?_
                  refine g_iload_n X 5 rfl dX7_mends_68 ?_
                  refine g_icmp_ge X tq19 e2_22 (tgt := 102) dX7_mends_69 (by decide) (fun cq20 => ?_) (fun cq20 => ?_)
                  · refine g_iinc X 1 (fun v => [(6, .int v), (7, .int zq17), (5, .int y5_10), (4, .int y4_22), (3, .int y3_22), (2, .int y2_22), (0, .ref (ad 47)), (1, .int x1)]) dX7_mends_102 rfl (by decide) (fun _ => rfl) (fun zq21 eq22 => ?_)
                    have tq23 : zq21.toInt = b6_22 + 1 := add_nw eq22 e6_22 (show (Int32.ofInt 1).toInt = 1 by decide) (by omega)
                    refine g_goto X (tgt := 22) dX7_mends_105 (by decide) ?_
                    refine g_sub [0, 2, 3, 4, 5, 6, 7] rfl ?_
                    exact ih22 zq21 _ tq23 y4_22 _ e4_22 y3_22 _ e3_22 y2_22 _ e2_22 (by omega) (by omega) (by omega)
                  · refine g_aload_n X 6 rfl dX7_mends_72 ?_
                    refine g_iload X 2 rfl dX7_mends_73 ?_
                    refine g_iload X 1 rfl dX7_mends_75 ?_
                    refine g_aload_n X 6 rfl dX7_mends_77 ?_
                    refine g_getr X f_X7_34 dX7_mends_78 ?_
                    refine g_iload_n X 7 rfl dX7_mends_81 ?_
                    refine g_iald X la_56 t1 dX7_mends_82 (by omega) (x := Mq.1 56 a1.toNat) rfl ?_
                    have bq24 := ig_56 Iq0 a1.toNat (by omega)
                    refine g_callV X m_X7_189 (c_X7_scans ad Mq y5_10 e5_10 y6_22 e6_22 (Mq.1 56 a1.toNat) rfl (by omega) (by omega) (by omega)) rfl (by decide) (Nat.le_of_ble_eq_true rfl) rfl dX7_mends_83 ?_
                    rintro _ _ ⟨rq25, aq26, rfl, tq27, hq28, rfl⟩
                    show G Γ Mq 86 [(7, .int zq17), (6, .int y6_22), (5, .int y5_10), (4, .int y4_22), (3, .int y3_22), (2, .int y2_22), (0, .ref (ad 47)), (1, .int x1)] [.int rq25]
                    refine g_if_ne X tq27 (tgt := 92) dX7_mends_86 (by decide) (fun cq29 => ?_) (fun cq29 => ?_)
                    · refine g_iload X 0 rfl dX7_mends_92 ?_
                      refine g_istore_n X (i := 2) [(2, .int zq17), (7, .int zq17), (6, .int y6_22), (5, .int y5_10), (4, .int y4_22), (3, .int y3_22), (0, .ref (ad 47)), (1, .int x1)] dX7_mends_94 rfl (by decide) rfl ?_
                      refine g_iload X 3 rfl dX7_mends_95 ?_
                      refine g_istore_n X (i := 3) [(3, .int y5_10), (2, .int zq17), (7, .int zq17), (6, .int y6_22), (5, .int y5_10), (4, .int y4_22), (0, .ref (ad 47)), (1, .int x1)] dX7_mends_97 rfl (by decide) rfl ?_
                      refine g_iload X 3 rfl dX7_mends_98 ?_
                      refine g_istore X [(4, .int y6_22), (3, .int y5_10), (2, .int zq17), (7, .int zq17), (6, .int y6_22), (5, .int y5_10), (0, .ref (ad 47)), (1, .int x1)] dX7_mends_100 (by decide) rfl ?_
                      refine g_iinc X 4 (fun v => [(6, .int v), (4, .int y6_22), (3, .int y5_10), (2, .int zq17), (7, .int zq17), (5, .int y5_10), (0, .ref (ad 47)), (1, .int x1)]) dX7_mends_102 rfl (by decide) (fun _ => rfl) (fun zq30 eq31 => ?_)
                      have tq32 : zq30.toInt = b6_22 + 1 := add_nw eq31 e6_22 (show (Int32.ofInt 1).toInt = 1 by decide) (by omega)
                      refine g_goto X (tgt := 22) dX7_mends_105 (by decide) ?_
                      refine g_sub [0, 5, 1, 2, 3, 6, 7] rfl ?_
                      exact ih22 zq30 _ tq32 y6_22 _ e6_22 y5_10 _ e5_10 zq17 _ tq19 (by omega) (by omega) (by omega)
                    · refine g_goto X (tgt := 102) dX7_mends_89 (by decide) ?_
                      refine g_iinc X 1 (fun v => [(6, .int v), (7, .int zq17), (5, .int y5_10), (4, .int y4_22), (3, .int y3_22), (2, .int y2_22), (0, .ref (ad 47)), (1, .int x1)]) dX7_mends_102 rfl (by decide) (fun _ => rfl) (fun zq33 eq34 => ?_)
                      have tq35 : zq33.toInt = b6_22 + 1 := add_nw eq34 e6_22 (show (Int32.ofInt 1).toInt = 1 by decide) (by omega)
                      refine g_goto X (tgt := 22) dX7_mends_105 (by decide) ?_
                      refine g_sub [0, 2, 3, 4, 5, 6, 7] rfl ?_
                      exact ih22 zq33 _ tq35 y4_22 _ e4_22 y3_22 _ e3_22 y2_22 _ e2_22 (by omega) (by omega) (by omega)
                · refine g_iconst X 0 dX7_mends_58 (by decide) ?_
                  refine g_goto X (tgt := 63) dX7_mends_59 (by decide) ?_
                  refine g_iadd X dX7_mends_63 (fun zq36 eq37 => ?_)
                  have tq38 : zq36.toInt = 1 + 0 := add_nw eq37 (show (1 : Int32).toInt = 1 by decide) (show (0 : Int32).toInt = 0 by decide) (by omega)
                  refine g_istore X [(7, .int zq36), (6, .int y6_22), (5, .int y5_10), (4, .int y4_22), (3, .int y3_22), (2, .int y2_22), (0, .ref (ad 47)), (1, .int x1)] dX7_mends_64 (by decide) rfl ?_
                  refine g_iload X 0 rfl dX7_mends_66 ?_
                  refine g_iload_n X 5 rfl dX7_mends_68 ?_
                  refine g_icmp_ge X tq38 e2_22 (tgt := 102) dX7_mends_69 (by decide) (fun cq39 => ?_) (fun cq39 => ?_)
                  · refine g_iinc X 1 (fun v => [(6, .int v), (7, .int zq36), (5, .int y5_10), (4, .int y4_22), (3, .int y3_22), (2, .int y2_22), (0, .ref (ad 47)), (1, .int x1)]) dX7_mends_102 rfl (by decide) (fun _ => rfl) (fun zq40 eq41 => ?_)
                    have tq42 : zq40.toInt = b6_22 + 1 := add_nw eq41 e6_22 (show (Int32.ofInt 1).toInt = 1 by decide) (by omega)
                    refine g_goto X (tgt := 22) dX7_mends_105 (by decide) ?_
                    refine g_sub [0, 2, 3, 4, 5, 6, 7] rfl ?_
                    exact ih22 zq40 _ tq42 y4_22 _ e4_22 y3_22 _ e3_22 y2_22 _ e2_22 (by omega) (by omega) (by omega)
                  · refine g_aload_n X 6 rfl dX7_mends_72 ?_
                    refine g_iload X 2 rfl dX7_mends_73 ?_
                    refine g_iload X 1 rfl dX7_mends_75 ?_
                    refine g_aload_n X 6 rfl dX7_mends_77 ?_
                    refine g_getr X f_X7_34 dX7_mends_78 ?_
                    refine g_iload_n X 7 rfl dX7_mends_81 ?_
                    refine g_iald X la_56 t1 dX7_mends_82 (by omega) (x := Mq.1 56 a1.toNat) rfl ?_
                    have bq43 := ig_56 Iq0 a1.toNat (by omega)
                    refine g_callV X m_X7_189 (c_X7_scans ad Mq y5_10 e5_10 y6_22 e6_22 (Mq.1 56 a1.toNat) rfl (by omega) (by omega) (by omega)) rfl (by decide) (Nat.le_of_ble_eq_true rfl) rfl dX7_mends_83 ?_
                    rintro _ _ ⟨rq44, aq45, rfl, tq46, hq47, rfl⟩
                    show G Γ Mq 86 [(7, .int zq36), (6, .int y6_22), (5, .int y5_10), (4, .int y4_22), (3, .int y3_22), (2, .int y2_22), (0, .ref (ad 47)), (1, .int x1)] [.int rq44]
                    refine g_if_ne X tq46 (tgt := 92) dX7_mends_86 (by decide) (fun cq48 => ?_) (fun cq48 => ?_)
                    · refine g_iload X 0 rfl dX7_mends_92 ?_
                      refine g_istore_n X (i := 2) [(2, .int zq36), (7, .int zq36), (6, .int y6_22), (5, .int y5_10), (4, .int y4_22), (3, .int y3_22), (0, .ref (ad 47)), (1, .int x1)] dX7_mends_94 rfl (by decide) rfl ?_
                      refine g_iload X 3 rfl dX7_mends_95 ?_
                      refine g_istore_n X (i := 3) [(3, .int y5_10), (2, .int zq36), (7, .int zq36), (6, .int y6_22), (5, .int y5_10), (4, .int y4_22), (0, .ref (ad 47)), (1, .int x1)] dX7_mends_97 rfl (by decide) rfl ?_
                      refine g_iload X 3 rfl dX7_mends_98 ?_
                      refine g_istore X [(4, .int y6_22), (3, .int y5_10), (2, .int zq36), (7, .int zq36), (6, .int y6_22), (5, .int y5_10), (0, .ref (ad 47)), (1, .int x1)] dX7_mends_100 (by decide) rfl ?_
                      refine g_iinc X 4 (fun v => [(6, .int v), (4, .int y6_22), (3, .int y5_10), (2, .int zq36), (7, .int zq36), (5, .int y5_10), (0, .ref (ad 47)), (1, .int x1)]) dX7_mends_102 rfl (by decide) (fun _ => rfl) (fun zq49 eq50 => ?_)
                      have tq51 : zq49.toInt = b6_22 + 1 := add_nw eq50 e6_22 (show (Int32.ofInt 1).toInt = 1 by decide) (by omega)
                      refine g_goto X (tgt := 22) dX7_mends_105 (by decide) ?_
                      refine g_sub [0, 5, 1, 2, 3, 6, 7] rfl ?_
                      exact ih22 zq49 _ tq51 y6_22 _ e6_22 y5_10 _ e5_10 zq36 _ tq38 (by omega) (by omega) (by omega)
                    · refine g_goto X (tgt := 102) dX7_mends_89 (by decide) ?_
                      refine g_iinc X 1 (fun v => [(6, .int v), (7, .int zq36), (5, .int y5_10), (4, .int y4_22), (3, .int y3_22), (2, .int y2_22), (0, .ref (ad 47)), (1, .int x1)]) dX7_mends_102 rfl (by decide) (fun _ => rfl) (fun zq52 eq53 => ?_)
                      have tq54 : zq52.toInt = b6_22 + 1 := add_nw eq53 e6_22 (show (Int32.ofInt 1).toInt = 1 by decide) (by omega)
                      refine g_goto X (tgt := 22) dX7_mends_105 (by decide) ?_
                      refine g_sub [0, 2, 3, 4, 5, 6, 7] rfl ?_
                      exact ih22 zq52 _ tq54 y4_22 _ e4_22 y3_22 _ e3_22 y2_22 _ e2_22 (by omega) (by omega) (by omega)
              · refine g_iconst X 0 dX7_mends_42 (by decide) ?_
                refine g_goto X (tgt := 47) dX7_mends_43 (by decide) ?_
                refine g_iload X 0 rfl dX7_mends_47 ?_
                refine g_aload_n X 5 rfl dX7_mends_49 ?_
                refine g_getr X f_X7_28 dX7_mends_50 ?_
                refine g_iload_n X 6 rfl dX7_mends_53 ?_
                refine g_iald X la_54 t1 dX7_mends_54 (by omega) (x := Mq.1 54 a1.toNat) rfl ?_
                have bq55 := ig_54 Iq0 a1.toNat (by omega)
                refine g_icmp_ne X e6_22 rfl (tgt := 62) dX7_mends_55 (by decide) (fun cq56 => ?_) (fun cq56 => ?_)
                · refine g_iconst X 1 dX7_mends_62 (by decide) ?_
                  refine g_iadd X dX7_mends_63 (fun zq57 eq58 => ?_)
                  have tq59 : zq57.toInt = 0 + 1 := add_nw eq58 (show (0 : Int32).toInt = 0 by decide) (show (1 : Int32).toInt = 1 by decide) (by omega)
                  refine g_istore X [(7, .int zq57), (6, .int y6_22), (5, .int y5_10), (4, .int y4_22), (3, .int y3_22), (2, .int y2_22), (0, .ref (ad 47)), (1, .int x1)] dX7_mends_64 (by decide) rfl ?_
                  refine g_iload X 0 rfl dX7_mends_66 ?_
                  refine g_iload_n X 5 rfl dX7_mends_68 ?_
                  refine g_icmp_ge X tq59 e2_22 (tgt := 102) dX7_mends_69 (by decide) (fun cq60 => ?_) (fun cq60 => ?_)
                  · refine g_iinc X 1 (fun v => [(6, .int v), (7, .int zq57), (5, .int y5_10), (4, .int y4_22), (3, .int y3_22), (2, .int y2_22), (0, .ref (ad 47)), (1, .int x1)]) dX7_mends_102 rfl (by decide) (fun _ => rfl) (fun zq61 eq62 => ?_)
                    have tq63 : zq61.toInt = b6_22 + 1 := add_nw eq62 e6_22 (show (Int32.ofInt 1).toInt = 1 by decide) (by omega)
                    refine g_goto X (tgt := 22) dX7_mends_105 (by decide) ?_
                    refine g_sub [0, 2, 3, 4, 5, 6, 7] rfl ?_
                    exact ih22 zq61 _ tq63 y4_22 _ e4_22 y3_22 _ e3_22 y2_22 _ e2_22 (by omega) (by omega) (by omega)
                  · refine g_aload_n X 6 rfl dX7_mends_72 ?_
                    refine g_iload X 2 rfl dX7_mends_73 ?_
                    refine g_iload X 1 rfl dX7_mends_75 ?_
                    refine g_aload_n X 6 rfl dX7_mends_77 ?_
                    refine g_getr X f_X7_34 dX7_mends_78 ?_
                    refine g_iload_n X 7 rfl dX7_mends_81 ?_
                    refine g_iald X la_56 t1 dX7_mends_82 (by omega) (x := Mq.1 56 a1.toNat) rfl ?_
                    have bq64 := ig_56 Iq0 a1.toNat (by omega)
                    refine g_callV X m_X7_189 (c_X7_scans ad Mq y5_10 e5_10 y6_22 e6_22 (Mq.1 56 a1.toNat) rfl (by omega) (by omega) (by omega)) rfl (by decide) (Nat.le_of_ble_eq_true rfl) rfl dX7_mends_83 ?_
                    rintro _ _ ⟨rq65, aq66, rfl, tq67, hq68, rfl⟩
                    show G Γ Mq 86 [(7, .int zq57), (6, .int y6_22), (5, .int y5_10), (4, .int y4_22), (3, .int y3_22), (2, .int y2_22), (0, .ref (ad 47)), (1, .int x1)] [.int rq65]
                    refine g_if_ne X tq67 (tgt := 92) dX7_mends_86 (by decide) (fun cq69 => ?_) (fun cq69 => ?_)
                    · refine g_iload X 0 rfl dX7_mends_92 ?_
                      refine g_istore_n X (i := 2) [(2, .int zq57), (7, .int zq57), (6, .int y6_22), (5, .int y5_10), (4, .int y4_22), (3, .int y3_22), (0, .ref (ad 47)), (1, .int x1)] dX7_mends_94 rfl (by decide) rfl ?_
                      refine g_iload X 3 rfl dX7_mends_95 ?_
                      refine g_istore_n X (i := 3) [(3, .int y5_10), (2, .int zq57), (7, .int zq57), (6, .int y6_22), (5, .int y5_10), (4, .int y4_22), (0, .ref (ad 47)), (1, .int x1)] dX7_mends_97 rfl (by decide) rfl ?_
                      refine g_iload X 3 rfl dX7_mends_98 ?_
                      refine g_istore X [(4, .int y6_22), (3, .int y5_10), (2, .int zq57), (7, .int zq57), (6, .int y6_22), (5, .int y5_10), (0, .ref (ad 47)), (1, .int x1)] dX7_mends_100 (by decide) rfl ?_
                      refine g_iinc X 4 (fun v => [(6, .int v), (4, .int y6_22), (3, .int y5_10), (2, .int zq57), (7, .int zq57), (5, .int y5_10), (0, .ref (ad 47)), (1, .int x1)]) dX7_mends_102 rfl (by decide) (fun _ => rfl) (fun zq70 eq71 => ?_)
                      have tq72 : zq70.toInt = b6_22 + 1 := add_nw eq71 e6_22 (show (Int32.ofInt 1).toInt = 1 by decide) (by omega)
                      refine g_goto X (tgt := 22) dX7_mends_105 (by decide) ?_
                      refine g_sub [0, 5, 1, 2, 3, 6, 7] rfl ?_
                      exact ih22 zq70 _ tq72 y6_22 _ e6_22 y5_10 _ e5_10 zq57 _ tq59 (by omega) (by omega) (by omega)
                    · refine g_goto X (tgt := 102) dX7_mends_89 (by decide) ?_
                      refine g_iinc X 1 (fun v => [(6, .int v), (7, .int zq57), (5, .int y5_10), (4, .int y4_22), (3, .int y3_22), (2, .int y2_22), (0, .ref (ad 47)), (1, .int x1)]) dX7_mends_102 rfl (by decide) (fun _ => rfl) (fun zq73 eq74 => ?_)
                      have tq75 : zq73.toInt = b6_22 + 1 := add_nw eq74 e6_22 (show (Int32.ofInt 1).toInt = 1 by decide) (by omega)
                      refine g_goto X (tgt := 22) dX7_mends_105 (by decide) ?_
                      refine g_sub [0, 2, 3, 4, 5, 6, 7] rfl ?_
                      exact ih22 zq73 _ tq75 y4_22 _ e4_22 y3_22 _ e3_22 y2_22 _ e2_22 (by omega) (by omega) (by omega)
                · refine g_iconst X 0 dX7_mends_58 (by decide) ?_
                  refine g_goto X (tgt := 63) dX7_mends_59 (by decide) ?_
                  refine g_iadd X dX7_mends_63 (fun zq76 eq77 => ?_)
                  have tq78 : zq76.toInt = 0 + 0 := add_nw eq77 (show (0 : Int32).toInt = 0 by decide) (show (0 : Int32).toInt = 0 by decide) (by omega)
                  refine g_istore X [(7, .int zq76), (6, .int y6_22), (5, .int y5_10), (4, .int y4_22), (3, .int y3_22), (2, .int y2_22), (0, .ref (ad 47)), (1, .int x1)] dX7_mends_64 (by decide) rfl ?_
                  refine g_iload X 0 rfl dX7_mends_66 ?_
                  refine g_iload_n X 5 rfl dX7_mends_68 ?_
                  refine g_icmp_ge X tq78 e2_22 (tgt := 102) dX7_mends_69 (by decide) (fun cq79 => ?_) (fun cq79 => ?_)
                  · refine g_iinc X 1 (fun v => [(6, .int v), (7, .int zq76), (5, .int y5_10), (4, .int y4_22), (3, .int y3_22), (2, .int y2_22), (0, .ref (ad 47)), (1, .int x1)]) dX7_mends_102 rfl (by decide) (fun _ => rfl) (fun zq80 eq81 => ?_)
                    have tq82 : zq80.toInt = b6_22 + 1 := add_nw eq81 e6_22 (show (Int32.ofInt 1).toInt = 1 by decide) (by omega)
                    refine g_goto X (tgt := 22) dX7_mends_105 (by decide) ?_
                    refine g_sub [0, 2, 3, 4, 5, 6, 7] rfl ?_
                    exact ih22 zq80 _ tq82 y4_22 _ e4_22 y3_22 _ e3_22 y2_22 _ e2_22 (by omega) (by omega) (by omega)
                  · refine g_aload_n X 6 rfl dX7_mends_72 ?_
                    refine g_iload X 2 rfl dX7_mends_73 ?_
                    refine g_iload X 1 rfl dX7_mends_75 ?_
                    refine g_aload_n X 6 rfl dX7_mends_77 ?_
                    refine g_getr X f_X7_34 dX7_mends_78 ?_
                    refine g_iload_n X 7 rfl dX7_mends_81 ?_
                    refine g_iald X la_56 t1 dX7_mends_82 (by omega) (x := Mq.1 56 a1.toNat) rfl ?_
                    have bq83 := ig_56 Iq0 a1.toNat (by omega)
                    refine g_callV X m_X7_189 (c_X7_scans ad Mq y5_10 e5_10 y6_22 e6_22 (Mq.1 56 a1.toNat) rfl (by omega) (by omega) (by omega)) rfl (by decide) (Nat.le_of_ble_eq_true rfl) rfl dX7_mends_83 ?_
                    rintro _ _ ⟨rq84, aq85, rfl, tq86, hq87, rfl⟩
                    show G Γ Mq 86 [(7, .int zq76), (6, .int y6_22), (5, .int y5_10), (4, .int y4_22), (3, .int y3_22), (2, .int y2_22), (0, .ref (ad 47)), (1, .int x1)] [.int rq84]
                    refine g_if_ne X tq86 (tgt := 92) dX7_mends_86 (by decide) (fun cq88 => ?_) (fun cq88 => ?_)
                    · refine g_iload X 0 rfl dX7_mends_92 ?_
                      refine g_istore_n X (i := 2) [(2, .int zq76), (7, .int zq76), (6, .int y6_22), (5, .int y5_10), (4, .int y4_22), (3, .int y3_22), (0, .ref (ad 47)), (1, .int x1)] dX7_mends_94 rfl (by decide) rfl ?_
                      refine g_iload X 3 rfl dX7_mends_95 ?_
                      refine g_istore_n X (i := 3) [(3, .int y5_10), (2, .int zq76), (7, .int zq76), (6, .int y6_22), (5, .int y5_10), (4, .int y4_22), (0, .ref (ad 47)), (1, .int x1)] dX7_mends_97 rfl (by decide) rfl ?_
                      refine g_iload X 3 rfl dX7_mends_98 ?_
                      refine g_istore X [(4, .int y6_22), (3, .int y5_10), (2, .int zq76), (7, .int zq76), (6, .int y6_22), (5, .int y5_10), (0, .ref (ad 47)), (1, .int x1)] dX7_mends_100 (by decide) rfl ?_
                      refine g_iinc X 4 (fun v => [(6, .int v), (4, .int y6_22), (3, .int y5_10), (2, .int zq76), (7, .int zq76), (5, .int y5_10), (0, .ref (ad 47)), (1, .int x1)]) dX7_mends_102 rfl (by decide) (fun _ => rfl) (fun zq89 eq90 => ?_)
                      have tq91 : zq89.toInt = b6_22 + 1 := add_nw eq90 e6_22 (show (Int32.ofInt 1).toInt = 1 by decide) (by omega)
                      refine g_goto X (tgt := 22) dX7_mends_105 (by decide) ?_
                      refine g_sub [0, 5, 1, 2, 3, 6, 7] rfl ?_
                      exact ih22 zq89 _ tq91 y6_22 _ e6_22 y5_10 _ e5_10 zq76 _ tq78 (by omega) (by omega) (by omega)
                    · refine g_goto X (tgt := 102) dX7_mends_89 (by decide) ?_
                      refine g_iinc X 1 (fun v => [(6, .int v), (7, .int zq76), (5, .int y5_10), (4, .int y4_22), (3, .int y3_22), (2, .int y2_22), (0, .ref (ad 47)), (1, .int x1)]) dX7_mends_102 rfl (by decide) (fun _ => rfl) (fun zq92 eq93 => ?_)
                      have tq94 : zq92.toInt = b6_22 + 1 := add_nw eq93 e6_22 (show (Int32.ofInt 1).toInt = 1 by decide) (by omega)
                      refine g_goto X (tgt := 22) dX7_mends_105 (by decide) ?_
                      refine g_sub [0, 2, 3, 4, 5, 6, 7] rfl ?_
                      exact ih22 zq92 _ tq94 y4_22 _ e4_22 y3_22 _ e3_22 y2_22 _ e2_22 (by omega) (by omega) (by omega)
        refine g_sub [0, 1, 2, 3, 4, 5, 6] rfl ?_
        exact lp22 _ 0 _ (show (0 : Int32).toInt = 0 by decide) y4_10 _ e4_10 y3_10 _ e3_10 y2_10 _ e2_10 (by omega) (by omega) (Nat.lt_succ_self _)
  refine g_sub [0, 1, 2, 3, 4, 5] rfl ?_
  exact lp10 _ 0 _ (show (0 : Int32).toInt = 0 by decide) 0 _ (show (0 : Int32).toInt = 0 by decide) 0 _ (show (0 : Int32).toInt = 0 by decide) 3 _ (show (3 : Int32).toInt = 3 by decide) (by omega) (by omega) (Nat.lt_succ_self _)
abbrev W_X7_swap : List (Nat × Nat) := [(47, 14), (53, 99), (54, 99), (56, 99), (59, 99)]
set_option maxHeartbeats 4000000 in
set_option maxRecDepth 4000 in
theorem c_X7_swap (ad : Nat → Nat) (Mq : Mem) (x1 : Int32) {a1 : Int} (t1 : x1.toInt = a1) (x2 : Int32) {a2 : Int} (t2 : x2.toInt = a2) (Iq0 : Iv TM Mq) : Ctr ad yX7_swap cX7_swap 5 (some .int) 4 [.ref (ad 47), .int x1, .int x2] Mq (fun v M' => ∃ (r : Int32) (a : Int), v = some (.int r) ∧ r.toInt = a ∧ (True) ∧ Iv TM M' ∧ Fr W_X7_swap Mq M') := by
  refine ctr_of (L := [(0, .ref (ad 47)), (1, .int x1), (2, .int x2)]) (by decide) (Nat.le_of_ble_eq_true rfl) rfl ?_
  intro Γ X
  have X : gX Γ cX7_swap RX7 5 (some .int) 4 ad _ := X
  have frq0 : Fr W_X7_swap Mq Mq := Fr.rf
  have g11 := ig_47_11 Iq0
  have g12 := ig_47_12 Iq0
  have g14 := ig_47_14 Iq0
  have g32 := ig_47_32 Iq0
  have g43 := ig_47_43 Iq0
  have g44 := ig_47_44 Iq0
  have g52 := ig_47_52 Iq0
  have g53 := ig_47_53 Iq0
  have g59 := ig_47_59 Iq0
  refine g_iload_n X 1 rfl dX7_swap_0 ?_
  refine g_callS X m_X7_158 (c_X7_isName ad Mq x1 t1) rfl (by decide) (Nat.le_of_ble_eq_true rfl) rfl dX7_swap_1 ?_
  rintro _ _ ⟨rq1, aq2, rfl, tq3, hq4, rfl⟩
  show G Γ Mq 4 [(0, .ref (ad 47)), (1, .int x1), (2, .int x2)] [.int rq1]
  refine g_if_eq X tq3 (tgt := 14) dX7_swap_4 (by decide) (fun cq5 => ?_) (fun cq5 => ?_)
  · have pq6 : ¬ (0 ≤ a1 ∧ a1 ≤ 9) := by omega
    clear hq4 cq5 tq3
    refine g_iconst X (-1) dX7_swap_14 (by decide) ?_
    exact g_iret X dX7_swap_15 ⟨_, _, rfl, (show ((-1) : Int32).toInt = (-1) by decide), trivial, Iq0, frq0⟩
  · have pq7 : (0 ≤ a1 ∧ a1 ≤ 9) := by omega
    clear hq4 cq5 tq3
    refine g_iload_n X 2 rfl dX7_swap_7 ?_
    refine g_callS X m_X7_158 (c_X7_isName ad Mq x2 t2) rfl (by decide) (Nat.le_of_ble_eq_true rfl) rfl dX7_swap_8 ?_
    rintro _ _ ⟨rq8, aq9, rfl, tq10, hq11, rfl⟩
    show G Γ Mq 11 [(0, .ref (ad 47)), (1, .int x1), (2, .int x2)] [.int rq8]
    refine g_if_ne X tq10 (tgt := 16) dX7_swap_11 (by decide) (fun cq12 => ?_) (fun cq12 => ?_)
    · have pq13 : (0 ≤ a2 ∧ a2 ≤ 9) := by omega
      clear hq11 cq12 tq10
      refine g_iload_n X 1 rfl dX7_swap_16 ?_
      refine g_iload_n X 2 rfl dX7_swap_17 ?_
      refine g_icmp_ne X t1 t2 (tgt := 24) dX7_swap_18 (by decide) (fun cq14 => ?_) (fun cq14 => ?_)
      · refine g_aload_n X 0 rfl dX7_swap_24 ?_
        refine g_iconst X 0 dX7_swap_25 (by decide) ?_
        refine g_puti X p_X7_193 dX7_swap_26 ?_
        have ltq15 : (0 : Int32).toInt = 0 := by decide
        have Iq16 : Iv TM (ui Mq 47 14 0) := Iq0.put 0 40 (show (0 : Int32).toInt = 0 by decide) (by omega) rfl
        have frq17 : Fr W_X7_swap Mq (ui Mq 47 14 0) := frq0.ui rfl
        refine g_iconst X 0 dX7_swap_29 (by decide) ?_
        refine g_istore_n X (i := 3) [(3, .int 0), (0, .ref (ad 47)), (1, .int x1), (2, .int x2)] dX7_swap_30 rfl (by decide) rfl ?_
        refine g_iconst X 0 dX7_swap_31 (by decide) ?_
        refine g_istore X [(4, .int 0), (3, .int 0), (0, .ref (ad 47)), (1, .int x1), (2, .int x2)] dX7_swap_32 (by decide) rfl ?_
        have lp34 : ∀ n : Nat, ∀ (y4_34 : Int32) (b4_34 : Int), y4_34.toInt = b4_34 → ∀ (y3_34 : Int32) (b3_34 : Int), y3_34.toInt = b3_34 → ∀ (M_34 : Mem), (0 ≤ b4_34) → (0 ≤ (M_34.1 47 14).toInt ∧ (M_34.1 47 14).toInt ≤ b4_34) → (Iv TM M_34) → (Fr W_X7_swap Mq M_34) → ((Mq.1 47 12).toInt - b4_34).toNat < n → G Γ M_34 34 [(4, .int y4_34), (3, .int y3_34), (0, .ref (ad 47)), (1, .int x1), (2, .int x2)] [] := by
          intro n
          induction n with
          | zero => intro y4_34 b4_34 e4_34 y3_34 b3_34 e3_34 M_34 i1 i2 I_34 fr_34 hm; exact absurd hm (Nat.not_lt_zero _)
          | succ n ih34 =>
            intro y4_34 b4_34 e4_34 y3_34 b3_34 e3_34 M_34 i1 i2 I_34 fr_34 hm34
            have trq18 : (M_34.1 47 12).toInt = (Mq.1 47 12).toInt := congrArg Int32.toInt (fr_34.at 47 12 rfl)
            refine g_iload X 0 rfl dX7_swap_34 ?_
            refine g_aload_n X 2 rfl dX7_swap_36 ?_
            refine g_geti X f_X7_147 dX7_swap_37 (x := M_34.1 47 12) rfl ?_
            have bq19 := ig_47_12 I_34
            refine g_icmp_ge X e4_34 rfl (tgt := 132) dX7_swap_40 (by decide) (fun cq20 => ?_) (fun cq20 => ?_)
            · refine g_iload_n X 1 rfl dX7_swap_132 ?_
              exact g_iret X dX7_swap_133 ⟨_, _, rfl, e3_34, trivial, I_34, fr_34⟩
            · refine g_aload_n X 2 rfl dX7_swap_43 ?_
              refine g_getr X f_X7_34 dX7_swap_44 ?_
              refine g_iload X 0 rfl dX7_swap_47 ?_
              refine g_iald X la_56 e4_34 dX7_swap_49 (by omega) (x := M_34.1 56 b4_34.toNat) rfl ?_
              have bq21 := ig_56 I_34 b4_34.toNat (by omega)
              refine g_iload_n X 3 rfl dX7_swap_50 ?_
              refine g_icmp_eq X rfl t1 (tgt := 57) dX7_swap_51 (by decide) (fun cq22 => ?_) (fun cq22 => ?_)
              · refine g_aload_n X 2 rfl dX7_swap_57 ?_
                refine g_getr X f_X7_34 dX7_swap_58 ?_
                refine g_iload X 0 rfl dX7_swap_61 ?_
                refine g_iload_n X 4 rfl dX7_swap_63 ?_
                refine g_iast X la_56 e4_34 dX7_swap_64 (by omega) ?_
                have Iq23 : Iv TM (ui M_34 56 b4_34.toNat x2) := I_34.putA 0 9 t2 (by omega) rfl
                have frq24 : Fr W_X7_swap Mq (ui M_34 56 b4_34.toNat x2) := fr_34.ui rfl
                refine g_aload_n X 2 rfl dX7_swap_65 ?_
                refine g_aload_n X 2 rfl dX7_swap_66 ?_
                refine g_getr X f_X7_25 dX7_swap_67 ?_
                refine g_iload X 0 rfl dX7_swap_70 ?_
                refine g_iald X la_53 e4_34 dX7_swap_72 (by omega) (x := M_34.1 53 b4_34.toNat) rfl ?_
                have bq25 := ig_53 I_34 b4_34.toNat (by omega)
                refine g_aload_n X 2 rfl dX7_swap_73 ?_
                refine g_getr X f_X7_28 dX7_swap_74 ?_
                refine g_iload X 0 rfl dX7_swap_77 ?_
                refine g_iald X la_54 e4_34 dX7_swap_79 (by omega) (x := M_34.1 54 b4_34.toNat) rfl ?_
                have bq26 := ig_54 I_34 b4_34.toNat (by omega)
                refine g_iload_n X 4 rfl dX7_swap_80 ?_
                refine g_callV X m_X7_189 (c_X7_scans ad (ui M_34 56 b4_34.toNat x2) (M_34.1 53 b4_34.toNat) rfl (M_34.1 54 b4_34.toNat) rfl x2 t2 (by omega) (by omega) (by omega)) rfl (by decide) (Nat.le_of_ble_eq_true rfl) rfl dX7_swap_81 ?_
                rintro _ _ ⟨rq27, aq28, rfl, tq29, hq30, rfl⟩
                show G Γ (ui M_34 56 b4_34.toNat x2) 84 [(4, .int y4_34), (3, .int y3_34), (0, .ref (ad 47)), (1, .int x1), (2, .int x2)] [.int rq27]
                refine g_if_eq X tq29 (tgt := 90) dX7_swap_84 (by decide) (fun cq31 => ?_) (fun cq31 => ?_)
                · refine g_aload_n X 2 rfl dX7_swap_90 ?_
                  refine g_iload X 0 rfl dX7_swap_91 ?_
                  refine g_callV X m_X7_196 (c_X7_mends ad (ui M_34 56 b4_34.toNat x2) y4_34 e4_34 Iq23 (by omega)) rfl (by decide) (Nat.le_of_ble_eq_true rfl) rfl dX7_swap_93 ?_
                  rintro _ Mq36 ⟨rq32, aq33, rfl, tq34, hq35, Iq37, frq38⟩
                  have frq39 : Fr W_X7_swap Mq Mq36 := frq24.trans frq38 rfl
                  have trq40 : (Mq36.1 47 12).toInt = (M_34.1 47 12).toInt := congrArg Int32.toInt (frq38.at 47 12 rfl)
                  have trq41 : (Mq36.1 47 14).toInt = (M_34.1 47 14).toInt := congrArg Int32.toInt (frq38.at 47 14 rfl)
                  show G Γ Mq36 96 [(4, .int y4_34), (3, .int y3_34), (0, .ref (ad 47)), (1, .int x1), (2, .int x2)] [.int rq32]
                  refine g_if_eq X tq34 (tgt := 105) dX7_swap_96 (by decide) (fun cq42 => ?_) (fun cq42 => ?_)
                  · refine g_aload_n X 2 rfl dX7_swap_105 ?_
                    refine g_getr X f_X7_43 dX7_swap_106 ?_
                    refine g_aload_n X 2 rfl dX7_swap_109 ?_
                    refine g_geti X f_X7_193 dX7_swap_110 (x := Mq36.1 47 14) rfl ?_
                    have bq43 := ig_47_14 Iq37
                    refine g_iload X 0 rfl dX7_swap_113 ?_
                    refine g_iast X la_59 rfl dX7_swap_115 (by omega) ?_
                    have Iq44 : Iv TM (ui Mq36 59 (((Mq36.1 47 14).toInt).toNat) y4_34) := Iq37.otherA rfl
                    have frq45 : Fr W_X7_swap Mq (ui Mq36 59 (((Mq36.1 47 14).toInt).toNat) y4_34) := frq39.ui rfl
                    refine g_aload_n X 2 rfl dX7_swap_116 ?_
                    refine g_dup X dX7_swap_117 rfl ?_
                    refine g_geti X f_X7_193 dX7_swap_118 (x := Mq36.1 47 14) rfl ?_
                    have bq46 := ig_47_14 Iq37
                    refine g_iconst X 1 dX7_swap_121 (by decide) ?_
                    refine g_iadd X dX7_swap_122 (fun zq47 eq48 => ?_)
                    have tq49 : zq47.toInt = ((Mq36.1 47 14).toInt) + 1 := add_nw eq48 rfl (show (1 : Int32).toInt = 1 by decide) (by omega)
                    refine g_puti X p_X7_193 dX7_swap_123 ?_
                    have Iq50 : Iv TM (ui (ui Mq36 59 (((Mq36.1 47 14).toInt).toNat) y4_34) 47 14 zq47) := Iq44.put 0 40 tq49 (by omega) rfl
                    have frq51 : Fr W_X7_swap Mq (ui (ui Mq36 59 (((Mq36.1 47 14).toInt).toNat) y4_34) 47 14 zq47) := frq45.ui rfl
                    refine g_iinc X 0 (fun v => [(4, .int v), (3, .int y3_34), (0, .ref (ad 47)), (1, .int x1), (2, .int x2)]) dX7_swap_126 rfl (by decide) (fun _ => rfl) (fun zq52 eq53 => ?_)
                    have tq54 : zq52.toInt = b4_34 + 1 := add_nw eq53 e4_34 (show (Int32.ofInt 1).toInt = 1 by decide) (by omega)
                    refine g_goto X (tgt := 34) dX7_swap_129 (by decide) ?_
                    refine g_sub [0, 1, 2, 3, 4] rfl ?_
                    exact ih34 zq52 _ tq54 y3_34 _ e3_34 (ui (ui Mq36 59 (((Mq36.1 47 14).toInt).toNat) y4_34) 47 14 zq47) (by omega) (show 0 ≤ (zq47).toInt ∧ (zq47).toInt ≤ (b4_34 + 1) by omega) Iq50 frq51 (by omega)
                  · refine g_iinc X 1 (fun v => [(3, .int v), (4, .int y4_34), (0, .ref (ad 47)), (1, .int x1), (2, .int x2)]) dX7_swap_99 rfl (by decide) (fun _ => rfl) (fun zq55 eq56 => ?_)
                    refine g_goto X (tgt := 126) dX7_swap_102 (by decide) ?_
                    refine g_iinc X 1 (fun v => [(4, .int v), (3, .int zq55), (0, .ref (ad 47)), (1, .int x1), (2, .int x2)]) dX7_swap_126 rfl (by decide) (fun _ => rfl) (fun zq58 eq59 => ?_)
                    have tq60 : zq58.toInt = b4_34 + 1 := add_nw eq59 e4_34 (show (Int32.ofInt 1).toInt = 1 by decide) (by omega)
                    refine g_goto X (tgt := 34) dX7_swap_129 (by decide) ?_
                    refine g_sub [0, 1, 2, 3, 4] rfl ?_
                    exact ih34 zq58 _ tq60 zq55 _ rfl Mq36 (by omega) (by omega) Iq37 frq39 (by omega)
                · refine g_goto X (tgt := 126) dX7_swap_87 (by decide) ?_
                  refine g_iinc X 0 (fun v => [(4, .int v), (3, .int y3_34), (0, .ref (ad 47)), (1, .int x1), (2, .int x2)]) dX7_swap_126 rfl (by decide) (fun _ => rfl) (fun zq61 eq62 => ?_)
                  have tq63 : zq61.toInt = b4_34 + 1 := add_nw eq62 e4_34 (show (Int32.ofInt 1).toInt = 1 by decide) (by omega)
                  refine g_goto X (tgt := 34) dX7_swap_129 (by decide) ?_
                  refine g_sub [0, 1, 2, 3, 4] rfl ?_
                  exact ih34 zq61 _ tq63 y3_34 _ e3_34 (ui M_34 56 b4_34.toNat x2) (by omega) (show 0 ≤ ((M_34.1 47 14)).toInt ∧ ((M_34.1 47 14)).toInt ≤ (b4_34 + 1) by omega) Iq23 frq24 (by omega)
              · refine g_goto X (tgt := 126) dX7_swap_54 (by decide) ?_
                refine g_iinc X 0 (fun v => [(4, .int v), (3, .int y3_34), (0, .ref (ad 47)), (1, .int x1), (2, .int x2)]) dX7_swap_126 rfl (by decide) (fun _ => rfl) (fun zq64 eq65 => ?_)
                have tq66 : zq64.toInt = b4_34 + 1 := add_nw eq65 e4_34 (show (Int32.ofInt 1).toInt = 1 by decide) (by omega)
                refine g_goto X (tgt := 34) dX7_swap_129 (by decide) ?_
                refine g_sub [0, 1, 2, 3, 4] rfl ?_
                exact ih34 zq64 _ tq66 y3_34 _ e3_34 M_34 (by omega) (by omega) I_34 fr_34 (by omega)
        refine g_sub [0, 1, 2, 3, 4] rfl ?_
        exact lp34 _ 0 _ (show (0 : Int32).toInt = 0 by decide) 0 _ (show (0 : Int32).toInt = 0 by decide) (ui Mq 47 14 0) (by omega) (show 0 ≤ ((0 : Int32)).toInt ∧ ((0 : Int32)).toInt ≤ 0 by omega) Iq16 frq17 (Nat.lt_succ_self _)
      · refine g_bipush X (-2) dX7_swap_21 (by decide) ?_
        exact g_iret X dX7_swap_23 ⟨_, _, rfl, (show ((-2) : Int32).toInt = (-2) by decide), trivial, Iq0, frq0⟩
    · have pq67 : ¬ (0 ≤ a2 ∧ a2 ≤ 9) := by omega
      clear hq11 cq12 tq10
      refine g_iconst X (-1) dX7_swap_14 (by decide) ?_
      exact g_iret X dX7_swap_15 ⟨_, _, rfl, (show ((-1) : Int32).toInt = (-1) by decide), trivial, Iq0, frq0⟩
set_option maxHeartbeats 4000000 in
set_option maxRecDepth 4000 in
theorem c_X7_broken (ad : Nat → Nat) (Mq : Mem) (x1 : Int32) {a1 : Int} (t1 : x1.toInt = a1) (Iq0 : Iv TM Mq) : Ctr ad yX7_broken cX7_broken 2 (some .int) 1 [.ref (ad 47), .int x1] Mq (fun v M' => ∃ (r : Int32) (a : Int), v = some (.int r) ∧ r.toInt = a ∧ (True) ∧ Mq = M') := by
  refine ctr_of (L := [(0, .ref (ad 47)), (1, .int x1)]) (by decide) (Nat.le_of_ble_eq_true rfl) rfl ?_
  intro Γ X
  have X : gX Γ cX7_broken RX7 2 (some .int) 1 ad _ := X
  have g11 := ig_47_11 Iq0
  have g12 := ig_47_12 Iq0
  have g14 := ig_47_14 Iq0
  have g32 := ig_47_32 Iq0
  have g43 := ig_47_43 Iq0
  have g44 := ig_47_44 Iq0
  have g52 := ig_47_52 Iq0
  have g53 := ig_47_53 Iq0
  have g59 := ig_47_59 Iq0
  refine g_iload_n X 1 rfl dX7_broken_0 ?_
  refine g_iconst X (-1) dX7_broken_1 (by decide) ?_
  refine g_icmp_ne X t1 (show ((-1) : Int32).toInt = (-1) by decide) (tgt := 12) dX7_broken_2 (by decide) (fun cq1 => ?_) (fun cq1 => ?_)
  · refine g_iload_n X 1 rfl dX7_broken_12 ?_
    refine g_i2l X dX7_broken_13 (fun zq2 eq3 => ?_)
    have tq4 : zq2.toInt = a1 := i2l_nw eq3 t1
    refine g_lconst X 0 dX7_broken_14 (by decide) ?_
    refine g_aload_n X 0 rfl dX7_broken_15 ?_
    refine g_geti X f_X7_193 dX7_broken_16 (x := Mq.1 47 14) rfl ?_
    have bq5 := ig_47_14 Iq0
    refine g_iconst X 1 dX7_broken_19 (by decide) ?_
    refine g_isub X dX7_broken_20 (fun zq6 eq7 => ?_)
    have tq8 : zq6.toInt = ((Mq.1 47 14).toInt) - 1 := sub_nw eq7 rfl (show (1 : Int32).toInt = 1 by decide) (by omega)
    refine g_i2l X dX7_broken_21 (fun zq9 eq10 => ?_)
    have tq11 : zq9.toInt = ((Mq.1 47 14).toInt) - 1 := i2l_nw eq10 tq8
    refine g_callS X m_X7_152 (c_X7_isIn ad Mq zq2 tq4 0 (show (0 : Int64).toInt = 0 by decide) zq9 tq11) rfl (by decide) (Nat.le_of_ble_eq_true rfl) rfl dX7_broken_22 ?_
    rintro _ _ ⟨rq12, aq13, rfl, tq14, hq15, rfl⟩
    show G Γ Mq 25 [(0, .ref (ad 47)), (1, .int x1)] [.int rq12]
    refine g_if_eq X tq14 (tgt := 37) dX7_broken_25 (by decide) (fun cq16 => ?_) (fun cq16 => ?_)
    · have pq17 : ¬ (0 ≤ a1 ∧ a1 ≤ (((Mq.1 47 14).toInt) - 1)) := by omega
      clear hq15 cq16 tq14
      refine g_iconst X (-1) dX7_broken_37 (by decide) ?_
      exact g_iret X dX7_broken_38 ⟨_, _, rfl, (show ((-1) : Int32).toInt = (-1) by decide), trivial, rfl⟩
    · have pq18 : (0 ≤ a1 ∧ a1 ≤ (((Mq.1 47 14).toInt) - 1)) := by omega
      clear hq15 cq16 tq14
      refine g_aload_n X 0 rfl dX7_broken_28 ?_
      refine g_getr X f_X7_43 dX7_broken_29 ?_
      refine g_iload_n X 1 rfl dX7_broken_32 ?_
      refine g_iald X la_59 t1 dX7_broken_33 (by omega) (x := Mq.1 59 a1.toNat) rfl ?_
      refine g_goto X (tgt := 38) dX7_broken_34 (by decide) ?_
      exact g_iret X dX7_broken_38 ⟨_, _, rfl, rfl, trivial, rfl⟩
  · refine g_aload_n X 0 rfl dX7_broken_5 ?_
    refine g_geti X f_X7_193 dX7_broken_6 (x := Mq.1 47 14) rfl ?_
    have bq19 := ig_47_14 Iq0
    refine g_goto X (tgt := 38) dX7_broken_9 (by decide) ?_
    exact g_iret X dX7_broken_38 ⟨_, _, rfl, rfl, trivial, rfl⟩
set_option maxHeartbeats 4000000 in
set_option maxRecDepth 4000 in
theorem c_X7_sung (ad : Nat → Nat) (Mq : Mem) (x1 : Int32) {a1 : Int} (t1 : x1.toInt = a1) (Iq0 : Iv TM Mq) : Ctr ad yX7_sung cX7_sung 2 (some .int) 1 [.ref (ad 47), .int x1] Mq (fun v M' => ∃ (r : Int32) (a : Int), v = some (.int r) ∧ r.toInt = a ∧ (True) ∧ Mq = M') := by
  refine ctr_of (L := [(0, .ref (ad 47)), (1, .int x1)]) (by decide) (Nat.le_of_ble_eq_true rfl) rfl ?_
  intro Γ X
  have X : gX Γ cX7_sung RX7 2 (some .int) 1 ad _ := X
  have g11 := ig_47_11 Iq0
  have g12 := ig_47_12 Iq0
  have g14 := ig_47_14 Iq0
  have g32 := ig_47_32 Iq0
  have g43 := ig_47_43 Iq0
  have g44 := ig_47_44 Iq0
  have g52 := ig_47_52 Iq0
  have g53 := ig_47_53 Iq0
  have g59 := ig_47_59 Iq0
  refine g_iload_n X 1 rfl dX7_sung_0 ?_
  refine g_i2l X dX7_sung_1 (fun zq1 eq2 => ?_)
  have tq3 : zq1.toInt = a1 := i2l_nw eq2 t1
  refine g_lconst X 0 dX7_sung_2 (by decide) ?_
  refine g_aload_n X 0 rfl dX7_sung_3 ?_
  refine g_geti X f_X7_276 dX7_sung_4 (x := Mq.1 47 32) rfl ?_
  have bq4 := ig_47_32 Iq0
  refine g_iconst X 1 dX7_sung_7 (by decide) ?_
  refine g_isub X dX7_sung_8 (fun zq5 eq6 => ?_)
  have tq7 : zq5.toInt = ((Mq.1 47 32).toInt) - 1 := sub_nw eq6 rfl (show (1 : Int32).toInt = 1 by decide) (by omega)
  refine g_i2l X dX7_sung_9 (fun zq8 eq9 => ?_)
  have tq10 : zq8.toInt = ((Mq.1 47 32).toInt) - 1 := i2l_nw eq9 tq7
  refine g_callS X m_X7_152 (c_X7_isIn ad Mq zq1 tq3 0 (show (0 : Int64).toInt = 0 by decide) zq8 tq10) rfl (by decide) (Nat.le_of_ble_eq_true rfl) rfl dX7_sung_10 ?_
  rintro _ _ ⟨rq11, aq12, rfl, tq13, hq14, rfl⟩
  show G Γ Mq 13 [(0, .ref (ad 47)), (1, .int x1)] [.int rq11]
  refine g_if_eq X tq13 (tgt := 25) dX7_sung_13 (by decide) (fun cq15 => ?_) (fun cq15 => ?_)
  · have pq16 : ¬ (0 ≤ a1 ∧ a1 ≤ (((Mq.1 47 32).toInt) - 1)) := by omega
    clear hq14 cq15 tq13
    refine g_iconst X (-1) dX7_sung_25 (by decide) ?_
    exact g_iret X dX7_sung_26 ⟨_, _, rfl, (show ((-1) : Int32).toInt = (-1) by decide), trivial, rfl⟩
  · have pq17 : (0 ≤ a1 ∧ a1 ≤ (((Mq.1 47 32).toInt) - 1)) := by omega
    clear hq14 cq15 tq13
    refine g_aload_n X 0 rfl dX7_sung_16 ?_
    refine g_getr X f_X7_77 dX7_sung_17 ?_
    refine g_iload_n X 1 rfl dX7_sung_20 ?_
    refine g_iald X la_69 t1 dX7_sung_21 (by omega) (x := Mq.1 69 a1.toNat) rfl ?_
    refine g_goto X (tgt := 26) dX7_sung_22 (by decide) ?_
    exact g_iret X dX7_sung_26 ⟨_, _, rfl, rfl, trivial, rfl⟩
set_option maxHeartbeats 4000000 in
set_option maxRecDepth 4000 in
theorem c_X7_hasLine (ad : Nat → Nat) (Mq : Mem) (x1 : Int32) {a1 : Int} (t1 : x1.toInt = a1) (x2 : Int32) {a2 : Int} (t2 : x2.toInt = a2) (x3 : Int32) {a3 : Int} (t3 : x3.toInt = a3) (x4 : Int32) {a4 : Int} (t4 : x4.toInt = a4) (Iq0 : Iv TM Mq) (h4 : a4 ≤ 200) : Ctr ad yX7_hasLine cX7_hasLine 7 (some .boolean) 0 [.ref (ad 47), .int x1, .int x2, .int x3, .int x4] Mq (fun v M' => ∃ (r : Int32) (a : Int), v = some (.int r) ∧ r.toInt = a ∧ (a = 0 ∨ a = 1) ∧ Mq = M') := by
  refine ctr_of (L := [(0, .ref (ad 47)), (1, .int x1), (2, .int x2), (3, .int x3), (4, .int x4)]) (by decide) (Nat.le_of_ble_eq_true rfl) rfl ?_
  intro Γ X
  have X : gX Γ cX7_hasLine RX7 7 (some .boolean) 0 ad _ := X
  have g11 := ig_47_11 Iq0
  have g12 := ig_47_12 Iq0
  have g14 := ig_47_14 Iq0
  have g32 := ig_47_32 Iq0
  have g43 := ig_47_43 Iq0
  have g44 := ig_47_44 Iq0
  have g52 := ig_47_52 Iq0
  have g53 := ig_47_53 Iq0
  have g59 := ig_47_59 Iq0
  refine g_iconst X (-1) dX7_hasLine_0 (by decide) ?_
  refine g_istore X [(5, .int (-1)), (0, .ref (ad 47)), (1, .int x1), (2, .int x2), (3, .int x3), (4, .int x4)] dX7_hasLine_1 (by decide) rfl ?_
  refine g_iconst X 0 dX7_hasLine_3 (by decide) ?_
  refine g_istore X [(6, .int 0), (5, .int (-1)), (0, .ref (ad 47)), (1, .int x1), (2, .int x2), (3, .int x3), (4, .int x4)] dX7_hasLine_4 (by decide) rfl ?_
  have lp6 : ∀ n : Nat, ∀ (y6_6 : Int32) (b6_6 : Int), y6_6.toInt = b6_6 → ∀ (y5_6 : Int32) (b5_6 : Int), y5_6.toInt = b5_6 → (0 ≤ b6_6) → (b5_6 = -1 ∨ (0 ≤ b5_6 ∧ b5_6 < 200)) → (a4 - b6_6).toNat < n → G Γ Mq 6 [(6, .int y6_6), (5, .int y5_6), (0, .ref (ad 47)), (1, .int x1), (2, .int x2), (3, .int x3), (4, .int x4)] [] := by
    intro n
    induction n with
    | zero => intro y6_6 b6_6 e6_6 y5_6 b5_6 e5_6 i1 i2 hm; exact absurd hm (Nat.not_lt_zero _)
    | succ n ih6 =>
      intro y6_6 b6_6 e6_6 y5_6 b5_6 e5_6 i1 i2 hm6
      refine g_iload X 0 rfl dX7_hasLine_6 ?_
      refine g_iload X 6 rfl dX7_hasLine_8 ?_
      refine g_icmp_ge X e6_6 t4 (tgt := 78) dX7_hasLine_10 (by decide) (fun cq1 => ?_) (fun cq1 => ?_)
      · refine g_iload X 1 rfl dX7_hasLine_78 ?_
        refine g_if_lt X e5_6 (tgt := 97) dX7_hasLine_80 (by decide) (fun cq2 => ?_) (fun cq2 => ?_)
        · refine g_iconst X 0 dX7_hasLine_97 (by decide) ?_
          exact g_zret X (b01 (show (0 : Int32).toInt = 0 by decide) (by omega)) dX7_hasLine_98 ⟨_, _, rfl, (show (0 : Int32).toInt = 0 by decide), (by omega), rfl⟩
        · refine g_aload_n X 2 rfl dX7_hasLine_83 ?_
          refine g_getr X f_X7_122 dX7_hasLine_84 ?_
          refine g_iload X 1 rfl dX7_hasLine_87 ?_
          refine g_zald X la_84 e5_6 dX7_hasLine_89 (by omega) (x := Mq.1 84 b5_6.toNat) rfl ?_
          have bq3 := ig_84 Iq0 b5_6.toNat (by omega)
          refine g_if_eq X rfl (tgt := 97) dX7_hasLine_90 (by decide) (fun cq4 => ?_) (fun cq4 => ?_)
          · refine g_iconst X 0 dX7_hasLine_97 (by decide) ?_
            exact g_zret X (b01 (show (0 : Int32).toInt = 0 by decide) (by omega)) dX7_hasLine_98 ⟨_, _, rfl, (show (0 : Int32).toInt = 0 by decide), (by omega), rfl⟩
          · refine g_iconst X 1 dX7_hasLine_93 (by decide) ?_
            refine g_goto X (tgt := 98) dX7_hasLine_94 (by decide) ?_
            exact g_zret X (b01 (show (1 : Int32).toInt = 1 by decide) (by omega)) dX7_hasLine_98 ⟨_, _, rfl, (show (1 : Int32).toInt = 1 by decide), (by omega), rfl⟩
      · refine g_aload_n X 2 rfl dX7_hasLine_13 ?_
        refine g_getr X f_X7_113 dX7_hasLine_14 ?_
        refine g_iload X 0 rfl dX7_hasLine_17 ?_
        refine g_iald X la_81 e6_6 dX7_hasLine_19 (by omega) (x := Mq.1 81 b6_6.toNat) rfl ?_
        refine g_iload_n X 3 rfl dX7_hasLine_20 ?_
        refine g_icmp_ne X rfl t1 (tgt := 72) dX7_hasLine_21 (by decide) (fun cq5 => ?_) (fun cq5 => ?_)
        · refine g_iinc X 0 (fun v => [(6, .int v), (5, .int y5_6), (0, .ref (ad 47)), (1, .int x1), (2, .int x2), (3, .int x3), (4, .int x4)]) dX7_hasLine_72 rfl (by decide) (fun _ => rfl) (fun zq6 eq7 => ?_)
          have tq8 : zq6.toInt = b6_6 + 1 := add_nw eq7 e6_6 (show (Int32.ofInt 1).toInt = 1 by decide) (by omega)
          refine g_goto X (tgt := 6) dX7_hasLine_75 (by decide) ?_
          refine g_sub [0, 1, 2, 3, 4, 5, 6] rfl ?_
          exact ih6 zq6 _ tq8 y5_6 _ e5_6 (by omega) (by omega) (by omega)
        · refine g_aload_n X 2 rfl dX7_hasLine_24 ?_
          refine g_getr X f_X7_116 dX7_hasLine_25 ?_
          refine g_iload X 0 rfl dX7_hasLine_28 ?_
          refine g_iald X la_82 e6_6 dX7_hasLine_30 (by omega) (x := Mq.1 82 b6_6.toNat) rfl ?_
          refine g_iload_n X 4 rfl dX7_hasLine_31 ?_
          refine g_icmp_ne X rfl t2 (tgt := 72) dX7_hasLine_32 (by decide) (fun cq9 => ?_) (fun cq9 => ?_)
          · refine g_iinc X 0 (fun v => [(6, .int v), (5, .int y5_6), (0, .ref (ad 47)), (1, .int x1), (2, .int x2), (3, .int x3), (4, .int x4)]) dX7_hasLine_72 rfl (by decide) (fun _ => rfl) (fun zq10 eq11 => ?_)
            have tq12 : zq10.toInt = b6_6 + 1 := add_nw eq11 e6_6 (show (Int32.ofInt 1).toInt = 1 by decide) (by omega)
            refine g_goto X (tgt := 6) dX7_hasLine_75 (by decide) ?_
            refine g_sub [0, 1, 2, 3, 4, 5, 6] rfl ?_
            exact ih6 zq10 _ tq12 y5_6 _ e5_6 (by omega) (by omega) (by omega)
          · refine g_aload_n X 2 rfl dX7_hasLine_35 ?_
            refine g_getr X f_X7_119 dX7_hasLine_36 ?_
            refine g_iload X 0 rfl dX7_hasLine_39 ?_
            refine g_iald X la_83 e6_6 dX7_hasLine_41 (by omega) (x := Mq.1 83 b6_6.toNat) rfl ?_
            refine g_iload_n X 5 rfl dX7_hasLine_42 ?_
            refine g_icmp_gt X rfl t3 (tgt := 72) dX7_hasLine_43 (by decide) (fun cq13 => ?_) (fun cq13 => ?_)
            · refine g_iinc X 0 (fun v => [(6, .int v), (5, .int y5_6), (0, .ref (ad 47)), (1, .int x1), (2, .int x2), (3, .int x3), (4, .int x4)]) dX7_hasLine_72 rfl (by decide) (fun _ => rfl) (fun zq14 eq15 => ?_)
              have tq16 : zq14.toInt = b6_6 + 1 := add_nw eq15 e6_6 (show (Int32.ofInt 1).toInt = 1 by decide) (by omega)
              refine g_goto X (tgt := 6) dX7_hasLine_75 (by decide) ?_
              refine g_sub [0, 1, 2, 3, 4, 5, 6] rfl ?_
              exact ih6 zq14 _ tq16 y5_6 _ e5_6 (by omega) (by omega) (by omega)
            · refine g_iload X 1 rfl dX7_hasLine_46 ?_
              refine g_if_lt X e5_6 (tgt := 68) dX7_hasLine_48 (by decide) (fun cq17 => ?_) (fun cq17 => ?_)
              · refine g_iload X 0 rfl dX7_hasLine_68 ?_
                refine g_istore X [(5, .int y6_6), (6, .int y6_6), (0, .ref (ad 47)), (1, .int x1), (2, .int x2), (3, .int x3), (4, .int x4)] dX7_hasLine_70 (by decide) rfl ?_
                refine g_iinc X 1 (fun v => [(6, .int v), (5, .int y6_6), (0, .ref (ad 47)), (1, .int x1), (2, .int x2), (3, .int x3), (4, .int x4)]) dX7_hasLine_72 rfl (by decide) (fun _ => rfl) (fun zq18 eq19 => ?_)
                have tq20 : zq18.toInt = b6_6 + 1 := add_nw eq19 e6_6 (show (Int32.ofInt 1).toInt = 1 by decide) (by omega)
                refine g_goto X (tgt := 6) dX7_hasLine_75 (by decide) ?_
                refine g_sub [0, 1, 2, 3, 4, 5, 6] rfl ?_
                exact ih6 zq18 _ tq20 y6_6 _ e6_6 (by omega) (by omega) (by omega)
              · refine g_aload_n X 2 rfl dX7_hasLine_51 ?_
                refine g_getr X f_X7_119 dX7_hasLine_52 ?_
                refine g_iload X 0 rfl dX7_hasLine_55 ?_
                refine g_iald X la_83 e6_6 dX7_hasLine_57 (by omega) (x := Mq.1 83 b6_6.toNat) rfl ?_
                refine g_aload_n X 2 rfl dX7_hasLine_58 ?_
                refine g_getr X f_X7_119 dX7_hasLine_59 ?_
                refine g_iload X 1 rfl dX7_hasLine_62 ?_
                refine g_iald X la_83 e5_6 dX7_hasLine_64 (by omega) (x := Mq.1 83 b5_6.toNat) rfl ?_
                refine g_icmp_lt X rfl rfl (tgt := 72) dX7_hasLine_65 (by decide) (fun cq21 => ?_) (fun cq21 => ?_)
                · refine g_iinc X 0 (fun v => [(6, .int v), (5, .int y5_6), (0, .ref (ad 47)), (1, .int x1), (2, .int x2), (3, .int x3), (4, .int x4)]) dX7_hasLine_72 rfl (by decide) (fun _ => rfl) (fun zq22 eq23 => ?_)
                  have tq24 : zq22.toInt = b6_6 + 1 := add_nw eq23 e6_6 (show (Int32.ofInt 1).toInt = 1 by decide) (by omega)
                  refine g_goto X (tgt := 6) dX7_hasLine_75 (by decide) ?_
                  refine g_sub [0, 1, 2, 3, 4, 5, 6] rfl ?_
                  exact ih6 zq22 _ tq24 y5_6 _ e5_6 (by omega) (by omega) (by omega)
                · refine g_iload X 0 rfl dX7_hasLine_68 ?_
                  refine g_istore X [(5, .int y6_6), (6, .int y6_6), (0, .ref (ad 47)), (1, .int x1), (2, .int x2), (3, .int x3), (4, .int x4)] dX7_hasLine_70 (by decide) rfl ?_
                  refine g_iinc X 1 (fun v => [(6, .int v), (5, .int y6_6), (0, .ref (ad 47)), (1, .int x1), (2, .int x2), (3, .int x3), (4, .int x4)]) dX7_hasLine_72 rfl (by decide) (fun _ => rfl) (fun zq25 eq26 => ?_)
                  have tq27 : zq25.toInt = b6_6 + 1 := add_nw eq26 e6_6 (show (Int32.ofInt 1).toInt = 1 by decide) (by omega)
                  refine g_goto X (tgt := 6) dX7_hasLine_75 (by decide) ?_
                  refine g_sub [0, 1, 2, 3, 4, 5, 6] rfl ?_
                  exact ih6 zq25 _ tq27 y6_6 _ e6_6 (by omega) (by omega) (by omega)
  refine g_sub [0, 1, 2, 3, 4, 5, 6] rfl ?_
  exact lp6 _ 0 _ (show (0 : Int32).toInt = 0 by decide) (-1) _ (show ((-1) : Int32).toInt = (-1) by decide) (by omega) (by omega) (Nat.lt_succ_self _)
abbrev W_X7_findStock : List (Nat × Nat) := [(85, 99)]
set_option maxHeartbeats 4000000 in
set_option maxRecDepth 4000 in
theorem c_X7_findStock (ad : Nat → Nat) (Mq : Mem) (x1 : Int32) {a1 : Int} (t1 : x1.toInt = a1) (x2 : Int32) {a2 : Int} (t2 : x2.toInt = a2) (x3 : Int32) {a3 : Int} (t3 : x3.toInt = a3) (Iq0 : Iv TM Mq) (h3 : a3 ≤ 200) : Ctr ad yX7_findStock cX7_findStock 5 none 1 [.ref (ad 47), .int x1, .int x2, .int x3] Mq (fun v M' => v = none ∧ (True) ∧ Iv TM M' ∧ Fr W_X7_findStock Mq M') := by
  refine ctr_of (L := [(0, .ref (ad 47)), (1, .int x1), (2, .int x2), (3, .int x3)]) (by decide) (Nat.le_of_ble_eq_true rfl) rfl ?_
  intro Γ X
  have X : gX Γ cX7_findStock RX7 5 none 1 ad _ := X
  have frq0 : Fr W_X7_findStock Mq Mq := Fr.rf
  have g11 := ig_47_11 Iq0
  have g12 := ig_47_12 Iq0
  have g14 := ig_47_14 Iq0
  have g32 := ig_47_32 Iq0
  have g43 := ig_47_43 Iq0
  have g44 := ig_47_44 Iq0
  have g52 := ig_47_52 Iq0
  have g53 := ig_47_53 Iq0
  have g59 := ig_47_59 Iq0
  refine g_iconst X 0 dX7_findStock_0 (by decide) ?_
  refine g_istore X [(4, .int 0), (0, .ref (ad 47)), (1, .int x1), (2, .int x2), (3, .int x3)] dX7_findStock_1 (by decide) rfl ?_
  have lp3 : ∀ n : Nat, ∀ (y4_3 : Int32) (b4_3 : Int), y4_3.toInt = b4_3 → ∀ (M_3 : Mem), (0 ≤ b4_3 ∧ b4_3 ≤ 40) → (Iv TM M_3) → (Fr W_X7_findStock Mq M_3) → (40 - b4_3).toNat < n → G Γ M_3 3 [(4, .int y4_3), (0, .ref (ad 47)), (1, .int x1), (2, .int x2), (3, .int x3)] [] := by
    intro n
    induction n with
    | zero => intro y4_3 b4_3 e4_3 M_3 i1 I_3 fr_3 hm; exact absurd hm (Nat.not_lt_zero _)
    | succ n ih3 =>
      intro y4_3 b4_3 e4_3 M_3 i1 I_3 fr_3 hm3
      have trq1 : (M_3.1 47 12).toInt = (Mq.1 47 12).toInt := congrArg Int32.toInt (fr_3.at 47 12 rfl)
      refine g_iload X 0 rfl dX7_findStock_3 ?_
      refine g_bipush X 40 dX7_findStock_5 (by decide) ?_
      refine g_icmp_ge X e4_3 (show (40 : Int32).toInt = 40 by decide) (tgt := 49) dX7_findStock_7 (by decide) (fun cq2 => ?_) (fun cq2 => ?_)
      · exact g_vret X dX7_findStock_49 ⟨rfl, trivial, I_3, fr_3⟩
      · refine g_aload_n X 1 rfl dX7_findStock_10 ?_
        refine g_getr X f_X7_126 dX7_findStock_11 ?_
        refine g_iload X 0 rfl dX7_findStock_14 ?_
        refine g_iload X 0 rfl dX7_findStock_16 ?_
        refine g_aload_n X 1 rfl dX7_findStock_18 ?_
        refine g_geti X f_X7_147 dX7_findStock_19 (x := M_3.1 47 12) rfl ?_
        have bq3 := ig_47_12 I_3
        refine g_icmp_ge X e4_3 rfl (tgt := 41) dX7_findStock_22 (by decide) (fun cq4 => ?_) (fun cq4 => ?_)
        · refine g_iconst X 0 dX7_findStock_41 (by decide) ?_
          refine g_zast X la_85 (b01 (show (0 : Int32).toInt = 0 by decide) (by omega)) e4_3 dX7_findStock_42 (by omega) ?_
          have ltq5 : (0 : Int32).toInt = 0 := by decide
          have Iq6 : Iv TM (ui M_3 85 b4_3.toNat 0) := I_3.putA 0 1 (show (0 : Int32).toInt = 0 by decide) (by omega) rfl
          have frq7 : Fr W_X7_findStock Mq (ui M_3 85 b4_3.toNat 0) := fr_3.ui rfl
          refine g_iinc X 0 (fun v => [(4, .int v), (0, .ref (ad 47)), (1, .int x1), (2, .int x2), (3, .int x3)]) dX7_findStock_43 rfl (by decide) (fun _ => rfl) (fun zq8 eq9 => ?_)
          have tq10 : zq8.toInt = b4_3 + 1 := add_nw eq9 e4_3 (show (Int32.ofInt 1).toInt = 1 by decide) (by omega)
          refine g_goto X (tgt := 3) dX7_findStock_46 (by decide) ?_
          refine g_sub [0, 1, 2, 3, 4] rfl ?_
          exact ih3 zq8 _ tq10 (ui M_3 85 b4_3.toNat 0) (by omega) Iq6 frq7 (by omega)
        · refine g_aload_n X 1 rfl dX7_findStock_25 ?_
          refine g_iload_n X 2 rfl dX7_findStock_26 ?_
          refine g_iload X 0 rfl dX7_findStock_27 ?_
          refine g_iload_n X 3 rfl dX7_findStock_29 ?_
          refine g_iload_n X 4 rfl dX7_findStock_30 ?_
          refine g_callV X m_X7_322 (c_X7_hasLine ad M_3 x1 t1 y4_3 e4_3 x2 t2 x3 t3 I_3 (by omega)) rfl (by decide) (Nat.le_of_ble_eq_true rfl) rfl dX7_findStock_31 ?_
          rintro _ _ ⟨rq11, aq12, rfl, tq13, hq14, rfl⟩
          show G Γ M_3 34 [(4, .int y4_3), (0, .ref (ad 47)), (1, .int x1), (2, .int x2), (3, .int x3)] [.int rq11, .int y4_3, .ref (ad 85)]
          refine g_if_eq X tq13 (tgt := 41) dX7_findStock_34 (by decide) (fun cq15 => ?_) (fun cq15 => ?_)
          · refine g_iconst X 0 dX7_findStock_41 (by decide) ?_
            refine g_zast X la_85 (b01 (show (0 : Int32).toInt = 0 by decide) (by omega)) e4_3 dX7_findStock_42 (by omega) ?_
            have ltq16 : (0 : Int32).toInt = 0 := by decide
            have Iq17 : Iv TM (ui M_3 85 b4_3.toNat 0) := I_3.putA 0 1 (show (0 : Int32).toInt = 0 by decide) (by omega) rfl
            have frq18 : Fr W_X7_findStock Mq (ui M_3 85 b4_3.toNat 0) := fr_3.ui rfl
            refine g_iinc X 0 (fun v => [(4, .int v), (0, .ref (ad 47)), (1, .int x1), (2, .int x2), (3, .int x3)]) dX7_findStock_43 rfl (by decide) (fun _ => rfl) (fun zq19 eq20 => ?_)
            have tq21 : zq19.toInt = b4_3 + 1 := add_nw eq20 e4_3 (show (Int32.ofInt 1).toInt = 1 by decide) (by omega)
            refine g_goto X (tgt := 3) dX7_findStock_46 (by decide) ?_
            refine g_sub [0, 1, 2, 3, 4] rfl ?_
            exact ih3 zq19 _ tq21 (ui M_3 85 b4_3.toNat 0) (by omega) Iq17 frq18 (by omega)
          · refine g_iconst X 1 dX7_findStock_37 (by decide) ?_
            refine g_goto X (tgt := 42) dX7_findStock_38 (by decide) ?_
            refine g_zast X la_85 (b01 (show (1 : Int32).toInt = 1 by decide) (by omega)) e4_3 dX7_findStock_42 (by omega) ?_
            have ltq22 : (1 : Int32).toInt = 1 := by decide
            have Iq23 : Iv TM (ui M_3 85 b4_3.toNat 1) := I_3.putA 0 1 (show (1 : Int32).toInt = 1 by decide) (by omega) rfl
            have frq24 : Fr W_X7_findStock Mq (ui M_3 85 b4_3.toNat 1) := fr_3.ui rfl
            refine g_iinc X 0 (fun v => [(4, .int v), (0, .ref (ad 47)), (1, .int x1), (2, .int x2), (3, .int x3)]) dX7_findStock_43 rfl (by decide) (fun _ => rfl) (fun zq25 eq26 => ?_)
            have tq27 : zq25.toInt = b4_3 + 1 := add_nw eq26 e4_3 (show (Int32.ofInt 1).toInt = 1 by decide) (by omega)
            refine g_goto X (tgt := 3) dX7_findStock_46 (by decide) ?_
            refine g_sub [0, 1, 2, 3, 4] rfl ?_
            exact ih3 zq25 _ tq27 (ui M_3 85 b4_3.toNat 1) (by omega) Iq23 frq24 (by omega)
  refine g_sub [0, 1, 2, 3, 4] rfl ?_
  exact lp3 _ 0 _ (show (0 : Int32).toInt = 0 by decide) Mq (by omega) Iq0 frq0 (Nat.lt_succ_self _)
set_option maxHeartbeats 4000000 in
set_option maxRecDepth 4000 in
theorem c_X7_has (ad : Nat → Nat) (Mq : Mem) (x1 : Int32) {a1 : Int} (t1 : x1.toInt = a1) (x2 : Int32) {a2 : Int} (t2 : x2.toInt = a2) (x3 : Int32) {a3 : Int} (t3 : x3.toInt = a3) (x4 : Int32) {a4 : Int} (t4 : x4.toInt = a4) (Iq0 : Iv TM Mq) : Ctr ad yX7_has cX7_has 5 (some .int) 2 [.ref (ad 47), .int x1, .int x2, .int x3, .int x4] Mq (fun v M' => ∃ (r : Int32) (a : Int), v = some (.int r) ∧ r.toInt = a ∧ (True) ∧ Mq = M') := by
  refine ctr_of (L := [(0, .ref (ad 47)), (1, .int x1), (2, .int x2), (3, .int x3), (4, .int x4)]) (by decide) (Nat.le_of_ble_eq_true rfl) rfl ?_
  intro Γ X
  have X : gX Γ cX7_has RX7 5 (some .int) 2 ad _ := X
  have g11 := ig_47_11 Iq0
  have g12 := ig_47_12 Iq0
  have g14 := ig_47_14 Iq0
  have g32 := ig_47_32 Iq0
  have g43 := ig_47_43 Iq0
  have g44 := ig_47_44 Iq0
  have g52 := ig_47_52 Iq0
  have g53 := ig_47_53 Iq0
  have g59 := ig_47_59 Iq0
  refine g_aload_n X 0 rfl dX7_has_0 ?_
  refine g_iload_n X 1 rfl dX7_has_1 ?_
  refine g_callV X m_X7_260 (c_X7_isSinger ad Mq x1 t1) rfl (by decide) (Nat.le_of_ble_eq_true rfl) rfl dX7_has_2 ?_
  rintro _ _ ⟨rq1, aq2, rfl, tq3, hq4, rfl⟩
  show G Γ Mq 5 [(0, .ref (ad 47)), (1, .int x1), (2, .int x2), (3, .int x3), (4, .int x4)] [.int rq1]
  refine g_if_eq X tq3 (tgt := 25) dX7_has_5 (by decide) (fun cq5 => ?_) (fun cq5 => ?_)
  · have pq6 : ¬ (0 ≤ a1 ∧ a1 < ((Mq.1 47 52)).toInt) := by omega
    clear hq4 cq5 tq3
    refine g_iconst X (-1) dX7_has_25 (by decide) ?_
    exact g_iret X dX7_has_26 ⟨_, _, rfl, (show ((-1) : Int32).toInt = (-1) by decide), trivial, rfl⟩
  · have pq7 : (0 ≤ a1 ∧ a1 < ((Mq.1 47 52)).toInt) := by omega
    clear hq4 cq5 tq3
    refine g_aload_n X 0 rfl dX7_has_8 ?_
    refine g_iload_n X 2 rfl dX7_has_9 ?_
    refine g_callV X m_X7_186 (c_X7_isLine ad Mq x2 t2) rfl (by decide) (Nat.le_of_ble_eq_true rfl) rfl dX7_has_10 ?_
    rintro _ _ ⟨rq8, aq9, rfl, tq10, hq11, rfl⟩
    show G Γ Mq 13 [(0, .ref (ad 47)), (1, .int x1), (2, .int x2), (3, .int x3), (4, .int x4)] [.int rq8]
    refine g_if_eq X tq10 (tgt := 25) dX7_has_13 (by decide) (fun cq12 => ?_) (fun cq12 => ?_)
    · have pq13 : ¬ (0 ≤ a2 ∧ a2 < ((Mq.1 47 12)).toInt) := by omega
      clear hq11 cq12 tq10
      refine g_iconst X (-1) dX7_has_25 (by decide) ?_
      exact g_iret X dX7_has_26 ⟨_, _, rfl, (show ((-1) : Int32).toInt = (-1) by decide), trivial, rfl⟩
    · have pq14 : (0 ≤ a2 ∧ a2 < ((Mq.1 47 12)).toInt) := by omega
      clear hq11 cq12 tq10
      refine g_aload_n X 0 rfl dX7_has_16 ?_
      refine g_iload X 4 rfl dX7_has_17 ?_
      refine g_callV X m_X7_326 (c_X7_isKnown ad Mq x4 t4) rfl (by decide) (Nat.le_of_ble_eq_true rfl) rfl dX7_has_19 ?_
      rintro _ _ ⟨rq15, aq16, rfl, tq17, hq18, rfl⟩
      show G Γ Mq 22 [(0, .ref (ad 47)), (1, .int x1), (2, .int x2), (3, .int x3), (4, .int x4)] [.int rq15]
      refine g_if_ne X tq17 (tgt := 27) dX7_has_22 (by decide) (fun cq19 => ?_) (fun cq19 => ?_)
      · have pq20 : (-1 ≤ a4 ∧ a4 ≤ ((Mq.1 47 53)).toInt) := by omega
        clear hq18 cq19 tq17
        refine g_iload_n X 3 rfl dX7_has_27 ?_
        refine g_callS X m_X7_263 (c_X7_isYear ad Mq x3 t3) rfl (by decide) (Nat.le_of_ble_eq_true rfl) rfl dX7_has_28 ?_
        rintro _ _ ⟨rq21, aq22, rfl, tq23, hq24, rfl⟩
        show G Γ Mq 31 [(0, .ref (ad 47)), (1, .int x1), (2, .int x2), (3, .int x3), (4, .int x4)] [.int rq21]
        refine g_if_ne X tq23 (tgt := 37) dX7_has_31 (by decide) (fun cq25 => ?_) (fun cq25 => ?_)
        · have pq26 : (0 ≤ a3 ∧ a3 ≤ 999) := by omega
          clear hq24 cq25 tq23
          refine g_aload_n X 0 rfl dX7_has_37 ?_
          refine g_iload_n X 1 rfl dX7_has_38 ?_
          refine g_iload_n X 2 rfl dX7_has_39 ?_
          refine g_iload_n X 3 rfl dX7_has_40 ?_
          refine g_aload_n X 0 rfl dX7_has_41 ?_
          refine g_iload X 4 rfl dX7_has_42 ?_
          refine g_callV X m_X7_329 (c_X7_upTo ad Mq x4 t4) rfl (by decide) (Nat.le_of_ble_eq_true rfl) rfl dX7_has_44 ?_
          rintro _ _ ⟨rq27, aq28, rfl, tq29, hq30, rfl⟩
          show G Γ Mq 47 [(0, .ref (ad 47)), (1, .int x1), (2, .int x2), (3, .int x3), (4, .int x4)] [.int rq27, .int x3, .int x2, .int x1, .ref (ad 47)]
          refine g_callV X m_X7_322 (c_X7_hasLine ad Mq x1 t1 x2 t2 x3 t3 rq27 tq29 Iq0 (by omega)) rfl (by decide) (Nat.le_of_ble_eq_true rfl) rfl dX7_has_47 ?_
          rintro _ _ ⟨rq31, aq32, rfl, tq33, hq34, rfl⟩
          show G Γ Mq 50 [(0, .ref (ad 47)), (1, .int x1), (2, .int x2), (3, .int x3), (4, .int x4)] [.int rq31]
          refine g_if_eq X tq33 (tgt := 57) dX7_has_50 (by decide) (fun cq35 => ?_) (fun cq35 => ?_)
          · refine g_iconst X 0 dX7_has_57 (by decide) ?_
            exact g_iret X dX7_has_58 ⟨_, _, rfl, (show (0 : Int32).toInt = 0 by decide), trivial, rfl⟩
          · refine g_iconst X 1 dX7_has_53 (by decide) ?_
            refine g_goto X (tgt := 58) dX7_has_54 (by decide) ?_
            exact g_iret X dX7_has_58 ⟨_, _, rfl, (show (1 : Int32).toInt = 1 by decide), trivial, rfl⟩
        · have pq36 : ¬ (0 ≤ a3 ∧ a3 ≤ 999) := by omega
          clear hq24 cq25 tq23
          refine g_bipush X (-2) dX7_has_34 (by decide) ?_
          exact g_iret X dX7_has_36 ⟨_, _, rfl, (show ((-2) : Int32).toInt = (-2) by decide), trivial, rfl⟩
      · have pq37 : ¬ (-1 ≤ a4 ∧ a4 ≤ ((Mq.1 47 53)).toInt) := by omega
        clear hq18 cq19 tq17
        refine g_iconst X (-1) dX7_has_25 (by decide) ?_
        exact g_iret X dX7_has_26 ⟨_, _, rfl, (show ((-1) : Int32).toInt = (-1) by decide), trivial, rfl⟩
set_option maxHeartbeats 4000000 in
set_option maxRecDepth 4000 in
theorem c_X7_stock (ad : Nat → Nat) (Mq : Mem) (x1 : Int32) {a1 : Int} (t1 : x1.toInt = a1) (x2 : Int32) {a2 : Int} (t2 : x2.toInt = a2) (x3 : Int32) {a3 : Int} (t3 : x3.toInt = a3) (Iq0 : Iv TM Mq) : Ctr ad yX7_stock cX7_stock 6 (some .int) 2 [.ref (ad 47), .int x1, .int x2, .int x3] Mq (fun v M' => ∃ (r : Int32) (a : Int), v = some (.int r) ∧ r.toInt = a ∧ (True) ∧ Mq = M') := by
  refine ctr_of (L := [(0, .ref (ad 47)), (1, .int x1), (2, .int x2), (3, .int x3)]) (by decide) (Nat.le_of_ble_eq_true rfl) rfl ?_
  intro Γ X
  have X : gX Γ cX7_stock RX7 6 (some .int) 2 ad _ := X
  have g11 := ig_47_11 Iq0
  have g12 := ig_47_12 Iq0
  have g14 := ig_47_14 Iq0
  have g32 := ig_47_32 Iq0
  have g43 := ig_47_43 Iq0
  have g44 := ig_47_44 Iq0
  have g52 := ig_47_52 Iq0
  have g53 := ig_47_53 Iq0
  have g59 := ig_47_59 Iq0
  refine g_aload_n X 0 rfl dX7_stock_0 ?_
  refine g_iload_n X 1 rfl dX7_stock_1 ?_
  refine g_callV X m_X7_260 (c_X7_isSinger ad Mq x1 t1) rfl (by decide) (Nat.le_of_ble_eq_true rfl) rfl dX7_stock_2 ?_
  rintro _ _ ⟨rq1, aq2, rfl, tq3, hq4, rfl⟩
  show G Γ Mq 5 [(0, .ref (ad 47)), (1, .int x1), (2, .int x2), (3, .int x3)] [.int rq1]
  refine g_if_eq X tq3 (tgt := 16) dX7_stock_5 (by decide) (fun cq5 => ?_) (fun cq5 => ?_)
  · have pq6 : ¬ (0 ≤ a1 ∧ a1 < ((Mq.1 47 52)).toInt) := by omega
    clear hq4 cq5 tq3
    refine g_iconst X (-1) dX7_stock_16 (by decide) ?_
    exact g_iret X dX7_stock_17 ⟨_, _, rfl, (show ((-1) : Int32).toInt = (-1) by decide), trivial, rfl⟩
  · have pq7 : (0 ≤ a1 ∧ a1 < ((Mq.1 47 52)).toInt) := by omega
    clear hq4 cq5 tq3
    refine g_aload_n X 0 rfl dX7_stock_8 ?_
    refine g_iload_n X 3 rfl dX7_stock_9 ?_
    refine g_callV X m_X7_326 (c_X7_isKnown ad Mq x3 t3) rfl (by decide) (Nat.le_of_ble_eq_true rfl) rfl dX7_stock_10 ?_
    rintro _ _ ⟨rq8, aq9, rfl, tq10, hq11, rfl⟩
    show G Γ Mq 13 [(0, .ref (ad 47)), (1, .int x1), (2, .int x2), (3, .int x3)] [.int rq8]
    refine g_if_ne X tq10 (tgt := 18) dX7_stock_13 (by decide) (fun cq12 => ?_) (fun cq12 => ?_)
    · have pq13 : (-1 ≤ a3 ∧ a3 ≤ ((Mq.1 47 53)).toInt) := by omega
      clear hq11 cq12 tq10
      refine g_iload_n X 2 rfl dX7_stock_18 ?_
      refine g_callS X m_X7_263 (c_X7_isYear ad Mq x2 t2) rfl (by decide) (Nat.le_of_ble_eq_true rfl) rfl dX7_stock_19 ?_
      rintro _ _ ⟨rq14, aq15, rfl, tq16, hq17, rfl⟩
      show G Γ Mq 22 [(0, .ref (ad 47)), (1, .int x1), (2, .int x2), (3, .int x3)] [.int rq14]
      refine g_if_ne X tq16 (tgt := 28) dX7_stock_22 (by decide) (fun cq18 => ?_) (fun cq18 => ?_)
      · have pq19 : (0 ≤ a2 ∧ a2 ≤ 999) := by omega
        clear hq17 cq18 tq16
        refine g_iconst X 0 dX7_stock_28 (by decide) ?_
        refine g_istore X [(4, .int 0), (0, .ref (ad 47)), (1, .int x1), (2, .int x2), (3, .int x3)] dX7_stock_29 (by decide) rfl ?_
        refine g_iconst X 0 dX7_stock_31 (by decide) ?_
        refine g_istore X [(5, .int 0), (4, .int 0), (0, .ref (ad 47)), (1, .int x1), (2, .int x2), (3, .int x3)] dX7_stock_32 (by decide) rfl ?_
        have lp34 : ∀ n : Nat, ∀ (y5_34 : Int32) (b5_34 : Int), y5_34.toInt = b5_34 → ∀ (y4_34 : Int32) (b4_34 : Int), y4_34.toInt = b4_34 → (0 ≤ b5_34) → ((Mq.1 47 12).toInt - b5_34).toNat < n → G Γ Mq 34 [(5, .int y5_34), (4, .int y4_34), (0, .ref (ad 47)), (1, .int x1), (2, .int x2), (3, .int x3)] [] := by
          intro n
          induction n with
          | zero => intro y5_34 b5_34 e5_34 y4_34 b4_34 e4_34 i1 hm; exact absurd hm (Nat.not_lt_zero _)
          | succ n ih34 =>
            intro y5_34 b5_34 e5_34 y4_34 b4_34 e4_34 i1 hm34
            refine g_iload X 0 rfl dX7_stock_34 ?_
            refine g_aload_n X 2 rfl dX7_stock_36 ?_
            refine g_geti X f_X7_147 dX7_stock_37 (x := Mq.1 47 12) rfl ?_
            have bq20 := ig_47_12 Iq0
            refine g_icmp_ge X e5_34 rfl (tgt := 75) dX7_stock_40 (by decide) (fun cq21 => ?_) (fun cq21 => ?_)
            · refine g_iload X 1 rfl dX7_stock_75 ?_
              exact g_iret X dX7_stock_77 ⟨_, _, rfl, e4_34, trivial, rfl⟩
            · refine g_iload X 1 rfl dX7_stock_43 ?_
              refine g_aload_n X 2 rfl dX7_stock_45 ?_
              refine g_iload_n X 3 rfl dX7_stock_46 ?_
              refine g_iload X 0 rfl dX7_stock_47 ?_
              refine g_iload_n X 4 rfl dX7_stock_49 ?_
              refine g_aload_n X 2 rfl dX7_stock_50 ?_
              refine g_iload_n X 5 rfl dX7_stock_51 ?_
              refine g_callV X m_X7_329 (c_X7_upTo ad Mq x3 t3) rfl (by decide) (Nat.le_of_ble_eq_true rfl) rfl dX7_stock_52 ?_
              rintro _ _ ⟨rq22, aq23, rfl, tq24, hq25, rfl⟩
              show G Γ Mq 55 [(5, .int y5_34), (4, .int y4_34), (0, .ref (ad 47)), (1, .int x1), (2, .int x2), (3, .int x3)] [.int rq22, .int x2, .int y5_34, .int x1, .ref (ad 47), .int y4_34]
              refine g_callV X m_X7_322 (c_X7_hasLine ad Mq x1 t1 y5_34 e5_34 x2 t2 rq22 tq24 Iq0 (by omega)) rfl (by decide) (Nat.le_of_ble_eq_true rfl) rfl dX7_stock_55 ?_
              rintro _ _ ⟨rq26, aq27, rfl, tq28, hq29, rfl⟩
              show G Γ Mq 58 [(5, .int y5_34), (4, .int y4_34), (0, .ref (ad 47)), (1, .int x1), (2, .int x2), (3, .int x3)] [.int rq26, .int y4_34]
              refine g_if_eq X tq28 (tgt := 65) dX7_stock_58 (by decide) (fun cq30 => ?_) (fun cq30 => ?_)
              · refine g_iconst X 0 dX7_stock_65 (by decide) ?_
                refine g_iadd X dX7_stock_66 (fun zq31 eq32 => ?_)
                refine g_istore X [(4, .int zq31), (5, .int y5_34), (0, .ref (ad 47)), (1, .int x1), (2, .int x2), (3, .int x3)] dX7_stock_67 (by decide) rfl ?_
                refine g_iinc X 1 (fun v => [(5, .int v), (4, .int zq31), (0, .ref (ad 47)), (1, .int x1), (2, .int x2), (3, .int x3)]) dX7_stock_69 rfl (by decide) (fun _ => rfl) (fun zq34 eq35 => ?_)
                have tq36 : zq34.toInt = b5_34 + 1 := add_nw eq35 e5_34 (show (Int32.ofInt 1).toInt = 1 by decide) (by omega)
                refine g_goto X (tgt := 34) dX7_stock_72 (by decide) ?_
                refine g_sub [0, 1, 2, 3, 4, 5] rfl ?_
                exact ih34 zq34 _ tq36 zq31 _ rfl (by omega) (by omega)
              · refine g_iconst X 1 dX7_stock_61 (by decide) ?_
                refine g_goto X (tgt := 66) dX7_stock_62 (by decide) ?_
                refine g_iadd X dX7_stock_66 (fun zq37 eq38 => ?_)
                refine g_istore X [(4, .int zq37), (5, .int y5_34), (0, .ref (ad 47)), (1, .int x1), (2, .int x2), (3, .int x3)] dX7_stock_67 (by decide) rfl ?_
                refine g_iinc X 1 (fun v => [(5, .int v), (4, .int zq37), (0, .ref (ad 47)), (1, .int x1), (2, .int x2), (3, .int x3)]) dX7_stock_69 rfl (by decide) (fun _ => rfl) (fun zq40 eq41 => ?_)
                have tq42 : zq40.toInt = b5_34 + 1 := add_nw eq41 e5_34 (show (Int32.ofInt 1).toInt = 1 by decide) (by omega)
                refine g_goto X (tgt := 34) dX7_stock_72 (by decide) ?_
                refine g_sub [0, 1, 2, 3, 4, 5] rfl ?_
                exact ih34 zq40 _ tq42 zq37 _ rfl (by omega) (by omega)
        refine g_sub [0, 1, 2, 3, 4, 5] rfl ?_
        exact lp34 _ 0 _ (show (0 : Int32).toInt = 0 by decide) 0 _ (show (0 : Int32).toInt = 0 by decide) (by omega) (Nat.lt_succ_self _)
      · have pq43 : ¬ (0 ≤ a2 ∧ a2 ≤ 999) := by omega
        clear hq17 cq18 tq16
        refine g_bipush X (-2) dX7_stock_25 (by decide) ?_
        exact g_iret X dX7_stock_27 ⟨_, _, rfl, (show ((-2) : Int32).toInt = (-2) by decide), trivial, rfl⟩
    · have pq44 : ¬ (-1 ≤ a3 ∧ a3 ≤ ((Mq.1 47 53)).toInt) := by omega
      clear hq11 cq12 tq10
      refine g_iconst X (-1) dX7_stock_16 (by decide) ?_
      exact g_iret X dX7_stock_17 ⟨_, _, rfl, (show ((-1) : Int32).toInt = (-1) by decide), trivial, rfl⟩
set_option maxHeartbeats 4000000 in
set_option maxRecDepth 4000 in
theorem c_X7_unlikeBy (ad : Nat → Nat) (Mq : Mem) (x1 : Int32) {a1 : Int} (t1 : x1.toInt = a1) (x2 : Int32) {a2 : Int} (t2 : x2.toInt = a2) (x3 : Int32) {a3 : Int} (t3 : x3.toInt = a3) (x4 : Int32) {a4 : Int} (t4 : x4.toInt = a4) (Iq0 : Iv TM Mq) (h4 : a4 ≤ 200) : Ctr ad yX7_unlikeBy cX7_unlikeBy 7 (some .int) 1 [.ref (ad 47), .int x1, .int x2, .int x3, .int x4] Mq (fun v M' => ∃ (r : Int32) (a : Int), v = some (.int r) ∧ r.toInt = a ∧ (0 ≤ a ∧ a ≤ 40) ∧ Mq = M') := by
  refine ctr_of (L := [(0, .ref (ad 47)), (1, .int x1), (2, .int x2), (3, .int x3), (4, .int x4)]) (by decide) (Nat.le_of_ble_eq_true rfl) rfl ?_
  intro Γ X
  have X : gX Γ cX7_unlikeBy RX7 7 (some .int) 1 ad _ := X
  have g11 := ig_47_11 Iq0
  have g12 := ig_47_12 Iq0
  have g14 := ig_47_14 Iq0
  have g32 := ig_47_32 Iq0
  have g43 := ig_47_43 Iq0
  have g44 := ig_47_44 Iq0
  have g52 := ig_47_52 Iq0
  have g53 := ig_47_53 Iq0
  have g59 := ig_47_59 Iq0
  refine g_iconst X 0 dX7_unlikeBy_0 (by decide) ?_
  refine g_istore X [(5, .int 0), (0, .ref (ad 47)), (1, .int x1), (2, .int x2), (3, .int x3), (4, .int x4)] dX7_unlikeBy_1 (by decide) rfl ?_
  refine g_iconst X 0 dX7_unlikeBy_3 (by decide) ?_
  refine g_istore X [(6, .int 0), (5, .int 0), (0, .ref (ad 47)), (1, .int x1), (2, .int x2), (3, .int x3), (4, .int x4)] dX7_unlikeBy_4 (by decide) rfl ?_
  have lp6 : ∀ n : Nat, ∀ (y6_6 : Int32) (b6_6 : Int), y6_6.toInt = b6_6 → ∀ (y5_6 : Int32) (b5_6 : Int), y5_6.toInt = b5_6 → (0 ≤ b6_6 ∧ b6_6 ≤ (Mq.1 47 12).toInt) → (0 ≤ b5_6 ∧ b5_6 ≤ b6_6) → ((Mq.1 47 12).toInt - b6_6).toNat < n → G Γ Mq 6 [(6, .int y6_6), (5, .int y5_6), (0, .ref (ad 47)), (1, .int x1), (2, .int x2), (3, .int x3), (4, .int x4)] [] := by
    intro n
    induction n with
    | zero => intro y6_6 b6_6 e6_6 y5_6 b5_6 e5_6 i1 i2 hm; exact absurd hm (Nat.not_lt_zero _)
    | succ n ih6 =>
      intro y6_6 b6_6 e6_6 y5_6 b5_6 e5_6 i1 i2 hm6
      refine g_iload X 0 rfl dX7_unlikeBy_6 ?_
      refine g_aload_n X 2 rfl dX7_unlikeBy_8 ?_
      refine g_geti X f_X7_147 dX7_unlikeBy_9 (x := Mq.1 47 12) rfl ?_
      have bq1 := ig_47_12 Iq0
      refine g_icmp_ge X e6_6 rfl (tgt := 54) dX7_unlikeBy_12 (by decide) (fun cq2 => ?_) (fun cq2 => ?_)
      · refine g_iload X 1 rfl dX7_unlikeBy_54 ?_
        exact g_iret X dX7_unlikeBy_56 ⟨_, _, rfl, e5_6, (by omega), rfl⟩
      · refine g_iload X 1 rfl dX7_unlikeBy_15 ?_
        refine g_aload_n X 2 rfl dX7_unlikeBy_17 ?_
        refine g_iload_n X 3 rfl dX7_unlikeBy_18 ?_
        refine g_iload X 0 rfl dX7_unlikeBy_19 ?_
        refine g_iload_n X 5 rfl dX7_unlikeBy_21 ?_
        refine g_iload X 6 rfl dX7_unlikeBy_22 ?_
        refine g_callV X m_X7_322 (c_X7_hasLine ad Mq x1 t1 y6_6 e6_6 x3 t3 x4 t4 Iq0 (by omega)) rfl (by decide) (Nat.le_of_ble_eq_true rfl) rfl dX7_unlikeBy_24 ?_
        rintro _ _ ⟨rq3, aq4, rfl, tq5, hq6, rfl⟩
        show G Γ Mq 27 [(6, .int y6_6), (5, .int y5_6), (0, .ref (ad 47)), (1, .int x1), (2, .int x2), (3, .int x3), (4, .int x4)] [.int rq3, .int y5_6]
        refine g_aload_n X 2 rfl dX7_unlikeBy_27 ?_
        refine g_iload_n X 4 rfl dX7_unlikeBy_28 ?_
        refine g_iload X 0 rfl dX7_unlikeBy_29 ?_
        refine g_iload_n X 5 rfl dX7_unlikeBy_31 ?_
        refine g_iload X 6 rfl dX7_unlikeBy_32 ?_
        refine g_callV X m_X7_322 (c_X7_hasLine ad Mq x2 t2 y6_6 e6_6 x3 t3 x4 t4 Iq0 (by omega)) rfl (by decide) (Nat.le_of_ble_eq_true rfl) rfl dX7_unlikeBy_34 ?_
        rintro _ _ ⟨rq7, aq8, rfl, tq9, hq10, rfl⟩
        show G Γ Mq 37 [(6, .int y6_6), (5, .int y5_6), (0, .ref (ad 47)), (1, .int x1), (2, .int x2), (3, .int x3), (4, .int x4)] [.int rq7, .int rq3, .int y5_6]
        refine g_icmp_eq X tq5 tq9 (tgt := 44) dX7_unlikeBy_37 (by decide) (fun cq11 => ?_) (fun cq11 => ?_)
        · refine g_iconst X 0 dX7_unlikeBy_44 (by decide) ?_
          refine g_iadd X dX7_unlikeBy_45 (fun zq12 eq13 => ?_)
          have tq14 : zq12.toInt = b5_6 + 0 := add_nw eq13 e5_6 (show (0 : Int32).toInt = 0 by decide) (by omega)
          refine g_istore X [(5, .int zq12), (6, .int y6_6), (0, .ref (ad 47)), (1, .int x1), (2, .int x2), (3, .int x3), (4, .int x4)] dX7_unlikeBy_46 (by decide) rfl ?_
          refine g_iinc X 1 (fun v => [(6, .int v), (5, .int zq12), (0, .ref (ad 47)), (1, .int x1), (2, .int x2), (3, .int x3), (4, .int x4)]) dX7_unlikeBy_48 rfl (by decide) (fun _ => rfl) (fun zq15 eq16 => ?_)
          have tq17 : zq15.toInt = b6_6 + 1 := add_nw eq16 e6_6 (show (Int32.ofInt 1).toInt = 1 by decide) (by omega)
          refine g_goto X (tgt := 6) dX7_unlikeBy_51 (by decide) ?_
          refine g_sub [0, 1, 2, 3, 4, 5, 6] rfl ?_
          exact ih6 zq15 _ tq17 zq12 _ tq14 (by omega) (by omega) (by omega)
        · refine g_iconst X 1 dX7_unlikeBy_40 (by decide) ?_
          refine g_goto X (tgt := 45) dX7_unlikeBy_41 (by decide) ?_
          refine g_iadd X dX7_unlikeBy_45 (fun zq18 eq19 => ?_)
          have tq20 : zq18.toInt = b5_6 + 1 := add_nw eq19 e5_6 (show (1 : Int32).toInt = 1 by decide) (by omega)
          refine g_istore X [(5, .int zq18), (6, .int y6_6), (0, .ref (ad 47)), (1, .int x1), (2, .int x2), (3, .int x3), (4, .int x4)] dX7_unlikeBy_46 (by decide) rfl ?_
          refine g_iinc X 1 (fun v => [(6, .int v), (5, .int zq18), (0, .ref (ad 47)), (1, .int x1), (2, .int x2), (3, .int x3), (4, .int x4)]) dX7_unlikeBy_48 rfl (by decide) (fun _ => rfl) (fun zq21 eq22 => ?_)
          have tq23 : zq21.toInt = b6_6 + 1 := add_nw eq22 e6_6 (show (Int32.ofInt 1).toInt = 1 by decide) (by omega)
          refine g_goto X (tgt := 6) dX7_unlikeBy_51 (by decide) ?_
          refine g_sub [0, 1, 2, 3, 4, 5, 6] rfl ?_
          exact ih6 zq21 _ tq23 zq18 _ tq20 (by omega) (by omega) (by omega)
  refine g_sub [0, 1, 2, 3, 4, 5, 6] rfl ?_
  exact lp6 _ 0 _ (show (0 : Int32).toInt = 0 by decide) 0 _ (show (0 : Int32).toInt = 0 by decide) (by omega) (by omega) (Nat.lt_succ_self _)
set_option maxHeartbeats 4000000 in
set_option maxRecDepth 4000 in
theorem c_X7_unlike (ad : Nat → Nat) (Mq : Mem) (x1 : Int32) {a1 : Int} (t1 : x1.toInt = a1) (x2 : Int32) {a2 : Int} (t2 : x2.toInt = a2) (x3 : Int32) {a3 : Int} (t3 : x3.toInt = a3) (x4 : Int32) {a4 : Int} (t4 : x4.toInt = a4) (Iq0 : Iv TM Mq) : Ctr ad yX7_unlike cX7_unlike 5 (some .int) 2 [.ref (ad 47), .int x1, .int x2, .int x3, .int x4] Mq (fun v M' => ∃ (r : Int32) (a : Int), v = some (.int r) ∧ r.toInt = a ∧ (True) ∧ Mq = M') := by
  refine ctr_of (L := [(0, .ref (ad 47)), (1, .int x1), (2, .int x2), (3, .int x3), (4, .int x4)]) (by decide) (Nat.le_of_ble_eq_true rfl) rfl ?_
  intro Γ X
  have X : gX Γ cX7_unlike RX7 5 (some .int) 2 ad _ := X
  have g11 := ig_47_11 Iq0
  have g12 := ig_47_12 Iq0
  have g14 := ig_47_14 Iq0
  have g32 := ig_47_32 Iq0
  have g43 := ig_47_43 Iq0
  have g44 := ig_47_44 Iq0
  have g52 := ig_47_52 Iq0
  have g53 := ig_47_53 Iq0
  have g59 := ig_47_59 Iq0
  refine g_aload_n X 0 rfl dX7_unlike_0 ?_
  refine g_iload_n X 1 rfl dX7_unlike_1 ?_
  refine g_callV X m_X7_260 (c_X7_isSinger ad Mq x1 t1) rfl (by decide) (Nat.le_of_ble_eq_true rfl) rfl dX7_unlike_2 ?_
  rintro _ _ ⟨rq1, aq2, rfl, tq3, hq4, rfl⟩
  show G Γ Mq 5 [(0, .ref (ad 47)), (1, .int x1), (2, .int x2), (3, .int x3), (4, .int x4)] [.int rq1]
  refine g_if_eq X tq3 (tgt := 25) dX7_unlike_5 (by decide) (fun cq5 => ?_) (fun cq5 => ?_)
  · have pq6 : ¬ (0 ≤ a1 ∧ a1 < ((Mq.1 47 52)).toInt) := by omega
    clear hq4 cq5 tq3
    refine g_iconst X (-1) dX7_unlike_25 (by decide) ?_
    exact g_iret X dX7_unlike_26 ⟨_, _, rfl, (show ((-1) : Int32).toInt = (-1) by decide), trivial, rfl⟩
  · have pq7 : (0 ≤ a1 ∧ a1 < ((Mq.1 47 52)).toInt) := by omega
    clear hq4 cq5 tq3
    refine g_aload_n X 0 rfl dX7_unlike_8 ?_
    refine g_iload_n X 2 rfl dX7_unlike_9 ?_
    refine g_callV X m_X7_260 (c_X7_isSinger ad Mq x2 t2) rfl (by decide) (Nat.le_of_ble_eq_true rfl) rfl dX7_unlike_10 ?_
    rintro _ _ ⟨rq8, aq9, rfl, tq10, hq11, rfl⟩
    show G Γ Mq 13 [(0, .ref (ad 47)), (1, .int x1), (2, .int x2), (3, .int x3), (4, .int x4)] [.int rq8]
    refine g_if_eq X tq10 (tgt := 25) dX7_unlike_13 (by decide) (fun cq12 => ?_) (fun cq12 => ?_)
    · have pq13 : ¬ (0 ≤ a2 ∧ a2 < ((Mq.1 47 52)).toInt) := by omega
      clear hq11 cq12 tq10
      refine g_iconst X (-1) dX7_unlike_25 (by decide) ?_
      exact g_iret X dX7_unlike_26 ⟨_, _, rfl, (show ((-1) : Int32).toInt = (-1) by decide), trivial, rfl⟩
    · have pq14 : (0 ≤ a2 ∧ a2 < ((Mq.1 47 52)).toInt) := by omega
      clear hq11 cq12 tq10
      refine g_aload_n X 0 rfl dX7_unlike_16 ?_
      refine g_iload X 4 rfl dX7_unlike_17 ?_
      refine g_callV X m_X7_326 (c_X7_isKnown ad Mq x4 t4) rfl (by decide) (Nat.le_of_ble_eq_true rfl) rfl dX7_unlike_19 ?_
      rintro _ _ ⟨rq15, aq16, rfl, tq17, hq18, rfl⟩
      show G Γ Mq 22 [(0, .ref (ad 47)), (1, .int x1), (2, .int x2), (3, .int x3), (4, .int x4)] [.int rq15]
      refine g_if_ne X tq17 (tgt := 27) dX7_unlike_22 (by decide) (fun cq19 => ?_) (fun cq19 => ?_)
      · have pq20 : (-1 ≤ a4 ∧ a4 ≤ ((Mq.1 47 53)).toInt) := by omega
        clear hq18 cq19 tq17
        refine g_iload_n X 3 rfl dX7_unlike_27 ?_
        refine g_callS X m_X7_263 (c_X7_isYear ad Mq x3 t3) rfl (by decide) (Nat.le_of_ble_eq_true rfl) rfl dX7_unlike_28 ?_
        rintro _ _ ⟨rq21, aq22, rfl, tq23, hq24, rfl⟩
        show G Γ Mq 31 [(0, .ref (ad 47)), (1, .int x1), (2, .int x2), (3, .int x3), (4, .int x4)] [.int rq21]
        refine g_if_eq X tq23 (tgt := 50) dX7_unlike_31 (by decide) (fun cq25 => ?_) (fun cq25 => ?_)
        · have pq26 : ¬ (0 ≤ a3 ∧ a3 ≤ 999) := by omega
          clear hq24 cq25 tq23
          refine g_bipush X (-2) dX7_unlike_50 (by decide) ?_
          exact g_iret X dX7_unlike_52 ⟨_, _, rfl, (show ((-2) : Int32).toInt = (-2) by decide), trivial, rfl⟩
        · have pq27 : (0 ≤ a3 ∧ a3 ≤ 999) := by omega
          clear hq24 cq25 tq23
          refine g_aload_n X 0 rfl dX7_unlike_34 ?_
          refine g_iload_n X 1 rfl dX7_unlike_35 ?_
          refine g_iload_n X 2 rfl dX7_unlike_36 ?_
          refine g_iload_n X 3 rfl dX7_unlike_37 ?_
          refine g_aload_n X 0 rfl dX7_unlike_38 ?_
          refine g_iload X 4 rfl dX7_unlike_39 ?_
          refine g_callV X m_X7_329 (c_X7_upTo ad Mq x4 t4) rfl (by decide) (Nat.le_of_ble_eq_true rfl) rfl dX7_unlike_41 ?_
          rintro _ _ ⟨rq28, aq29, rfl, tq30, hq31, rfl⟩
          show G Γ Mq 44 [(0, .ref (ad 47)), (1, .int x1), (2, .int x2), (3, .int x3), (4, .int x4)] [.int rq28, .int x3, .int x2, .int x1, .ref (ad 47)]
          refine g_callV X m_X7_332 (c_X7_unlikeBy ad Mq x1 t1 x2 t2 x3 t3 rq28 tq30 Iq0 (by omega)) rfl (by decide) (Nat.le_of_ble_eq_true rfl) rfl dX7_unlike_44 ?_
          rintro _ _ ⟨rq32, aq33, rfl, tq34, hq35, rfl⟩
          show G Γ Mq 47 [(0, .ref (ad 47)), (1, .int x1), (2, .int x2), (3, .int x3), (4, .int x4)] [.int rq32]
          refine g_goto X (tgt := 52) dX7_unlike_47 (by decide) ?_
          exact g_iret X dX7_unlike_52 ⟨_, _, rfl, tq34, trivial, rfl⟩
      · have pq36 : ¬ (-1 ≤ a4 ∧ a4 ≤ ((Mq.1 47 53)).toInt) := by omega
        clear hq18 cq19 tq17
        refine g_iconst X (-1) dX7_unlike_25 (by decide) ?_
        exact g_iret X dX7_unlike_26 ⟨_, _, rfl, (show ((-1) : Int32).toInt = (-1) by decide), trivial, rfl⟩
set_option maxHeartbeats 4000000 in
set_option maxRecDepth 4000 in
theorem c_X7_masterOf (ad : Nat → Nat) (Mq : Mem) (x1 : Int32) {a1 : Int} (t1 : x1.toInt = a1) (x2 : Int32) {a2 : Int} (t2 : x2.toInt = a2) (x3 : Int32) {a3 : Int} (t3 : x3.toInt = a3) (Iq0 : Iv TM Mq) (h1 : 0 ≤ a1 ∧ a1 < (Mq.1 47 52).toInt) (h3 : a3 ≤ 200) : Ctr ad yX7_masterOf cX7_masterOf 8 (some .int) 2 [.ref (ad 47), .int x1, .int x2, .int x3] Mq (fun v M' => ∃ (r : Int32) (a : Int), v = some (.int r) ∧ r.toInt = a ∧ (a = -1 ∨ (0 ≤ a ∧ a < (Mq.1 47 52).toInt)) ∧ Mq = M') := by
  refine ctr_of (L := [(0, .ref (ad 47)), (1, .int x1), (2, .int x2), (3, .int x3)]) (by decide) (Nat.le_of_ble_eq_true rfl) rfl ?_
  intro Γ X
  have X : gX Γ cX7_masterOf RX7 8 (some .int) 2 ad _ := X
  have g11 := ig_47_11 Iq0
  have g12 := ig_47_12 Iq0
  have g14 := ig_47_14 Iq0
  have g32 := ig_47_32 Iq0
  have g43 := ig_47_43 Iq0
  have g44 := ig_47_44 Iq0
  have g52 := ig_47_52 Iq0
  have g53 := ig_47_53 Iq0
  have g59 := ig_47_59 Iq0
  refine g_iconst X (-1) dX7_masterOf_0 (by decide) ?_
  refine g_istore X [(4, .int (-1)), (0, .ref (ad 47)), (1, .int x1), (2, .int x2), (3, .int x3)] dX7_masterOf_1 (by decide) rfl ?_
  refine g_iconst X 0 dX7_masterOf_3 (by decide) ?_
  refine g_istore X [(5, .int 0), (4, .int (-1)), (0, .ref (ad 47)), (1, .int x1), (2, .int x2), (3, .int x3)] dX7_masterOf_4 (by decide) rfl ?_
  refine g_iconst X 0 dX7_masterOf_6 (by decide) ?_
  refine g_istore X [(6, .int 0), (5, .int 0), (4, .int (-1)), (0, .ref (ad 47)), (1, .int x1), (2, .int x2), (3, .int x3)] dX7_masterOf_7 (by decide) rfl ?_
  have lp9 : ∀ n : Nat, ∀ (y6_9 : Int32) (b6_9 : Int), y6_9.toInt = b6_9 → ∀ (y5_9 : Int32) (b5_9 : Int), y5_9.toInt = b5_9 → ∀ (y4_9 : Int32) (b4_9 : Int), y4_9.toInt = b4_9 → (0 ≤ b6_9) → (b4_9 = -1 ∨ (0 ≤ b4_9 ∧ b4_9 < (Mq.1 47 52).toInt)) → ((Mq.1 47 52).toInt - b6_9).toNat < n → G Γ Mq 9 [(6, .int y6_9), (5, .int y5_9), (4, .int y4_9), (0, .ref (ad 47)), (1, .int x1), (2, .int x2), (3, .int x3)] [] := by
    intro n
    induction n with
    | zero => intro y6_9 b6_9 e6_9 y5_9 b5_9 e5_9 y4_9 b4_9 e4_9 i1 i2 hm; exact absurd hm (Nat.not_lt_zero _)
    | succ n ih9 =>
      intro y6_9 b6_9 e6_9 y5_9 b5_9 e5_9 y4_9 b4_9 e4_9 i1 i2 hm9
      refine g_iload X 0 rfl dX7_masterOf_9 ?_
      refine g_aload_n X 3 rfl dX7_masterOf_11 ?_
      refine g_geti X f_X7_313 dX7_masterOf_12 (x := Mq.1 47 52) rfl ?_
      have bq1 := ig_47_52 Iq0
      refine g_icmp_ge X e6_9 rfl (tgt := 101) dX7_masterOf_15 (by decide) (fun cq2 => ?_) (fun cq2 => ?_)
      · refine g_iload X 2 rfl dX7_masterOf_101 ?_
        exact g_iret X dX7_masterOf_103 ⟨_, _, rfl, e4_9, (by omega), rfl⟩
      · refine g_aload_n X 3 rfl dX7_masterOf_18 ?_
        refine g_getr X f_X7_107 dX7_masterOf_19 ?_
        refine g_iload X 0 rfl dX7_masterOf_22 ?_
        refine g_iald X la_79 e6_9 dX7_masterOf_24 (by omega) (x := Mq.1 79 b6_9.toNat) rfl ?_
        refine g_aload_n X 3 rfl dX7_masterOf_25 ?_
        refine g_getr X f_X7_107 dX7_masterOf_26 ?_
        refine g_iload_n X 4 rfl dX7_masterOf_29 ?_
        refine g_iald X la_79 t1 dX7_masterOf_30 (by omega) (x := Mq.1 79 a1.toNat) rfl ?_
        refine g_icmp_lt X rfl rfl (tgt := 37) dX7_masterOf_31 (by decide) (fun cq3 => ?_) (fun cq3 => ?_)
        · refine g_aload_n X 3 rfl dX7_masterOf_37 ?_
          refine g_iload_n X 4 rfl dX7_masterOf_38 ?_
          refine g_iload X 0 rfl dX7_masterOf_39 ?_
          refine g_iload_n X 5 rfl dX7_masterOf_41 ?_
          refine g_iload_n X 6 rfl dX7_masterOf_42 ?_
          refine g_callV X m_X7_332 (c_X7_unlikeBy ad Mq x1 t1 y6_9 e6_9 x2 t2 x3 t3 Iq0 (by omega)) rfl (by decide) (Nat.le_of_ble_eq_true rfl) rfl dX7_masterOf_43 ?_
          rintro _ _ ⟨rq4, aq5, rfl, tq6, hq7, rfl⟩
          show G Γ Mq 46 [(6, .int y6_9), (5, .int y5_9), (4, .int y4_9), (0, .ref (ad 47)), (1, .int x1), (2, .int x2), (3, .int x3)] [.int rq4]
          refine g_istore X [(7, .int rq4), (6, .int y6_9), (5, .int y5_9), (4, .int y4_9), (0, .ref (ad 47)), (1, .int x1), (2, .int x2), (3, .int x3)] dX7_masterOf_46 (by decide) rfl ?_
          refine g_iload X 3 rfl dX7_masterOf_48 ?_
          refine g_if_lt X e4_9 (tgt := 87) dX7_masterOf_50 (by decide) (fun cq8 => ?_) (fun cq8 => ?_)
          · refine g_iload X 1 rfl dX7_masterOf_87 ?_
            refine g_istore X [(4, .int y6_9), (7, .int rq4), (6, .int y6_9), (5, .int y5_9), (0, .ref (ad 47)), (1, .int x1), (2, .int x2), (3, .int x3)] dX7_masterOf_89 (by decide) rfl ?_
            refine g_iload X 1 rfl dX7_masterOf_91 ?_
            refine g_istore X [(5, .int rq4), (4, .int y6_9), (7, .int rq4), (6, .int y6_9), (0, .ref (ad 47)), (1, .int x1), (2, .int x2), (3, .int x3)] dX7_masterOf_93 (by decide) rfl ?_
            refine g_iinc X 3 (fun v => [(6, .int v), (5, .int rq4), (4, .int y6_9), (7, .int rq4), (0, .ref (ad 47)), (1, .int x1), (2, .int x2), (3, .int x3)]) dX7_masterOf_95 rfl (by decide) (fun _ => rfl) (fun zq9 eq10 => ?_)
            have tq11 : zq9.toInt = b6_9 + 1 := add_nw eq10 e6_9 (show (Int32.ofInt 1).toInt = 1 by decide) (by omega)
            refine g_goto X (tgt := 9) dX7_masterOf_98 (by decide) ?_
            refine g_sub [0, 1, 2, 4, 5, 6, 7] rfl ?_
            exact ih9 zq9 _ tq11 rq4 _ tq6 y6_9 _ e6_9 (by omega) (by omega) (by omega)
          · refine g_iload X 0 rfl dX7_masterOf_53 ?_
            refine g_iload X 2 rfl dX7_masterOf_55 ?_
            refine g_icmp_gt X tq6 e5_9 (tgt := 95) dX7_masterOf_57 (by decide) (fun cq12 => ?_) (fun cq12 => ?_)
            · refine g_iinc X 1 (fun v => [(6, .int v), (7, .int rq4), (5, .int y5_9), (4, .int y4_9), (0, .ref (ad 47)), (1, .int x1), (2, .int x2), (3, .int x3)]) dX7_masterOf_95 rfl (by decide) (fun _ => rfl) (fun zq13 eq14 => ?_)
              have tq15 : zq13.toInt = b6_9 + 1 := add_nw eq14 e6_9 (show (Int32.ofInt 1).toInt = 1 by decide) (by omega)
              refine g_goto X (tgt := 9) dX7_masterOf_98 (by decide) ?_
              refine g_sub [0, 2, 3, 4, 5, 6, 7] rfl ?_
              exact ih9 zq13 _ tq15 y5_9 _ e5_9 y4_9 _ e4_9 (by omega) (by omega) (by omega)
            · refine g_iload X 0 rfl dX7_masterOf_60 ?_
              refine g_iload X 2 rfl dX7_masterOf_62 ?_
              refine g_icmp_ne X tq6 e5_9 (tgt := 87) dX7_masterOf_64 (by decide) (fun cq16 => ?_) (fun cq16 => ?_)
              · refine g_iload X 1 rfl dX7_masterOf_87 ?_
                refine g_istore X [(4, .int y6_9), (7, .int rq4), (6, .int y6_9), (5, .int y5_9), (0, .ref (ad 47)), (1, .int x1), (2, .int x2), (3, .int x3)] dX7_masterOf_89 (by decide) rfl ?_
                refine g_iload X 1 rfl dX7_masterOf_91 ?_
                refine g_istore X [(5, .int rq4), (4, .int y6_9), (7, .int rq4), (6, .int y6_9), (0, .ref (ad 47)), (1, .int x1), (2, .int x2), (3, .int x3)] dX7_masterOf_93 (by decide) rfl ?_
                refine g_iinc X 3 (fun v => [(6, .int v), (5, .int rq4), (4, .int y6_9), (7, .int rq4), (0, .ref (ad 47)), (1, .int x1), (2, .int x2), (3, .int x3)]) dX7_masterOf_95 rfl (by decide) (fun _ => rfl) (fun zq17 eq18 => ?_)
                have tq19 : zq17.toInt = b6_9 + 1 := add_nw eq18 e6_9 (show (Int32.ofInt 1).toInt = 1 by decide) (by omega)
                refine g_goto X (tgt := 9) dX7_masterOf_98 (by decide) ?_
                refine g_sub [0, 1, 2, 4, 5, 6, 7] rfl ?_
                exact ih9 zq17 _ tq19 rq4 _ tq6 y6_9 _ e6_9 (by omega) (by omega) (by omega)
              · refine g_aload_n X 4 rfl dX7_masterOf_67 ?_
                refine g_getr X f_X7_107 dX7_masterOf_68 ?_
                refine g_iload X 1 rfl dX7_masterOf_71 ?_
                refine g_iald X la_79 e6_9 dX7_masterOf_73 (by omega) (x := Mq.1 79 b6_9.toNat) rfl ?_
                refine g_aload_n X 4 rfl dX7_masterOf_74 ?_
                refine g_getr X f_X7_107 dX7_masterOf_75 ?_
                refine g_iload X 3 rfl dX7_masterOf_78 ?_
                refine g_iald X la_79 e4_9 dX7_masterOf_80 (by omega) (x := Mq.1 79 b4_9.toNat) rfl ?_
                refine g_icmp_gt X rfl rfl (tgt := 87) dX7_masterOf_81 (by decide) (fun cq20 => ?_) (fun cq20 => ?_)
                · refine g_iload X 1 rfl dX7_masterOf_87 ?_
                  refine g_istore X [(4, .int y6_9), (7, .int rq4), (6, .int y6_9), (5, .int y5_9), (0, .ref (ad 47)), (1, .int x1), (2, .int x2), (3, .int x3)] dX7_masterOf_89 (by decide) rfl ?_
                  refine g_iload X 1 rfl dX7_masterOf_91 ?_
                  refine g_istore X [(5, .int rq4), (4, .int y6_9), (7, .int rq4), (6, .int y6_9), (0, .ref (ad 47)), (1, .int x1), (2, .int x2), (3, .int x3)] dX7_masterOf_93 (by decide) rfl ?_
                  refine g_iinc X 3 (fun v => [(6, .int v), (5, .int rq4), (4, .int y6_9), (7, .int rq4), (0, .ref (ad 47)), (1, .int x1), (2, .int x2), (3, .int x3)]) dX7_masterOf_95 rfl (by decide) (fun _ => rfl) (fun zq21 eq22 => ?_)
                  have tq23 : zq21.toInt = b6_9 + 1 := add_nw eq22 e6_9 (show (Int32.ofInt 1).toInt = 1 by decide) (by omega)
                  refine g_goto X (tgt := 9) dX7_masterOf_98 (by decide) ?_
                  refine g_sub [0, 1, 2, 4, 5, 6, 7] rfl ?_
                  exact ih9 zq21 _ tq23 rq4 _ tq6 y6_9 _ e6_9 (by omega) (by omega) (by omega)
                · refine g_goto X (tgt := 95) dX7_masterOf_84 (by decide) ?_
                  refine g_iinc X 1 (fun v => [(6, .int v), (7, .int rq4), (5, .int y5_9), (4, .int y4_9), (0, .ref (ad 47)), (1, .int x1), (2, .int x2), (3, .int x3)]) dX7_masterOf_95 rfl (by decide) (fun _ => rfl) (fun zq24 eq25 => ?_)
                  have tq26 : zq24.toInt = b6_9 + 1 := add_nw eq25 e6_9 (show (Int32.ofInt 1).toInt = 1 by decide) (by omega)
                  refine g_goto X (tgt := 9) dX7_masterOf_98 (by decide) ?_
                  refine g_sub [0, 2, 3, 4, 5, 6, 7] rfl ?_
                  exact ih9 zq24 _ tq26 y5_9 _ e5_9 y4_9 _ e4_9 (by omega) (by omega) (by omega)
        · refine g_goto X (tgt := 95) dX7_masterOf_34 (by decide) ?_
          refine g_iinc X 0 (fun v => [(6, .int v), (5, .int y5_9), (4, .int y4_9), (0, .ref (ad 47)), (1, .int x1), (2, .int x2), (3, .int x3)]) dX7_masterOf_95 rfl (by decide) (fun _ => rfl) (fun zq27 eq28 => ?_)
          have tq29 : zq27.toInt = b6_9 + 1 := add_nw eq28 e6_9 (show (Int32.ofInt 1).toInt = 1 by decide) (by omega)
          refine g_goto X (tgt := 9) dX7_masterOf_98 (by decide) ?_
          refine g_sub [0, 1, 2, 3, 4, 5, 6] rfl ?_
          exact ih9 zq27 _ tq29 y5_9 _ e5_9 y4_9 _ e4_9 (by omega) (by omega) (by omega)
  refine g_sub [0, 1, 2, 3, 4, 5, 6] rfl ?_
  exact lp9 _ 0 _ (show (0 : Int32).toInt = 0 by decide) 0 _ (show (0 : Int32).toInt = 0 by decide) (-1) _ (show ((-1) : Int32).toInt = (-1) by decide) (by omega) (by omega) (Nat.lt_succ_self _)
set_option maxHeartbeats 4000000 in
set_option maxRecDepth 4000 in
theorem c_X7_master (ad : Nat → Nat) (Mq : Mem) (x1 : Int32) {a1 : Int} (t1 : x1.toInt = a1) (x2 : Int32) {a2 : Int} (t2 : x2.toInt = a2) (x3 : Int32) {a3 : Int} (t3 : x3.toInt = a3) (Iq0 : Iv TM Mq) : Ctr ad yX7_master cX7_master 5 (some .int) 3 [.ref (ad 47), .int x1, .int x2, .int x3] Mq (fun v M' => ∃ (r : Int32) (a : Int), v = some (.int r) ∧ r.toInt = a ∧ (True) ∧ Mq = M') := by
  refine ctr_of (L := [(0, .ref (ad 47)), (1, .int x1), (2, .int x2), (3, .int x3)]) (by decide) (Nat.le_of_ble_eq_true rfl) rfl ?_
  intro Γ X
  have X : gX Γ cX7_master RX7 5 (some .int) 3 ad _ := X
  have g11 := ig_47_11 Iq0
  have g12 := ig_47_12 Iq0
  have g14 := ig_47_14 Iq0
  have g32 := ig_47_32 Iq0
  have g43 := ig_47_43 Iq0
  have g44 := ig_47_44 Iq0
  have g52 := ig_47_52 Iq0
  have g53 := ig_47_53 Iq0
  have g59 := ig_47_59 Iq0
  refine g_aload_n X 0 rfl dX7_master_0 ?_
  refine g_iload_n X 1 rfl dX7_master_1 ?_
  refine g_callV X m_X7_260 (c_X7_isSinger ad Mq x1 t1) rfl (by decide) (Nat.le_of_ble_eq_true rfl) rfl dX7_master_2 ?_
  rintro _ _ ⟨rq1, aq2, rfl, tq3, hq4, rfl⟩
  show G Γ Mq 5 [(0, .ref (ad 47)), (1, .int x1), (2, .int x2), (3, .int x3)] [.int rq1]
  refine g_if_eq X tq3 (tgt := 16) dX7_master_5 (by decide) (fun cq5 => ?_) (fun cq5 => ?_)
  · have pq6 : ¬ (0 ≤ a1 ∧ a1 < ((Mq.1 47 52)).toInt) := by omega
    clear hq4 cq5 tq3
    refine g_iconst X (-1) dX7_master_16 (by decide) ?_
    exact g_iret X dX7_master_17 ⟨_, _, rfl, (show ((-1) : Int32).toInt = (-1) by decide), trivial, rfl⟩
  · have pq7 : (0 ≤ a1 ∧ a1 < ((Mq.1 47 52)).toInt) := by omega
    clear hq4 cq5 tq3
    refine g_aload_n X 0 rfl dX7_master_8 ?_
    refine g_iload_n X 3 rfl dX7_master_9 ?_
    refine g_callV X m_X7_326 (c_X7_isKnown ad Mq x3 t3) rfl (by decide) (Nat.le_of_ble_eq_true rfl) rfl dX7_master_10 ?_
    rintro _ _ ⟨rq8, aq9, rfl, tq10, hq11, rfl⟩
    show G Γ Mq 13 [(0, .ref (ad 47)), (1, .int x1), (2, .int x2), (3, .int x3)] [.int rq8]
    refine g_if_ne X tq10 (tgt := 18) dX7_master_13 (by decide) (fun cq12 => ?_) (fun cq12 => ?_)
    · have pq13 : (-1 ≤ a3 ∧ a3 ≤ ((Mq.1 47 53)).toInt) := by omega
      clear hq11 cq12 tq10
      refine g_iload_n X 2 rfl dX7_master_18 ?_
      refine g_callS X m_X7_263 (c_X7_isYear ad Mq x2 t2) rfl (by decide) (Nat.le_of_ble_eq_true rfl) rfl dX7_master_19 ?_
      rintro _ _ ⟨rq14, aq15, rfl, tq16, hq17, rfl⟩
      show G Γ Mq 22 [(0, .ref (ad 47)), (1, .int x1), (2, .int x2), (3, .int x3)] [.int rq14]
      refine g_if_ne X tq16 (tgt := 28) dX7_master_22 (by decide) (fun cq18 => ?_) (fun cq18 => ?_)
      · have pq19 : (0 ≤ a2 ∧ a2 ≤ 999) := by omega
        clear hq17 cq18 tq16
        refine g_aload_n X 0 rfl dX7_master_28 ?_
        refine g_iload_n X 1 rfl dX7_master_29 ?_
        refine g_iload_n X 2 rfl dX7_master_30 ?_
        refine g_aload_n X 0 rfl dX7_master_31 ?_
        refine g_iload_n X 3 rfl dX7_master_32 ?_
        refine g_callV X m_X7_329 (c_X7_upTo ad Mq x3 t3) rfl (by decide) (Nat.le_of_ble_eq_true rfl) rfl dX7_master_33 ?_
        rintro _ _ ⟨rq20, aq21, rfl, tq22, hq23, rfl⟩
        show G Γ Mq 36 [(0, .ref (ad 47)), (1, .int x1), (2, .int x2), (3, .int x3)] [.int rq20, .int x2, .int x1, .ref (ad 47)]
        refine g_callV X m_X7_336 (c_X7_masterOf ad Mq x1 t1 x2 t2 rq20 tq22 Iq0 (by omega) (by omega)) rfl (by decide) (Nat.le_of_ble_eq_true rfl) rfl dX7_master_36 ?_
        rintro _ _ ⟨rq24, aq25, rfl, tq26, hq27, rfl⟩
        show G Γ Mq 39 [(0, .ref (ad 47)), (1, .int x1), (2, .int x2), (3, .int x3)] [.int rq24]
        refine g_istore X [(4, .int rq24), (0, .ref (ad 47)), (1, .int x1), (2, .int x2), (3, .int x3)] dX7_master_39 (by decide) rfl ?_
        refine g_iload X 0 rfl dX7_master_41 ?_
        refine g_if_ge X tq26 (tgt := 51) dX7_master_43 (by decide) (fun cq28 => ?_) (fun cq28 => ?_)
        · refine g_iload X 0 rfl dX7_master_51 ?_
          exact g_iret X dX7_master_53 ⟨_, _, rfl, tq26, trivial, rfl⟩
        · refine g_bipush X (-5) dX7_master_46 (by decide) ?_
          refine g_goto X (tgt := 53) dX7_master_48 (by decide) ?_
          exact g_iret X dX7_master_53 ⟨_, _, rfl, (show ((-5) : Int32).toInt = (-5) by decide), trivial, rfl⟩
      · have pq29 : ¬ (0 ≤ a2 ∧ a2 ≤ 999) := by omega
        clear hq17 cq18 tq16
        refine g_bipush X (-2) dX7_master_25 (by decide) ?_
        exact g_iret X dX7_master_27 ⟨_, _, rfl, (show ((-2) : Int32).toInt = (-2) by decide), trivial, rfl⟩
    · have pq30 : ¬ (-1 ≤ a3 ∧ a3 ≤ ((Mq.1 47 53)).toInt) := by omega
      clear hq11 cq12 tq10
      refine g_iconst X (-1) dX7_master_16 (by decide) ?_
      exact g_iret X dX7_master_17 ⟨_, _, rfl, (show ((-1) : Int32).toInt = (-1) by decide), trivial, rfl⟩
set_option maxHeartbeats 4000000 in
set_option maxRecDepth 4000 in
theorem c_X7_lineage (ad : Nat → Nat) (Mq : Mem) (x1 : Int32) {a1 : Int} (t1 : x1.toInt = a1) (x2 : Int32) {a2 : Int} (t2 : x2.toInt = a2) (Iq0 : Iv TM Mq) : Ctr ad yX7_lineage cX7_lineage 6 (some .int) 3 [.ref (ad 47), .int x1, .int x2] Mq (fun v M' => ∃ (r : Int32) (a : Int), v = some (.int r) ∧ r.toInt = a ∧ (True) ∧ Mq = M') := by
  refine ctr_of (L := [(0, .ref (ad 47)), (1, .int x1), (2, .int x2)]) (by decide) (Nat.le_of_ble_eq_true rfl) rfl ?_
  intro Γ X
  have X : gX Γ cX7_lineage RX7 6 (some .int) 3 ad _ := X
  have g11 := ig_47_11 Iq0
  have g12 := ig_47_12 Iq0
  have g14 := ig_47_14 Iq0
  have g32 := ig_47_32 Iq0
  have g43 := ig_47_43 Iq0
  have g44 := ig_47_44 Iq0
  have g52 := ig_47_52 Iq0
  have g53 := ig_47_53 Iq0
  have g59 := ig_47_59 Iq0
  refine g_aload_n X 0 rfl dX7_lineage_0 ?_
  refine g_iload_n X 2 rfl dX7_lineage_1 ?_
  refine g_callV X m_X7_326 (c_X7_isKnown ad Mq x2 t2) rfl (by decide) (Nat.le_of_ble_eq_true rfl) rfl dX7_lineage_2 ?_
  rintro _ _ ⟨rq1, aq2, rfl, tq3, hq4, rfl⟩
  show G Γ Mq 5 [(0, .ref (ad 47)), (1, .int x1), (2, .int x2)] [.int rq1]
  refine g_if_ne X tq3 (tgt := 10) dX7_lineage_5 (by decide) (fun cq5 => ?_) (fun cq5 => ?_)
  · have pq6 : (-1 ≤ a2 ∧ a2 ≤ ((Mq.1 47 53)).toInt) := by omega
    clear hq4 cq5 tq3
    refine g_iload_n X 1 rfl dX7_lineage_10 ?_
    refine g_callS X m_X7_263 (c_X7_isYear ad Mq x1 t1) rfl (by decide) (Nat.le_of_ble_eq_true rfl) rfl dX7_lineage_11 ?_
    rintro _ _ ⟨rq7, aq8, rfl, tq9, hq10, rfl⟩
    show G Γ Mq 14 [(0, .ref (ad 47)), (1, .int x1), (2, .int x2)] [.int rq7]
    refine g_if_ne X tq9 (tgt := 20) dX7_lineage_14 (by decide) (fun cq11 => ?_) (fun cq11 => ?_)
    · have pq12 : (0 ≤ a1 ∧ a1 ≤ 999) := by omega
      clear hq10 cq11 tq9
      refine g_iconst X 0 dX7_lineage_20 (by decide) ?_
      refine g_istore_n X (i := 3) [(3, .int 0), (0, .ref (ad 47)), (1, .int x1), (2, .int x2)] dX7_lineage_21 rfl (by decide) rfl ?_
      refine g_iconst X 0 dX7_lineage_22 (by decide) ?_
      refine g_istore X [(4, .int 0), (3, .int 0), (0, .ref (ad 47)), (1, .int x1), (2, .int x2)] dX7_lineage_23 (by decide) rfl ?_
      have lp25 : ∀ n : Nat, ∀ (y4_25 : Int32) (b4_25 : Int), y4_25.toInt = b4_25 → ∀ (y3_25 : Int32) (b3_25 : Int), y3_25.toInt = b3_25 → (0 ≤ b4_25) → ((Mq.1 47 52).toInt - b4_25).toNat < n → G Γ Mq 25 [(4, .int y4_25), (3, .int y3_25), (0, .ref (ad 47)), (1, .int x1), (2, .int x2)] [] := by
        intro n
        induction n with
        | zero => intro y4_25 b4_25 e4_25 y3_25 b3_25 e3_25 i1 hm; exact absurd hm (Nat.not_lt_zero _)
        | succ n ih25 =>
          intro y4_25 b4_25 e4_25 y3_25 b3_25 e3_25 i1 hm25
          refine g_iload X 0 rfl dX7_lineage_25 ?_
          refine g_aload_n X 2 rfl dX7_lineage_27 ?_
          refine g_geti X f_X7_313 dX7_lineage_28 (x := Mq.1 47 52) rfl ?_
          have bq13 := ig_47_52 Iq0
          refine g_icmp_ge X e4_25 rfl (tgt := 80) dX7_lineage_31 (by decide) (fun cq14 => ?_) (fun cq14 => ?_)
          · refine g_iload_n X 1 rfl dX7_lineage_80 ?_
            exact g_iret X dX7_lineage_81 ⟨_, _, rfl, e3_25, trivial, rfl⟩
          · refine g_aload_n X 2 rfl dX7_lineage_34 ?_
            refine g_iload X 0 rfl dX7_lineage_35 ?_
            refine g_iload_n X 3 rfl dX7_lineage_37 ?_
            refine g_aload_n X 2 rfl dX7_lineage_38 ?_
            refine g_iload_n X 4 rfl dX7_lineage_39 ?_
            refine g_callV X m_X7_329 (c_X7_upTo ad Mq x2 t2) rfl (by decide) (Nat.le_of_ble_eq_true rfl) rfl dX7_lineage_40 ?_
            rintro _ _ ⟨rq15, aq16, rfl, tq17, hq18, rfl⟩
            show G Γ Mq 43 [(4, .int y4_25), (3, .int y3_25), (0, .ref (ad 47)), (1, .int x1), (2, .int x2)] [.int rq15, .int x1, .int y4_25, .ref (ad 47)]
            refine g_callV X m_X7_336 (c_X7_masterOf ad Mq y4_25 e4_25 x1 t1 rq15 tq17 Iq0 (by omega) (by omega)) rfl (by decide) (Nat.le_of_ble_eq_true rfl) rfl dX7_lineage_43 ?_
            rintro _ _ ⟨rq19, aq20, rfl, tq21, hq22, rfl⟩
            show G Γ Mq 46 [(4, .int y4_25), (3, .int y3_25), (0, .ref (ad 47)), (1, .int x1), (2, .int x2)] [.int rq19]
            refine g_istore X [(5, .int rq19), (4, .int y4_25), (3, .int y3_25), (0, .ref (ad 47)), (1, .int x1), (2, .int x2)] dX7_lineage_46 (by decide) rfl ?_
            refine g_iload_n X 2 rfl dX7_lineage_48 ?_
            refine g_iload X 0 rfl dX7_lineage_49 ?_
            refine g_if_ge X tq21 (tgt := 58) dX7_lineage_51 (by decide) (fun cq23 => ?_) (fun cq23 => ?_)
            · refine g_aload_n X 3 rfl dX7_lineage_58 ?_
              refine g_iload X 1 rfl dX7_lineage_59 ?_
              refine g_iload X 0 rfl dX7_lineage_61 ?_
              refine g_iload_n X 4 rfl dX7_lineage_63 ?_
              refine g_aload_n X 3 rfl dX7_lineage_64 ?_
              refine g_iload_n X 5 rfl dX7_lineage_65 ?_
              refine g_callV X m_X7_329 (c_X7_upTo ad Mq x2 t2) rfl (by decide) (Nat.le_of_ble_eq_true rfl) rfl dX7_lineage_66 ?_
              rintro _ _ ⟨rq24, aq25, rfl, tq26, hq27, rfl⟩
              show G Γ Mq 69 [(5, .int rq19), (4, .int y4_25), (3, .int y3_25), (0, .ref (ad 47)), (1, .int x1), (2, .int x2)] [.int rq24, .int x1, .int rq19, .int y4_25, .ref (ad 47), .int y3_25]
              refine g_callV X m_X7_332 (c_X7_unlikeBy ad Mq y4_25 e4_25 rq19 tq21 x1 t1 rq24 tq26 Iq0 (by omega)) rfl (by decide) (Nat.le_of_ble_eq_true rfl) rfl dX7_lineage_69 ?_
              rintro _ _ ⟨rq28, aq29, rfl, tq30, hq31, rfl⟩
              show G Γ Mq 72 [(5, .int rq19), (4, .int y4_25), (3, .int y3_25), (0, .ref (ad 47)), (1, .int x1), (2, .int x2)] [.int rq28, .int y3_25]
              refine g_iadd X dX7_lineage_72 (fun zq32 eq33 => ?_)
              refine g_istore_n X (i := 3) [(3, .int zq32), (5, .int rq19), (4, .int y4_25), (0, .ref (ad 47)), (1, .int x1), (2, .int x2)] dX7_lineage_73 rfl (by decide) rfl ?_
              refine g_iinc X 2 (fun v => [(4, .int v), (3, .int zq32), (5, .int rq19), (0, .ref (ad 47)), (1, .int x1), (2, .int x2)]) dX7_lineage_74 rfl (by decide) (fun _ => rfl) (fun zq35 eq36 => ?_)
              have tq37 : zq35.toInt = b4_25 + 1 := add_nw eq36 e4_25 (show (Int32.ofInt 1).toInt = 1 by decide) (by omega)
              refine g_goto X (tgt := 25) dX7_lineage_77 (by decide) ?_
              refine g_sub [0, 1, 3, 4, 5] rfl ?_
              exact ih25 zq35 _ tq37 zq32 _ rfl (by omega) (by omega)
            · refine g_iconst X 0 dX7_lineage_54 (by decide) ?_
              refine g_goto X (tgt := 72) dX7_lineage_55 (by decide) ?_
              refine g_iadd X dX7_lineage_72 (fun zq38 eq39 => ?_)
              refine g_istore_n X (i := 3) [(3, .int zq38), (5, .int rq19), (4, .int y4_25), (0, .ref (ad 47)), (1, .int x1), (2, .int x2)] dX7_lineage_73 rfl (by decide) rfl ?_
              refine g_iinc X 2 (fun v => [(4, .int v), (3, .int zq38), (5, .int rq19), (0, .ref (ad 47)), (1, .int x1), (2, .int x2)]) dX7_lineage_74 rfl (by decide) (fun _ => rfl) (fun zq41 eq42 => ?_)
              have tq43 : zq41.toInt = b4_25 + 1 := add_nw eq42 e4_25 (show (Int32.ofInt 1).toInt = 1 by decide) (by omega)
              refine g_goto X (tgt := 25) dX7_lineage_77 (by decide) ?_
              refine g_sub [0, 1, 3, 4, 5] rfl ?_
              exact ih25 zq41 _ tq43 zq38 _ rfl (by omega) (by omega)
      refine g_sub [0, 1, 2, 3, 4] rfl ?_
      exact lp25 _ 0 _ (show (0 : Int32).toInt = 0 by decide) 0 _ (show (0 : Int32).toInt = 0 by decide) (by omega) (Nat.lt_succ_self _)
    · have pq44 : ¬ (0 ≤ a1 ∧ a1 ≤ 999) := by omega
      clear hq10 cq11 tq9
      refine g_bipush X (-2) dX7_lineage_17 (by decide) ?_
      exact g_iret X dX7_lineage_19 ⟨_, _, rfl, (show ((-2) : Int32).toInt = (-2) by decide), trivial, rfl⟩
  · have pq45 : ¬ (-1 ≤ a2 ∧ a2 ≤ ((Mq.1 47 53)).toInt) := by omega
    clear hq4 cq5 tq3
    refine g_iconst X (-1) dX7_lineage_8 (by decide) ?_
    exact g_iret X dX7_lineage_9 ⟨_, _, rfl, (show ((-1) : Int32).toInt = (-1) by decide), trivial, rfl⟩
set_option maxHeartbeats 4000000 in
set_option maxRecDepth 4000 in
theorem c_X7_whose (ad : Nat → Nat) (Mq : Mem) (x1 : Int32) {a1 : Int} (t1 : x1.toInt = a1) (x2 : Int32) {a2 : Int} (t2 : x2.toInt = a2) (x3 : Int32) {a3 : Int} (t3 : x3.toInt = a3) (Iq0 : Iv TM Mq) : Ctr ad yX7_whose cX7_whose 9 (some .int) 2 [.ref (ad 47), .int x1, .int x2, .int x3] Mq (fun v M' => ∃ (r : Int32) (a : Int), v = some (.int r) ∧ r.toInt = a ∧ (True) ∧ Mq = M') := by
  refine ctr_of (L := [(0, .ref (ad 47)), (1, .int x1), (2, .int x2), (3, .int x3)]) (by decide) (Nat.le_of_ble_eq_true rfl) rfl ?_
  intro Γ X
  have X : gX Γ cX7_whose RX7 9 (some .int) 2 ad _ := X
  have g11 := ig_47_11 Iq0
  have g12 := ig_47_12 Iq0
  have g14 := ig_47_14 Iq0
  have g32 := ig_47_32 Iq0
  have g43 := ig_47_43 Iq0
  have g44 := ig_47_44 Iq0
  have g52 := ig_47_52 Iq0
  have g53 := ig_47_53 Iq0
  have g59 := ig_47_59 Iq0
  refine g_aload_n X 0 rfl dX7_whose_0 ?_
  refine g_iload_n X 1 rfl dX7_whose_1 ?_
  refine g_callV X m_X7_186 (c_X7_isLine ad Mq x1 t1) rfl (by decide) (Nat.le_of_ble_eq_true rfl) rfl dX7_whose_2 ?_
  rintro _ _ ⟨rq1, aq2, rfl, tq3, hq4, rfl⟩
  show G Γ Mq 5 [(0, .ref (ad 47)), (1, .int x1), (2, .int x2), (3, .int x3)] [.int rq1]
  refine g_if_eq X tq3 (tgt := 16) dX7_whose_5 (by decide) (fun cq5 => ?_) (fun cq5 => ?_)
  · have pq6 : ¬ (0 ≤ a1 ∧ a1 < ((Mq.1 47 12)).toInt) := by omega
    clear hq4 cq5 tq3
    refine g_iconst X (-1) dX7_whose_16 (by decide) ?_
    exact g_iret X dX7_whose_17 ⟨_, _, rfl, (show ((-1) : Int32).toInt = (-1) by decide), trivial, rfl⟩
  · have pq7 : (0 ≤ a1 ∧ a1 < ((Mq.1 47 12)).toInt) := by omega
    clear hq4 cq5 tq3
    refine g_aload_n X 0 rfl dX7_whose_8 ?_
    refine g_iload_n X 3 rfl dX7_whose_9 ?_
    refine g_callV X m_X7_326 (c_X7_isKnown ad Mq x3 t3) rfl (by decide) (Nat.le_of_ble_eq_true rfl) rfl dX7_whose_10 ?_
    rintro _ _ ⟨rq8, aq9, rfl, tq10, hq11, rfl⟩
    show G Γ Mq 13 [(0, .ref (ad 47)), (1, .int x1), (2, .int x2), (3, .int x3)] [.int rq8]
    refine g_if_ne X tq10 (tgt := 18) dX7_whose_13 (by decide) (fun cq12 => ?_) (fun cq12 => ?_)
    · have pq13 : (-1 ≤ a3 ∧ a3 ≤ ((Mq.1 47 53)).toInt) := by omega
      clear hq11 cq12 tq10
      refine g_iload_n X 2 rfl dX7_whose_18 ?_
      refine g_callS X m_X7_263 (c_X7_isYear ad Mq x2 t2) rfl (by decide) (Nat.le_of_ble_eq_true rfl) rfl dX7_whose_19 ?_
      rintro _ _ ⟨rq14, aq15, rfl, tq16, hq17, rfl⟩
      show G Γ Mq 22 [(0, .ref (ad 47)), (1, .int x1), (2, .int x2), (3, .int x3)] [.int rq14]
      refine g_if_ne X tq16 (tgt := 28) dX7_whose_22 (by decide) (fun cq18 => ?_) (fun cq18 => ?_)
      · have pq19 : (0 ≤ a2 ∧ a2 ≤ 999) := by omega
        clear hq17 cq18 tq16
        refine g_bipush X (-5) dX7_whose_28 (by decide) ?_
        refine g_istore X [(4, .int (-5)), (0, .ref (ad 47)), (1, .int x1), (2, .int x2), (3, .int x3)] dX7_whose_30 (by decide) rfl ?_
        refine g_iconst X 0 dX7_whose_32 (by decide) ?_
        refine g_istore X [(5, .int 0), (4, .int (-5)), (0, .ref (ad 47)), (1, .int x1), (2, .int x2), (3, .int x3)] dX7_whose_33 (by decide) rfl ?_
        refine g_iconst X 0 dX7_whose_35 (by decide) ?_
        refine g_istore X [(6, .int 0), (5, .int 0), (4, .int (-5)), (0, .ref (ad 47)), (1, .int x1), (2, .int x2), (3, .int x3)] dX7_whose_36 (by decide) rfl ?_
        have lp38 : ∀ n : Nat, ∀ (y6_38 : Int32) (b6_38 : Int), y6_38.toInt = b6_38 → ∀ (y5_38 : Int32) (b5_38 : Int), y5_38.toInt = b5_38 → ∀ (y4_38 : Int32) (b4_38 : Int), y4_38.toInt = b4_38 → (0 ≤ b6_38 ∧ b6_38 ≤ 10) → (10 - b6_38).toNat < n → G Γ Mq 38 [(6, .int y6_38), (5, .int y5_38), (4, .int y4_38), (0, .ref (ad 47)), (1, .int x1), (2, .int x2), (3, .int x3)] [] := by
          intro n
          induction n with
          | zero => intro y6_38 b6_38 e6_38 y5_38 b5_38 e5_38 y4_38 b4_38 e4_38 i1 hm; exact absurd hm (Nat.not_lt_zero _)
          | succ n ih38 =>
            intro y6_38 b6_38 e6_38 y5_38 b5_38 e5_38 y4_38 b4_38 e4_38 i1 hm38
            refine g_iload X 0 rfl dX7_whose_38 ?_
            refine g_bipush X 10 dX7_whose_40 (by decide) ?_
            refine g_icmp_ge X e6_38 (show (10 : Int32).toInt = 10 by decide) (tgt := 128) dX7_whose_42 (by decide) (fun cq20 => ?_) (fun cq20 => ?_)
            · refine g_iload X 2 rfl dX7_whose_128 ?_
              exact g_iret X dX7_whose_130 ⟨_, _, rfl, e4_38, trivial, rfl⟩
            · refine g_iconst X 0 dX7_whose_45 (by decide) ?_
              refine g_istore X [(7, .int 0), (6, .int y6_38), (5, .int y5_38), (4, .int y4_38), (0, .ref (ad 47)), (1, .int x1), (2, .int x2), (3, .int x3)] dX7_whose_46 (by decide) rfl ?_
              refine g_iconst X 0 dX7_whose_48 (by decide) ?_
              refine g_istore X [(8, .int 0), (7, .int 0), (6, .int y6_38), (5, .int y5_38), (4, .int y4_38), (0, .ref (ad 47)), (1, .int x1), (2, .int x2), (3, .int x3)] dX7_whose_49 (by decide) rfl ?_
              have lp51 : ∀ n : Nat, ∀ (y8_51 : Int32) (b8_51 : Int), y8_51.toInt = b8_51 → ∀ (y7_51 : Int32) (b7_51 : Int), y7_51.toInt = b7_51 → (0 ≤ b8_51) → ((Mq.1 47 52).toInt - b8_51).toNat < n → G Γ Mq 51 [(8, .int y8_51), (7, .int y7_51), (6, .int y6_38), (5, .int y5_38), (4, .int y4_38), (0, .ref (ad 47)), (1, .int x1), (2, .int x2), (3, .int x3)] [] := by
                intro n
                induction n with
                | zero => intro y8_51 b8_51 e8_51 y7_51 b7_51 e7_51 j1 hm; exact absurd hm (Nat.not_lt_zero _)
                | succ n ih51 =>
                  intro y8_51 b8_51 e8_51 y7_51 b7_51 e7_51 j1 hm51
                  refine g_iload X 0 rfl dX7_whose_51 ?_
                  refine g_aload_n X 5 rfl dX7_whose_53 ?_
                  refine g_geti X f_X7_313 dX7_whose_54 (x := Mq.1 47 52) rfl ?_
                  have bq21 := ig_47_52 Iq0
                  refine g_icmp_ge X e8_51 rfl (tgt := 104) dX7_whose_57 (by decide) (fun cq22 => ?_) (fun cq22 => ?_)
                  · refine g_iload X 1 rfl dX7_whose_104 ?_
                    refine g_iload X 3 rfl dX7_whose_106 ?_
                    refine g_icmp_gt X e7_51 e5_38 (tgt := 114) dX7_whose_108 (by decide) (fun cq23 => ?_) (fun cq23 => ?_)
                    · refine g_iload X 1 rfl dX7_whose_114 ?_
                      refine g_istore X [(5, .int y7_51), (8, .int y8_51), (7, .int y7_51), (6, .int y6_38), (4, .int y4_38), (0, .ref (ad 47)), (1, .int x1), (2, .int x2), (3, .int x3)] dX7_whose_116 (by decide) rfl ?_
                      refine g_iload X 3 rfl dX7_whose_118 ?_
                      refine g_istore X [(4, .int y6_38), (5, .int y7_51), (8, .int y8_51), (7, .int y7_51), (6, .int y6_38), (0, .ref (ad 47)), (1, .int x1), (2, .int x2), (3, .int x3)] dX7_whose_120 (by decide) rfl ?_
                      refine g_iinc X 4 (fun v => [(6, .int v), (4, .int y6_38), (5, .int y7_51), (8, .int y8_51), (7, .int y7_51), (0, .ref (ad 47)), (1, .int x1), (2, .int x2), (3, .int x3)]) dX7_whose_122 rfl (by decide) (fun _ => rfl) (fun zq24 eq25 => ?_)
                      have tq26 : zq24.toInt = b6_38 + 1 := add_nw eq25 e6_38 (show (Int32.ofInt 1).toInt = 1 by decide) (by omega)
                      refine g_goto X (tgt := 38) dX7_whose_125 (by decide) ?_
                      refine g_sub [0, 2, 1, 5, 6, 7, 8] rfl ?_
                      exact ih38 zq24 _ tq26 y7_51 _ e7_51 y6_38 _ e6_38 (by omega) (by omega)
                    · refine g_goto X (tgt := 122) dX7_whose_111 (by decide) ?_
                      refine g_iinc X 2 (fun v => [(6, .int v), (8, .int y8_51), (7, .int y7_51), (5, .int y5_38), (4, .int y4_38), (0, .ref (ad 47)), (1, .int x1), (2, .int x2), (3, .int x3)]) dX7_whose_122 rfl (by decide) (fun _ => rfl) (fun zq27 eq28 => ?_)
                      have tq29 : zq27.toInt = b6_38 + 1 := add_nw eq28 e6_38 (show (Int32.ofInt 1).toInt = 1 by decide) (by omega)
                      refine g_goto X (tgt := 38) dX7_whose_125 (by decide) ?_
                      refine g_sub [0, 3, 4, 5, 6, 7, 8] rfl ?_
                      exact ih38 zq27 _ tq29 y5_38 _ e5_38 y4_38 _ e4_38 (by omega) (by omega)
                  · refine g_iload X 1 rfl dX7_whose_60 ?_
                    refine g_aload_n X 5 rfl dX7_whose_62 ?_
                    refine g_getr X f_X7_110 dX7_whose_63 ?_
                    refine g_iload X 0 rfl dX7_whose_66 ?_
                    refine g_iald X la_80 e8_51 dX7_whose_68 (by omega) (x := Mq.1 80 b8_51.toNat) rfl ?_
                    refine g_iload X 2 rfl dX7_whose_69 ?_
                    refine g_icmp_ne X rfl e6_38 (tgt := 94) dX7_whose_71 (by decide) (fun cq30 => ?_) (fun cq30 => ?_)
                    · refine g_iconst X 0 dX7_whose_94 (by decide) ?_
                      refine g_iadd X dX7_whose_95 (fun zq31 eq32 => ?_)
                      refine g_istore X [(7, .int zq31), (8, .int y8_51), (6, .int y6_38), (5, .int y5_38), (4, .int y4_38), (0, .ref (ad 47)), (1, .int x1), (2, .int x2), (3, .int x3)] dX7_whose_96 (by decide) rfl ?_
                      refine g_iinc X 1 (fun v => [(8, .int v), (7, .int zq31), (6, .int y6_38), (5, .int y5_38), (4, .int y4_38), (0, .ref (ad 47)), (1, .int x1), (2, .int x2), (3, .int x3)]) dX7_whose_98 rfl (by decide) (fun _ => rfl) (fun zq34 eq35 => ?_)
                      have tq36 : zq34.toInt = b8_51 + 1 := add_nw eq35 e8_51 (show (Int32.ofInt 1).toInt = 1 by decide) (by omega)
                      refine g_goto X (tgt := 51) dX7_whose_101 (by decide) ?_
                      refine g_sub [0, 1, 2, 3, 4, 5, 6, 7, 8] rfl ?_
                      exact ih51 zq34 _ tq36 zq31 _ rfl (by omega) (by omega)
                    · refine g_aload_n X 5 rfl dX7_whose_74 ?_
                      refine g_iload X 0 rfl dX7_whose_75 ?_
                      refine g_iload_n X 6 rfl dX7_whose_77 ?_
                      refine g_iload_n X 7 rfl dX7_whose_78 ?_
                      refine g_aload_n X 5 rfl dX7_whose_79 ?_
                      refine g_iload_n X 8 rfl dX7_whose_80 ?_
                      refine g_callV X m_X7_329 (c_X7_upTo ad Mq x3 t3) rfl (by decide) (Nat.le_of_ble_eq_true rfl) rfl dX7_whose_81 ?_
                      rintro _ _ ⟨rq37, aq38, rfl, tq39, hq40, rfl⟩
                      show G Γ Mq 84 [(8, .int y8_51), (7, .int y7_51), (6, .int y6_38), (5, .int y5_38), (4, .int y4_38), (0, .ref (ad 47)), (1, .int x1), (2, .int x2), (3, .int x3)] [.int rq37, .int x2, .int x1, .int y8_51, .ref (ad 47), .int y7_51]
                      refine g_callV X m_X7_322 (c_X7_hasLine ad Mq y8_51 e8_51 x1 t1 x2 t2 rq37 tq39 Iq0 (by omega)) rfl (by decide) (Nat.le_of_ble_eq_true rfl) rfl dX7_whose_84 ?_
                      rintro _ _ ⟨rq41, aq42, rfl, tq43, hq44, rfl⟩
                      show G Γ Mq 87 [(8, .int y8_51), (7, .int y7_51), (6, .int y6_38), (5, .int y5_38), (4, .int y4_38), (0, .ref (ad 47)), (1, .int x1), (2, .int x2), (3, .int x3)] [.int rq41, .int y7_51]
                      refine g_if_eq X tq43 (tgt := 94) dX7_whose_87 (by decide) (fun cq45 => ?_) (fun cq45 => ?_)
                      · refine g_iconst X 0 dX7_whose_94 (by decide) ?_
                        refine g_iadd X dX7_whose_95 (fun zq46 eq47 => ?_)
                        refine g_istore X [(7, .int zq46), (8, .int y8_51), (6, .int y6_38), (5, .int y5_38), (4, .int y4_38), (0, .ref (ad 47)), (1, .int x1), (2, .int x2), (3, .int x3)] dX7_whose_96 (by decide) rfl ?_
                        refine g_iinc X 1 (fun v => [(8, .int v), (7, .int zq46), (6, .int y6_38), (5, .int y5_38), (4, .int y4_38), (0, .ref (ad 47)), (1, .int x1), (2, .int x2), (3, .int x3)]) dX7_whose_98 rfl (by decide) (fun _ => rfl) (fun zq49 eq50 => ?_)
                        have tq51 : zq49.toInt = b8_51 + 1 := add_nw eq50 e8_51 (show (Int32.ofInt 1).toInt = 1 by decide) (by omega)
                        refine g_goto X (tgt := 51) dX7_whose_101 (by decide) ?_
                        refine g_sub [0, 1, 2, 3, 4, 5, 6, 7, 8] rfl ?_
                        exact ih51 zq49 _ tq51 zq46 _ rfl (by omega) (by omega)
                      · refine g_iconst X 1 dX7_whose_90 (by decide) ?_
                        refine g_goto X (tgt := 95) dX7_whose_91 (by decide) ?_
                        refine g_iadd X dX7_whose_95 (fun zq52 eq53 => ?_)
                        refine g_istore X [(7, .int zq52), (8, .int y8_51), (6, .int y6_38), (5, .int y5_38), (4, .int y4_38), (0, .ref (ad 47)), (1, .int x1), (2, .int x2), (3, .int x3)] dX7_whose_96 (by decide) rfl ?_
                        refine g_iinc X 1 (fun v => [(8, .int v), (7, .int zq52), (6, .int y6_38), (5, .int y5_38), (4, .int y4_38), (0, .ref (ad 47)), (1, .int x1), (2, .int x2), (3, .int x3)]) dX7_whose_98 rfl (by decide) (fun _ => rfl) (fun zq55 eq56 => ?_)
                        have tq57 : zq55.toInt = b8_51 + 1 := add_nw eq56 e8_51 (show (Int32.ofInt 1).toInt = 1 by decide) (by omega)
                        refine g_goto X (tgt := 51) dX7_whose_101 (by decide) ?_
                        refine g_sub [0, 1, 2, 3, 4, 5, 6, 7, 8] rfl ?_
                        exact ih51 zq55 _ tq57 zq52 _ rfl (by omega) (by omega)
              refine g_sub [0, 1, 2, 3, 4, 5, 6, 7, 8] rfl ?_
              exact lp51 _ 0 _ (show (0 : Int32).toInt = 0 by decide) 0 _ (show (0 : Int32).toInt = 0 by decide) (by omega) (Nat.lt_succ_self _)
        refine g_sub [0, 1, 2, 3, 4, 5, 6] rfl ?_
        exact lp38 _ 0 _ (show (0 : Int32).toInt = 0 by decide) 0 _ (show (0 : Int32).toInt = 0 by decide) (-5) _ (show ((-5) : Int32).toInt = (-5) by decide) (by omega) (Nat.lt_succ_self _)
      · have pq58 : ¬ (0 ≤ a2 ∧ a2 ≤ 999) := by omega
        clear hq17 cq18 tq16
        refine g_bipush X (-2) dX7_whose_25 (by decide) ?_
        exact g_iret X dX7_whose_27 ⟨_, _, rfl, (show ((-2) : Int32).toInt = (-2) by decide), trivial, rfl⟩
    · have pq59 : ¬ (-1 ≤ a3 ∧ a3 ≤ ((Mq.1 47 53)).toInt) := by omega
      clear hq11 cq12 tq10
      refine g_iconst X (-1) dX7_whose_16 (by decide) ?_
      exact g_iret X dX7_whose_17 ⟨_, _, rfl, (show ((-1) : Int32).toInt = (-1) by decide), trivial, rfl⟩
set_option maxHeartbeats 4000000 in
set_option maxRecDepth 4000 in
theorem c_X7_core (ad : Nat → Nat) (Mq : Mem) (x1 : Int32) {a1 : Int} (t1 : x1.toInt = a1) (x2 : Int32) {a2 : Int} (t2 : x2.toInt = a2) (x3 : Int32) {a3 : Int} (t3 : x3.toInt = a3) (Iq0 : Iv TM Mq) : Ctr ad yX7_core cX7_core 8 (some .int) 2 [.ref (ad 47), .int x1, .int x2, .int x3] Mq (fun v M' => ∃ (r : Int32) (a : Int), v = some (.int r) ∧ r.toInt = a ∧ (True) ∧ Mq = M') := by
  refine ctr_of (L := [(0, .ref (ad 47)), (1, .int x1), (2, .int x2), (3, .int x3)]) (by decide) (Nat.le_of_ble_eq_true rfl) rfl ?_
  intro Γ X
  have X : gX Γ cX7_core RX7 8 (some .int) 2 ad _ := X
  have g11 := ig_47_11 Iq0
  have g12 := ig_47_12 Iq0
  have g14 := ig_47_14 Iq0
  have g32 := ig_47_32 Iq0
  have g43 := ig_47_43 Iq0
  have g44 := ig_47_44 Iq0
  have g52 := ig_47_52 Iq0
  have g53 := ig_47_53 Iq0
  have g59 := ig_47_59 Iq0
  refine g_aload_n X 0 rfl dX7_core_0 ?_
  refine g_iload_n X 2 rfl dX7_core_1 ?_
  refine g_callV X m_X7_326 (c_X7_isKnown ad Mq x2 t2) rfl (by decide) (Nat.le_of_ble_eq_true rfl) rfl dX7_core_2 ?_
  rintro _ _ ⟨rq1, aq2, rfl, tq3, hq4, rfl⟩
  show G Γ Mq 5 [(0, .ref (ad 47)), (1, .int x1), (2, .int x2), (3, .int x3)] [.int rq1]
  refine g_if_eq X tq3 (tgt := 13) dX7_core_5 (by decide) (fun cq5 => ?_) (fun cq5 => ?_)
  · have pq6 : ¬ (-1 ≤ a2 ∧ a2 ≤ ((Mq.1 47 53)).toInt) := by omega
    clear hq4 cq5 tq3
    refine g_iconst X (-1) dX7_core_13 (by decide) ?_
    exact g_iret X dX7_core_14 ⟨_, _, rfl, (show ((-1) : Int32).toInt = (-1) by decide), trivial, rfl⟩
  · have pq7 : (-1 ≤ a2 ∧ a2 ≤ ((Mq.1 47 53)).toInt) := by omega
    clear hq4 cq5 tq3
    refine g_iload_n X 3 rfl dX7_core_8 ?_
    refine g_iconst X (-1) dX7_core_9 (by decide) ?_
    refine g_icmp_ge X t3 (show ((-1) : Int32).toInt = (-1) by decide) (tgt := 15) dX7_core_10 (by decide) (fun cq8 => ?_) (fun cq8 => ?_)
    · refine g_iload_n X 1 rfl dX7_core_15 ?_
      refine g_callS X m_X7_263 (c_X7_isYear ad Mq x1 t1) rfl (by decide) (Nat.le_of_ble_eq_true rfl) rfl dX7_core_16 ?_
      rintro _ _ ⟨rq9, aq10, rfl, tq11, hq12, rfl⟩
      show G Γ Mq 19 [(0, .ref (ad 47)), (1, .int x1), (2, .int x2), (3, .int x3)] [.int rq9]
      refine g_if_ne X tq11 (tgt := 25) dX7_core_19 (by decide) (fun cq13 => ?_) (fun cq13 => ?_)
      · have pq14 : (0 ≤ a1 ∧ a1 ≤ 999) := by omega
        clear hq12 cq13 tq11
        refine g_iconst X 0 dX7_core_25 (by decide) ?_
        refine g_istore X [(4, .int 0), (0, .ref (ad 47)), (1, .int x1), (2, .int x2), (3, .int x3)] dX7_core_26 (by decide) rfl ?_
        refine g_iconst X 0 dX7_core_28 (by decide) ?_
        refine g_istore X [(5, .int 0), (4, .int 0), (0, .ref (ad 47)), (1, .int x1), (2, .int x2), (3, .int x3)] dX7_core_29 (by decide) rfl ?_
        have lp31 : ∀ n : Nat, ∀ (y5_31 : Int32) (b5_31 : Int), y5_31.toInt = b5_31 → ∀ (y4_31 : Int32) (b4_31 : Int), y4_31.toInt = b4_31 → (0 ≤ b5_31) → ((Mq.1 47 12).toInt - b5_31).toNat < n → G Γ Mq 31 [(5, .int y5_31), (4, .int y4_31), (0, .ref (ad 47)), (1, .int x1), (2, .int x2), (3, .int x3)] [] := by
          intro n
          induction n with
          | zero => intro y5_31 b5_31 e5_31 y4_31 b4_31 e4_31 i1 hm; exact absurd hm (Nat.not_lt_zero _)
          | succ n ih31 =>
            intro y5_31 b5_31 e5_31 y4_31 b4_31 e4_31 i1 hm31
            refine g_iload X 0 rfl dX7_core_31 ?_
            refine g_aload_n X 2 rfl dX7_core_33 ?_
            refine g_geti X f_X7_147 dX7_core_34 (x := Mq.1 47 12) rfl ?_
            have bq15 := ig_47_12 Iq0
            refine g_icmp_ge X e5_31 rfl (tgt := 123) dX7_core_37 (by decide) (fun cq16 => ?_) (fun cq16 => ?_)
            · refine g_iload_n X 5 rfl dX7_core_123 ?_
              refine g_iconst X (-1) dX7_core_124 (by decide) ?_
              refine g_icmp_ne X t3 (show ((-1) : Int32).toInt = (-1) by decide) (tgt := 133) dX7_core_125 (by decide) (fun cq17 => ?_) (fun cq17 => ?_)
              · refine g_iconst X (-1) dX7_core_133 (by decide) ?_
                exact g_iret X dX7_core_134 ⟨_, _, rfl, (show ((-1) : Int32).toInt = (-1) by decide), trivial, rfl⟩
              · refine g_iload X 1 rfl dX7_core_128 ?_
                refine g_goto X (tgt := 134) dX7_core_130 (by decide) ?_
                exact g_iret X dX7_core_134 ⟨_, _, rfl, e4_31, trivial, rfl⟩
            · refine g_aload_n X 2 rfl dX7_core_40 ?_
              refine g_geti X f_X7_313 dX7_core_41 (x := Mq.1 47 52) rfl ?_
              have bq18 := ig_47_52 Iq0
              refine g_if_le X rfl (tgt := 123) dX7_core_44 (by decide) (fun cq19 => ?_) (fun cq19 => ?_)
              · refine g_iload_n X 5 rfl dX7_core_123 ?_
                refine g_iconst X (-1) dX7_core_124 (by decide) ?_
                refine g_icmp_ne X t3 (show ((-1) : Int32).toInt = (-1) by decide) (tgt := 133) dX7_core_125 (by decide) (fun cq20 => ?_) (fun cq20 => ?_)
                · refine g_iconst X (-1) dX7_core_133 (by decide) ?_
                  exact g_iret X dX7_core_134 ⟨_, _, rfl, (show ((-1) : Int32).toInt = (-1) by decide), trivial, rfl⟩
                · refine g_iload X 1 rfl dX7_core_128 ?_
                  refine g_goto X (tgt := 134) dX7_core_130 (by decide) ?_
                  exact g_iret X dX7_core_134 ⟨_, _, rfl, e4_31, trivial, rfl⟩
              · refine g_iconst X 1 dX7_core_47 (by decide) ?_
                refine g_istore X [(6, .int 1), (5, .int y5_31), (4, .int y4_31), (0, .ref (ad 47)), (1, .int x1), (2, .int x2), (3, .int x3)] dX7_core_48 (by decide) rfl ?_
                refine g_iconst X 0 dX7_core_50 (by decide) ?_
                refine g_istore X [(7, .int 0), (6, .int 1), (5, .int y5_31), (4, .int y4_31), (0, .ref (ad 47)), (1, .int x1), (2, .int x2), (3, .int x3)] dX7_core_51 (by decide) rfl ?_
                have lp53 : ∀ n : Nat, ∀ (y7_53 : Int32) (b7_53 : Int), y7_53.toInt = b7_53 → ∀ (y6_53 : Int32) (b6_53 : Int), y6_53.toInt = b6_53 → (0 ≤ b7_53) → (b6_53 = 0 ∨ b6_53 = 1) → ((Mq.1 47 52).toInt - b7_53).toNat < n → G Γ Mq 53 [(7, .int y7_53), (6, .int y6_53), (5, .int y5_31), (4, .int y4_31), (0, .ref (ad 47)), (1, .int x1), (2, .int x2), (3, .int x3)] [] := by
                  intro n
                  induction n with
                  | zero => intro y7_53 b7_53 e7_53 y6_53 b6_53 e6_53 j1 j2 hm; exact absurd hm (Nat.not_lt_zero _)
                  | succ n ih53 =>
                    intro y7_53 b7_53 e7_53 y6_53 b6_53 e6_53 j1 j2 hm53
                    refine g_iload X 0 rfl dX7_core_53 ?_
                    refine g_aload_n X 4 rfl dX7_core_55 ?_
                    refine g_geti X f_X7_313 dX7_core_56 (x := Mq.1 47 52) rfl ?_
                    have bq21 := ig_47_52 Iq0
                    refine g_icmp_ge X e7_53 rfl (tgt := 97) dX7_core_59 (by decide) (fun cq22 => ?_) (fun cq22 => ?_)
                    · refine g_iload X 1 rfl dX7_core_97 ?_
                      refine g_if_ne X e6_53 (tgt := 105) dX7_core_99 (by decide) (fun cq23 => ?_) (fun cq23 => ?_)
                      · refine g_iload X 3 rfl dX7_core_105 ?_
                        refine g_iload_n X 7 rfl dX7_core_107 ?_
                        refine g_icmp_ne X e4_31 t3 (tgt := 114) dX7_core_108 (by decide) (fun cq24 => ?_) (fun cq24 => ?_)
                        · refine g_iinc X 3 (fun v => [(4, .int v), (7, .int y7_53), (6, .int y6_53), (5, .int y5_31), (0, .ref (ad 47)), (1, .int x1), (2, .int x2), (3, .int x3)]) dX7_core_114 rfl (by decide) (fun _ => rfl) (fun zq25 eq26 => ?_)
                          refine g_iinc X 3 (fun v => [(5, .int v), (4, .int zq25), (7, .int y7_53), (6, .int y6_53), (0, .ref (ad 47)), (1, .int x1), (2, .int x2), (3, .int x3)]) dX7_core_117 rfl (by decide) (fun _ => rfl) (fun zq28 eq29 => ?_)
                          have tq30 : zq28.toInt = b5_31 + 1 := add_nw eq29 e5_31 (show (Int32.ofInt 1).toInt = 1 by decide) (by omega)
                          refine g_goto X (tgt := 31) dX7_core_120 (by decide) ?_
                          refine g_sub [0, 1, 4, 5, 6, 7] rfl ?_
                          exact ih31 zq28 _ tq30 zq25 _ rfl (by omega) (by omega)
                        · refine g_iload X 2 rfl dX7_core_111 ?_
                          exact g_iret X dX7_core_113 ⟨_, _, rfl, e5_31, trivial, rfl⟩
                      · refine g_goto X (tgt := 117) dX7_core_102 (by decide) ?_
                        refine g_iinc X 2 (fun v => [(5, .int v), (7, .int y7_53), (6, .int y6_53), (4, .int y4_31), (0, .ref (ad 47)), (1, .int x1), (2, .int x2), (3, .int x3)]) dX7_core_117 rfl (by decide) (fun _ => rfl) (fun zq31 eq32 => ?_)
                        have tq33 : zq31.toInt = b5_31 + 1 := add_nw eq32 e5_31 (show (Int32.ofInt 1).toInt = 1 by decide) (by omega)
                        refine g_goto X (tgt := 31) dX7_core_120 (by decide) ?_
                        refine g_sub [0, 3, 4, 5, 6, 7] rfl ?_
                        exact ih31 zq31 _ tq33 y4_31 _ e4_31 (by omega) (by omega)
                    · refine g_iload X 1 rfl dX7_core_62 ?_
                      refine g_if_eq X e6_53 (tgt := 88) dX7_core_64 (by decide) (fun cq34 => ?_) (fun cq34 => ?_)
                      · refine g_iconst X 0 dX7_core_88 (by decide) ?_
                        refine g_istore X [(6, .int 0), (7, .int y7_53), (5, .int y5_31), (4, .int y4_31), (0, .ref (ad 47)), (1, .int x1), (2, .int x2), (3, .int x3)] dX7_core_89 (by decide) rfl ?_
                        refine g_iinc X 1 (fun v => [(7, .int v), (6, .int 0), (5, .int y5_31), (4, .int y4_31), (0, .ref (ad 47)), (1, .int x1), (2, .int x2), (3, .int x3)]) dX7_core_91 rfl (by decide) (fun _ => rfl) (fun zq35 eq36 => ?_)
                        have tq37 : zq35.toInt = b7_53 + 1 := add_nw eq36 e7_53 (show (Int32.ofInt 1).toInt = 1 by decide) (by omega)
                        refine g_goto X (tgt := 53) dX7_core_94 (by decide) ?_
                        refine g_sub [0, 1, 2, 3, 4, 5, 6, 7] rfl ?_
                        exact ih53 zq35 _ tq37 0 _ (show (0 : Int32).toInt = 0 by decide) (by omega) (by omega) (by omega)
                      · refine g_aload_n X 4 rfl dX7_core_67 ?_
                        refine g_iload X 0 rfl dX7_core_68 ?_
                        refine g_iload X 2 rfl dX7_core_70 ?_
                        refine g_iload_n X 5 rfl dX7_core_72 ?_
                        refine g_aload_n X 4 rfl dX7_core_73 ?_
                        refine g_iload_n X 6 rfl dX7_core_74 ?_
                        refine g_callV X m_X7_329 (c_X7_upTo ad Mq x2 t2) rfl (by decide) (Nat.le_of_ble_eq_true rfl) rfl dX7_core_75 ?_
                        rintro _ _ ⟨rq38, aq39, rfl, tq40, hq41, rfl⟩
                        show G Γ Mq 78 [(7, .int y7_53), (6, .int y6_53), (5, .int y5_31), (4, .int y4_31), (0, .ref (ad 47)), (1, .int x1), (2, .int x2), (3, .int x3)] [.int rq38, .int x1, .int y5_31, .int y7_53, .ref (ad 47)]
                        refine g_callV X m_X7_322 (c_X7_hasLine ad Mq y7_53 e7_53 y5_31 e5_31 x1 t1 rq38 tq40 Iq0 (by omega)) rfl (by decide) (Nat.le_of_ble_eq_true rfl) rfl dX7_core_78 ?_
                        rintro _ _ ⟨rq42, aq43, rfl, tq44, hq45, rfl⟩
                        show G Γ Mq 81 [(7, .int y7_53), (6, .int y6_53), (5, .int y5_31), (4, .int y4_31), (0, .ref (ad 47)), (1, .int x1), (2, .int x2), (3, .int x3)] [.int rq42]
                        refine g_if_eq X tq44 (tgt := 88) dX7_core_81 (by decide) (fun cq46 => ?_) (fun cq46 => ?_)
                        · refine g_iconst X 0 dX7_core_88 (by decide) ?_
                          refine g_istore X [(6, .int 0), (7, .int y7_53), (5, .int y5_31), (4, .int y4_31), (0, .ref (ad 47)), (1, .int x1), (2, .int x2), (3, .int x3)] dX7_core_89 (by decide) rfl ?_
                          refine g_iinc X 1 (fun v => [(7, .int v), (6, .int 0), (5, .int y5_31), (4, .int y4_31), (0, .ref (ad 47)), (1, .int x1), (2, .int x2), (3, .int x3)]) dX7_core_91 rfl (by decide) (fun _ => rfl) (fun zq47 eq48 => ?_)
                          have tq49 : zq47.toInt = b7_53 + 1 := add_nw eq48 e7_53 (show (Int32.ofInt 1).toInt = 1 by decide) (by omega)
                          refine g_goto X (tgt := 53) dX7_core_94 (by decide) ?_
                          refine g_sub [0, 1, 2, 3, 4, 5, 6, 7] rfl ?_
                          exact ih53 zq47 _ tq49 0 _ (show (0 : Int32).toInt = 0 by decide) (by omega) (by omega) (by omega)
                        · refine g_iconst X 1 dX7_core_84 (by decide) ?_
                          refine g_goto X (tgt := 89) dX7_core_85 (by decide) ?_
                          refine g_istore X [(6, .int 1), (7, .int y7_53), (5, .int y5_31), (4, .int y4_31), (0, .ref (ad 47)), (1, .int x1), (2, .int x2), (3, .int x3)] dX7_core_89 (by decide) rfl ?_
                          refine g_iinc X 1 (fun v => [(7, .int v), (6, .int 1), (5, .int y5_31), (4, .int y4_31), (0, .ref (ad 47)), (1, .int x1), (2, .int x2), (3, .int x3)]) dX7_core_91 rfl (by decide) (fun _ => rfl) (fun zq50 eq51 => ?_)
                          have tq52 : zq50.toInt = b7_53 + 1 := add_nw eq51 e7_53 (show (Int32.ofInt 1).toInt = 1 by decide) (by omega)
                          refine g_goto X (tgt := 53) dX7_core_94 (by decide) ?_
                          refine g_sub [0, 1, 2, 3, 4, 5, 6, 7] rfl ?_
                          exact ih53 zq50 _ tq52 1 _ (show (1 : Int32).toInt = 1 by decide) (by omega) (by omega) (by omega)
                refine g_sub [0, 1, 2, 3, 4, 5, 6, 7] rfl ?_
                exact lp53 _ 0 _ (show (0 : Int32).toInt = 0 by decide) 1 _ (show (1 : Int32).toInt = 1 by decide) (by omega) (by omega) (Nat.lt_succ_self _)
        refine g_sub [0, 1, 2, 3, 4, 5] rfl ?_
        exact lp31 _ 0 _ (show (0 : Int32).toInt = 0 by decide) 0 _ (show (0 : Int32).toInt = 0 by decide) (by omega) (Nat.lt_succ_self _)
      · have pq53 : ¬ (0 ≤ a1 ∧ a1 ≤ 999) := by omega
        clear hq12 cq13 tq11
        refine g_bipush X (-2) dX7_core_22 (by decide) ?_
        exact g_iret X dX7_core_24 ⟨_, _, rfl, (show ((-2) : Int32).toInt = (-2) by decide), trivial, rfl⟩
    · refine g_iconst X (-1) dX7_core_13 (by decide) ?_
      exact g_iret X dX7_core_14 ⟨_, _, rfl, (show ((-1) : Int32).toInt = (-1) by decide), trivial, rfl⟩
set_option maxHeartbeats 4000000 in
set_option maxRecDepth 4000 in
theorem c_X7_isForged (ad : Nat → Nat) (Mq : Mem) (x1 : Int32) {a1 : Int} (t1 : x1.toInt = a1) (x2 : Int32) {a2 : Int} (t2 : x2.toInt = a2) (x3 : Int32) {a3 : Int} (t3 : x3.toInt = a3) (x4 : Int32) {a4 : Int} (t4 : x4.toInt = a4) (Iq0 : Iv TM Mq) (h1 : 0 ≤ a1 ∧ a1 < (Mq.1 47 52).toInt) (h4 : a4 ≤ 200) : Ctr ad yX7_isForged cX7_isForged 7 (some .boolean) 3 [.ref (ad 47), .int x1, .int x2, .int x3, .int x4] Mq (fun v M' => ∃ (r : Int32) (a : Int), v = some (.int r) ∧ r.toInt = a ∧ (a = 0 ∨ a = 1) ∧ Mq = M') := by
  refine ctr_of (L := [(0, .ref (ad 47)), (1, .int x1), (2, .int x2), (3, .int x3), (4, .int x4)]) (by decide) (Nat.le_of_ble_eq_true rfl) rfl ?_
  intro Γ X
  have X : gX Γ cX7_isForged RX7 7 (some .boolean) 3 ad _ := X
  have g11 := ig_47_11 Iq0
  have g12 := ig_47_12 Iq0
  have g14 := ig_47_14 Iq0
  have g32 := ig_47_32 Iq0
  have g43 := ig_47_43 Iq0
  have g44 := ig_47_44 Iq0
  have g52 := ig_47_52 Iq0
  have g53 := ig_47_53 Iq0
  have g59 := ig_47_59 Iq0
  refine g_aload_n X 0 rfl dX7_isForged_0 ?_
  refine g_iload_n X 1 rfl dX7_isForged_1 ?_
  refine g_iload_n X 2 rfl dX7_isForged_2 ?_
  refine g_iload_n X 3 rfl dX7_isForged_3 ?_
  refine g_iload X 4 rfl dX7_isForged_4 ?_
  refine g_callV X m_X7_322 (c_X7_hasLine ad Mq x1 t1 x2 t2 x3 t3 x4 t4 Iq0 (by omega)) rfl (by decide) (Nat.le_of_ble_eq_true rfl) rfl dX7_isForged_6 ?_
  rintro _ _ ⟨rq1, aq2, rfl, tq3, hq4, rfl⟩
  show G Γ Mq 9 [(0, .ref (ad 47)), (1, .int x1), (2, .int x2), (3, .int x3), (4, .int x4)] [.int rq1]
  refine g_if_eq X tq3 (tgt := 14) dX7_isForged_9 (by decide) (fun cq5 => ?_) (fun cq5 => ?_)
  · refine g_iconst X 0 dX7_isForged_14 (by decide) ?_
    refine g_istore X [(5, .int 0), (0, .ref (ad 47)), (1, .int x1), (2, .int x2), (3, .int x3), (4, .int x4)] dX7_isForged_15 (by decide) rfl ?_
    have lp17 : ∀ n : Nat, ∀ (y5_17 : Int32) (b5_17 : Int), y5_17.toInt = b5_17 → (0 ≤ b5_17) → ((Mq.1 47 52).toInt - b5_17).toNat < n → G Γ Mq 17 [(5, .int y5_17), (0, .ref (ad 47)), (1, .int x1), (2, .int x2), (3, .int x3), (4, .int x4)] [] := by
      intro n
      induction n with
      | zero => intro y5_17 b5_17 e5_17 i1 hm; exact absurd hm (Nat.not_lt_zero _)
      | succ n ih17 =>
        intro y5_17 b5_17 e5_17 i1 hm17
        refine g_iload X 0 rfl dX7_isForged_17 ?_
        refine g_aload_n X 1 rfl dX7_isForged_19 ?_
        refine g_geti X f_X7_313 dX7_isForged_20 (x := Mq.1 47 52) rfl ?_
        have bq6 := ig_47_52 Iq0
        refine g_icmp_ge X e5_17 rfl (tgt := 85) dX7_isForged_23 (by decide) (fun cq7 => ?_) (fun cq7 => ?_)
        · refine g_iconst X 1 dX7_isForged_85 (by decide) ?_
          exact g_zret X (b01 (show (1 : Int32).toInt = 1 by decide) (by omega)) dX7_isForged_86 ⟨_, _, rfl, (show (1 : Int32).toInt = 1 by decide), (by omega), rfl⟩
        · refine g_aload_n X 1 rfl dX7_isForged_26 ?_
          refine g_iload_n X 2 rfl dX7_isForged_27 ?_
          refine g_iload_n X 4 rfl dX7_isForged_28 ?_
          refine g_iload X 5 rfl dX7_isForged_29 ?_
          refine g_callV X m_X7_336 (c_X7_masterOf ad Mq x1 t1 x3 t3 x4 t4 Iq0 (by omega) (by omega)) rfl (by decide) (Nat.le_of_ble_eq_true rfl) rfl dX7_isForged_31 ?_
          rintro _ _ ⟨rq8, aq9, rfl, tq10, hq11, rfl⟩
          show G Γ Mq 34 [(5, .int y5_17), (0, .ref (ad 47)), (1, .int x1), (2, .int x2), (3, .int x3), (4, .int x4)] [.int rq8]
          refine g_iload X 0 rfl dX7_isForged_34 ?_
          refine g_icmp_eq X tq10 e5_17 (tgt := 52) dX7_isForged_36 (by decide) (fun cq12 => ?_) (fun cq12 => ?_)
          · refine g_iconst X 1 dX7_isForged_52 (by decide) ?_
            refine g_goto X (tgt := 57) dX7_isForged_53 (by decide) ?_
            refine g_istore X [(6, .int 1), (5, .int y5_17), (0, .ref (ad 47)), (1, .int x1), (2, .int x2), (3, .int x3), (4, .int x4)] dX7_isForged_57 (by decide) rfl ?_
            refine g_iload X 0 rfl dX7_isForged_59 ?_
            refine g_if_eq X (show (1 : Int32).toInt = 1 by decide) (tgt := 79) dX7_isForged_61 (by decide) (fun cq13 => ?_) (fun cq13 => ?_)
            · refine g_iinc X 1 (fun v => [(5, .int v), (6, .int 1), (0, .ref (ad 47)), (1, .int x1), (2, .int x2), (3, .int x3), (4, .int x4)]) dX7_isForged_79 rfl (by decide) (fun _ => rfl) (fun zq14 eq15 => ?_)
              have tq16 : zq14.toInt = b5_17 + 1 := add_nw eq15 e5_17 (show (Int32.ofInt 1).toInt = 1 by decide) (by omega)
              refine g_goto X (tgt := 17) dX7_isForged_82 (by decide) ?_
              refine g_sub [0, 2, 3, 4, 5, 6] rfl ?_
              exact ih17 zq14 _ tq16 (by omega) (by omega)
            · refine g_aload_n X 2 rfl dX7_isForged_64 ?_
              refine g_iload X 1 rfl dX7_isForged_65 ?_
              refine g_iload_n X 4 rfl dX7_isForged_67 ?_
              refine g_iload_n X 5 rfl dX7_isForged_68 ?_
              refine g_iload X 6 rfl dX7_isForged_69 ?_
              refine g_callV X m_X7_322 (c_X7_hasLine ad Mq y5_17 e5_17 x2 t2 x3 t3 x4 t4 Iq0 (by omega)) rfl (by decide) (Nat.le_of_ble_eq_true rfl) rfl dX7_isForged_71 ?_
              rintro _ _ ⟨rq17, aq18, rfl, tq19, hq20, rfl⟩
              show G Γ Mq 74 [(6, .int 1), (5, .int y5_17), (0, .ref (ad 47)), (1, .int x1), (2, .int x2), (3, .int x3), (4, .int x4)] [.int rq17]
              refine g_if_eq X tq19 (tgt := 79) dX7_isForged_74 (by decide) (fun cq21 => ?_) (fun cq21 => ?_)
              · refine g_iinc X 1 (fun v => [(5, .int v), (6, .int 1), (0, .ref (ad 47)), (1, .int x1), (2, .int x2), (3, .int x3), (4, .int x4)]) dX7_isForged_79 rfl (by decide) (fun _ => rfl) (fun zq22 eq23 => ?_)
                have tq24 : zq22.toInt = b5_17 + 1 := add_nw eq23 e5_17 (show (Int32.ofInt 1).toInt = 1 by decide) (by omega)
                refine g_goto X (tgt := 17) dX7_isForged_82 (by decide) ?_
                refine g_sub [0, 2, 3, 4, 5, 6] rfl ?_
                exact ih17 zq22 _ tq24 (by omega) (by omega)
              · refine g_iconst X 0 dX7_isForged_77 (by decide) ?_
                exact g_zret X (b01 (show (0 : Int32).toInt = 0 by decide) (by omega)) dX7_isForged_78 ⟨_, _, rfl, (show (0 : Int32).toInt = 0 by decide), (by omega), rfl⟩
          · refine g_aload_n X 1 rfl dX7_isForged_39 ?_
            refine g_iload X 0 rfl dX7_isForged_40 ?_
            refine g_iload_n X 4 rfl dX7_isForged_42 ?_
            refine g_iload X 5 rfl dX7_isForged_43 ?_
            refine g_callV X m_X7_336 (c_X7_masterOf ad Mq y5_17 e5_17 x3 t3 x4 t4 Iq0 (by omega) (by omega)) rfl (by decide) (Nat.le_of_ble_eq_true rfl) rfl dX7_isForged_45 ?_
            rintro _ _ ⟨rq25, aq26, rfl, tq27, hq28, rfl⟩
            show G Γ Mq 48 [(5, .int y5_17), (0, .ref (ad 47)), (1, .int x1), (2, .int x2), (3, .int x3), (4, .int x4)] [.int rq25]
            refine g_iload_n X 2 rfl dX7_isForged_48 ?_
            refine g_icmp_ne X tq27 t1 (tgt := 56) dX7_isForged_49 (by decide) (fun cq29 => ?_) (fun cq29 => ?_)
            · refine g_iconst X 0 dX7_isForged_56 (by decide) ?_
              refine g_istore X [(6, .int 0), (5, .int y5_17), (0, .ref (ad 47)), (1, .int x1), (2, .int x2), (3, .int x3), (4, .int x4)] dX7_isForged_57 (by decide) rfl ?_
              refine g_iload X 0 rfl dX7_isForged_59 ?_
              refine g_if_eq X (show (0 : Int32).toInt = 0 by decide) (tgt := 79) dX7_isForged_61 (by decide) (fun cq30 => ?_) (fun cq30 => ?_)
              · refine g_iinc X 1 (fun v => [(5, .int v), (6, .int 0), (0, .ref (ad 47)), (1, .int x1), (2, .int x2), (3, .int x3), (4, .int x4)]) dX7_isForged_79 rfl (by decide) (fun _ => rfl) (fun zq31 eq32 => ?_)
                have tq33 : zq31.toInt = b5_17 + 1 := add_nw eq32 e5_17 (show (Int32.ofInt 1).toInt = 1 by decide) (by omega)
                refine g_goto X (tgt := 17) dX7_isForged_82 (by decide) ?_
                refine g_sub [0, 2, 3, 4, 5, 6] rfl ?_
                exact ih17 zq31 _ tq33 (by omega) (by omega)
              · refine g_aload_n X 2 rfl dX7_isForged_64 ?_
                refine g_iload X 1 rfl dX7_isForged_65 ?_
                refine g_iload_n X 4 rfl dX7_isForged_67 ?_
                refine g_iload_n X 5 rfl dX7_isForged_68 ?_
                refine g_iload X 6 rfl dX7_isForged_69 ?_
                refine g_callV X m_X7_322 (c_X7_hasLine ad Mq y5_17 e5_17 x2 t2 x3 t3 x4 t4 Iq0 (by omega)) rfl (by decide) (Nat.le_of_ble_eq_true rfl) rfl dX7_isForged_71 ?_
                rintro _ _ ⟨rq34, aq35, rfl, tq36, hq37, rfl⟩
                show G Γ Mq 74 [(6, .int 0), (5, .int y5_17), (0, .ref (ad 47)), (1, .int x1), (2, .int x2), (3, .int x3), (4, .int x4)] [.int rq34]
                refine g_if_eq X tq36 (tgt := 79) dX7_isForged_74 (by decide) (fun cq38 => ?_) (fun cq38 => ?_)
                · refine g_iinc X 1 (fun v => [(5, .int v), (6, .int 0), (0, .ref (ad 47)), (1, .int x1), (2, .int x2), (3, .int x3), (4, .int x4)]) dX7_isForged_79 rfl (by decide) (fun _ => rfl) (fun zq39 eq40 => ?_)
                  have tq41 : zq39.toInt = b5_17 + 1 := add_nw eq40 e5_17 (show (Int32.ofInt 1).toInt = 1 by decide) (by omega)
                  refine g_goto X (tgt := 17) dX7_isForged_82 (by decide) ?_
                  refine g_sub [0, 2, 3, 4, 5, 6] rfl ?_
                  exact ih17 zq39 _ tq41 (by omega) (by omega)
                · refine g_iconst X 0 dX7_isForged_77 (by decide) ?_
                  exact g_zret X (b01 (show (0 : Int32).toInt = 0 by decide) (by omega)) dX7_isForged_78 ⟨_, _, rfl, (show (0 : Int32).toInt = 0 by decide), (by omega), rfl⟩
            · refine g_iconst X 1 dX7_isForged_52 (by decide) ?_
              refine g_goto X (tgt := 57) dX7_isForged_53 (by decide) ?_
              refine g_istore X [(6, .int 1), (5, .int y5_17), (0, .ref (ad 47)), (1, .int x1), (2, .int x2), (3, .int x3), (4, .int x4)] dX7_isForged_57 (by decide) rfl ?_
              refine g_iload X 0 rfl dX7_isForged_59 ?_
              refine g_if_eq X (show (1 : Int32).toInt = 1 by decide) (tgt := 79) dX7_isForged_61 (by decide) (fun cq42 => ?_) (fun cq42 => ?_)
              · refine g_iinc X 1 (fun v => [(5, .int v), (6, .int 1), (0, .ref (ad 47)), (1, .int x1), (2, .int x2), (3, .int x3), (4, .int x4)]) dX7_isForged_79 rfl (by decide) (fun _ => rfl) (fun zq43 eq44 => ?_)
                have tq45 : zq43.toInt = b5_17 + 1 := add_nw eq44 e5_17 (show (Int32.ofInt 1).toInt = 1 by decide) (by omega)
                refine g_goto X (tgt := 17) dX7_isForged_82 (by decide) ?_
                refine g_sub [0, 2, 3, 4, 5, 6] rfl ?_
                exact ih17 zq43 _ tq45 (by omega) (by omega)
              · refine g_aload_n X 2 rfl dX7_isForged_64 ?_
                refine g_iload X 1 rfl dX7_isForged_65 ?_
                refine g_iload_n X 4 rfl dX7_isForged_67 ?_
                refine g_iload_n X 5 rfl dX7_isForged_68 ?_
                refine g_iload X 6 rfl dX7_isForged_69 ?_
                refine g_callV X m_X7_322 (c_X7_hasLine ad Mq y5_17 e5_17 x2 t2 x3 t3 x4 t4 Iq0 (by omega)) rfl (by decide) (Nat.le_of_ble_eq_true rfl) rfl dX7_isForged_71 ?_
                rintro _ _ ⟨rq46, aq47, rfl, tq48, hq49, rfl⟩
                show G Γ Mq 74 [(6, .int 1), (5, .int y5_17), (0, .ref (ad 47)), (1, .int x1), (2, .int x2), (3, .int x3), (4, .int x4)] [.int rq46]
                refine g_if_eq X tq48 (tgt := 79) dX7_isForged_74 (by decide) (fun cq50 => ?_) (fun cq50 => ?_)
                · refine g_iinc X 1 (fun v => [(5, .int v), (6, .int 1), (0, .ref (ad 47)), (1, .int x1), (2, .int x2), (3, .int x3), (4, .int x4)]) dX7_isForged_79 rfl (by decide) (fun _ => rfl) (fun zq51 eq52 => ?_)
                  have tq53 : zq51.toInt = b5_17 + 1 := add_nw eq52 e5_17 (show (Int32.ofInt 1).toInt = 1 by decide) (by omega)
                  refine g_goto X (tgt := 17) dX7_isForged_82 (by decide) ?_
                  refine g_sub [0, 2, 3, 4, 5, 6] rfl ?_
                  exact ih17 zq51 _ tq53 (by omega) (by omega)
                · refine g_iconst X 0 dX7_isForged_77 (by decide) ?_
                  exact g_zret X (b01 (show (0 : Int32).toInt = 0 by decide) (by omega)) dX7_isForged_78 ⟨_, _, rfl, (show (0 : Int32).toInt = 0 by decide), (by omega), rfl⟩
    refine g_sub [0, 1, 2, 3, 4, 5] rfl ?_
    exact lp17 _ 0 _ (show (0 : Int32).toInt = 0 by decide) (by omega) (Nat.lt_succ_self _)
  · refine g_iconst X 0 dX7_isForged_12 (by decide) ?_
    exact g_zret X (b01 (show (0 : Int32).toInt = 0 by decide) (by omega)) dX7_isForged_13 ⟨_, _, rfl, (show (0 : Int32).toInt = 0 by decide), (by omega), rfl⟩
set_option maxHeartbeats 4000000 in
set_option maxRecDepth 4000 in
theorem c_X7_forged (ad : Nat → Nat) (Mq : Mem) (x1 : Int32) {a1 : Int} (t1 : x1.toInt = a1) (x2 : Int32) {a2 : Int} (t2 : x2.toInt = a2) (x3 : Int32) {a3 : Int} (t3 : x3.toInt = a3) (Iq0 : Iv TM Mq) : Ctr ad yX7_forged cX7_forged 5 (some .int) 4 [.ref (ad 47), .int x1, .int x2, .int x3] Mq (fun v M' => ∃ (r : Int32) (a : Int), v = some (.int r) ∧ r.toInt = a ∧ (True) ∧ Mq = M') := by
  refine ctr_of (L := [(0, .ref (ad 47)), (1, .int x1), (2, .int x2), (3, .int x3)]) (by decide) (Nat.le_of_ble_eq_true rfl) rfl ?_
  intro Γ X
  have X : gX Γ cX7_forged RX7 5 (some .int) 4 ad _ := X
  have g11 := ig_47_11 Iq0
  have g12 := ig_47_12 Iq0
  have g14 := ig_47_14 Iq0
  have g32 := ig_47_32 Iq0
  have g43 := ig_47_43 Iq0
  have g44 := ig_47_44 Iq0
  have g52 := ig_47_52 Iq0
  have g53 := ig_47_53 Iq0
  have g59 := ig_47_59 Iq0
  refine g_aload_n X 0 rfl dX7_forged_0 ?_
  refine g_iload_n X 1 rfl dX7_forged_1 ?_
  refine g_callV X m_X7_260 (c_X7_isSinger ad Mq x1 t1) rfl (by decide) (Nat.le_of_ble_eq_true rfl) rfl dX7_forged_2 ?_
  rintro _ _ ⟨rq1, aq2, rfl, tq3, hq4, rfl⟩
  show G Γ Mq 5 [(0, .ref (ad 47)), (1, .int x1), (2, .int x2), (3, .int x3)] [.int rq1]
  refine g_if_eq X tq3 (tgt := 16) dX7_forged_5 (by decide) (fun cq5 => ?_) (fun cq5 => ?_)
  · have pq6 : ¬ (0 ≤ a1 ∧ a1 < ((Mq.1 47 52)).toInt) := by omega
    clear hq4 cq5 tq3
    refine g_iconst X (-1) dX7_forged_16 (by decide) ?_
    exact g_iret X dX7_forged_17 ⟨_, _, rfl, (show ((-1) : Int32).toInt = (-1) by decide), trivial, rfl⟩
  · have pq7 : (0 ≤ a1 ∧ a1 < ((Mq.1 47 52)).toInt) := by omega
    clear hq4 cq5 tq3
    refine g_aload_n X 0 rfl dX7_forged_8 ?_
    refine g_iload_n X 3 rfl dX7_forged_9 ?_
    refine g_callV X m_X7_326 (c_X7_isKnown ad Mq x3 t3) rfl (by decide) (Nat.le_of_ble_eq_true rfl) rfl dX7_forged_10 ?_
    rintro _ _ ⟨rq8, aq9, rfl, tq10, hq11, rfl⟩
    show G Γ Mq 13 [(0, .ref (ad 47)), (1, .int x1), (2, .int x2), (3, .int x3)] [.int rq8]
    refine g_if_ne X tq10 (tgt := 18) dX7_forged_13 (by decide) (fun cq12 => ?_) (fun cq12 => ?_)
    · have pq13 : (-1 ≤ a3 ∧ a3 ≤ ((Mq.1 47 53)).toInt) := by omega
      clear hq11 cq12 tq10
      refine g_iload_n X 2 rfl dX7_forged_18 ?_
      refine g_callS X m_X7_263 (c_X7_isYear ad Mq x2 t2) rfl (by decide) (Nat.le_of_ble_eq_true rfl) rfl dX7_forged_19 ?_
      rintro _ _ ⟨rq14, aq15, rfl, tq16, hq17, rfl⟩
      show G Γ Mq 22 [(0, .ref (ad 47)), (1, .int x1), (2, .int x2), (3, .int x3)] [.int rq14]
      refine g_if_ne X tq16 (tgt := 28) dX7_forged_22 (by decide) (fun cq18 => ?_) (fun cq18 => ?_)
      · have pq19 : (0 ≤ a2 ∧ a2 ≤ 999) := by omega
        clear hq17 cq18 tq16
        refine g_aload_n X 0 rfl dX7_forged_28 ?_
        refine g_geti X f_X7_339 dX7_forged_29 (x := Mq.1 47 43) rfl ?_
        have bq20 := ig_47_43 Iq0
        refine g_if_ne X rfl (tgt := 38) dX7_forged_32 (by decide) (fun cq21 => ?_) (fun cq21 => ?_)
        · refine g_iconst X 0 dX7_forged_38 (by decide) ?_
          refine g_istore X [(4, .int 0), (0, .ref (ad 47)), (1, .int x1), (2, .int x2), (3, .int x3)] dX7_forged_39 (by decide) rfl ?_
          have lp41 : ∀ n : Nat, ∀ (y4_41 : Int32) (b4_41 : Int), y4_41.toInt = b4_41 → (0 ≤ b4_41) → ((Mq.1 47 43).toInt - b4_41).toNat < n → G Γ Mq 41 [(4, .int y4_41), (0, .ref (ad 47)), (1, .int x1), (2, .int x2), (3, .int x3)] [] := by
            intro n
            induction n with
            | zero => intro y4_41 b4_41 e4_41 i1 hm; exact absurd hm (Nat.not_lt_zero _)
            | succ n ih41 =>
              intro y4_41 b4_41 e4_41 i1 hm41
              refine g_iload X 0 rfl dX7_forged_41 ?_
              refine g_aload_n X 1 rfl dX7_forged_43 ?_
              refine g_geti X f_X7_339 dX7_forged_44 (x := Mq.1 47 43) rfl ?_
              have bq22 := ig_47_43 Iq0
              refine g_icmp_ge X e4_41 rfl (tgt := 92) dX7_forged_47 (by decide) (fun cq23 => ?_) (fun cq23 => ?_)
              · refine g_bipush X (-5) dX7_forged_92 (by decide) ?_
                exact g_iret X dX7_forged_94 ⟨_, _, rfl, (show ((-5) : Int32).toInt = (-5) by decide), trivial, rfl⟩
              · refine g_aload_n X 1 rfl dX7_forged_50 ?_
                refine g_getr X f_X7_101 dX7_forged_51 ?_
                refine g_iload X 0 rfl dX7_forged_54 ?_
                refine g_iald X la_77 e4_41 dX7_forged_56 (by omega) (x := Mq.1 77 b4_41.toNat) rfl ?_
                have bq24 := ig_77 Iq0 b4_41.toNat (by omega)
                refine g_bipush X 40 dX7_forged_57 (by decide) ?_
                refine g_icmp_eq X rfl (show (40 : Int32).toInt = 40 by decide) (tgt := 86) dX7_forged_59 (by decide) (fun cq25 => ?_) (fun cq25 => ?_)
                · refine g_iinc X 0 (fun v => [(4, .int v), (0, .ref (ad 47)), (1, .int x1), (2, .int x2), (3, .int x3)]) dX7_forged_86 rfl (by decide) (fun _ => rfl) (fun zq26 eq27 => ?_)
                  have tq28 : zq26.toInt = b4_41 + 1 := add_nw eq27 e4_41 (show (Int32.ofInt 1).toInt = 1 by decide) (by omega)
                  refine g_goto X (tgt := 41) dX7_forged_89 (by decide) ?_
                  refine g_sub [0, 1, 2, 3, 4] rfl ?_
                  exact ih41 zq26 _ tq28 (by omega) (by omega)
                · refine g_aload_n X 1 rfl dX7_forged_62 ?_
                  refine g_iload_n X 2 rfl dX7_forged_63 ?_
                  refine g_aload_n X 1 rfl dX7_forged_64 ?_
                  refine g_getr X f_X7_101 dX7_forged_65 ?_
                  refine g_iload X 0 rfl dX7_forged_68 ?_
                  refine g_iald X la_77 e4_41 dX7_forged_70 (by omega) (x := Mq.1 77 b4_41.toNat) rfl ?_
                  have bq29 := ig_77 Iq0 b4_41.toNat (by omega)
                  refine g_iload_n X 3 rfl dX7_forged_71 ?_
                  refine g_aload_n X 1 rfl dX7_forged_72 ?_
                  refine g_iload_n X 4 rfl dX7_forged_73 ?_
                  refine g_callV X m_X7_329 (c_X7_upTo ad Mq x3 t3) rfl (by decide) (Nat.le_of_ble_eq_true rfl) rfl dX7_forged_74 ?_
                  rintro _ _ ⟨rq30, aq31, rfl, tq32, hq33, rfl⟩
                  show G Γ Mq 77 [(4, .int y4_41), (0, .ref (ad 47)), (1, .int x1), (2, .int x2), (3, .int x3)] [.int rq30, .int x2, .int (Mq.1 77 b4_41.toNat), .int x1, .ref (ad 47)]
                  refine g_callV X m_X7_349 (c_X7_isForged ad Mq x1 t1 (Mq.1 77 b4_41.toNat) rfl x2 t2 rq30 tq32 Iq0 (by omega) (by omega)) rfl (by decide) (Nat.le_of_ble_eq_true rfl) rfl dX7_forged_77 ?_
                  rintro _ _ ⟨rq34, aq35, rfl, tq36, hq37, rfl⟩
                  show G Γ Mq 80 [(4, .int y4_41), (0, .ref (ad 47)), (1, .int x1), (2, .int x2), (3, .int x3)] [.int rq34]
                  refine g_if_eq X tq36 (tgt := 86) dX7_forged_80 (by decide) (fun cq38 => ?_) (fun cq38 => ?_)
                  · refine g_iinc X 0 (fun v => [(4, .int v), (0, .ref (ad 47)), (1, .int x1), (2, .int x2), (3, .int x3)]) dX7_forged_86 rfl (by decide) (fun _ => rfl) (fun zq39 eq40 => ?_)
                    have tq41 : zq39.toInt = b4_41 + 1 := add_nw eq40 e4_41 (show (Int32.ofInt 1).toInt = 1 by decide) (by omega)
                    refine g_goto X (tgt := 41) dX7_forged_89 (by decide) ?_
                    refine g_sub [0, 1, 2, 3, 4] rfl ?_
                    exact ih41 zq39 _ tq41 (by omega) (by omega)
                  · refine g_iload X 0 rfl dX7_forged_83 ?_
                    exact g_iret X dX7_forged_85 ⟨_, _, rfl, e4_41, trivial, rfl⟩
          refine g_sub [0, 1, 2, 3, 4] rfl ?_
          exact lp41 _ 0 _ (show (0 : Int32).toInt = 0 by decide) (by omega) (Nat.lt_succ_self _)
        · refine g_bipush X (-3) dX7_forged_35 (by decide) ?_
          exact g_iret X dX7_forged_37 ⟨_, _, rfl, (show ((-3) : Int32).toInt = (-3) by decide), trivial, rfl⟩
      · have pq42 : ¬ (0 ≤ a2 ∧ a2 ≤ 999) := by omega
        clear hq17 cq18 tq16
        refine g_bipush X (-2) dX7_forged_25 (by decide) ?_
        exact g_iret X dX7_forged_27 ⟨_, _, rfl, (show ((-2) : Int32).toInt = (-2) by decide), trivial, rfl⟩
    · have pq43 : ¬ (-1 ≤ a3 ∧ a3 ≤ ((Mq.1 47 53)).toInt) := by omega
      clear hq11 cq12 tq10
      refine g_iconst X (-1) dX7_forged_16 (by decide) ?_
      exact g_iret X dX7_forged_17 ⟨_, _, rfl, (show ((-1) : Int32).toInt = (-1) by decide), trivial, rfl⟩
abbrev W_X7_record : List (Nat × Nat) := [(47, 59), (86, 99), (87, 99), (88, 99), (89, 99), (90, 99)]
set_option maxHeartbeats 4000000 in
set_option maxRecDepth 4000 in
theorem c_X7_record (ad : Nat → Nat) (Mq : Mem) (x1 : Int32) {a1 : Int} (t1 : x1.toInt = a1) (x2 : Int32) {a2 : Int} (t2 : x2.toInt = a2) (x3 : Int32) {a3 : Int} (t3 : x3.toInt = a3) (Iq0 : Iv TM Mq) : Ctr ad yX7_record cX7_record 5 (some .int) 2 [.ref (ad 47), .int x1, .int x2, .int x3] Mq (fun v M' => ∃ (r : Int32) (a : Int), v = some (.int r) ∧ r.toInt = a ∧ (True) ∧ Iv TM M' ∧ Fr W_X7_record Mq M') := by
  refine ctr_of (L := [(0, .ref (ad 47)), (1, .int x1), (2, .int x2), (3, .int x3)]) (by decide) (Nat.le_of_ble_eq_true rfl) rfl ?_
  intro Γ X
  have X : gX Γ cX7_record RX7 5 (some .int) 2 ad _ := X
  have frq0 : Fr W_X7_record Mq Mq := Fr.rf
  have g11 := ig_47_11 Iq0
  have g12 := ig_47_12 Iq0
  have g14 := ig_47_14 Iq0
  have g32 := ig_47_32 Iq0
  have g43 := ig_47_43 Iq0
  have g44 := ig_47_44 Iq0
  have g52 := ig_47_52 Iq0
  have g53 := ig_47_53 Iq0
  have g59 := ig_47_59 Iq0
  refine g_aload_n X 0 rfl dX7_record_0 ?_
  refine g_iload_n X 1 rfl dX7_record_1 ?_
  refine g_callV X m_X7_260 (c_X7_isSinger ad Mq x1 t1) rfl (by decide) (Nat.le_of_ble_eq_true rfl) rfl dX7_record_2 ?_
  rintro _ _ ⟨rq1, aq2, rfl, tq3, hq4, rfl⟩
  show G Γ Mq 5 [(0, .ref (ad 47)), (1, .int x1), (2, .int x2), (3, .int x3)] [.int rq1]
  refine g_if_eq X tq3 (tgt := 16) dX7_record_5 (by decide) (fun cq5 => ?_) (fun cq5 => ?_)
  · have pq6 : ¬ (0 ≤ a1 ∧ a1 < ((Mq.1 47 52)).toInt) := by omega
    clear hq4 cq5 tq3
    refine g_iconst X (-1) dX7_record_16 (by decide) ?_
    exact g_iret X dX7_record_17 ⟨_, _, rfl, (show ((-1) : Int32).toInt = (-1) by decide), trivial, Iq0, frq0⟩
  · have pq7 : (0 ≤ a1 ∧ a1 < ((Mq.1 47 52)).toInt) := by omega
    clear hq4 cq5 tq3
    refine g_aload_n X 0 rfl dX7_record_8 ?_
    refine g_iload_n X 2 rfl dX7_record_9 ?_
    refine g_callV X m_X7_220 (c_X7_isTold ad Mq x2 t2) rfl (by decide) (Nat.le_of_ble_eq_true rfl) rfl dX7_record_10 ?_
    rintro _ _ ⟨rq8, aq9, rfl, tq10, hq11, rfl⟩
    show G Γ Mq 13 [(0, .ref (ad 47)), (1, .int x1), (2, .int x2), (3, .int x3)] [.int rq8]
    refine g_if_ne X tq10 (tgt := 18) dX7_record_13 (by decide) (fun cq12 => ?_) (fun cq12 => ?_)
    · have pq13 : (0 ≤ a2 ∧ a2 ≤ 7 ∧ 0 < (Mq.1 63 a2.toNat).toInt) := by omega
      clear hq11 cq12 tq10
      refine g_iload_n X 3 rfl dX7_record_18 ?_
      refine g_callS X m_X7_263 (c_X7_isYear ad Mq x3 t3) rfl (by decide) (Nat.le_of_ble_eq_true rfl) rfl dX7_record_19 ?_
      rintro _ _ ⟨rq14, aq15, rfl, tq16, hq17, rfl⟩
      show G Γ Mq 22 [(0, .ref (ad 47)), (1, .int x1), (2, .int x2), (3, .int x3)] [.int rq14]
      refine g_if_ne X tq16 (tgt := 28) dX7_record_22 (by decide) (fun cq18 => ?_) (fun cq18 => ?_)
      · have pq19 : (0 ≤ a3 ∧ a3 ≤ 999) := by omega
        clear hq17 cq18 tq16
        refine g_aload_n X 0 rfl dX7_record_28 ?_
        refine g_geti X f_X7_339 dX7_record_29 (x := Mq.1 47 43) rfl ?_
        have bq20 := ig_47_43 Iq0
        refine g_if_ne X rfl (tgt := 38) dX7_record_32 (by decide) (fun cq21 => ?_) (fun cq21 => ?_)
        · refine g_aload_n X 0 rfl dX7_record_38 ?_
          refine g_geti X f_X7_352 dX7_record_39 (x := Mq.1 47 59) rfl ?_
          have bq22 := ig_47_59 Iq0
          refine g_bipush X 12 dX7_record_42 (by decide) ?_
          refine g_icmp_ne X rfl (show (12 : Int32).toInt = 12 by decide) (tgt := 50) dX7_record_44 (by decide) (fun cq23 => ?_) (fun cq23 => ?_)
          · refine g_aload_n X 0 rfl dX7_record_50 ?_
            refine g_getr X f_X7_129 dX7_record_51 ?_
            refine g_aload_n X 0 rfl dX7_record_54 ?_
            refine g_geti X f_X7_352 dX7_record_55 (x := Mq.1 47 59) rfl ?_
            have bq24 := ig_47_59 Iq0
            refine g_iload_n X 1 rfl dX7_record_58 ?_
            refine g_iast X la_86 rfl dX7_record_59 (by omega) ?_
            have Iq25 : Iv TM (ui Mq 86 (((Mq.1 47 59).toInt).toNat) x1) := Iq0.otherA rfl
            have frq26 : Fr W_X7_record Mq (ui Mq 86 (((Mq.1 47 59).toInt).toNat) x1) := frq0.ui rfl
            refine g_aload_n X 0 rfl dX7_record_60 ?_
            refine g_getr X f_X7_132 dX7_record_61 ?_
            refine g_aload_n X 0 rfl dX7_record_64 ?_
            refine g_geti X f_X7_352 dX7_record_65 (x := Mq.1 47 59) rfl ?_
            have bq27 := ig_47_59 Iq0
            refine g_iload_n X 2 rfl dX7_record_68 ?_
            refine g_iast X la_87 rfl dX7_record_69 (by omega) ?_
            have Iq28 : Iv TM (ui (ui Mq 86 (((Mq.1 47 59).toInt).toNat) x1) 87 (((Mq.1 47 59).toInt).toNat) x2) := Iq25.putA 0 7 t2 (by omega) rfl
            have frq29 : Fr W_X7_record Mq (ui (ui Mq 86 (((Mq.1 47 59).toInt).toNat) x1) 87 (((Mq.1 47 59).toInt).toNat) x2) := frq26.ui rfl
            refine g_aload_n X 0 rfl dX7_record_70 ?_
            refine g_getr X f_X7_135 dX7_record_71 ?_
            refine g_aload_n X 0 rfl dX7_record_74 ?_
            refine g_geti X f_X7_352 dX7_record_75 (x := Mq.1 47 59) rfl ?_
            have bq30 := ig_47_59 Iq0
            refine g_iload_n X 3 rfl dX7_record_78 ?_
            refine g_iast X la_88 rfl dX7_record_79 (by omega) ?_
            have Iq31 : Iv TM (ui (ui (ui Mq 86 (((Mq.1 47 59).toInt).toNat) x1) 87 (((Mq.1 47 59).toInt).toNat) x2) 88 (((Mq.1 47 59).toInt).toNat) x3) := Iq28.otherA rfl
            have frq32 : Fr W_X7_record Mq (ui (ui (ui Mq 86 (((Mq.1 47 59).toInt).toNat) x1) 87 (((Mq.1 47 59).toInt).toNat) x2) 88 (((Mq.1 47 59).toInt).toNat) x3) := frq29.ui rfl
            refine g_aload_n X 0 rfl dX7_record_80 ?_
            refine g_getr X f_X7_138 dX7_record_81 ?_
            refine g_aload_n X 0 rfl dX7_record_84 ?_
            refine g_geti X f_X7_352 dX7_record_85 (x := Mq.1 47 59) rfl ?_
            have bq33 := ig_47_59 Iq0
            refine g_aload_n X 0 rfl dX7_record_88 ?_
            refine g_geti X f_X7_339 dX7_record_89 (x := Mq.1 47 43) rfl ?_
            have bq34 := ig_47_43 Iq0
            refine g_iast X la_89 rfl dX7_record_92 (by omega) ?_
            have Iq35 : Iv TM (ui (ui (ui (ui Mq 86 (((Mq.1 47 59).toInt).toNat) x1) 87 (((Mq.1 47 59).toInt).toNat) x2) 88 (((Mq.1 47 59).toInt).toNat) x3) 89 (((Mq.1 47 59).toInt).toNat) (Mq.1 47 43)) := Iq31.putA 0 24 rfl (by omega) rfl
            have frq36 : Fr W_X7_record Mq (ui (ui (ui (ui Mq 86 (((Mq.1 47 59).toInt).toNat) x1) 87 (((Mq.1 47 59).toInt).toNat) x2) 88 (((Mq.1 47 59).toInt).toNat) x3) 89 (((Mq.1 47 59).toInt).toNat) (Mq.1 47 43)) := frq32.ui rfl
            refine g_iconst X 0 dX7_record_93 (by decide) ?_
            refine g_istore X [(4, .int 0), (0, .ref (ad 47)), (1, .int x1), (2, .int x2), (3, .int x3)] dX7_record_94 (by decide) rfl ?_
            have lp96 : ∀ n : Nat, ∀ (y4_96 : Int32) (b4_96 : Int), y4_96.toInt = b4_96 → ∀ (M_96 : Mem), (0 ≤ b4_96) → ((M_96.1 47 59).toInt = (Mq.1 47 59).toInt) → (Iv TM M_96) → (Fr W_X7_record Mq M_96) → ((Mq.1 47 43).toInt - b4_96).toNat < n → G Γ M_96 96 [(4, .int y4_96), (0, .ref (ad 47)), (1, .int x1), (2, .int x2), (3, .int x3)] [] := by
              intro n
              induction n with
              | zero => intro y4_96 b4_96 e4_96 M_96 i1 i2 I_96 fr_96 hm; exact absurd hm (Nat.not_lt_zero _)
              | succ n ih96 =>
                intro y4_96 b4_96 e4_96 M_96 i1 i2 I_96 fr_96 hm96
                have trq37 : (M_96.1 47 43).toInt = (Mq.1 47 43).toInt := congrArg Int32.toInt (fr_96.at 47 43 rfl)
                refine g_iload X 0 rfl dX7_record_96 ?_
                refine g_aload_n X 1 rfl dX7_record_98 ?_
                refine g_geti X f_X7_339 dX7_record_99 (x := M_96.1 47 43) rfl ?_
                have bq38 := ig_47_43 I_96
                refine g_icmp_ge X e4_96 rfl (tgt := 133) dX7_record_102 (by decide) (fun cq39 => ?_) (fun cq39 => ?_)
                · refine g_aload_n X 1 rfl dX7_record_133 ?_
                  refine g_dup X dX7_record_134 rfl ?_
                  refine g_geti X f_X7_352 dX7_record_135 (x := M_96.1 47 59) rfl ?_
                  have bq40 := ig_47_59 I_96
                  refine g_iconst X 1 dX7_record_138 (by decide) ?_
                  refine g_iadd X dX7_record_139 (fun zq41 eq42 => ?_)
                  have tq43 : zq41.toInt = ((M_96.1 47 59).toInt) + 1 := add_nw eq42 rfl (show (1 : Int32).toInt = 1 by decide) (by omega)
                  refine g_puti X p_X7_352 dX7_record_140 ?_
                  have Iq44 : Iv TM (ui M_96 47 59 zq41) := I_96.put 0 12 tq43 (by omega) rfl
                  have frq45 : Fr W_X7_record Mq (ui M_96 47 59 zq41) := fr_96.ui rfl
                  refine g_aload_n X 1 rfl dX7_record_143 ?_
                  refine g_geti X f_X7_352 dX7_record_144 (x := zq41) rfl ?_
                  refine g_iconst X 1 dX7_record_147 (by decide) ?_
                  refine g_isub X dX7_record_148 (fun zq46 eq47 => ?_)
                  have tq48 : zq46.toInt = (((M_96.1 47 59).toInt) + 1) - 1 := sub_nw eq47 tq43 (show (1 : Int32).toInt = 1 by decide) (by omega)
                  exact g_iret X dX7_record_149 ⟨_, _, rfl, tq48, trivial, Iq44, frq45⟩
                · refine g_aload_n X 1 rfl dX7_record_105 ?_
                  refine g_getr X f_X7_141 dX7_record_106 ?_
                  refine g_bipush X 24 dX7_record_109 (by decide) ?_
                  refine g_aload_n X 1 rfl dX7_record_111 ?_
                  refine g_geti X f_X7_352 dX7_record_112 (x := M_96.1 47 59) rfl ?_
                  have bq49 := ig_47_59 I_96
                  refine g_imul X dX7_record_115 (fun zq50 eq51 => ?_)
                  have tq52 : zq50.toInt = 24 * ((M_96.1 47 59).toInt) := mul_nw eq51 (show (24 : Int32).toInt = 24 by decide) rfl (by omega)
                  refine g_iload X 0 rfl dX7_record_116 ?_
                  refine g_iadd X dX7_record_118 (fun zq53 eq54 => ?_)
                  have tq55 : zq53.toInt = (24 * ((M_96.1 47 59).toInt)) + b4_96 := add_nw eq54 tq52 e4_96 (by omega)
                  refine g_aload_n X 1 rfl dX7_record_119 ?_
                  refine g_getr X f_X7_101 dX7_record_120 ?_
                  refine g_iload X 0 rfl dX7_record_123 ?_
                  refine g_iald X la_77 e4_96 dX7_record_125 (by omega) (x := M_96.1 77 b4_96.toNat) rfl ?_
                  have bq56 := ig_77 I_96 b4_96.toNat (by omega)
                  refine g_iast X la_90 tq55 dX7_record_126 (by omega) ?_
                  have Iq57 : Iv TM (ui M_96 90 (((24 * ((M_96.1 47 59).toInt)) + b4_96).toNat) (M_96.1 77 b4_96.toNat)) := I_96.putA 0 40 rfl (by omega) rfl
                  have frq58 : Fr W_X7_record Mq (ui M_96 90 (((24 * ((M_96.1 47 59).toInt)) + b4_96).toNat) (M_96.1 77 b4_96.toNat)) := fr_96.ui rfl
                  refine g_iinc X 0 (fun v => [(4, .int v), (0, .ref (ad 47)), (1, .int x1), (2, .int x2), (3, .int x3)]) dX7_record_127 rfl (by decide) (fun _ => rfl) (fun zq59 eq60 => ?_)
                  have tq61 : zq59.toInt = b4_96 + 1 := add_nw eq60 e4_96 (show (Int32.ofInt 1).toInt = 1 by decide) (by omega)
                  refine g_goto X (tgt := 96) dX7_record_130 (by decide) ?_
                  refine g_sub [0, 1, 2, 3, 4] rfl ?_
                  exact ih96 zq59 _ tq61 (ui M_96 90 (((24 * ((M_96.1 47 59).toInt)) + b4_96).toNat) (M_96.1 77 b4_96.toNat)) (by omega) i2 Iq57 frq58 (by omega)
            refine g_sub [0, 1, 2, 3, 4] rfl ?_
            exact lp96 _ 0 _ (show (0 : Int32).toInt = 0 by decide) (ui (ui (ui (ui Mq 86 (((Mq.1 47 59).toInt).toNat) x1) 87 (((Mq.1 47 59).toInt).toNat) x2) 88 (((Mq.1 47 59).toInt).toNat) x3) 89 (((Mq.1 47 59).toInt).toNat) (Mq.1 47 43)) (by omega) rfl Iq35 frq36 (Nat.lt_succ_self _)
          · refine g_bipush X (-4) dX7_record_47 (by decide) ?_
            exact g_iret X dX7_record_49 ⟨_, _, rfl, (show ((-4) : Int32).toInt = (-4) by decide), trivial, Iq0, frq0⟩
        · refine g_bipush X (-3) dX7_record_35 (by decide) ?_
          exact g_iret X dX7_record_37 ⟨_, _, rfl, (show ((-3) : Int32).toInt = (-3) by decide), trivial, Iq0, frq0⟩
      · have pq62 : ¬ (0 ≤ a3 ∧ a3 ≤ 999) := by omega
        clear hq17 cq18 tq16
        refine g_bipush X (-2) dX7_record_25 (by decide) ?_
        exact g_iret X dX7_record_27 ⟨_, _, rfl, (show ((-2) : Int32).toInt = (-2) by decide), trivial, Iq0, frq0⟩
    · have pq63 : ¬ (0 ≤ a2 ∧ a2 ≤ 7 ∧ 0 < (Mq.1 63 a2.toNat).toInt) := by omega
      clear hq11 cq12 tq10
      refine g_iconst X (-1) dX7_record_16 (by decide) ?_
      exact g_iret X dX7_record_17 ⟨_, _, rfl, (show ((-1) : Int32).toInt = (-1) by decide), trivial, Iq0, frq0⟩
abbrev W_X7_sees_77 : List (Nat × Nat) := [(47, 44), (78, 99)]
set_option maxHeartbeats 4000000 in
set_option maxRecDepth 4000 in
theorem c_X7_sees_77 (ad : Nat → Nat) (Mq : Mem) (x2 : Int32) {a2 : Int} (t2 : x2.toInt = a2) (x3 : Int32) {a3 : Int} (t3 : x3.toInt = a3) (Iq0 : Iv TM Mq) (h1 : 0 ≤ a2 ∧ a2 + a3 ≤ 24) (h2 : 0 ≤ a3 ∧ a3 ≤ 24) : Ctr ad yX7_sees cX7_sees 5 none 0 [.ref (ad 47), .ref (ad 77), .int x2, .int x3] Mq (fun v M' => v = none ∧ (True) ∧ Iv TM M' ∧ Fr W_X7_sees_77 Mq M') := by
  refine ctr_of (L := [(0, .ref (ad 47)), (1, .ref (ad 77)), (2, .int x2), (3, .int x3)]) (by decide) (Nat.le_of_ble_eq_true rfl) rfl ?_
  intro Γ X
  have X : gX Γ cX7_sees RX7 5 none 0 ad _ := X
  have frq0 : Fr W_X7_sees_77 Mq Mq := Fr.rf
  have g11 := ig_47_11 Iq0
  have g12 := ig_47_12 Iq0
  have g14 := ig_47_14 Iq0
  have g32 := ig_47_32 Iq0
  have g43 := ig_47_43 Iq0
  have g44 := ig_47_44 Iq0
  have g52 := ig_47_52 Iq0
  have g53 := ig_47_53 Iq0
  have g59 := ig_47_59 Iq0
  refine g_aload_n X 0 rfl dX7_sees_0 ?_
  refine g_iload_n X 3 rfl dX7_sees_1 ?_
  refine g_puti X p_X7_282 dX7_sees_2 ?_
  have Iq1 : Iv TM (ui Mq 47 44 x3) := Iq0.put 0 24 t3 (by omega) rfl
  have frq2 : Fr W_X7_sees_77 Mq (ui Mq 47 44 x3) := frq0.ui rfl
  refine g_iconst X 0 dX7_sees_5 (by decide) ?_
  refine g_istore X [(4, .int 0), (0, .ref (ad 47)), (1, .ref (ad 77)), (2, .int x2), (3, .int x3)] dX7_sees_6 (by decide) rfl ?_
  have lp8 : ∀ n : Nat, ∀ (y4_8 : Int32) (b4_8 : Int), y4_8.toInt = b4_8 → ∀ (M_8 : Mem), (0 ≤ b4_8) → (Iv TM M_8) → (Fr W_X7_sees_77 Mq M_8) → (a3 - b4_8).toNat < n → G Γ M_8 8 [(4, .int y4_8), (0, .ref (ad 47)), (1, .ref (ad 77)), (2, .int x2), (3, .int x3)] [] := by
    intro n
    induction n with
    | zero => intro y4_8 b4_8 e4_8 M_8 i1 I_8 fr_8 hm; exact absurd hm (Nat.not_lt_zero _)
    | succ n ih8 =>
      intro y4_8 b4_8 e4_8 M_8 i1 I_8 fr_8 hm8
      refine g_iload X 0 rfl dX7_sees_8 ?_
      refine g_iload_n X 4 rfl dX7_sees_10 ?_
      refine g_icmp_ge X e4_8 t3 (tgt := 33) dX7_sees_11 (by decide) (fun cq3 => ?_) (fun cq3 => ?_)
      · exact g_vret X dX7_sees_33 ⟨rfl, trivial, I_8, fr_8⟩
      · refine g_aload_n X 1 rfl dX7_sees_14 ?_
        refine g_getr X f_X7_104 dX7_sees_15 ?_
        refine g_iload X 0 rfl dX7_sees_18 ?_
        refine g_aload_n X 2 rfl dX7_sees_20 ?_
        refine g_iload_n X 3 rfl dX7_sees_21 ?_
        refine g_iload X 0 rfl dX7_sees_22 ?_
        refine g_iadd X dX7_sees_24 (fun zq4 eq5 => ?_)
        have tq6 : zq4.toInt = a2 + b4_8 := add_nw eq5 t2 e4_8 (by omega)
        refine g_iald X la_77 tq6 dX7_sees_25 (by omega) (x := M_8.1 77 ((a2 + b4_8).toNat)) rfl ?_
        have bq7 := ig_77 I_8 ((a2 + b4_8).toNat) (by omega)
        refine g_iast X la_78 e4_8 dX7_sees_26 (by omega) ?_
        have Iq8 : Iv TM (ui M_8 78 b4_8.toNat (M_8.1 77 ((a2 + b4_8).toNat))) := I_8.putA 0 40 rfl (by omega) rfl
        have frq9 : Fr W_X7_sees_77 Mq (ui M_8 78 b4_8.toNat (M_8.1 77 ((a2 + b4_8).toNat))) := fr_8.ui rfl
        refine g_iinc X 0 (fun v => [(4, .int v), (0, .ref (ad 47)), (1, .ref (ad 77)), (2, .int x2), (3, .int x3)]) dX7_sees_27 rfl (by decide) (fun _ => rfl) (fun zq10 eq11 => ?_)
        have tq12 : zq10.toInt = b4_8 + 1 := add_nw eq11 e4_8 (show (Int32.ofInt 1).toInt = 1 by decide) (by omega)
        refine g_goto X (tgt := 8) dX7_sees_30 (by decide) ?_
        refine g_sub [0, 1, 2, 3, 4] rfl ?_
        exact ih8 zq10 _ tq12 (ui M_8 78 b4_8.toNat (M_8.1 77 ((a2 + b4_8).toNat))) (by omega) Iq8 frq9 (by omega)
  refine g_sub [0, 1, 2, 3, 4] rfl ?_
  exact lp8 _ 0 _ (show (0 : Int32).toInt = 0 by decide) (ui Mq 47 44 x3) (by omega) Iq1 frq2 (Nat.lt_succ_self _)
abbrev W_X7_sees_90 : List (Nat × Nat) := [(47, 44), (78, 99)]
set_option maxHeartbeats 4000000 in
set_option maxRecDepth 4000 in
theorem c_X7_sees_90 (ad : Nat → Nat) (Mq : Mem) (x2 : Int32) {a2 : Int} (t2 : x2.toInt = a2) (x3 : Int32) {a3 : Int} (t3 : x3.toInt = a3) (Iq0 : Iv TM Mq) (h1 : 0 ≤ a2 ∧ a2 + a3 ≤ 288) (h2 : 0 ≤ a3 ∧ a3 ≤ 24) : Ctr ad yX7_sees cX7_sees 5 none 0 [.ref (ad 47), .ref (ad 90), .int x2, .int x3] Mq (fun v M' => v = none ∧ (True) ∧ Iv TM M' ∧ Fr W_X7_sees_90 Mq M') := by
  refine ctr_of (L := [(0, .ref (ad 47)), (1, .ref (ad 90)), (2, .int x2), (3, .int x3)]) (by decide) (Nat.le_of_ble_eq_true rfl) rfl ?_
  intro Γ X
  have X : gX Γ cX7_sees RX7 5 none 0 ad _ := X
  have frq0 : Fr W_X7_sees_90 Mq Mq := Fr.rf
  have g11 := ig_47_11 Iq0
  have g12 := ig_47_12 Iq0
  have g14 := ig_47_14 Iq0
  have g32 := ig_47_32 Iq0
  have g43 := ig_47_43 Iq0
  have g44 := ig_47_44 Iq0
  have g52 := ig_47_52 Iq0
  have g53 := ig_47_53 Iq0
  have g59 := ig_47_59 Iq0
  refine g_aload_n X 0 rfl dX7_sees_0 ?_
  refine g_iload_n X 3 rfl dX7_sees_1 ?_
  refine g_puti X p_X7_282 dX7_sees_2 ?_
  have Iq1 : Iv TM (ui Mq 47 44 x3) := Iq0.put 0 24 t3 (by omega) rfl
  have frq2 : Fr W_X7_sees_90 Mq (ui Mq 47 44 x3) := frq0.ui rfl
  refine g_iconst X 0 dX7_sees_5 (by decide) ?_
  refine g_istore X [(4, .int 0), (0, .ref (ad 47)), (1, .ref (ad 90)), (2, .int x2), (3, .int x3)] dX7_sees_6 (by decide) rfl ?_
  have lp8 : ∀ n : Nat, ∀ (y4_8 : Int32) (b4_8 : Int), y4_8.toInt = b4_8 → ∀ (M_8 : Mem), (0 ≤ b4_8) → (Iv TM M_8) → (Fr W_X7_sees_90 Mq M_8) → (a3 - b4_8).toNat < n → G Γ M_8 8 [(4, .int y4_8), (0, .ref (ad 47)), (1, .ref (ad 90)), (2, .int x2), (3, .int x3)] [] := by
    intro n
    induction n with
    | zero => intro y4_8 b4_8 e4_8 M_8 i1 I_8 fr_8 hm; exact absurd hm (Nat.not_lt_zero _)
    | succ n ih8 =>
      intro y4_8 b4_8 e4_8 M_8 i1 I_8 fr_8 hm8
      refine g_iload X 0 rfl dX7_sees_8 ?_
      refine g_iload_n X 4 rfl dX7_sees_10 ?_
      refine g_icmp_ge X e4_8 t3 (tgt := 33) dX7_sees_11 (by decide) (fun cq3 => ?_) (fun cq3 => ?_)
      · exact g_vret X dX7_sees_33 ⟨rfl, trivial, I_8, fr_8⟩
      · refine g_aload_n X 1 rfl dX7_sees_14 ?_
        refine g_getr X f_X7_104 dX7_sees_15 ?_
        refine g_iload X 0 rfl dX7_sees_18 ?_
        refine g_aload_n X 2 rfl dX7_sees_20 ?_
        refine g_iload_n X 3 rfl dX7_sees_21 ?_
        refine g_iload X 0 rfl dX7_sees_22 ?_
        refine g_iadd X dX7_sees_24 (fun zq4 eq5 => ?_)
        have tq6 : zq4.toInt = a2 + b4_8 := add_nw eq5 t2 e4_8 (by omega)
        refine g_iald X la_90 tq6 dX7_sees_25 (by omega) (x := M_8.1 90 ((a2 + b4_8).toNat)) rfl ?_
        have bq7 := ig_90 I_8 ((a2 + b4_8).toNat) (by omega)
        refine g_iast X la_78 e4_8 dX7_sees_26 (by omega) ?_
        have Iq8 : Iv TM (ui M_8 78 b4_8.toNat (M_8.1 90 ((a2 + b4_8).toNat))) := I_8.putA 0 40 rfl (by omega) rfl
        have frq9 : Fr W_X7_sees_90 Mq (ui M_8 78 b4_8.toNat (M_8.1 90 ((a2 + b4_8).toNat))) := fr_8.ui rfl
        refine g_iinc X 0 (fun v => [(4, .int v), (0, .ref (ad 47)), (1, .ref (ad 90)), (2, .int x2), (3, .int x3)]) dX7_sees_27 rfl (by decide) (fun _ => rfl) (fun zq10 eq11 => ?_)
        have tq12 : zq10.toInt = b4_8 + 1 := add_nw eq11 e4_8 (show (Int32.ofInt 1).toInt = 1 by decide) (by omega)
        refine g_goto X (tgt := 8) dX7_sees_30 (by decide) ?_
        refine g_sub [0, 1, 2, 3, 4] rfl ?_
        exact ih8 zq10 _ tq12 (ui M_8 78 b4_8.toNat (M_8.1 90 ((a2 + b4_8).toNat))) (by omega) Iq8 frq9 (by omega)
  refine g_sub [0, 1, 2, 3, 4] rfl ?_
  exact lp8 _ 0 _ (show (0 : Int32).toInt = 0 by decide) (ui Mq 47 44 x3) (by omega) Iq1 frq2 (Nat.lt_succ_self _)
abbrev W_X7_plays : List (Nat × Nat) := [(47, 44), (78, 99), (85, 99)]
set_option maxHeartbeats 4000000 in
set_option maxRecDepth 4000 in
theorem c_X7_plays (ad : Nat → Nat) (Mq : Mem) (x1 : Int32) {a1 : Int} (t1 : x1.toInt = a1) (x2 : Int32) {a2 : Int} (t2 : x2.toInt = a2) (Iq0 : Iv TM Mq) (h1 : 0 ≤ a1 ∧ a1 < 12) (h2 : -1 ≤ a2 ∧ a2 ≤ (Mq.1 47 53).toInt) : Ctr ad yX7_plays cX7_plays 3 none 2 [.ref (ad 47), .int x1, .int x2] Mq (fun v M' => v = none ∧ (True) ∧ Iv TM M' ∧ Fr W_X7_plays Mq M') := by
  refine ctr_of (L := [(0, .ref (ad 47)), (1, .int x1), (2, .int x2)]) (by decide) (Nat.le_of_ble_eq_true rfl) rfl ?_
  intro Γ X
  have X : gX Γ cX7_plays RX7 3 none 2 ad _ := X
  have frq0 : Fr W_X7_plays Mq Mq := Fr.rf
  have g11 := ig_47_11 Iq0
  have g12 := ig_47_12 Iq0
  have g14 := ig_47_14 Iq0
  have g32 := ig_47_32 Iq0
  have g43 := ig_47_43 Iq0
  have g44 := ig_47_44 Iq0
  have g52 := ig_47_52 Iq0
  have g53 := ig_47_53 Iq0
  have g59 := ig_47_59 Iq0
  refine g_aload_n X 0 rfl dX7_plays_0 ?_
  refine g_aload_n X 0 rfl dX7_plays_1 ?_
  refine g_getr X f_X7_129 dX7_plays_2 ?_
  refine g_iload_n X 1 rfl dX7_plays_5 ?_
  refine g_iald X la_86 t1 dX7_plays_6 (by omega) (x := Mq.1 86 a1.toNat) rfl ?_
  refine g_aload_n X 0 rfl dX7_plays_7 ?_
  refine g_getr X f_X7_135 dX7_plays_8 ?_
  refine g_iload_n X 1 rfl dX7_plays_11 ?_
  refine g_iald X la_88 t1 dX7_plays_12 (by omega) (x := Mq.1 88 a1.toNat) rfl ?_
  refine g_aload_n X 0 rfl dX7_plays_13 ?_
  refine g_iload_n X 2 rfl dX7_plays_14 ?_
  refine g_callV X m_X7_329 (c_X7_upTo ad Mq x2 t2) rfl (by decide) (Nat.le_of_ble_eq_true rfl) rfl dX7_plays_15 ?_
  rintro _ _ ⟨rq1, aq2, rfl, tq3, hq4, rfl⟩
  show G Γ Mq 18 [(0, .ref (ad 47)), (1, .int x1), (2, .int x2)] [.int rq1, .int (Mq.1 88 a1.toNat), .int (Mq.1 86 a1.toNat), .ref (ad 47)]
  refine g_callV X m_X7_269 (c_X7_findStock ad Mq (Mq.1 86 a1.toNat) rfl (Mq.1 88 a1.toNat) rfl rq1 tq3 Iq0 (by omega)) rfl (by decide) (Nat.le_of_ble_eq_true rfl) rfl dX7_plays_18 ?_
  rintro _ Mq9 ⟨rfl, hq8, Iq10, frq11⟩
  have frq12 : Fr W_X7_plays Mq Mq9 := frq0.trans frq11 rfl
  show G Γ Mq9 21 [(0, .ref (ad 47)), (1, .int x1), (2, .int x2)] []
  refine g_aload_n X 0 rfl dX7_plays_21 ?_
  refine g_aload_n X 0 rfl dX7_plays_22 ?_
  refine g_getr X f_X7_141 dX7_plays_23 ?_
  refine g_bipush X 24 dX7_plays_26 (by decide) ?_
  refine g_iload_n X 1 rfl dX7_plays_28 ?_
  refine g_imul X dX7_plays_29 (fun zq13 eq14 => ?_)
  have tq15 : zq13.toInt = 24 * a1 := mul_nw eq14 (show (24 : Int32).toInt = 24 by decide) t1 (by omega)
  refine g_aload_n X 0 rfl dX7_plays_30 ?_
  refine g_getr X f_X7_138 dX7_plays_31 ?_
  refine g_iload_n X 1 rfl dX7_plays_34 ?_
  refine g_iald X la_89 t1 dX7_plays_35 (by omega) (x := Mq9.1 89 a1.toNat) rfl ?_
  have bq16 := ig_89 Iq10 a1.toNat (by omega)
  refine g_callV X m_X7_342 (c_X7_sees_90 ad Mq9 zq13 tq15 (Mq9.1 89 a1.toNat) rfl Iq10 (by omega) (by omega)) rfl (by decide) (Nat.le_of_ble_eq_true rfl) rfl dX7_plays_36 ?_
  rintro _ Mq21 ⟨rfl, hq20, Iq22, frq23⟩
  have frq24 : Fr W_X7_plays Mq Mq21 := frq12.trans frq23 rfl
  show G Γ Mq21 39 [(0, .ref (ad 47)), (1, .int x1), (2, .int x2)] []
  exact g_vret X dX7_plays_39 ⟨rfl, trivial, Iq22, frq24⟩
set_option maxHeartbeats 4000000 in
set_option maxRecDepth 4000 in
theorem c_X7_count (ad : Nat → Nat) (Mq : Mem) (x1 : Int32) {a1 : Int} (t1 : x1.toInt = a1) (Iq0 : Iv TM Mq) : Ctr ad yX7_count cX7_count 4 (some .int) 3 [.ref (ad 47), .int x1] Mq (fun v M' => ∃ (r : Int32) (a : Int), v = some (.int r) ∧ r.toInt = a ∧ (True) ∧ Mq = M') := by
  refine ctr_of (L := [(0, .ref (ad 47)), (1, .int x1)]) (by decide) (Nat.le_of_ble_eq_true rfl) rfl ?_
  intro Γ X
  have X : gX Γ cX7_count RX7 4 (some .int) 3 ad _ := X
  have g11 := ig_47_11 Iq0
  have g12 := ig_47_12 Iq0
  have g14 := ig_47_14 Iq0
  have g32 := ig_47_32 Iq0
  have g43 := ig_47_43 Iq0
  have g44 := ig_47_44 Iq0
  have g52 := ig_47_52 Iq0
  have g53 := ig_47_53 Iq0
  have g59 := ig_47_59 Iq0
  refine g_iconst X 0 dX7_count_0 (by decide) ?_
  refine g_istore_n X (i := 2) [(2, .int 0), (0, .ref (ad 47)), (1, .int x1)] dX7_count_1 rfl (by decide) rfl ?_
  refine g_iload_n X 2 rfl dX7_count_2 ?_
  rcases (show (a1 < 0 ∨ 8 < a1) ∨ a1 = 0 ∨ a1 = 1 ∨ a1 = 2 ∨ a1 = 3 ∨ a1 = 4 ∨ a1 = 5 ∨ a1 = 6 ∨ a1 = 7 ∨ a1 = 8 by omega) with cq1 | cq1 | cq1 | cq1 | cq1 | cq1 | cq1 | cq1 | cq1 | cq1
  · refine g_tabOut X dX7_count_3 t1 cq1 (tgt := 170) (by decide) ?_
    refine g_iconst X (-1) dX7_count_170 (by decide) ?_
    exact g_iret X dX7_count_171 ⟨_, _, rfl, (show ((-1) : Int32).toInt = (-1) by decide), trivial, rfl⟩
  · refine g_tabIn X dX7_count_3 (a := 0) (t1.trans cq1) (by decide) (by decide) rfl (tgt := 52) (by decide) ?_
    refine g_aload_n X 1 rfl dX7_count_52 ?_
    refine g_geti X f_X7_144 dX7_count_53 (x := Mq.1 47 11) rfl ?_
    have bq2 := ig_47_11 Iq0
    exact g_iret X dX7_count_56 ⟨_, _, rfl, rfl, trivial, rfl⟩
  · refine g_tabIn X dX7_count_3 (a := 1) (t1.trans cq1) (by decide) (by decide) rfl (tgt := 57) (by decide) ?_
    refine g_aload_n X 1 rfl dX7_count_57 ?_
    refine g_geti X f_X7_147 dX7_count_58 (x := Mq.1 47 12) rfl ?_
    have bq3 := ig_47_12 Iq0
    exact g_iret X dX7_count_61 ⟨_, _, rfl, rfl, trivial, rfl⟩
  · refine g_tabIn X dX7_count_3 (a := 2) (t1.trans cq1) (by decide) (by decide) rfl (tgt := 62) (by decide) ?_
    refine g_iconst X 0 dX7_count_62 (by decide) ?_
    refine g_istore_n X (i := 3) [(3, .int 0), (2, .int 0), (0, .ref (ad 47)), (1, .int x1)] dX7_count_63 rfl (by decide) rfl ?_
    have lp64 : ∀ n : Nat, ∀ (y3_64 : Int32) (b3_64 : Int), y3_64.toInt = b3_64 → ∀ (y2_64 : Int32) (b2_64 : Int), y2_64.toInt = b2_64 → (0 ≤ b3_64 ∧ b3_64 ≤ 8) → (8 - b3_64).toNat < n → G Γ Mq 64 [(3, .int y3_64), (2, .int y2_64), (0, .ref (ad 47)), (1, .int x1)] [] := by
      intro n
      induction n with
      | zero => intro y3_64 b3_64 e3_64 y2_64 b2_64 e2_64 i1 hm; exact absurd hm (Nat.not_lt_zero _)
      | succ n ih64 =>
        intro y3_64 b3_64 e3_64 y2_64 b2_64 e2_64 i1 hm64
        refine g_iload_n X 0 rfl dX7_count_64 ?_
        refine g_bipush X 8 dX7_count_65 (by decide) ?_
        refine g_icmp_ge X e3_64 (show (8 : Int32).toInt = 8 by decide) (tgt := 92) dX7_count_67 (by decide) (fun cq4 => ?_) (fun cq4 => ?_)
        · refine g_iload_n X 1 rfl dX7_count_92 ?_
          exact g_iret X dX7_count_93 ⟨_, _, rfl, e2_64, trivial, rfl⟩
        · refine g_iload_n X 1 rfl dX7_count_70 ?_
          refine g_aload_n X 2 rfl dX7_count_71 ?_
          refine g_iload_n X 0 rfl dX7_count_72 ?_
          refine g_callV X m_X7_220 (c_X7_isTold ad Mq y3_64 e3_64) rfl (by decide) (Nat.le_of_ble_eq_true rfl) rfl dX7_count_73 ?_
          rintro _ _ ⟨rq5, aq6, rfl, tq7, hq8, rfl⟩
          show G Γ Mq 76 [(3, .int y3_64), (2, .int y2_64), (0, .ref (ad 47)), (1, .int x1)] [.int rq5, .int y2_64]
          refine g_if_eq X tq7 (tgt := 83) dX7_count_76 (by decide) (fun cq9 => ?_) (fun cq9 => ?_)
          · have pq10 : ¬ (0 ≤ b3_64 ∧ b3_64 ≤ 7 ∧ 0 < (Mq.1 63 b3_64.toNat).toInt) := by omega
            clear hq8 cq9 tq7
            refine g_iconst X 0 dX7_count_83 (by decide) ?_
            refine g_iadd X dX7_count_84 (fun zq11 eq12 => ?_)
            refine g_istore_n X (i := 2) [(2, .int zq11), (3, .int y3_64), (0, .ref (ad 47)), (1, .int x1)] dX7_count_85 rfl (by decide) rfl ?_
            refine g_iinc X 1 (fun v => [(3, .int v), (2, .int zq11), (0, .ref (ad 47)), (1, .int x1)]) dX7_count_86 rfl (by decide) (fun _ => rfl) (fun zq14 eq15 => ?_)
            have tq16 : zq14.toInt = b3_64 + 1 := add_nw eq15 e3_64 (show (Int32.ofInt 1).toInt = 1 by decide) (by omega)
            refine g_goto X (tgt := 64) dX7_count_89 (by decide) ?_
            refine g_sub [0, 1, 2, 3] rfl ?_
            exact ih64 zq14 _ tq16 zq11 _ rfl (by omega) (by omega)
          · have pq17 : (0 ≤ b3_64 ∧ b3_64 ≤ 7 ∧ 0 < (Mq.1 63 b3_64.toNat).toInt) := by omega
            clear hq8 cq9 tq7
            refine g_iconst X 1 dX7_count_79 (by decide) ?_
            refine g_goto X (tgt := 84) dX7_count_80 (by decide) ?_
            refine g_iadd X dX7_count_84 (fun zq18 eq19 => ?_)
            refine g_istore_n X (i := 2) [(2, .int zq18), (3, .int y3_64), (0, .ref (ad 47)), (1, .int x1)] dX7_count_85 rfl (by decide) rfl ?_
            refine g_iinc X 1 (fun v => [(3, .int v), (2, .int zq18), (0, .ref (ad 47)), (1, .int x1)]) dX7_count_86 rfl (by decide) (fun _ => rfl) (fun zq21 eq22 => ?_)
            have tq23 : zq21.toInt = b3_64 + 1 := add_nw eq22 e3_64 (show (Int32.ofInt 1).toInt = 1 by decide) (by omega)
            refine g_goto X (tgt := 64) dX7_count_89 (by decide) ?_
            refine g_sub [0, 1, 2, 3] rfl ?_
            exact ih64 zq21 _ tq23 zq18 _ rfl (by omega) (by omega)
    refine g_sub [0, 1, 2, 3] rfl ?_
    exact lp64 _ 0 _ (show (0 : Int32).toInt = 0 by decide) 0 _ (show (0 : Int32).toInt = 0 by decide) (by omega) (Nat.lt_succ_self _)
  · refine g_tabIn X dX7_count_3 (a := 3) (t1.trans cq1) (by decide) (by decide) rfl (tgt := 94) (by decide) ?_
    refine g_aload_n X 1 rfl dX7_count_94 ?_
    refine g_geti X f_X7_313 dX7_count_95 (x := Mq.1 47 52) rfl ?_
    have bq24 := ig_47_52 Iq0
    exact g_iret X dX7_count_98 ⟨_, _, rfl, rfl, trivial, rfl⟩
  · refine g_tabIn X dX7_count_3 (a := 4) (t1.trans cq1) (by decide) (by decide) rfl (tgt := 99) (by decide) ?_
    refine g_aload_n X 1 rfl dX7_count_99 ?_
    refine g_geti X f_X7_266 dX7_count_100 (x := Mq.1 47 53) rfl ?_
    have bq25 := ig_47_53 Iq0
    exact g_iret X dX7_count_103 ⟨_, _, rfl, rfl, trivial, rfl⟩
  · refine g_tabIn X dX7_count_3 (a := 5) (t1.trans cq1) (by decide) (by decide) rfl (tgt := 104) (by decide) ?_
    refine g_aload_n X 1 rfl dX7_count_104 ?_
    refine g_geti X f_X7_352 dX7_count_105 (x := Mq.1 47 59) rfl ?_
    have bq26 := ig_47_59 Iq0
    exact g_iret X dX7_count_108 ⟨_, _, rfl, rfl, trivial, rfl⟩
  · refine g_tabIn X dX7_count_3 (a := 6) (t1.trans cq1) (by decide) (by decide) rfl (tgt := 109) (by decide) ?_
    refine g_aload_n X 1 rfl dX7_count_109 ?_
    refine g_geti X f_X7_199 dX7_count_110 (x := Mq.1 47 20) rfl ?_
    have bq27 := ig_47_20 Iq0
    exact g_iret X dX7_count_113 ⟨_, _, rfl, rfl, trivial, rfl⟩
  · refine g_tabIn X dX7_count_3 (a := 7) (t1.trans cq1) (by decide) (by decide) rfl (tgt := 114) (by decide) ?_
    refine g_aload_n X 1 rfl dX7_count_114 ?_
    refine g_geti X f_X7_61 dX7_count_115 (x := Mq.1 47 24) rfl ?_
    have bq28 := ig_47_24 Iq0
    exact g_iret X dX7_count_118 ⟨_, _, rfl, rfl, trivial, rfl⟩
  · refine g_tabIn X dX7_count_3 (a := 8) (t1.trans cq1) (by decide) (by decide) rfl (tgt := 119) (by decide) ?_
    refine g_iconst X 0 dX7_count_119 (by decide) ?_
    refine g_istore_n X (i := 3) [(3, .int 0), (2, .int 0), (0, .ref (ad 47)), (1, .int x1)] dX7_count_120 rfl (by decide) rfl ?_
    have lp121 : ∀ n : Nat, ∀ (y3_121 : Int32) (b3_121 : Int), y3_121.toInt = b3_121 → ∀ (y2_121 : Int32) (b2_121 : Int), y2_121.toInt = b2_121 → (0 ≤ b3_121) → ((Mq.1 47 12).toInt - b3_121).toNat < n → G Γ Mq 121 [(3, .int y3_121), (2, .int y2_121), (0, .ref (ad 47)), (1, .int x1)] [] := by
      intro n
      induction n with
      | zero => intro y3_121 b3_121 e3_121 y2_121 b2_121 e2_121 i1 hm; exact absurd hm (Nat.not_lt_zero _)
      | succ n ih121 =>
        intro y3_121 b3_121 e3_121 y2_121 b2_121 e2_121 i1 hm121
        refine g_iload_n X 0 rfl dX7_count_121 ?_
        refine g_aload_n X 2 rfl dX7_count_122 ?_
        refine g_geti X f_X7_147 dX7_count_123 (x := Mq.1 47 12) rfl ?_
        have bq29 := ig_47_12 Iq0
        refine g_icmp_ge X e3_121 rfl (tgt := 168) dX7_count_126 (by decide) (fun cq30 => ?_) (fun cq30 => ?_)
        · refine g_iload_n X 1 rfl dX7_count_168 ?_
          exact g_iret X dX7_count_169 ⟨_, _, rfl, e2_121, trivial, rfl⟩
        · refine g_iload_n X 1 rfl dX7_count_129 ?_
          refine g_aload_n X 2 rfl dX7_count_130 ?_
          refine g_aload_n X 2 rfl dX7_count_131 ?_
          refine g_getr X f_X7_25 dX7_count_132 ?_
          refine g_iload_n X 0 rfl dX7_count_135 ?_
          refine g_iald X la_53 e3_121 dX7_count_136 (by omega) (x := Mq.1 53 b3_121.toNat) rfl ?_
          have bq31 := ig_53 Iq0 b3_121.toNat (by omega)
          refine g_aload_n X 2 rfl dX7_count_137 ?_
          refine g_getr X f_X7_28 dX7_count_138 ?_
          refine g_iload_n X 0 rfl dX7_count_141 ?_
          refine g_iald X la_54 e3_121 dX7_count_142 (by omega) (x := Mq.1 54 b3_121.toNat) rfl ?_
          have bq32 := ig_54 Iq0 b3_121.toNat (by omega)
          refine g_aload_n X 2 rfl dX7_count_143 ?_
          refine g_getr X f_X7_34 dX7_count_144 ?_
          refine g_iload_n X 0 rfl dX7_count_147 ?_
          refine g_iald X la_56 e3_121 dX7_count_148 (by omega) (x := Mq.1 56 b3_121.toNat) rfl ?_
          have bq33 := ig_56 Iq0 b3_121.toNat (by omega)
          refine g_callV X m_X7_189 (c_X7_scans ad Mq (Mq.1 53 b3_121.toNat) rfl (Mq.1 54 b3_121.toNat) rfl (Mq.1 56 b3_121.toNat) rfl (by omega) (by omega) (by omega)) rfl (by decide) (Nat.le_of_ble_eq_true rfl) rfl dX7_count_149 ?_
          rintro _ _ ⟨rq34, aq35, rfl, tq36, hq37, rfl⟩
          show G Γ Mq 152 [(3, .int y3_121), (2, .int y2_121), (0, .ref (ad 47)), (1, .int x1)] [.int rq34, .int y2_121]
          refine g_if_eq X tq36 (tgt := 159) dX7_count_152 (by decide) (fun cq38 => ?_) (fun cq38 => ?_)
          · refine g_iconst X 0 dX7_count_159 (by decide) ?_
            refine g_iadd X dX7_count_160 (fun zq39 eq40 => ?_)
            refine g_istore_n X (i := 2) [(2, .int zq39), (3, .int y3_121), (0, .ref (ad 47)), (1, .int x1)] dX7_count_161 rfl (by decide) rfl ?_
            refine g_iinc X 1 (fun v => [(3, .int v), (2, .int zq39), (0, .ref (ad 47)), (1, .int x1)]) dX7_count_162 rfl (by decide) (fun _ => rfl) (fun zq42 eq43 => ?_)
            have tq44 : zq42.toInt = b3_121 + 1 := add_nw eq43 e3_121 (show (Int32.ofInt 1).toInt = 1 by decide) (by omega)
            refine g_goto X (tgt := 121) dX7_count_165 (by decide) ?_
            refine g_sub [0, 1, 2, 3] rfl ?_
            exact ih121 zq42 _ tq44 zq39 _ rfl (by omega) (by omega)
          · refine g_iconst X 1 dX7_count_155 (by decide) ?_
            refine g_goto X (tgt := 160) dX7_count_156 (by decide) ?_
            refine g_iadd X dX7_count_160 (fun zq45 eq46 => ?_)
            refine g_istore_n X (i := 2) [(2, .int zq45), (3, .int y3_121), (0, .ref (ad 47)), (1, .int x1)] dX7_count_161 rfl (by decide) rfl ?_
            refine g_iinc X 1 (fun v => [(3, .int v), (2, .int zq45), (0, .ref (ad 47)), (1, .int x1)]) dX7_count_162 rfl (by decide) (fun _ => rfl) (fun zq48 eq49 => ?_)
            have tq50 : zq48.toInt = b3_121 + 1 := add_nw eq49 e3_121 (show (Int32.ofInt 1).toInt = 1 by decide) (by omega)
            refine g_goto X (tgt := 121) dX7_count_165 (by decide) ?_
            refine g_sub [0, 1, 2, 3] rfl ?_
            exact ih121 zq48 _ tq50 zq45 _ rfl (by omega) (by omega)
    refine g_sub [0, 1, 2, 3] rfl ?_
    exact lp121 _ 0 _ (show (0 : Int32).toInt = 0 by decide) 0 _ (show (0 : Int32).toInt = 0 by decide) (by omega) (Nat.lt_succ_self _)
set_option maxHeartbeats 4000000 in
set_option maxRecDepth 4000 in
theorem c_X7_loan (ad : Nat → Nat) (Mq : Mem) (x1 : Int32) {a1 : Int} (t1 : x1.toInt = a1) (x2 : Int32) {a2 : Int} (t2 : x2.toInt = a2) (x3 : Int32) {a3 : Int} (t3 : x3.toInt = a3) (x4 : Int32) {a4 : Int} (t4 : x4.toInt = a4) (Iq0 : Iv TM Mq) : Ctr ad yX7_loan cX7_loan 12 (some .int) 3 [.ref (ad 47), .int x1, .int x2, .int x3, .int x4] Mq (fun v M' => ∃ (r : Int32) (a : Int), v = some (.int r) ∧ r.toInt = a ∧ (True) ∧ Mq = M') := by
  refine ctr_of (L := [(0, .ref (ad 47)), (1, .int x1), (2, .int x2), (3, .int x3), (4, .int x4)]) (by decide) (Nat.le_of_ble_eq_true rfl) rfl ?_
  intro Γ X
  have X : gX Γ cX7_loan RX7 12 (some .int) 3 ad _ := X
  have g11 := ig_47_11 Iq0
  have g12 := ig_47_12 Iq0
  have g14 := ig_47_14 Iq0
  have g32 := ig_47_32 Iq0
  have g43 := ig_47_43 Iq0
  have g44 := ig_47_44 Iq0
  have g52 := ig_47_52 Iq0
  have g53 := ig_47_53 Iq0
  have g59 := ig_47_59 Iq0
  refine g_aload_n X 0 rfl dX7_loan_0 ?_
  refine g_iload_n X 1 rfl dX7_loan_1 ?_
  refine g_callV X m_X7_260 (c_X7_isSinger ad Mq x1 t1) rfl (by decide) (Nat.le_of_ble_eq_true rfl) rfl dX7_loan_2 ?_
  rintro _ _ ⟨rq1, aq2, rfl, tq3, hq4, rfl⟩
  show G Γ Mq 5 [(0, .ref (ad 47)), (1, .int x1), (2, .int x2), (3, .int x3), (4, .int x4)] [.int rq1]
  refine g_if_eq X tq3 (tgt := 25) dX7_loan_5 (by decide) (fun cq5 => ?_) (fun cq5 => ?_)
  · have pq6 : ¬ (0 ≤ a1 ∧ a1 < ((Mq.1 47 52)).toInt) := by omega
    clear hq4 cq5 tq3
    refine g_iconst X (-1) dX7_loan_25 (by decide) ?_
    exact g_iret X dX7_loan_26 ⟨_, _, rfl, (show ((-1) : Int32).toInt = (-1) by decide), trivial, rfl⟩
  · have pq7 : (0 ≤ a1 ∧ a1 < ((Mq.1 47 52)).toInt) := by omega
    clear hq4 cq5 tq3
    refine g_aload_n X 0 rfl dX7_loan_8 ?_
    refine g_iload_n X 2 rfl dX7_loan_9 ?_
    refine g_callV X m_X7_260 (c_X7_isSinger ad Mq x2 t2) rfl (by decide) (Nat.le_of_ble_eq_true rfl) rfl dX7_loan_10 ?_
    rintro _ _ ⟨rq8, aq9, rfl, tq10, hq11, rfl⟩
    show G Γ Mq 13 [(0, .ref (ad 47)), (1, .int x1), (2, .int x2), (3, .int x3), (4, .int x4)] [.int rq8]
    refine g_if_eq X tq10 (tgt := 25) dX7_loan_13 (by decide) (fun cq12 => ?_) (fun cq12 => ?_)
    · have pq13 : ¬ (0 ≤ a2 ∧ a2 < ((Mq.1 47 52)).toInt) := by omega
      clear hq11 cq12 tq10
      refine g_iconst X (-1) dX7_loan_25 (by decide) ?_
      exact g_iret X dX7_loan_26 ⟨_, _, rfl, (show ((-1) : Int32).toInt = (-1) by decide), trivial, rfl⟩
    · have pq14 : (0 ≤ a2 ∧ a2 < ((Mq.1 47 52)).toInt) := by omega
      clear hq11 cq12 tq10
      refine g_aload_n X 0 rfl dX7_loan_16 ?_
      refine g_iload X 4 rfl dX7_loan_17 ?_
      refine g_callV X m_X7_326 (c_X7_isKnown ad Mq x4 t4) rfl (by decide) (Nat.le_of_ble_eq_true rfl) rfl dX7_loan_19 ?_
      rintro _ _ ⟨rq15, aq16, rfl, tq17, hq18, rfl⟩
      show G Γ Mq 22 [(0, .ref (ad 47)), (1, .int x1), (2, .int x2), (3, .int x3), (4, .int x4)] [.int rq15]
      refine g_if_ne X tq17 (tgt := 27) dX7_loan_22 (by decide) (fun cq19 => ?_) (fun cq19 => ?_)
      · have pq20 : (-1 ≤ a4 ∧ a4 ≤ ((Mq.1 47 53)).toInt) := by omega
        clear hq18 cq19 tq17
        refine g_iload_n X 3 rfl dX7_loan_27 ?_
        refine g_callS X m_X7_263 (c_X7_isYear ad Mq x3 t3) rfl (by decide) (Nat.le_of_ble_eq_true rfl) rfl dX7_loan_28 ?_
        rintro _ _ ⟨rq21, aq22, rfl, tq23, hq24, rfl⟩
        show G Γ Mq 31 [(0, .ref (ad 47)), (1, .int x1), (2, .int x2), (3, .int x3), (4, .int x4)] [.int rq21]
        refine g_if_eq X tq23 (tgt := 39) dX7_loan_31 (by decide) (fun cq25 => ?_) (fun cq25 => ?_)
        · have pq26 : ¬ (0 ≤ a3 ∧ a3 ≤ 999) := by omega
          clear hq24 cq25 tq23
          refine g_bipush X (-2) dX7_loan_39 (by decide) ?_
          exact g_iret X dX7_loan_41 ⟨_, _, rfl, (show ((-2) : Int32).toInt = (-2) by decide), trivial, rfl⟩
        · have pq27 : (0 ≤ a3 ∧ a3 ≤ 999) := by omega
          clear hq24 cq25 tq23
          refine g_iload_n X 1 rfl dX7_loan_34 ?_
          refine g_iload_n X 2 rfl dX7_loan_35 ?_
          refine g_icmp_ne X t1 t2 (tgt := 42) dX7_loan_36 (by decide) (fun cq28 => ?_) (fun cq28 => ?_)
          · refine g_aload_n X 0 rfl dX7_loan_42 ?_
            refine g_iload X 4 rfl dX7_loan_43 ?_
            refine g_callV X m_X7_329 (c_X7_upTo ad Mq x4 t4) rfl (by decide) (Nat.le_of_ble_eq_true rfl) rfl dX7_loan_45 ?_
            rintro _ _ ⟨rq29, aq30, rfl, tq31, hq32, rfl⟩
            show G Γ Mq 48 [(0, .ref (ad 47)), (1, .int x1), (2, .int x2), (3, .int x3), (4, .int x4)] [.int rq29]
            refine g_istore X [(5, .int rq29), (0, .ref (ad 47)), (1, .int x1), (2, .int x2), (3, .int x3), (4, .int x4)] dX7_loan_48 (by decide) rfl ?_
            refine g_aload_n X 1 rfl dX7_loan_50 ?_
            refine g_iload_n X 2 rfl dX7_loan_51 ?_
            refine g_iload_n X 4 rfl dX7_loan_52 ?_
            refine g_iload X 0 rfl dX7_loan_53 ?_
            refine g_callV X m_X7_336 (c_X7_masterOf ad Mq x1 t1 x3 t3 rq29 tq31 Iq0 (by omega) (by omega)) rfl (by decide) (Nat.le_of_ble_eq_true rfl) rfl dX7_loan_55 ?_
            rintro _ _ ⟨rq33, aq34, rfl, tq35, hq36, rfl⟩
            show G Γ Mq 58 [(5, .int rq29), (0, .ref (ad 47)), (1, .int x1), (2, .int x2), (3, .int x3), (4, .int x4)] [.int rq33]
            refine g_istore X [(6, .int rq33), (5, .int rq29), (0, .ref (ad 47)), (1, .int x1), (2, .int x2), (3, .int x3), (4, .int x4)] dX7_loan_58 (by decide) rfl ?_
            refine g_aload_n X 2 rfl dX7_loan_60 ?_
            refine g_iload_n X 4 rfl dX7_loan_61 ?_
            refine g_iload_n X 5 rfl dX7_loan_62 ?_
            refine g_iload X 1 rfl dX7_loan_63 ?_
            refine g_callV X m_X7_336 (c_X7_masterOf ad Mq x2 t2 x3 t3 rq29 tq31 Iq0 (by omega) (by omega)) rfl (by decide) (Nat.le_of_ble_eq_true rfl) rfl dX7_loan_65 ?_
            rintro _ _ ⟨rq37, aq38, rfl, tq39, hq40, rfl⟩
            show G Γ Mq 68 [(6, .int rq33), (5, .int rq29), (0, .ref (ad 47)), (1, .int x1), (2, .int x2), (3, .int x3), (4, .int x4)] [.int rq37]
            refine g_istore X [(7, .int rq37), (6, .int rq33), (5, .int rq29), (0, .ref (ad 47)), (1, .int x1), (2, .int x2), (3, .int x3), (4, .int x4)] dX7_loan_68 (by decide) rfl ?_
            refine g_iconst X 0 dX7_loan_70 (by decide) ?_
            refine g_istore X [(8, .int 0), (7, .int rq37), (6, .int rq33), (5, .int rq29), (0, .ref (ad 47)), (1, .int x1), (2, .int x2), (3, .int x3), (4, .int x4)] dX7_loan_71 (by decide) rfl ?_
            refine g_iconst X 0 dX7_loan_73 (by decide) ?_
            refine g_istore X [(9, .int 0), (8, .int 0), (7, .int rq37), (6, .int rq33), (5, .int rq29), (0, .ref (ad 47)), (1, .int x1), (2, .int x2), (3, .int x3), (4, .int x4)] dX7_loan_74 (by decide) rfl ?_
            have lp76 : ∀ n : Nat, ∀ (y9_76 : Int32) (b9_76 : Int), y9_76.toInt = b9_76 → ∀ (y8_76 : Int32) (b8_76 : Int), y8_76.toInt = b8_76 → (0 ≤ b9_76) → ((Mq.1 47 12).toInt - b9_76).toNat < n → G Γ Mq 76 [(9, .int y9_76), (8, .int y8_76), (7, .int rq37), (6, .int rq33), (5, .int rq29), (0, .ref (ad 47)), (1, .int x1), (2, .int x2), (3, .int x3), (4, .int x4)] [] := by
              intro n
              induction n with
              | zero => intro y9_76 b9_76 e9_76 y8_76 b8_76 e8_76 i1 hm; exact absurd hm (Nat.not_lt_zero _)
              | succ n ih76 =>
                intro y9_76 b9_76 e9_76 y8_76 b8_76 e8_76 i1 hm76
                refine g_iload X 0 rfl dX7_loan_76 ?_
                refine g_aload_n X 5 rfl dX7_loan_78 ?_
                refine g_geti X f_X7_147 dX7_loan_79 (x := Mq.1 47 12) rfl ?_
                have bq41 := ig_47_12 Iq0
                refine g_icmp_ge X e9_76 rfl (tgt := 210) dX7_loan_82 (by decide) (fun cq42 => ?_) (fun cq42 => ?_)
                · refine g_iload X 1 rfl dX7_loan_210 ?_
                  exact g_iret X dX7_loan_212 ⟨_, _, rfl, e8_76, trivial, rfl⟩
                · refine g_aload_n X 5 rfl dX7_loan_85 ?_
                  refine g_getr X f_X7_37 dX7_loan_86 ?_
                  refine g_iload X 0 rfl dX7_loan_89 ?_
                  refine g_iald X la_57 e9_76 dX7_loan_91 (by omega) (x := Mq.1 57 b9_76.toNat) rfl ?_
                  refine g_iconst X 1 dX7_loan_92 (by decide) ?_
                  refine g_icmp_ne X rfl (show (1 : Int32).toInt = 1 by decide) (tgt := 126) dX7_loan_93 (by decide) (fun cq43 => ?_) (fun cq43 => ?_)
                  · refine g_iconst X 0 dX7_loan_126 (by decide) ?_
                    refine g_istore X [(10, .int 0), (9, .int y9_76), (8, .int y8_76), (7, .int rq37), (6, .int rq33), (5, .int rq29), (0, .ref (ad 47)), (1, .int x1), (2, .int x2), (3, .int x3), (4, .int x4)] dX7_loan_127 (by decide) rfl ?_
                    refine g_iload X 4 rfl dX7_loan_129 ?_
                    refine g_if_lt X tq35 (tgt := 153) dX7_loan_131 (by decide) (fun cq44 => ?_) (fun cq44 => ?_)
                    · refine g_iload X 3 rfl dX7_loan_153 ?_
                      refine g_if_lt X tq39 (tgt := 181) dX7_loan_155 (by decide) (fun cq45 => ?_) (fun cq45 => ?_)
                      · refine g_iconst X 0 dX7_loan_181 (by decide) ?_
                        refine g_istore X [(11, .int 0), (10, .int 0), (9, .int y9_76), (8, .int y8_76), (7, .int rq37), (6, .int rq33), (5, .int rq29), (0, .ref (ad 47)), (1, .int x1), (2, .int x2), (3, .int x3), (4, .int x4)] dX7_loan_182 (by decide) rfl ?_
                        refine g_iload X 3 rfl dX7_loan_184 ?_
                        refine g_iload X 1 rfl dX7_loan_186 ?_
                        refine g_if_eq X (show (0 : Int32).toInt = 0 by decide) (tgt := 200) dX7_loan_188 (by decide) (fun cq46 => ?_) (fun cq46 => ?_)
                        · refine g_iconst X 0 dX7_loan_200 (by decide) ?_
                          refine g_iadd X dX7_loan_201 (fun zq47 eq48 => ?_)
                          refine g_istore X [(8, .int zq47), (11, .int 0), (10, .int 0), (9, .int y9_76), (7, .int rq37), (6, .int rq33), (5, .int rq29), (0, .ref (ad 47)), (1, .int x1), (2, .int x2), (3, .int x3), (4, .int x4)] dX7_loan_202 (by decide) rfl ?_
                          refine g_iinc X 3 (fun v => [(9, .int v), (8, .int zq47), (11, .int 0), (10, .int 0), (7, .int rq37), (6, .int rq33), (5, .int rq29), (0, .ref (ad 47)), (1, .int x1), (2, .int x2), (3, .int x3), (4, .int x4)]) dX7_loan_204 rfl (by decide) (fun _ => rfl) (fun zq50 eq51 => ?_)
                          have tq52 : zq50.toInt = b9_76 + 1 := add_nw eq51 e9_76 (show (Int32.ofInt 1).toInt = 1 by decide) (by omega)
                          refine g_goto X (tgt := 76) dX7_loan_207 (by decide) ?_
                          refine g_sub [0, 1, 4, 5, 6, 7, 8, 9, 10, 11] rfl ?_
                          exact ih76 zq50 _ tq52 zq47 _ rfl (by omega) (by omega)
                        · refine g_iload X 0 rfl dX7_loan_191 ?_
                          refine g_if_ne X (show (0 : Int32).toInt = 0 by decide) (tgt := 200) dX7_loan_193 (by decide) (fun cq53 => ?_) (fun cq53 => ?_)
                          · refine g_iconst X 0 dX7_loan_200 (by decide) ?_
                            refine g_iadd X dX7_loan_201 (fun zq54 eq55 => ?_)
                            refine g_istore X [(8, .int zq54), (11, .int 0), (10, .int 0), (9, .int y9_76), (7, .int rq37), (6, .int rq33), (5, .int rq29), (0, .ref (ad 47)), (1, .int x1), (2, .int x2), (3, .int x3), (4, .int x4)] dX7_loan_202 (by decide) rfl ?_
                            refine g_iinc X 3 (fun v => [(9, .int v), (8, .int zq54), (11, .int 0), (10, .int 0), (7, .int rq37), (6, .int rq33), (5, .int rq29), (0, .ref (ad 47)), (1, .int x1), (2, .int x2), (3, .int x3), (4, .int x4)]) dX7_loan_204 rfl (by decide) (fun _ => rfl) (fun zq57 eq58 => ?_)
                            have tq59 : zq57.toInt = b9_76 + 1 := add_nw eq58 e9_76 (show (Int32.ofInt 1).toInt = 1 by decide) (by omega)
                            refine g_goto X (tgt := 76) dX7_loan_207 (by decide) ?_
                            refine g_sub [0, 1, 4, 5, 6, 7, 8, 9, 10, 11] rfl ?_
                            exact ih76 zq57 _ tq59 zq54 _ rfl (by omega) (by omega)
                          · refine g_iconst X 1 dX7_loan_196 (by decide) ?_
                            refine g_goto X (tgt := 201) dX7_loan_197 (by decide) ?_
                            refine g_iadd X dX7_loan_201 (fun zq60 eq61 => ?_)
                            refine g_istore X [(8, .int zq60), (11, .int 0), (10, .int 0), (9, .int y9_76), (7, .int rq37), (6, .int rq33), (5, .int rq29), (0, .ref (ad 47)), (1, .int x1), (2, .int x2), (3, .int x3), (4, .int x4)] dX7_loan_202 (by decide) rfl ?_
                            refine g_iinc X 3 (fun v => [(9, .int v), (8, .int zq60), (11, .int 0), (10, .int 0), (7, .int rq37), (6, .int rq33), (5, .int rq29), (0, .ref (ad 47)), (1, .int x1), (2, .int x2), (3, .int x3), (4, .int x4)]) dX7_loan_204 rfl (by decide) (fun _ => rfl) (fun zq63 eq64 => ?_)
                            have tq65 : zq63.toInt = b9_76 + 1 := add_nw eq64 e9_76 (show (Int32.ofInt 1).toInt = 1 by decide) (by omega)
                            refine g_goto X (tgt := 76) dX7_loan_207 (by decide) ?_
                            refine g_sub [0, 1, 4, 5, 6, 7, 8, 9, 10, 11] rfl ?_
                            exact ih76 zq63 _ tq65 zq60 _ rfl (by omega) (by omega)
                      · refine g_iload X 0 rfl dX7_loan_158 ?_
                        refine g_if_eq X (show (0 : Int32).toInt = 0 by decide) (tgt := 181) dX7_loan_160 (by decide) (fun cq66 => ?_) (fun cq66 => ?_)
                        · refine g_iconst X 0 dX7_loan_181 (by decide) ?_
                          refine g_istore X [(11, .int 0), (10, .int 0), (9, .int y9_76), (8, .int y8_76), (7, .int rq37), (6, .int rq33), (5, .int rq29), (0, .ref (ad 47)), (1, .int x1), (2, .int x2), (3, .int x3), (4, .int x4)] dX7_loan_182 (by decide) rfl ?_
                          refine g_iload X 3 rfl dX7_loan_184 ?_
                          refine g_iload X 1 rfl dX7_loan_186 ?_
                          refine g_if_eq X (show (0 : Int32).toInt = 0 by decide) (tgt := 200) dX7_loan_188 (by decide) (fun cq67 => ?_) (fun cq67 => ?_)
                          · refine g_iconst X 0 dX7_loan_200 (by decide) ?_
                            refine g_iadd X dX7_loan_201 (fun zq68 eq69 => ?_)
                            refine g_istore X [(8, .int zq68), (11, .int 0), (10, .int 0), (9, .int y9_76), (7, .int rq37), (6, .int rq33), (5, .int rq29), (0, .ref (ad 47)), (1, .int x1), (2, .int x2), (3, .int x3), (4, .int x4)] dX7_loan_202 (by decide) rfl ?_
                            refine g_iinc X 3 (fun v => [(9, .int v), (8, .int zq68), (11, .int 0), (10, .int 0), (7, .int rq37), (6, .int rq33), (5, .int rq29), (0, .ref (ad 47)), (1, .int x1), (2, .int x2), (3, .int x3), (4, .int x4)]) dX7_loan_204 rfl (by decide) (fun _ => rfl) (fun zq71 eq72 => ?_)
                            have tq73 : zq71.toInt = b9_76 + 1 := add_nw eq72 e9_76 (show (Int32.ofInt 1).toInt = 1 by decide) (by omega)
                            refine g_goto X (tgt := 76) dX7_loan_207 (by decide) ?_
                            refine g_sub [0, 1, 4, 5, 6, 7, 8, 9, 10, 11] rfl ?_
                            exact ih76 zq71 _ tq73 zq68 _ rfl (by omega) (by omega)
                          · refine g_iload X 0 rfl dX7_loan_191 ?_
                            refine g_if_ne X (show (0 : Int32).toInt = 0 by decide) (tgt := 200) dX7_loan_193 (by decide) (fun cq74 => ?_) (fun cq74 => ?_)
                            · refine g_iconst X 0 dX7_loan_200 (by decide) ?_
                              refine g_iadd X dX7_loan_201 (fun zq75 eq76 => ?_)
                              refine g_istore X [(8, .int zq75), (11, .int 0), (10, .int 0), (9, .int y9_76), (7, .int rq37), (6, .int rq33), (5, .int rq29), (0, .ref (ad 47)), (1, .int x1), (2, .int x2), (3, .int x3), (4, .int x4)] dX7_loan_202 (by decide) rfl ?_
                              refine g_iinc X 3 (fun v => [(9, .int v), (8, .int zq75), (11, .int 0), (10, .int 0), (7, .int rq37), (6, .int rq33), (5, .int rq29), (0, .ref (ad 47)), (1, .int x1), (2, .int x2), (3, .int x3), (4, .int x4)]) dX7_loan_204 rfl (by decide) (fun _ => rfl) (fun zq78 eq79 => ?_)
                              have tq80 : zq78.toInt = b9_76 + 1 := add_nw eq79 e9_76 (show (Int32.ofInt 1).toInt = 1 by decide) (by omega)
                              refine g_goto X (tgt := 76) dX7_loan_207 (by decide) ?_
                              refine g_sub [0, 1, 4, 5, 6, 7, 8, 9, 10, 11] rfl ?_
                              exact ih76 zq78 _ tq80 zq75 _ rfl (by omega) (by omega)
                            · refine g_iconst X 1 dX7_loan_196 (by decide) ?_
                              refine g_goto X (tgt := 201) dX7_loan_197 (by decide) ?_
                              refine g_iadd X dX7_loan_201 (fun zq81 eq82 => ?_)
                              refine g_istore X [(8, .int zq81), (11, .int 0), (10, .int 0), (9, .int y9_76), (7, .int rq37), (6, .int rq33), (5, .int rq29), (0, .ref (ad 47)), (1, .int x1), (2, .int x2), (3, .int x3), (4, .int x4)] dX7_loan_202 (by decide) rfl ?_
                              refine g_iinc X 3 (fun v => [(9, .int v), (8, .int zq81), (11, .int 0), (10, .int 0), (7, .int rq37), (6, .int rq33), (5, .int rq29), (0, .ref (ad 47)), (1, .int x1), (2, .int x2), (3, .int x3), (4, .int x4)]) dX7_loan_204 rfl (by decide) (fun _ => rfl) (fun zq84 eq85 => ?_)
                              have tq86 : zq84.toInt = b9_76 + 1 := add_nw eq85 e9_76 (show (Int32.ofInt 1).toInt = 1 by decide) (by omega)
                              refine g_goto X (tgt := 76) dX7_loan_207 (by decide) ?_
                              refine g_sub [0, 1, 4, 5, 6, 7, 8, 9, 10, 11] rfl ?_
                              exact ih76 zq84 _ tq86 zq81 _ rfl (by omega) (by omega)
                        · refine g_aload_n X 6 rfl dX7_loan_163 ?_
                          refine g_iload X 3 rfl dX7_loan_164 ?_
                          refine g_iload X 1 rfl dX7_loan_166 ?_
                          refine g_iload_n X 9 rfl dX7_loan_168 ?_
                          refine g_iload X 5 rfl dX7_loan_169 ?_
                          refine g_callV X m_X7_322 (c_X7_hasLine ad Mq rq37 tq39 y9_76 e9_76 x3 t3 rq29 tq31 Iq0 (by omega)) rfl (by decide) (Nat.le_of_ble_eq_true rfl) rfl dX7_loan_171 ?_
                          rintro _ _ ⟨rq87, aq88, rfl, tq89, hq90, rfl⟩
                          show G Γ Mq 174 [(10, .int 0), (9, .int y9_76), (8, .int y8_76), (7, .int rq37), (6, .int rq33), (5, .int rq29), (0, .ref (ad 47)), (1, .int x1), (2, .int x2), (3, .int x3), (4, .int x4)] [.int rq87]
                          refine g_if_eq X tq89 (tgt := 181) dX7_loan_174 (by decide) (fun cq91 => ?_) (fun cq91 => ?_)
                          · refine g_iconst X 0 dX7_loan_181 (by decide) ?_
                            refine g_istore X [(11, .int 0), (10, .int 0), (9, .int y9_76), (8, .int y8_76), (7, .int rq37), (6, .int rq33), (5, .int rq29), (0, .ref (ad 47)), (1, .int x1), (2, .int x2), (3, .int x3), (4, .int x4)] dX7_loan_182 (by decide) rfl ?_
                            refine g_iload X 3 rfl dX7_loan_184 ?_
                            refine g_iload X 1 rfl dX7_loan_186 ?_
                            refine g_if_eq X (show (0 : Int32).toInt = 0 by decide) (tgt := 200) dX7_loan_188 (by decide) (fun cq92 => ?_) (fun cq92 => ?_)
                            · refine g_iconst X 0 dX7_loan_200 (by decide) ?_
                              refine g_iadd X dX7_loan_201 (fun zq93 eq94 => ?_)
                              refine g_istore X [(8, .int zq93), (11, .int 0), (10, .int 0), (9, .int y9_76), (7, .int rq37), (6, .int rq33), (5, .int rq29), (0, .ref (ad 47)), (1, .int x1), (2, .int x2), (3, .int x3), (4, .int x4)] dX7_loan_202 (by decide) rfl ?_
                              refine g_iinc X 3 (fun v => [(9, .int v), (8, .int zq93), (11, .int 0), (10, .int 0), (7, .int rq37), (6, .int rq33), (5, .int rq29), (0, .ref (ad 47)), (1, .int x1), (2, .int x2), (3, .int x3), (4, .int x4)]) dX7_loan_204 rfl (by decide) (fun _ => rfl) (fun zq96 eq97 => ?_)
                              have tq98 : zq96.toInt = b9_76 + 1 := add_nw eq97 e9_76 (show (Int32.ofInt 1).toInt = 1 by decide) (by omega)
                              refine g_goto X (tgt := 76) dX7_loan_207 (by decide) ?_
                              refine g_sub [0, 1, 4, 5, 6, 7, 8, 9, 10, 11] rfl ?_
                              exact ih76 zq96 _ tq98 zq93 _ rfl (by omega) (by omega)
                            · refine g_iload X 0 rfl dX7_loan_191 ?_
                              refine g_if_ne X (show (0 : Int32).toInt = 0 by decide) (tgt := 200) dX7_loan_193 (by decide) (fun cq99 => ?_) (fun cq99 => ?_)
                              · refine g_iconst X 0 dX7_loan_200 (by decide) ?_
                                refine g_iadd X dX7_loan_201 (fun zq100 eq101 => ?_)
                                refine g_istore X [(8, .int zq100), (11, .int 0), (10, .int 0), (9, .int y9_76), (7, .int rq37), (6, .int rq33), (5, .int rq29), (0, .ref (ad 47)), (1, .int x1), (2, .int x2), (3, .int x3), (4, .int x4)] dX7_loan_202 (by decide) rfl ?_
                                refine g_iinc X 3 (fun v => [(9, .int v), (8, .int zq100), (11, .int 0), (10, .int 0), (7, .int rq37), (6, .int rq33), (5, .int rq29), (0, .ref (ad 47)), (1, .int x1), (2, .int x2), (3, .int x3), (4, .int x4)]) dX7_loan_204 rfl (by decide) (fun _ => rfl) (fun zq103 eq104 => ?_)
                                have tq105 : zq103.toInt = b9_76 + 1 := add_nw eq104 e9_76 (show (Int32.ofInt 1).toInt = 1 by decide) (by omega)
                                refine g_goto X (tgt := 76) dX7_loan_207 (by decide) ?_
                                refine g_sub [0, 1, 4, 5, 6, 7, 8, 9, 10, 11] rfl ?_
                                exact ih76 zq103 _ tq105 zq100 _ rfl (by omega) (by omega)
                              · refine g_iconst X 1 dX7_loan_196 (by decide) ?_
                                refine g_goto X (tgt := 201) dX7_loan_197 (by decide) ?_
                                refine g_iadd X dX7_loan_201 (fun zq106 eq107 => ?_)
                                refine g_istore X [(8, .int zq106), (11, .int 0), (10, .int 0), (9, .int y9_76), (7, .int rq37), (6, .int rq33), (5, .int rq29), (0, .ref (ad 47)), (1, .int x1), (2, .int x2), (3, .int x3), (4, .int x4)] dX7_loan_202 (by decide) rfl ?_
                                refine g_iinc X 3 (fun v => [(9, .int v), (8, .int zq106), (11, .int 0), (10, .int 0), (7, .int rq37), (6, .int rq33), (5, .int rq29), (0, .ref (ad 47)), (1, .int x1), (2, .int x2), (3, .int x3), (4, .int x4)]) dX7_loan_204 rfl (by decide) (fun _ => rfl) (fun zq109 eq110 => ?_)
                                have tq111 : zq109.toInt = b9_76 + 1 := add_nw eq110 e9_76 (show (Int32.ofInt 1).toInt = 1 by decide) (by omega)
                                refine g_goto X (tgt := 76) dX7_loan_207 (by decide) ?_
                                refine g_sub [0, 1, 4, 5, 6, 7, 8, 9, 10, 11] rfl ?_
                                exact ih76 zq109 _ tq111 zq106 _ rfl (by omega) (by omega)
                          · refine g_iconst X 1 dX7_loan_177 (by decide) ?_
                            refine g_goto X (tgt := 182) dX7_loan_178 (by decide) ?_
                            refine g_istore X [(11, .int 1), (10, .int 0), (9, .int y9_76), (8, .int y8_76), (7, .int rq37), (6, .int rq33), (5, .int rq29), (0, .ref (ad 47)), (1, .int x1), (2, .int x2), (3, .int x3), (4, .int x4)] dX7_loan_182 (by decide) rfl ?_
                            refine g_iload X 3 rfl dX7_loan_184 ?_
                            refine g_iload X 1 rfl dX7_loan_186 ?_
                            refine g_if_eq X (show (0 : Int32).toInt = 0 by decide) (tgt := 200) dX7_loan_188 (by decide) (fun cq112 => ?_) (fun cq112 => ?_)
                            · refine g_iconst X 0 dX7_loan_200 (by decide) ?_
                              refine g_iadd X dX7_loan_201 (fun zq113 eq114 => ?_)
                              refine g_istore X [(8, .int zq113), (11, .int 1), (10, .int 0), (9, .int y9_76), (7, .int rq37), (6, .int rq33), (5, .int rq29), (0, .ref (ad 47)), (1, .int x1), (2, .int x2), (3, .int x3), (4, .int x4)] dX7_loan_202 (by decide) rfl ?_
                              refine g_iinc X 3 (fun v => [(9, .int v), (8, .int zq113), (11, .int 1), (10, .int 0), (7, .int rq37), (6, .int rq33), (5, .int rq29), (0, .ref (ad 47)), (1, .int x1), (2, .int x2), (3, .int x3), (4, .int x4)]) dX7_loan_204 rfl (by decide) (fun _ => rfl) (fun zq116 eq117 => ?_)
                              have tq118 : zq116.toInt = b9_76 + 1 := add_nw eq117 e9_76 (show (Int32.ofInt 1).toInt = 1 by decide) (by omega)
                              refine g_goto X (tgt := 76) dX7_loan_207 (by decide) ?_
                              refine g_sub [0, 1, 4, 5, 6, 7, 8, 9, 10, 11] rfl ?_
                              exact ih76 zq116 _ tq118 zq113 _ rfl (by omega) (by omega)
                            · refine g_iload X 0 rfl dX7_loan_191 ?_
                              refine g_if_ne X (show (1 : Int32).toInt = 1 by decide) (tgt := 200) dX7_loan_193 (by decide) (fun cq119 => ?_) (fun cq119 => ?_)
                              · refine g_iconst X 0 dX7_loan_200 (by decide) ?_
                                refine g_iadd X dX7_loan_201 (fun zq120 eq121 => ?_)
                                refine g_istore X [(8, .int zq120), (11, .int 1), (10, .int 0), (9, .int y9_76), (7, .int rq37), (6, .int rq33), (5, .int rq29), (0, .ref (ad 47)), (1, .int x1), (2, .int x2), (3, .int x3), (4, .int x4)] dX7_loan_202 (by decide) rfl ?_
                                refine g_iinc X 3 (fun v => [(9, .int v), (8, .int zq120), (11, .int 1), (10, .int 0), (7, .int rq37), (6, .int rq33), (5, .int rq29), (0, .ref (ad 47)), (1, .int x1), (2, .int x2), (3, .int x3), (4, .int x4)]) dX7_loan_204 rfl (by decide) (fun _ => rfl) (fun zq123 eq124 => ?_)
                                have tq125 : zq123.toInt = b9_76 + 1 := add_nw eq124 e9_76 (show (Int32.ofInt 1).toInt = 1 by decide) (by omega)
                                refine g_goto X (tgt := 76) dX7_loan_207 (by decide) ?_
                                refine g_sub [0, 1, 4, 5, 6, 7, 8, 9, 10, 11] rfl ?_
                                exact ih76 zq123 _ tq125 zq120 _ rfl (by omega) (by omega)
                              · refine g_iconst X 1 dX7_loan_196 (by decide) ?_
                                refine g_goto X (tgt := 201) dX7_loan_197 (by decide) ?_
                                refine g_iadd X dX7_loan_201 (fun zq126 eq127 => ?_)
                                refine g_istore X [(8, .int zq126), (11, .int 1), (10, .int 0), (9, .int y9_76), (7, .int rq37), (6, .int rq33), (5, .int rq29), (0, .ref (ad 47)), (1, .int x1), (2, .int x2), (3, .int x3), (4, .int x4)] dX7_loan_202 (by decide) rfl ?_
                                refine g_iinc X 3 (fun v => [(9, .int v), (8, .int zq126), (11, .int 1), (10, .int 0), (7, .int rq37), (6, .int rq33), (5, .int rq29), (0, .ref (ad 47)), (1, .int x1), (2, .int x2), (3, .int x3), (4, .int x4)]) dX7_loan_204 rfl (by decide) (fun _ => rfl) (fun zq129 eq130 => ?_)
                                have tq131 : zq129.toInt = b9_76 + 1 := add_nw eq130 e9_76 (show (Int32.ofInt 1).toInt = 1 by decide) (by omega)
                                refine g_goto X (tgt := 76) dX7_loan_207 (by decide) ?_
                                refine g_sub [0, 1, 4, 5, 6, 7, 8, 9, 10, 11] rfl ?_
                                exact ih76 zq129 _ tq131 zq126 _ rfl (by omega) (by omega)
                    · refine g_iload X 0 rfl dX7_loan_134 ?_
                      refine g_if_eq X (show (0 : Int32).toInt = 0 by decide) (tgt := 153) dX7_loan_136 (by decide) (fun cq132 => ?_) (fun cq132 => ?_)
                      · refine g_iload X 3 rfl dX7_loan_153 ?_
                        refine g_if_lt X tq39 (tgt := 181) dX7_loan_155 (by decide) (fun cq133 => ?_) (fun cq133 => ?_)
                        · refine g_iconst X 0 dX7_loan_181 (by decide) ?_
                          refine g_istore X [(11, .int 0), (10, .int 0), (9, .int y9_76), (8, .int y8_76), (7, .int rq37), (6, .int rq33), (5, .int rq29), (0, .ref (ad 47)), (1, .int x1), (2, .int x2), (3, .int x3), (4, .int x4)] dX7_loan_182 (by decide) rfl ?_
                          refine g_iload X 3 rfl dX7_loan_184 ?_
                          refine g_iload X 1 rfl dX7_loan_186 ?_
                          refine g_if_eq X (show (0 : Int32).toInt = 0 by decide) (tgt := 200) dX7_loan_188 (by decide) (fun cq134 => ?_) (fun cq134 => ?_)
                          · refine g_iconst X 0 dX7_loan_200 (by decide) ?_
                            refine g_iadd X dX7_loan_201 (fun zq135 eq136 => ?_)
                            refine g_istore X [(8, .int zq135), (11, .int 0), (10, .int 0), (9, .int y9_76), (7, .int rq37), (6, .int rq33), (5, .int rq29), (0, .ref (ad 47)), (1, .int x1), (2, .int x2), (3, .int x3), (4, .int x4)] dX7_loan_202 (by decide) rfl ?_
                            refine g_iinc X 3 (fun v => [(9, .int v), (8, .int zq135), (11, .int 0), (10, .int 0), (7, .int rq37), (6, .int rq33), (5, .int rq29), (0, .ref (ad 47)), (1, .int x1), (2, .int x2), (3, .int x3), (4, .int x4)]) dX7_loan_204 rfl (by decide) (fun _ => rfl) (fun zq138 eq139 => ?_)
                            have tq140 : zq138.toInt = b9_76 + 1 := add_nw eq139 e9_76 (show (Int32.ofInt 1).toInt = 1 by decide) (by omega)
                            refine g_goto X (tgt := 76) dX7_loan_207 (by decide) ?_
                            refine g_sub [0, 1, 4, 5, 6, 7, 8, 9, 10, 11] rfl ?_
                            exact ih76 zq138 _ tq140 zq135 _ rfl (by omega) (by omega)
                          · refine g_iload X 0 rfl dX7_loan_191 ?_
                            refine g_if_ne X (show (0 : Int32).toInt = 0 by decide) (tgt := 200) dX7_loan_193 (by decide) (fun cq141 => ?_) (fun cq141 => ?_)
                            · refine g_iconst X 0 dX7_loan_200 (by decide) ?_
                              refine g_iadd X dX7_loan_201 (fun zq142 eq143 => ?_)
                              refine g_istore X [(8, .int zq142), (11, .int 0), (10, .int 0), (9, .int y9_76), (7, .int rq37), (6, .int rq33), (5, .int rq29), (0, .ref (ad 47)), (1, .int x1), (2, .int x2), (3, .int x3), (4, .int x4)] dX7_loan_202 (by decide) rfl ?_
                              refine g_iinc X 3 (fun v => [(9, .int v), (8, .int zq142), (11, .int 0), (10, .int 0), (7, .int rq37), (6, .int rq33), (5, .int rq29), (0, .ref (ad 47)), (1, .int x1), (2, .int x2), (3, .int x3), (4, .int x4)]) dX7_loan_204 rfl (by decide) (fun _ => rfl) (fun zq145 eq146 => ?_)
                              have tq147 : zq145.toInt = b9_76 + 1 := add_nw eq146 e9_76 (show (Int32.ofInt 1).toInt = 1 by decide) (by omega)
                              refine g_goto X (tgt := 76) dX7_loan_207 (by decide) ?_
                              refine g_sub [0, 1, 4, 5, 6, 7, 8, 9, 10, 11] rfl ?_
                              exact ih76 zq145 _ tq147 zq142 _ rfl (by omega) (by omega)
                            · refine g_iconst X 1 dX7_loan_196 (by decide) ?_
                              refine g_goto X (tgt := 201) dX7_loan_197 (by decide) ?_
                              refine g_iadd X dX7_loan_201 (fun zq148 eq149 => ?_)
                              refine g_istore X [(8, .int zq148), (11, .int 0), (10, .int 0), (9, .int y9_76), (7, .int rq37), (6, .int rq33), (5, .int rq29), (0, .ref (ad 47)), (1, .int x1), (2, .int x2), (3, .int x3), (4, .int x4)] dX7_loan_202 (by decide) rfl ?_
                              refine g_iinc X 3 (fun v => [(9, .int v), (8, .int zq148), (11, .int 0), (10, .int 0), (7, .int rq37), (6, .int rq33), (5, .int rq29), (0, .ref (ad 47)), (1, .int x1), (2, .int x2), (3, .int x3), (4, .int x4)]) dX7_loan_204 rfl (by decide) (fun _ => rfl) (fun zq151 eq152 => ?_)
                              have tq153 : zq151.toInt = b9_76 + 1 := add_nw eq152 e9_76 (show (Int32.ofInt 1).toInt = 1 by decide) (by omega)
                              refine g_goto X (tgt := 76) dX7_loan_207 (by decide) ?_
                              refine g_sub [0, 1, 4, 5, 6, 7, 8, 9, 10, 11] rfl ?_
                              exact ih76 zq151 _ tq153 zq148 _ rfl (by omega) (by omega)
                        · refine g_iload X 0 rfl dX7_loan_158 ?_
                          refine g_if_eq X (show (0 : Int32).toInt = 0 by decide) (tgt := 181) dX7_loan_160 (by decide) (fun cq154 => ?_) (fun cq154 => ?_)
                          · refine g_iconst X 0 dX7_loan_181 (by decide) ?_
                            refine g_istore X [(11, .int 0), (10, .int 0), (9, .int y9_76), (8, .int y8_76), (7, .int rq37), (6, .int rq33), (5, .int rq29), (0, .ref (ad 47)), (1, .int x1), (2, .int x2), (3, .int x3), (4, .int x4)] dX7_loan_182 (by decide) rfl ?_
                            refine g_iload X 3 rfl dX7_loan_184 ?_
                            refine g_iload X 1 rfl dX7_loan_186 ?_
                            refine g_if_eq X (show (0 : Int32).toInt = 0 by decide) (tgt := 200) dX7_loan_188 (by decide) (fun cq155 => ?_) (fun cq155 => ?_)
                            · refine g_iconst X 0 dX7_loan_200 (by decide) ?_
                              refine g_iadd X dX7_loan_201 (fun zq156 eq157 => ?_)
                              refine g_istore X [(8, .int zq156), (11, .int 0), (10, .int 0), (9, .int y9_76), (7, .int rq37), (6, .int rq33), (5, .int rq29), (0, .ref (ad 47)), (1, .int x1), (2, .int x2), (3, .int x3), (4, .int x4)] dX7_loan_202 (by decide) rfl ?_
                              refine g_iinc X 3 (fun v => [(9, .int v), (8, .int zq156), (11, .int 0), (10, .int 0), (7, .int rq37), (6, .int rq33), (5, .int rq29), (0, .ref (ad 47)), (1, .int x1), (2, .int x2), (3, .int x3), (4, .int x4)]) dX7_loan_204 rfl (by decide) (fun _ => rfl) (fun zq159 eq160 => ?_)
                              have tq161 : zq159.toInt = b9_76 + 1 := add_nw eq160 e9_76 (show (Int32.ofInt 1).toInt = 1 by decide) (by omega)
                              refine g_goto X (tgt := 76) dX7_loan_207 (by decide) ?_
                              refine g_sub [0, 1, 4, 5, 6, 7, 8, 9, 10, 11] rfl ?_
                              exact ih76 zq159 _ tq161 zq156 _ rfl (by omega) (by omega)
                            · refine g_iload X 0 rfl dX7_loan_191 ?_
                              refine g_if_ne X (show (0 : Int32).toInt = 0 by decide) (tgt := 200) dX7_loan_193 (by decide) (fun cq162 => ?_) (fun cq162 => ?_)
                              · refine g_iconst X 0 dX7_loan_200 (by decide) ?_
                                refine g_iadd X dX7_loan_201 (fun zq163 eq164 => ?_)
                                refine g_istore X [(8, .int zq163), (11, .int 0), (10, .int 0), (9, .int y9_76), (7, .int rq37), (6, .int rq33), (5, .int rq29), (0, .ref (ad 47)), (1, .int x1), (2, .int x2), (3, .int x3), (4, .int x4)] dX7_loan_202 (by decide) rfl ?_
                                refine g_iinc X 3 (fun v => [(9, .int v), (8, .int zq163), (11, .int 0), (10, .int 0), (7, .int rq37), (6, .int rq33), (5, .int rq29), (0, .ref (ad 47)), (1, .int x1), (2, .int x2), (3, .int x3), (4, .int x4)]) dX7_loan_204 rfl (by decide) (fun _ => rfl) (fun zq166 eq167 => ?_)
                                have tq168 : zq166.toInt = b9_76 + 1 := add_nw eq167 e9_76 (show (Int32.ofInt 1).toInt = 1 by decide) (by omega)
                                refine g_goto X (tgt := 76) dX7_loan_207 (by decide) ?_
                                refine g_sub [0, 1, 4, 5, 6, 7, 8, 9, 10, 11] rfl ?_
                                exact ih76 zq166 _ tq168 zq163 _ rfl (by omega) (by omega)
                              · refine g_iconst X 1 dX7_loan_196 (by decide) ?_
                                refine g_goto X (tgt := 201) dX7_loan_197 (by decide) ?_
                                refine g_iadd X dX7_loan_201 (fun zq169 eq170 => ?_)
                                refine g_istore X [(8, .int zq169), (11, .int 0), (10, .int 0), (9, .int y9_76), (7, .int rq37), (6, .int rq33), (5, .int rq29), (0, .ref (ad 47)), (1, .int x1), (2, .int x2), (3, .int x3), (4, .int x4)] dX7_loan_202 (by decide) rfl ?_
                                refine g_iinc X 3 (fun v => [(9, .int v), (8, .int zq169), (11, .int 0), (10, .int 0), (7, .int rq37), (6, .int rq33), (5, .int rq29), (0, .ref (ad 47)), (1, .int x1), (2, .int x2), (3, .int x3), (4, .int x4)]) dX7_loan_204 rfl (by decide) (fun _ => rfl) (fun zq172 eq173 => ?_)
                                have tq174 : zq172.toInt = b9_76 + 1 := add_nw eq173 e9_76 (show (Int32.ofInt 1).toInt = 1 by decide) (by omega)
                                refine g_goto X (tgt := 76) dX7_loan_207 (by decide) ?_
                                refine g_sub [0, 1, 4, 5, 6, 7, 8, 9, 10, 11] rfl ?_
                                exact ih76 zq172 _ tq174 zq169 _ rfl (by omega) (by omega)
                          · refine g_aload_n X 6 rfl dX7_loan_163 ?_
                            refine g_iload X 3 rfl dX7_loan_164 ?_
                            refine g_iload X 1 rfl dX7_loan_166 ?_
                            refine g_iload_n X 9 rfl dX7_loan_168 ?_
                            refine g_iload X 5 rfl dX7_loan_169 ?_
                            refine g_callV X m_X7_322 (c_X7_hasLine ad Mq rq37 tq39 y9_76 e9_76 x3 t3 rq29 tq31 Iq0 (by omega)) rfl (by decide) (Nat.le_of_ble_eq_true rfl) rfl dX7_loan_171 ?_
                            rintro _ _ ⟨rq175, aq176, rfl, tq177, hq178, rfl⟩
                            show G Γ Mq 174 [(10, .int 0), (9, .int y9_76), (8, .int y8_76), (7, .int rq37), (6, .int rq33), (5, .int rq29), (0, .ref (ad 47)), (1, .int x1), (2, .int x2), (3, .int x3), (4, .int x4)] [.int rq175]
                            refine g_if_eq X tq177 (tgt := 181) dX7_loan_174 (by decide) (fun cq179 => ?_) (fun cq179 => ?_)
                            · refine g_iconst X 0 dX7_loan_181 (by decide) ?_
                              refine g_istore X [(11, .int 0), (10, .int 0), (9, .int y9_76), (8, .int y8_76), (7, .int rq37), (6, .int rq33), (5, .int rq29), (0, .ref (ad 47)), (1, .int x1), (2, .int x2), (3, .int x3), (4, .int x4)] dX7_loan_182 (by decide) rfl ?_
                              refine g_iload X 3 rfl dX7_loan_184 ?_
                              refine g_iload X 1 rfl dX7_loan_186 ?_
                              refine g_if_eq X (show (0 : Int32).toInt = 0 by decide) (tgt := 200) dX7_loan_188 (by decide) (fun cq180 => ?_) (fun cq180 => ?_)
                              · refine g_iconst X 0 dX7_loan_200 (by decide) ?_
                                refine g_iadd X dX7_loan_201 (fun zq181 eq182 => ?_)
                                refine g_istore X [(8, .int zq181), (11, .int 0), (10, .int 0), (9, .int y9_76), (7, .int rq37), (6, .int rq33), (5, .int rq29), (0, .ref (ad 47)), (1, .int x1), (2, .int x2), (3, .int x3), (4, .int x4)] dX7_loan_202 (by decide) rfl ?_
                                refine g_iinc X 3 (fun v => [(9, .int v), (8, .int zq181), (11, .int 0), (10, .int 0), (7, .int rq37), (6, .int rq33), (5, .int rq29), (0, .ref (ad 47)), (1, .int x1), (2, .int x2), (3, .int x3), (4, .int x4)]) dX7_loan_204 rfl (by decide) (fun _ => rfl) (fun zq184 eq185 => ?_)
                                have tq186 : zq184.toInt = b9_76 + 1 := add_nw eq185 e9_76 (show (Int32.ofInt 1).toInt = 1 by decide) (by omega)
                                refine g_goto X (tgt := 76) dX7_loan_207 (by decide) ?_
                                refine g_sub [0, 1, 4, 5, 6, 7, 8, 9, 10, 11] rfl ?_
                                exact ih76 zq184 _ tq186 zq181 _ rfl (by omega) (by omega)
                              · refine g_iload X 0 rfl dX7_loan_191 ?_
                                refine g_if_ne X (show (0 : Int32).toInt = 0 by decide) (tgt := 200) dX7_loan_193 (by decide) (fun cq187 => ?_) (fun cq187 => ?_)
                                · refine g_iconst X 0 dX7_loan_200 (by decide) ?_
                                  refine g_iadd X dX7_loan_201 (fun zq188 eq189 => ?_)
                                  refine g_istore X [(8, .int zq188), (11, .int 0), (10, .int 0), (9, .int y9_76), (7, .int rq37), (6, .int rq33), (5, .int rq29), (0, .ref (ad 47)), (1, .int x1), (2, .int x2), (3, .int x3), (4, .int x4)] dX7_loan_202 (by decide) rfl ?_
                                  refine g_iinc X 3 (fun v => [(9, .int v), (8, .int zq188), (11, .int 0), (10, .int 0), (7, .int rq37), (6, .int rq33), (5, .int rq29), (0, .ref (ad 47)), (1, .int x1), (2, .int x2), (3, .int x3), (4, .int x4)]) dX7_loan_204 rfl (by decide) (fun _ => rfl) (fun zq191 eq192 => ?_)
                                  have tq193 : zq191.toInt = b9_76 + 1 := add_nw eq192 e9_76 (show (Int32.ofInt 1).toInt = 1 by decide) (by omega)
                                  refine g_goto X (tgt := 76) dX7_loan_207 (by decide) ?_
                                  refine g_sub [0, 1, 4, 5, 6, 7, 8, 9, 10, 11] rfl ?_
                                  exact ih76 zq191 _ tq193 zq188 _ rfl (by omega) (by omega)
                                · refine g_iconst X 1 dX7_loan_196 (by decide) ?_
                                  refine g_goto X (tgt := 201) dX7_loan_197 (by decide) ?_
                                  refine g_iadd X dX7_loan_201 (fun zq194 eq195 => ?_)
                                  refine g_istore X [(8, .int zq194), (11, .int 0), (10, .int 0), (9, .int y9_76), (7, .int rq37), (6, .int rq33), (5, .int rq29), (0, .ref (ad 47)), (1, .int x1), (2, .int x2), (3, .int x3), (4, .int x4)] dX7_loan_202 (by decide) rfl ?_
                                  refine g_iinc X 3 (fun v => [(9, .int v), (8, .int zq194), (11, .int 0), (10, .int 0), (7, .int rq37), (6, .int rq33), (5, .int rq29), (0, .ref (ad 47)), (1, .int x1), (2, .int x2), (3, .int x3), (4, .int x4)]) dX7_loan_204 rfl (by decide) (fun _ => rfl) (fun zq197 eq198 => ?_)
                                  have tq199 : zq197.toInt = b9_76 + 1 := add_nw eq198 e9_76 (show (Int32.ofInt 1).toInt = 1 by decide) (by omega)
                                  refine g_goto X (tgt := 76) dX7_loan_207 (by decide) ?_
                                  refine g_sub [0, 1, 4, 5, 6, 7, 8, 9, 10, 11] rfl ?_
                                  exact ih76 zq197 _ tq199 zq194 _ rfl (by omega) (by omega)
                            · refine g_iconst X 1 dX7_loan_177 (by decide) ?_
                              refine g_goto X (tgt := 182) dX7_loan_178 (by decide) ?_
                              refine g_istore X [(11, .int 1), (10, .int 0), (9, .int y9_76), (8, .int y8_76), (7, .int rq37), (6, .int rq33), (5, .int rq29), (0, .ref (ad 47)), (1, .int x1), (2, .int x2), (3, .int x3), (4, .int x4)] dX7_loan_182 (by decide) rfl ?_
                              refine g_iload X 3 rfl dX7_loan_184 ?_
                              refine g_iload X 1 rfl dX7_loan_186 ?_
                              refine g_if_eq X (show (0 : Int32).toInt = 0 by decide) (tgt := 200) dX7_loan_188 (by decide) (fun cq200 => ?_) (fun cq200 => ?_)
                              · refine g_iconst X 0 dX7_loan_200 (by decide) ?_
                                refine g_iadd X dX7_loan_201 (fun zq201 eq202 => ?_)
                                refine g_istore X [(8, .int zq201), (11, .int 1), (10, .int 0), (9, .int y9_76), (7, .int rq37), (6, .int rq33), (5, .int rq29), (0, .ref (ad 47)), (1, .int x1), (2, .int x2), (3, .int x3), (4, .int x4)] dX7_loan_202 (by decide) rfl ?_
                                refine g_iinc X 3 (fun v => [(9, .int v), (8, .int zq201), (11, .int 1), (10, .int 0), (7, .int rq37), (6, .int rq33), (5, .int rq29), (0, .ref (ad 47)), (1, .int x1), (2, .int x2), (3, .int x3), (4, .int x4)]) dX7_loan_204 rfl (by decide) (fun _ => rfl) (fun zq204 eq205 => ?_)
                                have tq206 : zq204.toInt = b9_76 + 1 := add_nw eq205 e9_76 (show (Int32.ofInt 1).toInt = 1 by decide) (by omega)
                                refine g_goto X (tgt := 76) dX7_loan_207 (by decide) ?_
                                refine g_sub [0, 1, 4, 5, 6, 7, 8, 9, 10, 11] rfl ?_
                                exact ih76 zq204 _ tq206 zq201 _ rfl (by omega) (by omega)
                              · refine g_iload X 0 rfl dX7_loan_191 ?_
                                refine g_if_ne X (show (1 : Int32).toInt = 1 by decide) (tgt := 200) dX7_loan_193 (by decide) (fun cq207 => ?_) (fun cq207 => ?_)
                                · refine g_iconst X 0 dX7_loan_200 (by decide) ?_
                                  refine g_iadd X dX7_loan_201 (fun zq208 eq209 => ?_)
                                  refine g_istore X [(8, .int zq208), (11, .int 1), (10, .int 0), (9, .int y9_76), (7, .int rq37), (6, .int rq33), (5, .int rq29), (0, .ref (ad 47)), (1, .int x1), (2, .int x2), (3, .int x3), (4, .int x4)] dX7_loan_202 (by decide) rfl ?_
                                  refine g_iinc X 3 (fun v => [(9, .int v), (8, .int zq208), (11, .int 1), (10, .int 0), (7, .int rq37), (6, .int rq33), (5, .int rq29), (0, .ref (ad 47)), (1, .int x1), (2, .int x2), (3, .int x3), (4, .int x4)]) dX7_loan_204 rfl (by decide) (fun _ => rfl) (fun zq211 eq212 => ?_)
                                  have tq213 : zq211.toInt = b9_76 + 1 := add_nw eq212 e9_76 (show (Int32.ofInt 1).toInt = 1 by decide) (by omega)
                                  refine g_goto X (tgt := 76) dX7_loan_207 (by decide) ?_
                                  refine g_sub [0, 1, 4, 5, 6, 7, 8, 9, 10, 11] rfl ?_
                                  exact ih76 zq211 _ tq213 zq208 _ rfl (by omega) (by omega)
                                · refine g_iconst X 1 dX7_loan_196 (by decide) ?_
                                  refine g_goto X (tgt := 201) dX7_loan_197 (by decide) ?_
                                  refine g_iadd X dX7_loan_201 (fun zq214 eq215 => ?_)
                                  refine g_istore X [(8, .int zq214), (11, .int 1), (10, .int 0), (9, .int y9_76), (7, .int rq37), (6, .int rq33), (5, .int rq29), (0, .ref (ad 47)), (1, .int x1), (2, .int x2), (3, .int x3), (4, .int x4)] dX7_loan_202 (by decide) rfl ?_
                                  refine g_iinc X 3 (fun v => [(9, .int v), (8, .int zq214), (11, .int 1), (10, .int 0), (7, .int rq37), (6, .int rq33), (5, .int rq29), (0, .ref (ad 47)), (1, .int x1), (2, .int x2), (3, .int x3), (4, .int x4)]) dX7_loan_204 rfl (by decide) (fun _ => rfl) (fun zq217 eq218 => ?_)
                                  have tq219 : zq217.toInt = b9_76 + 1 := add_nw eq218 e9_76 (show (Int32.ofInt 1).toInt = 1 by decide) (by omega)
                                  refine g_goto X (tgt := 76) dX7_loan_207 (by decide) ?_
                                  refine g_sub [0, 1, 4, 5, 6, 7, 8, 9, 10, 11] rfl ?_
                                  exact ih76 zq217 _ tq219 zq214 _ rfl (by omega) (by omega)
                      · refine g_aload_n X 6 rfl dX7_loan_139 ?_
                        refine g_iload X 4 rfl dX7_loan_140 ?_
                        refine g_iload X 1 rfl dX7_loan_142 ?_
                        refine g_iload_n X 9 rfl dX7_loan_144 ?_
                        refine g_iload X 5 rfl dX7_loan_145 ?_
                        refine g_callV X m_X7_322 (c_X7_hasLine ad Mq rq33 tq35 y9_76 e9_76 x3 t3 rq29 tq31 Iq0 (by omega)) rfl (by decide) (Nat.le_of_ble_eq_true rfl) rfl dX7_loan_147 ?_
                        rintro _ _ ⟨rq220, aq221, rfl, tq222, hq223, rfl⟩
                        show G Γ Mq 150 [(10, .int 0), (9, .int y9_76), (8, .int y8_76), (7, .int rq37), (6, .int rq33), (5, .int rq29), (0, .ref (ad 47)), (1, .int x1), (2, .int x2), (3, .int x3), (4, .int x4)] [.int rq220]
                        refine g_if_ne X tq222 (tgt := 177) dX7_loan_150 (by decide) (fun cq224 => ?_) (fun cq224 => ?_)
                        · refine g_iconst X 1 dX7_loan_177 (by decide) ?_
                          refine g_goto X (tgt := 182) dX7_loan_178 (by decide) ?_
                          refine g_istore X [(11, .int 1), (10, .int 0), (9, .int y9_76), (8, .int y8_76), (7, .int rq37), (6, .int rq33), (5, .int rq29), (0, .ref (ad 47)), (1, .int x1), (2, .int x2), (3, .int x3), (4, .int x4)] dX7_loan_182 (by decide) rfl ?_
                          refine g_iload X 3 rfl dX7_loan_184 ?_
                          refine g_iload X 1 rfl dX7_loan_186 ?_
                          refine g_if_eq X (show (0 : Int32).toInt = 0 by decide) (tgt := 200) dX7_loan_188 (by decide) (fun cq225 => ?_) (fun cq225 => ?_)
                          · refine g_iconst X 0 dX7_loan_200 (by decide) ?_
                            refine g_iadd X dX7_loan_201 (fun zq226 eq227 => ?_)
                            refine g_istore X [(8, .int zq226), (11, .int 1), (10, .int 0), (9, .int y9_76), (7, .int rq37), (6, .int rq33), (5, .int rq29), (0, .ref (ad 47)), (1, .int x1), (2, .int x2), (3, .int x3), (4, .int x4)] dX7_loan_202 (by decide) rfl ?_
                            refine g_iinc X 3 (fun v => [(9, .int v), (8, .int zq226), (11, .int 1), (10, .int 0), (7, .int rq37), (6, .int rq33), (5, .int rq29), (0, .ref (ad 47)), (1, .int x1), (2, .int x2), (3, .int x3), (4, .int x4)]) dX7_loan_204 rfl (by decide) (fun _ => rfl) (fun zq229 eq230 => ?_)
                            have tq231 : zq229.toInt = b9_76 + 1 := add_nw eq230 e9_76 (show (Int32.ofInt 1).toInt = 1 by decide) (by omega)
                            refine g_goto X (tgt := 76) dX7_loan_207 (by decide) ?_
                            refine g_sub [0, 1, 4, 5, 6, 7, 8, 9, 10, 11] rfl ?_
                            exact ih76 zq229 _ tq231 zq226 _ rfl (by omega) (by omega)
                          · refine g_iload X 0 rfl dX7_loan_191 ?_
                            refine g_if_ne X (show (1 : Int32).toInt = 1 by decide) (tgt := 200) dX7_loan_193 (by decide) (fun cq232 => ?_) (fun cq232 => ?_)
                            · refine g_iconst X 0 dX7_loan_200 (by decide) ?_
                              refine g_iadd X dX7_loan_201 (fun zq233 eq234 => ?_)
                              refine g_istore X [(8, .int zq233), (11, .int 1), (10, .int 0), (9, .int y9_76), (7, .int rq37), (6, .int rq33), (5, .int rq29), (0, .ref (ad 47)), (1, .int x1), (2, .int x2), (3, .int x3), (4, .int x4)] dX7_loan_202 (by decide) rfl ?_
                              refine g_iinc X 3 (fun v => [(9, .int v), (8, .int zq233), (11, .int 1), (10, .int 0), (7, .int rq37), (6, .int rq33), (5, .int rq29), (0, .ref (ad 47)), (1, .int x1), (2, .int x2), (3, .int x3), (4, .int x4)]) dX7_loan_204 rfl (by decide) (fun _ => rfl) (fun zq236 eq237 => ?_)
                              have tq238 : zq236.toInt = b9_76 + 1 := add_nw eq237 e9_76 (show (Int32.ofInt 1).toInt = 1 by decide) (by omega)
                              refine g_goto X (tgt := 76) dX7_loan_207 (by decide) ?_
                              refine g_sub [0, 1, 4, 5, 6, 7, 8, 9, 10, 11] rfl ?_
                              exact ih76 zq236 _ tq238 zq233 _ rfl (by omega) (by omega)
                            · refine g_iconst X 1 dX7_loan_196 (by decide) ?_
                              refine g_goto X (tgt := 201) dX7_loan_197 (by decide) ?_
                              refine g_iadd X dX7_loan_201 (fun zq239 eq240 => ?_)
                              refine g_istore X [(8, .int zq239), (11, .int 1), (10, .int 0), (9, .int y9_76), (7, .int rq37), (6, .int rq33), (5, .int rq29), (0, .ref (ad 47)), (1, .int x1), (2, .int x2), (3, .int x3), (4, .int x4)] dX7_loan_202 (by decide) rfl ?_
                              refine g_iinc X 3 (fun v => [(9, .int v), (8, .int zq239), (11, .int 1), (10, .int 0), (7, .int rq37), (6, .int rq33), (5, .int rq29), (0, .ref (ad 47)), (1, .int x1), (2, .int x2), (3, .int x3), (4, .int x4)]) dX7_loan_204 rfl (by decide) (fun _ => rfl) (fun zq242 eq243 => ?_)
                              have tq244 : zq242.toInt = b9_76 + 1 := add_nw eq243 e9_76 (show (Int32.ofInt 1).toInt = 1 by decide) (by omega)
                              refine g_goto X (tgt := 76) dX7_loan_207 (by decide) ?_
                              refine g_sub [0, 1, 4, 5, 6, 7, 8, 9, 10, 11] rfl ?_
                              exact ih76 zq242 _ tq244 zq239 _ rfl (by omega) (by omega)
                        · refine g_iload X 3 rfl dX7_loan_153 ?_
                          refine g_if_lt X tq39 (tgt := 181) dX7_loan_155 (by decide) (fun cq245 => ?_) (fun cq245 => ?_)
                          · refine g_iconst X 0 dX7_loan_181 (by decide) ?_
                            refine g_istore X [(11, .int 0), (10, .int 0), (9, .int y9_76), (8, .int y8_76), (7, .int rq37), (6, .int rq33), (5, .int rq29), (0, .ref (ad 47)), (1, .int x1), (2, .int x2), (3, .int x3), (4, .int x4)] dX7_loan_182 (by decide) rfl ?_
                            refine g_iload X 3 rfl dX7_loan_184 ?_
                            refine g_iload X 1 rfl dX7_loan_186 ?_
                            refine g_if_eq X (show (0 : Int32).toInt = 0 by decide) (tgt := 200) dX7_loan_188 (by decide) (fun cq246 => ?_) (fun cq246 => ?_)
                            · refine g_iconst X 0 dX7_loan_200 (by decide) ?_
                              refine g_iadd X dX7_loan_201 (fun zq247 eq248 => ?_)
                              refine g_istore X [(8, .int zq247), (11, .int 0), (10, .int 0), (9, .int y9_76), (7, .int rq37), (6, .int rq33), (5, .int rq29), (0, .ref (ad 47)), (1, .int x1), (2, .int x2), (3, .int x3), (4, .int x4)] dX7_loan_202 (by decide) rfl ?_
                              refine g_iinc X 3 (fun v => [(9, .int v), (8, .int zq247), (11, .int 0), (10, .int 0), (7, .int rq37), (6, .int rq33), (5, .int rq29), (0, .ref (ad 47)), (1, .int x1), (2, .int x2), (3, .int x3), (4, .int x4)]) dX7_loan_204 rfl (by decide) (fun _ => rfl) (fun zq250 eq251 => ?_)
                              have tq252 : zq250.toInt = b9_76 + 1 := add_nw eq251 e9_76 (show (Int32.ofInt 1).toInt = 1 by decide) (by omega)
                              refine g_goto X (tgt := 76) dX7_loan_207 (by decide) ?_
                              refine g_sub [0, 1, 4, 5, 6, 7, 8, 9, 10, 11] rfl ?_
                              exact ih76 zq250 _ tq252 zq247 _ rfl (by omega) (by omega)
                            · refine g_iload X 0 rfl dX7_loan_191 ?_
                              refine g_if_ne X (show (0 : Int32).toInt = 0 by decide) (tgt := 200) dX7_loan_193 (by decide) (fun cq253 => ?_) (fun cq253 => ?_)
                              · refine g_iconst X 0 dX7_loan_200 (by decide) ?_
                                refine g_iadd X dX7_loan_201 (fun zq254 eq255 => ?_)
                                refine g_istore X [(8, .int zq254), (11, .int 0), (10, .int 0), (9, .int y9_76), (7, .int rq37), (6, .int rq33), (5, .int rq29), (0, .ref (ad 47)), (1, .int x1), (2, .int x2), (3, .int x3), (4, .int x4)] dX7_loan_202 (by decide) rfl ?_
                                refine g_iinc X 3 (fun v => [(9, .int v), (8, .int zq254), (11, .int 0), (10, .int 0), (7, .int rq37), (6, .int rq33), (5, .int rq29), (0, .ref (ad 47)), (1, .int x1), (2, .int x2), (3, .int x3), (4, .int x4)]) dX7_loan_204 rfl (by decide) (fun _ => rfl) (fun zq257 eq258 => ?_)
                                have tq259 : zq257.toInt = b9_76 + 1 := add_nw eq258 e9_76 (show (Int32.ofInt 1).toInt = 1 by decide) (by omega)
                                refine g_goto X (tgt := 76) dX7_loan_207 (by decide) ?_
                                refine g_sub [0, 1, 4, 5, 6, 7, 8, 9, 10, 11] rfl ?_
                                exact ih76 zq257 _ tq259 zq254 _ rfl (by omega) (by omega)
                              · refine g_iconst X 1 dX7_loan_196 (by decide) ?_
                                refine g_goto X (tgt := 201) dX7_loan_197 (by decide) ?_
                                refine g_iadd X dX7_loan_201 (fun zq260 eq261 => ?_)
                                refine g_istore X [(8, .int zq260), (11, .int 0), (10, .int 0), (9, .int y9_76), (7, .int rq37), (6, .int rq33), (5, .int rq29), (0, .ref (ad 47)), (1, .int x1), (2, .int x2), (3, .int x3), (4, .int x4)] dX7_loan_202 (by decide) rfl ?_
                                refine g_iinc X 3 (fun v => [(9, .int v), (8, .int zq260), (11, .int 0), (10, .int 0), (7, .int rq37), (6, .int rq33), (5, .int rq29), (0, .ref (ad 47)), (1, .int x1), (2, .int x2), (3, .int x3), (4, .int x4)]) dX7_loan_204 rfl (by decide) (fun _ => rfl) (fun zq263 eq264 => ?_)
                                have tq265 : zq263.toInt = b9_76 + 1 := add_nw eq264 e9_76 (show (Int32.ofInt 1).toInt = 1 by decide) (by omega)
                                refine g_goto X (tgt := 76) dX7_loan_207 (by decide) ?_
                                refine g_sub [0, 1, 4, 5, 6, 7, 8, 9, 10, 11] rfl ?_
                                exact ih76 zq263 _ tq265 zq260 _ rfl (by omega) (by omega)
                          · refine g_iload X 0 rfl dX7_loan_158 ?_
                            refine g_if_eq X (show (0 : Int32).toInt = 0 by decide) (tgt := 181) dX7_loan_160 (by decide) (fun cq266 => ?_) (fun cq266 => ?_)
                            · refine g_iconst X 0 dX7_loan_181 (by decide) ?_
                              refine g_istore X [(11, .int 0), (10, .int 0), (9, .int y9_76), (8, .int y8_76), (7, .int rq37), (6, .int rq33), (5, .int rq29), (0, .ref (ad 47)), (1, .int x1), (2, .int x2), (3, .int x3), (4, .int x4)] dX7_loan_182 (by decide) rfl ?_
                              refine g_iload X 3 rfl dX7_loan_184 ?_
                              refine g_iload X 1 rfl dX7_loan_186 ?_
                              refine g_if_eq X (show (0 : Int32).toInt = 0 by decide) (tgt := 200) dX7_loan_188 (by decide) (fun cq267 => ?_) (fun cq267 => ?_)
                              · refine g_iconst X 0 dX7_loan_200 (by decide) ?_
                                refine g_iadd X dX7_loan_201 (fun zq268 eq269 => ?_)
                                refine g_istore X [(8, .int zq268), (11, .int 0), (10, .int 0), (9, .int y9_76), (7, .int rq37), (6, .int rq33), (5, .int rq29), (0, .ref (ad 47)), (1, .int x1), (2, .int x2), (3, .int x3), (4, .int x4)] dX7_loan_202 (by decide) rfl ?_
                                refine g_iinc X 3 (fun v => [(9, .int v), (8, .int zq268), (11, .int 0), (10, .int 0), (7, .int rq37), (6, .int rq33), (5, .int rq29), (0, .ref (ad 47)), (1, .int x1), (2, .int x2), (3, .int x3), (4, .int x4)]) dX7_loan_204 rfl (by decide) (fun _ => rfl) (fun zq271 eq272 => ?_)
                                have tq273 : zq271.toInt = b9_76 + 1 := add_nw eq272 e9_76 (show (Int32.ofInt 1).toInt = 1 by decide) (by omega)
                                refine g_goto X (tgt := 76) dX7_loan_207 (by decide) ?_
                                refine g_sub [0, 1, 4, 5, 6, 7, 8, 9, 10, 11] rfl ?_
                                exact ih76 zq271 _ tq273 zq268 _ rfl (by omega) (by omega)
                              · refine g_iload X 0 rfl dX7_loan_191 ?_
                                refine g_if_ne X (show (0 : Int32).toInt = 0 by decide) (tgt := 200) dX7_loan_193 (by decide) (fun cq274 => ?_) (fun cq274 => ?_)
                                · refine g_iconst X 0 dX7_loan_200 (by decide) ?_
                                  refine g_iadd X dX7_loan_201 (fun zq275 eq276 => ?_)
                                  refine g_istore X [(8, .int zq275), (11, .int 0), (10, .int 0), (9, .int y9_76), (7, .int rq37), (6, .int rq33), (5, .int rq29), (0, .ref (ad 47)), (1, .int x1), (2, .int x2), (3, .int x3), (4, .int x4)] dX7_loan_202 (by decide) rfl ?_
                                  refine g_iinc X 3 (fun v => [(9, .int v), (8, .int zq275), (11, .int 0), (10, .int 0), (7, .int rq37), (6, .int rq33), (5, .int rq29), (0, .ref (ad 47)), (1, .int x1), (2, .int x2), (3, .int x3), (4, .int x4)]) dX7_loan_204 rfl (by decide) (fun _ => rfl) (fun zq278 eq279 => ?_)
                                  have tq280 : zq278.toInt = b9_76 + 1 := add_nw eq279 e9_76 (show (Int32.ofInt 1).toInt = 1 by decide) (by omega)
                                  refine g_goto X (tgt := 76) dX7_loan_207 (by decide) ?_
                                  refine g_sub [0, 1, 4, 5, 6, 7, 8, 9, 10, 11] rfl ?_
                                  exact ih76 zq278 _ tq280 zq275 _ rfl (by omega) (by omega)
                                · refine g_iconst X 1 dX7_loan_196 (by decide) ?_
                                  refine g_goto X (tgt := 201) dX7_loan_197 (by decide) ?_
                                  refine g_iadd X dX7_loan_201 (fun zq281 eq282 => ?_)
                                  refine g_istore X [(8, .int zq281), (11, .int 0), (10, .int 0), (9, .int y9_76), (7, .int rq37), (6, .int rq33), (5, .int rq29), (0, .ref (ad 47)), (1, .int x1), (2, .int x2), (3, .int x3), (4, .int x4)] dX7_loan_202 (by decide) rfl ?_
                                  refine g_iinc X 3 (fun v => [(9, .int v), (8, .int zq281), (11, .int 0), (10, .int 0), (7, .int rq37), (6, .int rq33), (5, .int rq29), (0, .ref (ad 47)), (1, .int x1), (2, .int x2), (3, .int x3), (4, .int x4)]) dX7_loan_204 rfl (by decide) (fun _ => rfl) (fun zq284 eq285 => ?_)
                                  have tq286 : zq284.toInt = b9_76 + 1 := add_nw eq285 e9_76 (show (Int32.ofInt 1).toInt = 1 by decide) (by omega)
                                  refine g_goto X (tgt := 76) dX7_loan_207 (by decide) ?_
                                  refine g_sub [0, 1, 4, 5, 6, 7, 8, 9, 10, 11] rfl ?_
                                  exact ih76 zq284 _ tq286 zq281 _ rfl (by omega) (by omega)
                            · refine g_aload_n X 6 rfl dX7_loan_163 ?_
                              refine g_iload X 3 rfl dX7_loan_164 ?_
                              refine g_iload X 1 rfl dX7_loan_166 ?_
                              refine g_iload_n X 9 rfl dX7_loan_168 ?_
                              refine g_iload X 5 rfl dX7_loan_169 ?_
                              refine g_callV X m_X7_322 (c_X7_hasLine ad Mq rq37 tq39 y9_76 e9_76 x3 t3 rq29 tq31 Iq0 (by omega)) rfl (by decide) (Nat.le_of_ble_eq_true rfl) rfl dX7_loan_171 ?_
                              rintro _ _ ⟨rq287, aq288, rfl, tq289, hq290, rfl⟩
                              show G Γ Mq 174 [(10, .int 0), (9, .int y9_76), (8, .int y8_76), (7, .int rq37), (6, .int rq33), (5, .int rq29), (0, .ref (ad 47)), (1, .int x1), (2, .int x2), (3, .int x3), (4, .int x4)] [.int rq287]
                              refine g_if_eq X tq289 (tgt := 181) dX7_loan_174 (by decide) (fun cq291 => ?_) (fun cq291 => ?_)
                              · refine g_iconst X 0 dX7_loan_181 (by decide) ?_
                                refine g_istore X [(11, .int 0), (10, .int 0), (9, .int y9_76), (8, .int y8_76), (7, .int rq37), (6, .int rq33), (5, .int rq29), (0, .ref (ad 47)), (1, .int x1), (2, .int x2), (3, .int x3), (4, .int x4)] dX7_loan_182 (by decide) rfl ?_
                                refine g_iload X 3 rfl dX7_loan_184 ?_
                                refine g_iload X 1 rfl dX7_loan_186 ?_
                                refine g_if_eq X (show (0 : Int32).toInt = 0 by decide) (tgt := 200) dX7_loan_188 (by decide) (fun cq292 => ?_) (fun cq292 => ?_)
                                · refine g_iconst X 0 dX7_loan_200 (by decide) ?_
                                  refine g_iadd X dX7_loan_201 (fun zq293 eq294 => ?_)
                                  refine g_istore X [(8, .int zq293), (11, .int 0), (10, .int 0), (9, .int y9_76), (7, .int rq37), (6, .int rq33), (5, .int rq29), (0, .ref (ad 47)), (1, .int x1), (2, .int x2), (3, .int x3), (4, .int x4)] dX7_loan_202 (by decide) rfl ?_
                                  refine g_iinc X 3 (fun v => [(9, .int v), (8, .int zq293), (11, .int 0), (10, .int 0), (7, .int rq37), (6, .int rq33), (5, .int rq29), (0, .ref (ad 47)), (1, .int x1), (2, .int x2), (3, .int x3), (4, .int x4)]) dX7_loan_204 rfl (by decide) (fun _ => rfl) (fun zq296 eq297 => ?_)
                                  have tq298 : zq296.toInt = b9_76 + 1 := add_nw eq297 e9_76 (show (Int32.ofInt 1).toInt = 1 by decide) (by omega)
                                  refine g_goto X (tgt := 76) dX7_loan_207 (by decide) ?_
                                  refine g_sub [0, 1, 4, 5, 6, 7, 8, 9, 10, 11] rfl ?_
                                  exact ih76 zq296 _ tq298 zq293 _ rfl (by omega) (by omega)
                                · refine g_iload X 0 rfl dX7_loan_191 ?_
                                  refine g_if_ne X (show (0 : Int32).toInt = 0 by decide) (tgt := 200) dX7_loan_193 (by decide) (fun cq299 => ?_) (fun cq299 => ?_)
                                  · refine g_iconst X 0 dX7_loan_200 (by decide) ?_
                                    refine g_iadd X dX7_loan_201 (fun zq300 eq301 => ?_)
                                    refine g_istore X [(8, .int zq300), (11, .int 0), (10, .int 0), (9, .int y9_76), (7, .int rq37), (6, .int rq33), (5, .int rq29), (0, .ref (ad 47)), (1, .int x1), (2, .int x2), (3, .int x3), (4, .int x4)] dX7_loan_202 (by decide) rfl ?_
                                    refine g_iinc X 3 (fun v => [(9, .int v), (8, .int zq300), (11, .int 0), (10, .int 0), (7, .int rq37), (6, .int rq33), (5, .int rq29), (0, .ref (ad 47)), (1, .int x1), (2, .int x2), (3, .int x3), (4, .int x4)]) dX7_loan_204 rfl (by decide) (fun _ => rfl) (fun zq303 eq304 => ?_)
                                    have tq305 : zq303.toInt = b9_76 + 1 := add_nw eq304 e9_76 (show (Int32.ofInt 1).toInt = 1 by decide) (by omega)
                                    refine g_goto X (tgt := 76) dX7_loan_207 (by decide) ?_
                                    refine g_sub [0, 1, 4, 5, 6, 7, 8, 9, 10, 11] rfl ?_
                                    exact ih76 zq303 _ tq305 zq300 _ rfl (by omega) (by omega)
                                  · refine g_iconst X 1 dX7_loan_196 (by decide) ?_
                                    refine g_goto X (tgt := 201) dX7_loan_197 (by decide) ?_
                                    refine g_iadd X dX7_loan_201 (fun zq306 eq307 => ?_)
                                    refine g_istore X [(8, .int zq306), (11, .int 0), (10, .int 0), (9, .int y9_76), (7, .int rq37), (6, .int rq33), (5, .int rq29), (0, .ref (ad 47)), (1, .int x1), (2, .int x2), (3, .int x3), (4, .int x4)] dX7_loan_202 (by decide) rfl ?_
                                    refine g_iinc X 3 (fun v => [(9, .int v), (8, .int zq306), (11, .int 0), (10, .int 0), (7, .int rq37), (6, .int rq33), (5, .int rq29), (0, .ref (ad 47)), (1, .int x1), (2, .int x2), (3, .int x3), (4, .int x4)]) dX7_loan_204 rfl (by decide) (fun _ => rfl) (fun zq309 eq310 => ?_)
                                    have tq311 : zq309.toInt = b9_76 + 1 := add_nw eq310 e9_76 (show (Int32.ofInt 1).toInt = 1 by decide) (by omega)
                                    refine g_goto X (tgt := 76) dX7_loan_207 (by decide) ?_
                                    refine g_sub [0, 1, 4, 5, 6, 7, 8, 9, 10, 11] rfl ?_
                                    exact ih76 zq309 _ tq311 zq306 _ rfl (by omega) (by omega)
                              · refine g_iconst X 1 dX7_loan_177 (by decide) ?_
                                refine g_goto X (tgt := 182) dX7_loan_178 (by decide) ?_
                                refine g_istore X [(11, .int 1), (10, .int 0), (9, .int y9_76), (8, .int y8_76), (7, .int rq37), (6, .int rq33), (5, .int rq29), (0, .ref (ad 47)), (1, .int x1), (2, .int x2), (3, .int x3), (4, .int x4)] dX7_loan_182 (by decide) rfl ?_
                                refine g_iload X 3 rfl dX7_loan_184 ?_
                                refine g_iload X 1 rfl dX7_loan_186 ?_
                                refine g_if_eq X (show (0 : Int32).toInt = 0 by decide) (tgt := 200) dX7_loan_188 (by decide) (fun cq312 => ?_) (fun cq312 => ?_)
                                · refine g_iconst X 0 dX7_loan_200 (by decide) ?_
                                  refine g_iadd X dX7_loan_201 (fun zq313 eq314 => ?_)
                                  refine g_istore X [(8, .int zq313), (11, .int 1), (10, .int 0), (9, .int y9_76), (7, .int rq37), (6, .int rq33), (5, .int rq29), (0, .ref (ad 47)), (1, .int x1), (2, .int x2), (3, .int x3), (4, .int x4)] dX7_loan_202 (by decide) rfl ?_
                                  refine g_iinc X 3 (fun v => [(9, .int v), (8, .int zq313), (11, .int 1), (10, .int 0), (7, .int rq37), (6, .int rq33), (5, .int rq29), (0, .ref (ad 47)), (1, .int x1), (2, .int x2), (3, .int x3), (4, .int x4)]) dX7_loan_204 rfl (by decide) (fun _ => rfl) (fun zq316 eq317 => ?_)
                                  have tq318 : zq316.toInt = b9_76 + 1 := add_nw eq317 e9_76 (show (Int32.ofInt 1).toInt = 1 by decide) (by omega)
                                  refine g_goto X (tgt := 76) dX7_loan_207 (by decide) ?_
                                  refine g_sub [0, 1, 4, 5, 6, 7, 8, 9, 10, 11] rfl ?_
                                  exact ih76 zq316 _ tq318 zq313 _ rfl (by omega) (by omega)
                                · refine g_iload X 0 rfl dX7_loan_191 ?_
                                  refine g_if_ne X (show (1 : Int32).toInt = 1 by decide) (tgt := 200) dX7_loan_193 (by decide) (fun cq319 => ?_) (fun cq319 => ?_)
                                  · refine g_iconst X 0 dX7_loan_200 (by decide) ?_
                                    refine g_iadd X dX7_loan_201 (fun zq320 eq321 => ?_)
                                    refine g_istore X [(8, .int zq320), (11, .int 1), (10, .int 0), (9, .int y9_76), (7, .int rq37), (6, .int rq33), (5, .int rq29), (0, .ref (ad 47)), (1, .int x1), (2, .int x2), (3, .int x3), (4, .int x4)] dX7_loan_202 (by decide) rfl ?_
                                    refine g_iinc X 3 (fun v => [(9, .int v), (8, .int zq320), (11, .int 1), (10, .int 0), (7, .int rq37), (6, .int rq33), (5, .int rq29), (0, .ref (ad 47)), (1, .int x1), (2, .int x2), (3, .int x3), (4, .int x4)]) dX7_loan_204 rfl (by decide) (fun _ => rfl) (fun zq323 eq324 => ?_)
                                    have tq325 : zq323.toInt = b9_76 + 1 := add_nw eq324 e9_76 (show (Int32.ofInt 1).toInt = 1 by decide) (by omega)
                                    refine g_goto X (tgt := 76) dX7_loan_207 (by decide) ?_
                                    refine g_sub [0, 1, 4, 5, 6, 7, 8, 9, 10, 11] rfl ?_
                                    exact ih76 zq323 _ tq325 zq320 _ rfl (by omega) (by omega)
                                  · refine g_iconst X 1 dX7_loan_196 (by decide) ?_
                                    refine g_goto X (tgt := 201) dX7_loan_197 (by decide) ?_
                                    refine g_iadd X dX7_loan_201 (fun zq326 eq327 => ?_)
                                    refine g_istore X [(8, .int zq326), (11, .int 1), (10, .int 0), (9, .int y9_76), (7, .int rq37), (6, .int rq33), (5, .int rq29), (0, .ref (ad 47)), (1, .int x1), (2, .int x2), (3, .int x3), (4, .int x4)] dX7_loan_202 (by decide) rfl ?_
                                    refine g_iinc X 3 (fun v => [(9, .int v), (8, .int zq326), (11, .int 1), (10, .int 0), (7, .int rq37), (6, .int rq33), (5, .int rq29), (0, .ref (ad 47)), (1, .int x1), (2, .int x2), (3, .int x3), (4, .int x4)]) dX7_loan_204 rfl (by decide) (fun _ => rfl) (fun zq329 eq330 => ?_)
                                    have tq331 : zq329.toInt = b9_76 + 1 := add_nw eq330 e9_76 (show (Int32.ofInt 1).toInt = 1 by decide) (by omega)
                                    refine g_goto X (tgt := 76) dX7_loan_207 (by decide) ?_
                                    refine g_sub [0, 1, 4, 5, 6, 7, 8, 9, 10, 11] rfl ?_
                                    exact ih76 zq329 _ tq331 zq326 _ rfl (by omega) (by omega)
                  · refine g_aload_n X 5 rfl dX7_loan_96 ?_
                    refine g_iload_n X 6 rfl dX7_loan_97 ?_
                    refine g_iload X 0 rfl dX7_loan_98 ?_
                    refine g_iload_n X 8 rfl dX7_loan_100 ?_
                    refine g_iload X 4 rfl dX7_loan_101 ?_
                    refine g_callV X m_X7_322 (c_X7_hasLine ad Mq x1 t1 y9_76 e9_76 x3 t3 rq29 tq31 Iq0 (by omega)) rfl (by decide) (Nat.le_of_ble_eq_true rfl) rfl dX7_loan_103 ?_
                    rintro _ _ ⟨rq332, aq333, rfl, tq334, hq335, rfl⟩
                    show G Γ Mq 106 [(9, .int y9_76), (8, .int y8_76), (7, .int rq37), (6, .int rq33), (5, .int rq29), (0, .ref (ad 47)), (1, .int x1), (2, .int x2), (3, .int x3), (4, .int x4)] [.int rq332]
                    refine g_if_eq X tq334 (tgt := 126) dX7_loan_106 (by decide) (fun cq336 => ?_) (fun cq336 => ?_)
                    · refine g_iconst X 0 dX7_loan_126 (by decide) ?_
                      refine g_istore X [(10, .int 0), (9, .int y9_76), (8, .int y8_76), (7, .int rq37), (6, .int rq33), (5, .int rq29), (0, .ref (ad 47)), (1, .int x1), (2, .int x2), (3, .int x3), (4, .int x4)] dX7_loan_127 (by decide) rfl ?_
                      refine g_iload X 4 rfl dX7_loan_129 ?_
                      refine g_if_lt X tq35 (tgt := 153) dX7_loan_131 (by decide) (fun cq337 => ?_) (fun cq337 => ?_)
                      · refine g_iload X 3 rfl dX7_loan_153 ?_
                        refine g_if_lt X tq39 (tgt := 181) dX7_loan_155 (by decide) (fun cq338 => ?_) (fun cq338 => ?_)
                        · refine g_iconst X 0 dX7_loan_181 (by decide) ?_
                          refine g_istore X [(11, .int 0), (10, .int 0), (9, .int y9_76), (8, .int y8_76), (7, .int rq37), (6, .int rq33), (5, .int rq29), (0, .ref (ad 47)), (1, .int x1), (2, .int x2), (3, .int x3), (4, .int x4)] dX7_loan_182 (by decide) rfl ?_
                          refine g_iload X 3 rfl dX7_loan_184 ?_
                          refine g_iload X 1 rfl dX7_loan_186 ?_
                          refine g_if_eq X (show (0 : Int32).toInt = 0 by decide) (tgt := 200) dX7_loan_188 (by decide) (fun cq339 => ?_) (fun cq339 => ?_)
                          · refine g_iconst X 0 dX7_loan_200 (by decide) ?_
                            refine g_iadd X dX7_loan_201 (fun zq340 eq341 => ?_)
                            refine g_istore X [(8, .int zq340), (11, .int 0), (10, .int 0), (9, .int y9_76), (7, .int rq37), (6, .int rq33), (5, .int rq29), (0, .ref (ad 47)), (1, .int x1), (2, .int x2), (3, .int x3), (4, .int x4)] dX7_loan_202 (by decide) rfl ?_
                            refine g_iinc X 3 (fun v => [(9, .int v), (8, .int zq340), (11, .int 0), (10, .int 0), (7, .int rq37), (6, .int rq33), (5, .int rq29), (0, .ref (ad 47)), (1, .int x1), (2, .int x2), (3, .int x3), (4, .int x4)]) dX7_loan_204 rfl (by decide) (fun _ => rfl) (fun zq343 eq344 => ?_)
                            have tq345 : zq343.toInt = b9_76 + 1 := add_nw eq344 e9_76 (show (Int32.ofInt 1).toInt = 1 by decide) (by omega)
                            refine g_goto X (tgt := 76) dX7_loan_207 (by decide) ?_
                            refine g_sub [0, 1, 4, 5, 6, 7, 8, 9, 10, 11] rfl ?_
                            exact ih76 zq343 _ tq345 zq340 _ rfl (by omega) (by omega)
                          · refine g_iload X 0 rfl dX7_loan_191 ?_
                            refine g_if_ne X (show (0 : Int32).toInt = 0 by decide) (tgt := 200) dX7_loan_193 (by decide) (fun cq346 => ?_) (fun cq346 => ?_)
                            · refine g_iconst X 0 dX7_loan_200 (by decide) ?_
                              refine g_iadd X dX7_loan_201 (fun zq347 eq348 => ?_)
                              refine g_istore X [(8, .int zq347), (11, .int 0), (10, .int 0), (9, .int y9_76), (7, .int rq37), (6, .int rq33), (5, .int rq29), (0, .ref (ad 47)), (1, .int x1), (2, .int x2), (3, .int x3), (4, .int x4)] dX7_loan_202 (by decide) rfl ?_
                              refine g_iinc X 3 (fun v => [(9, .int v), (8, .int zq347), (11, .int 0), (10, .int 0), (7, .int rq37), (6, .int rq33), (5, .int rq29), (0, .ref (ad 47)), (1, .int x1), (2, .int x2), (3, .int x3), (4, .int x4)]) dX7_loan_204 rfl (by decide) (fun _ => rfl) (fun zq350 eq351 => ?_)
                              have tq352 : zq350.toInt = b9_76 + 1 := add_nw eq351 e9_76 (show (Int32.ofInt 1).toInt = 1 by decide) (by omega)
                              refine g_goto X (tgt := 76) dX7_loan_207 (by decide) ?_
                              refine g_sub [0, 1, 4, 5, 6, 7, 8, 9, 10, 11] rfl ?_
                              exact ih76 zq350 _ tq352 zq347 _ rfl (by omega) (by omega)
                            · refine g_iconst X 1 dX7_loan_196 (by decide) ?_
                              refine g_goto X (tgt := 201) dX7_loan_197 (by decide) ?_
                              refine g_iadd X dX7_loan_201 (fun zq353 eq354 => ?_)
                              refine g_istore X [(8, .int zq353), (11, .int 0), (10, .int 0), (9, .int y9_76), (7, .int rq37), (6, .int rq33), (5, .int rq29), (0, .ref (ad 47)), (1, .int x1), (2, .int x2), (3, .int x3), (4, .int x4)] dX7_loan_202 (by decide) rfl ?_
                              refine g_iinc X 3 (fun v => [(9, .int v), (8, .int zq353), (11, .int 0), (10, .int 0), (7, .int rq37), (6, .int rq33), (5, .int rq29), (0, .ref (ad 47)), (1, .int x1), (2, .int x2), (3, .int x3), (4, .int x4)]) dX7_loan_204 rfl (by decide) (fun _ => rfl) (fun zq356 eq357 => ?_)
                              have tq358 : zq356.toInt = b9_76 + 1 := add_nw eq357 e9_76 (show (Int32.ofInt 1).toInt = 1 by decide) (by omega)
                              refine g_goto X (tgt := 76) dX7_loan_207 (by decide) ?_
                              refine g_sub [0, 1, 4, 5, 6, 7, 8, 9, 10, 11] rfl ?_
                              exact ih76 zq356 _ tq358 zq353 _ rfl (by omega) (by omega)
                        · refine g_iload X 0 rfl dX7_loan_158 ?_
                          refine g_if_eq X (show (0 : Int32).toInt = 0 by decide) (tgt := 181) dX7_loan_160 (by decide) (fun cq359 => ?_) (fun cq359 => ?_)
                          · refine g_iconst X 0 dX7_loan_181 (by decide) ?_
                            refine g_istore X [(11, .int 0), (10, .int 0), (9, .int y9_76), (8, .int y8_76), (7, .int rq37), (6, .int rq33), (5, .int rq29), (0, .ref (ad 47)), (1, .int x1), (2, .int x2), (3, .int x3), (4, .int x4)] dX7_loan_182 (by decide) rfl ?_
                            refine g_iload X 3 rfl dX7_loan_184 ?_
                            refine g_iload X 1 rfl dX7_loan_186 ?_
                            refine g_if_eq X (show (0 : Int32).toInt = 0 by decide) (tgt := 200) dX7_loan_188 (by decide) (fun cq360 => ?_) (fun cq360 => ?_)
                            · refine g_iconst X 0 dX7_loan_200 (by decide) ?_
                              refine g_iadd X dX7_loan_201 (fun zq361 eq362 => ?_)
                              refine g_istore X [(8, .int zq361), (11, .int 0), (10, .int 0), (9, .int y9_76), (7, .int rq37), (6, .int rq33), (5, .int rq29), (0, .ref (ad 47)), (1, .int x1), (2, .int x2), (3, .int x3), (4, .int x4)] dX7_loan_202 (by decide) rfl ?_
                              refine g_iinc X 3 (fun v => [(9, .int v), (8, .int zq361), (11, .int 0), (10, .int 0), (7, .int rq37), (6, .int rq33), (5, .int rq29), (0, .ref (ad 47)), (1, .int x1), (2, .int x2), (3, .int x3), (4, .int x4)]) dX7_loan_204 rfl (by decide) (fun _ => rfl) (fun zq364 eq365 => ?_)
                              have tq366 : zq364.toInt = b9_76 + 1 := add_nw eq365 e9_76 (show (Int32.ofInt 1).toInt = 1 by decide) (by omega)
                              refine g_goto X (tgt := 76) dX7_loan_207 (by decide) ?_
                              refine g_sub [0, 1, 4, 5, 6, 7, 8, 9, 10, 11] rfl ?_
                              exact ih76 zq364 _ tq366 zq361 _ rfl (by omega) (by omega)
                            · refine g_iload X 0 rfl dX7_loan_191 ?_
                              refine g_if_ne X (show (0 : Int32).toInt = 0 by decide) (tgt := 200) dX7_loan_193 (by decide) (fun cq367 => ?_) (fun cq367 => ?_)
                              · refine g_iconst X 0 dX7_loan_200 (by decide) ?_
                                refine g_iadd X dX7_loan_201 (fun zq368 eq369 => ?_)
                                refine g_istore X [(8, .int zq368), (11, .int 0), (10, .int 0), (9, .int y9_76), (7, .int rq37), (6, .int rq33), (5, .int rq29), (0, .ref (ad 47)), (1, .int x1), (2, .int x2), (3, .int x3), (4, .int x4)] dX7_loan_202 (by decide) rfl ?_
                                refine g_iinc X 3 (fun v => [(9, .int v), (8, .int zq368), (11, .int 0), (10, .int 0), (7, .int rq37), (6, .int rq33), (5, .int rq29), (0, .ref (ad 47)), (1, .int x1), (2, .int x2), (3, .int x3), (4, .int x4)]) dX7_loan_204 rfl (by decide) (fun _ => rfl) (fun zq371 eq372 => ?_)
                                have tq373 : zq371.toInt = b9_76 + 1 := add_nw eq372 e9_76 (show (Int32.ofInt 1).toInt = 1 by decide) (by omega)
                                refine g_goto X (tgt := 76) dX7_loan_207 (by decide) ?_
                                refine g_sub [0, 1, 4, 5, 6, 7, 8, 9, 10, 11] rfl ?_
                                exact ih76 zq371 _ tq373 zq368 _ rfl (by omega) (by omega)
                              · refine g_iconst X 1 dX7_loan_196 (by decide) ?_
                                refine g_goto X (tgt := 201) dX7_loan_197 (by decide) ?_
                                refine g_iadd X dX7_loan_201 (fun zq374 eq375 => ?_)
                                refine g_istore X [(8, .int zq374), (11, .int 0), (10, .int 0), (9, .int y9_76), (7, .int rq37), (6, .int rq33), (5, .int rq29), (0, .ref (ad 47)), (1, .int x1), (2, .int x2), (3, .int x3), (4, .int x4)] dX7_loan_202 (by decide) rfl ?_
                                refine g_iinc X 3 (fun v => [(9, .int v), (8, .int zq374), (11, .int 0), (10, .int 0), (7, .int rq37), (6, .int rq33), (5, .int rq29), (0, .ref (ad 47)), (1, .int x1), (2, .int x2), (3, .int x3), (4, .int x4)]) dX7_loan_204 rfl (by decide) (fun _ => rfl) (fun zq377 eq378 => ?_)
                                have tq379 : zq377.toInt = b9_76 + 1 := add_nw eq378 e9_76 (show (Int32.ofInt 1).toInt = 1 by decide) (by omega)
                                refine g_goto X (tgt := 76) dX7_loan_207 (by decide) ?_
                                refine g_sub [0, 1, 4, 5, 6, 7, 8, 9, 10, 11] rfl ?_
                                exact ih76 zq377 _ tq379 zq374 _ rfl (by omega) (by omega)
                          · refine g_aload_n X 6 rfl dX7_loan_163 ?_
                            refine g_iload X 3 rfl dX7_loan_164 ?_
                            refine g_iload X 1 rfl dX7_loan_166 ?_
                            refine g_iload_n X 9 rfl dX7_loan_168 ?_
                            refine g_iload X 5 rfl dX7_loan_169 ?_
                            refine g_callV X m_X7_322 (c_X7_hasLine ad Mq rq37 tq39 y9_76 e9_76 x3 t3 rq29 tq31 Iq0 (by omega)) rfl (by decide) (Nat.le_of_ble_eq_true rfl) rfl dX7_loan_171 ?_
                            rintro _ _ ⟨rq380, aq381, rfl, tq382, hq383, rfl⟩
                            show G Γ Mq 174 [(10, .int 0), (9, .int y9_76), (8, .int y8_76), (7, .int rq37), (6, .int rq33), (5, .int rq29), (0, .ref (ad 47)), (1, .int x1), (2, .int x2), (3, .int x3), (4, .int x4)] [.int rq380]
                            refine g_if_eq X tq382 (tgt := 181) dX7_loan_174 (by decide) (fun cq384 => ?_) (fun cq384 => ?_)
                            · refine g_iconst X 0 dX7_loan_181 (by decide) ?_
                              refine g_istore X [(11, .int 0), (10, .int 0), (9, .int y9_76), (8, .int y8_76), (7, .int rq37), (6, .int rq33), (5, .int rq29), (0, .ref (ad 47)), (1, .int x1), (2, .int x2), (3, .int x3), (4, .int x4)] dX7_loan_182 (by decide) rfl ?_
                              refine g_iload X 3 rfl dX7_loan_184 ?_
                              refine g_iload X 1 rfl dX7_loan_186 ?_
                              refine g_if_eq X (show (0 : Int32).toInt = 0 by decide) (tgt := 200) dX7_loan_188 (by decide) (fun cq385 => ?_) (fun cq385 => ?_)
                              · refine g_iconst X 0 dX7_loan_200 (by decide) ?_
                                refine g_iadd X dX7_loan_201 (fun zq386 eq387 => ?_)
                                refine g_istore X [(8, .int zq386), (11, .int 0), (10, .int 0), (9, .int y9_76), (7, .int rq37), (6, .int rq33), (5, .int rq29), (0, .ref (ad 47)), (1, .int x1), (2, .int x2), (3, .int x3), (4, .int x4)] dX7_loan_202 (by decide) rfl ?_
                                refine g_iinc X 3 (fun v => [(9, .int v), (8, .int zq386), (11, .int 0), (10, .int 0), (7, .int rq37), (6, .int rq33), (5, .int rq29), (0, .ref (ad 47)), (1, .int x1), (2, .int x2), (3, .int x3), (4, .int x4)]) dX7_loan_204 rfl (by decide) (fun _ => rfl) (fun zq389 eq390 => ?_)
                                have tq391 : zq389.toInt = b9_76 + 1 := add_nw eq390 e9_76 (show (Int32.ofInt 1).toInt = 1 by decide) (by omega)
                                refine g_goto X (tgt := 76) dX7_loan_207 (by decide) ?_
                                refine g_sub [0, 1, 4, 5, 6, 7, 8, 9, 10, 11] rfl ?_
                                exact ih76 zq389 _ tq391 zq386 _ rfl (by omega) (by omega)
                              · refine g_iload X 0 rfl dX7_loan_191 ?_
                                refine g_if_ne X (show (0 : Int32).toInt = 0 by decide) (tgt := 200) dX7_loan_193 (by decide) (fun cq392 => ?_) (fun cq392 => ?_)
                                · refine g_iconst X 0 dX7_loan_200 (by decide) ?_
                                  refine g_iadd X dX7_loan_201 (fun zq393 eq394 => ?_)
                                  refine g_istore X [(8, .int zq393), (11, .int 0), (10, .int 0), (9, .int y9_76), (7, .int rq37), (6, .int rq33), (5, .int rq29), (0, .ref (ad 47)), (1, .int x1), (2, .int x2), (3, .int x3), (4, .int x4)] dX7_loan_202 (by decide) rfl ?_
                                  refine g_iinc X 3 (fun v => [(9, .int v), (8, .int zq393), (11, .int 0), (10, .int 0), (7, .int rq37), (6, .int rq33), (5, .int rq29), (0, .ref (ad 47)), (1, .int x1), (2, .int x2), (3, .int x3), (4, .int x4)]) dX7_loan_204 rfl (by decide) (fun _ => rfl) (fun zq396 eq397 => ?_)
                                  have tq398 : zq396.toInt = b9_76 + 1 := add_nw eq397 e9_76 (show (Int32.ofInt 1).toInt = 1 by decide) (by omega)
                                  refine g_goto X (tgt := 76) dX7_loan_207 (by decide) ?_
                                  refine g_sub [0, 1, 4, 5, 6, 7, 8, 9, 10, 11] rfl ?_
                                  exact ih76 zq396 _ tq398 zq393 _ rfl (by omega) (by omega)
                                · refine g_iconst X 1 dX7_loan_196 (by decide) ?_
                                  refine g_goto X (tgt := 201) dX7_loan_197 (by decide) ?_
                                  refine g_iadd X dX7_loan_201 (fun zq399 eq400 => ?_)
                                  refine g_istore X [(8, .int zq399), (11, .int 0), (10, .int 0), (9, .int y9_76), (7, .int rq37), (6, .int rq33), (5, .int rq29), (0, .ref (ad 47)), (1, .int x1), (2, .int x2), (3, .int x3), (4, .int x4)] dX7_loan_202 (by decide) rfl ?_
                                  refine g_iinc X 3 (fun v => [(9, .int v), (8, .int zq399), (11, .int 0), (10, .int 0), (7, .int rq37), (6, .int rq33), (5, .int rq29), (0, .ref (ad 47)), (1, .int x1), (2, .int x2), (3, .int x3), (4, .int x4)]) dX7_loan_204 rfl (by decide) (fun _ => rfl) (fun zq402 eq403 => ?_)
                                  have tq404 : zq402.toInt = b9_76 + 1 := add_nw eq403 e9_76 (show (Int32.ofInt 1).toInt = 1 by decide) (by omega)
                                  refine g_goto X (tgt := 76) dX7_loan_207 (by decide) ?_
                                  refine g_sub [0, 1, 4, 5, 6, 7, 8, 9, 10, 11] rfl ?_
                                  exact ih76 zq402 _ tq404 zq399 _ rfl (by omega) (by omega)
                            · refine g_iconst X 1 dX7_loan_177 (by decide) ?_
                              refine g_goto X (tgt := 182) dX7_loan_178 (by decide) ?_
                              refine g_istore X [(11, .int 1), (10, .int 0), (9, .int y9_76), (8, .int y8_76), (7, .int rq37), (6, .int rq33), (5, .int rq29), (0, .ref (ad 47)), (1, .int x1), (2, .int x2), (3, .int x3), (4, .int x4)] dX7_loan_182 (by decide) rfl ?_
                              refine g_iload X 3 rfl dX7_loan_184 ?_
                              refine g_iload X 1 rfl dX7_loan_186 ?_
                              refine g_if_eq X (show (0 : Int32).toInt = 0 by decide) (tgt := 200) dX7_loan_188 (by decide) (fun cq405 => ?_) (fun cq405 => ?_)
                              · refine g_iconst X 0 dX7_loan_200 (by decide) ?_
                                refine g_iadd X dX7_loan_201 (fun zq406 eq407 => ?_)
                                refine g_istore X [(8, .int zq406), (11, .int 1), (10, .int 0), (9, .int y9_76), (7, .int rq37), (6, .int rq33), (5, .int rq29), (0, .ref (ad 47)), (1, .int x1), (2, .int x2), (3, .int x3), (4, .int x4)] dX7_loan_202 (by decide) rfl ?_
                                refine g_iinc X 3 (fun v => [(9, .int v), (8, .int zq406), (11, .int 1), (10, .int 0), (7, .int rq37), (6, .int rq33), (5, .int rq29), (0, .ref (ad 47)), (1, .int x1), (2, .int x2), (3, .int x3), (4, .int x4)]) dX7_loan_204 rfl (by decide) (fun _ => rfl) (fun zq409 eq410 => ?_)
                                have tq411 : zq409.toInt = b9_76 + 1 := add_nw eq410 e9_76 (show (Int32.ofInt 1).toInt = 1 by decide) (by omega)
                                refine g_goto X (tgt := 76) dX7_loan_207 (by decide) ?_
                                refine g_sub [0, 1, 4, 5, 6, 7, 8, 9, 10, 11] rfl ?_
                                exact ih76 zq409 _ tq411 zq406 _ rfl (by omega) (by omega)
                              · refine g_iload X 0 rfl dX7_loan_191 ?_
                                refine g_if_ne X (show (1 : Int32).toInt = 1 by decide) (tgt := 200) dX7_loan_193 (by decide) (fun cq412 => ?_) (fun cq412 => ?_)
                                · refine g_iconst X 0 dX7_loan_200 (by decide) ?_
                                  refine g_iadd X dX7_loan_201 (fun zq413 eq414 => ?_)
                                  refine g_istore X [(8, .int zq413), (11, .int 1), (10, .int 0), (9, .int y9_76), (7, .int rq37), (6, .int rq33), (5, .int rq29), (0, .ref (ad 47)), (1, .int x1), (2, .int x2), (3, .int x3), (4, .int x4)] dX7_loan_202 (by decide) rfl ?_
                                  refine g_iinc X 3 (fun v => [(9, .int v), (8, .int zq413), (11, .int 1), (10, .int 0), (7, .int rq37), (6, .int rq33), (5, .int rq29), (0, .ref (ad 47)), (1, .int x1), (2, .int x2), (3, .int x3), (4, .int x4)]) dX7_loan_204 rfl (by decide) (fun _ => rfl) (fun zq416 eq417 => ?_)
                                  have tq418 : zq416.toInt = b9_76 + 1 := add_nw eq417 e9_76 (show (Int32.ofInt 1).toInt = 1 by decide) (by omega)
                                  refine g_goto X (tgt := 76) dX7_loan_207 (by decide) ?_
                                  refine g_sub [0, 1, 4, 5, 6, 7, 8, 9, 10, 11] rfl ?_
                                  exact ih76 zq416 _ tq418 zq413 _ rfl (by omega) (by omega)
                                · refine g_iconst X 1 dX7_loan_196 (by decide) ?_
                                  refine g_goto X (tgt := 201) dX7_loan_197 (by decide) ?_
                                  refine g_iadd X dX7_loan_201 (fun zq419 eq420 => ?_)
                                  refine g_istore X [(8, .int zq419), (11, .int 1), (10, .int 0), (9, .int y9_76), (7, .int rq37), (6, .int rq33), (5, .int rq29), (0, .ref (ad 47)), (1, .int x1), (2, .int x2), (3, .int x3), (4, .int x4)] dX7_loan_202 (by decide) rfl ?_
                                  refine g_iinc X 3 (fun v => [(9, .int v), (8, .int zq419), (11, .int 1), (10, .int 0), (7, .int rq37), (6, .int rq33), (5, .int rq29), (0, .ref (ad 47)), (1, .int x1), (2, .int x2), (3, .int x3), (4, .int x4)]) dX7_loan_204 rfl (by decide) (fun _ => rfl) (fun zq422 eq423 => ?_)
                                  have tq424 : zq422.toInt = b9_76 + 1 := add_nw eq423 e9_76 (show (Int32.ofInt 1).toInt = 1 by decide) (by omega)
                                  refine g_goto X (tgt := 76) dX7_loan_207 (by decide) ?_
                                  refine g_sub [0, 1, 4, 5, 6, 7, 8, 9, 10, 11] rfl ?_
                                  exact ih76 zq422 _ tq424 zq419 _ rfl (by omega) (by omega)
                      · refine g_iload X 0 rfl dX7_loan_134 ?_
                        refine g_if_eq X (show (0 : Int32).toInt = 0 by decide) (tgt := 153) dX7_loan_136 (by decide) (fun cq425 => ?_) (fun cq425 => ?_)
                        · refine g_iload X 3 rfl dX7_loan_153 ?_
                          refine g_if_lt X tq39 (tgt := 181) dX7_loan_155 (by decide) (fun cq426 => ?_) (fun cq426 => ?_)
                          · refine g_iconst X 0 dX7_loan_181 (by decide) ?_
                            refine g_istore X [(11, .int 0), (10, .int 0), (9, .int y9_76), (8, .int y8_76), (7, .int rq37), (6, .int rq33), (5, .int rq29), (0, .ref (ad 47)), (1, .int x1), (2, .int x2), (3, .int x3), (4, .int x4)] dX7_loan_182 (by decide) rfl ?_
                            refine g_iload X 3 rfl dX7_loan_184 ?_
                            refine g_iload X 1 rfl dX7_loan_186 ?_
                            refine g_if_eq X (show (0 : Int32).toInt = 0 by decide) (tgt := 200) dX7_loan_188 (by decide) (fun cq427 => ?_) (fun cq427 => ?_)
                            · refine g_iconst X 0 dX7_loan_200 (by decide) ?_
                              refine g_iadd X dX7_loan_201 (fun zq428 eq429 => ?_)
                              refine g_istore X [(8, .int zq428), (11, .int 0), (10, .int 0), (9, .int y9_76), (7, .int rq37), (6, .int rq33), (5, .int rq29), (0, .ref (ad 47)), (1, .int x1), (2, .int x2), (3, .int x3), (4, .int x4)] dX7_loan_202 (by decide) rfl ?_
                              refine g_iinc X 3 (fun v => [(9, .int v), (8, .int zq428), (11, .int 0), (10, .int 0), (7, .int rq37), (6, .int rq33), (5, .int rq29), (0, .ref (ad 47)), (1, .int x1), (2, .int x2), (3, .int x3), (4, .int x4)]) dX7_loan_204 rfl (by decide) (fun _ => rfl) (fun zq431 eq432 => ?_)
                              have tq433 : zq431.toInt = b9_76 + 1 := add_nw eq432 e9_76 (show (Int32.ofInt 1).toInt = 1 by decide) (by omega)
                              refine g_goto X (tgt := 76) dX7_loan_207 (by decide) ?_
                              refine g_sub [0, 1, 4, 5, 6, 7, 8, 9, 10, 11] rfl ?_
                              exact ih76 zq431 _ tq433 zq428 _ rfl (by omega) (by omega)
                            · refine g_iload X 0 rfl dX7_loan_191 ?_
                              refine g_if_ne X (show (0 : Int32).toInt = 0 by decide) (tgt := 200) dX7_loan_193 (by decide) (fun cq434 => ?_) (fun cq434 => ?_)
                              · refine g_iconst X 0 dX7_loan_200 (by decide) ?_
                                refine g_iadd X dX7_loan_201 (fun zq435 eq436 => ?_)
                                refine g_istore X [(8, .int zq435), (11, .int 0), (10, .int 0), (9, .int y9_76), (7, .int rq37), (6, .int rq33), (5, .int rq29), (0, .ref (ad 47)), (1, .int x1), (2, .int x2), (3, .int x3), (4, .int x4)] dX7_loan_202 (by decide) rfl ?_
                                refine g_iinc X 3 (fun v => [(9, .int v), (8, .int zq435), (11, .int 0), (10, .int 0), (7, .int rq37), (6, .int rq33), (5, .int rq29), (0, .ref (ad 47)), (1, .int x1), (2, .int x2), (3, .int x3), (4, .int x4)]) dX7_loan_204 rfl (by decide) (fun _ => rfl) (fun zq438 eq439 => ?_)
                                have tq440 : zq438.toInt = b9_76 + 1 := add_nw eq439 e9_76 (show (Int32.ofInt 1).toInt = 1 by decide) (by omega)
                                refine g_goto X (tgt := 76) dX7_loan_207 (by decide) ?_
                                refine g_sub [0, 1, 4, 5, 6, 7, 8, 9, 10, 11] rfl ?_
                                exact ih76 zq438 _ tq440 zq435 _ rfl (by omega) (by omega)
                              · refine g_iconst X 1 dX7_loan_196 (by decide) ?_
                                refine g_goto X (tgt := 201) dX7_loan_197 (by decide) ?_
                                refine g_iadd X dX7_loan_201 (fun zq441 eq442 => ?_)
                                refine g_istore X [(8, .int zq441), (11, .int 0), (10, .int 0), (9, .int y9_76), (7, .int rq37), (6, .int rq33), (5, .int rq29), (0, .ref (ad 47)), (1, .int x1), (2, .int x2), (3, .int x3), (4, .int x4)] dX7_loan_202 (by decide) rfl ?_
                                refine g_iinc X 3 (fun v => [(9, .int v), (8, .int zq441), (11, .int 0), (10, .int 0), (7, .int rq37), (6, .int rq33), (5, .int rq29), (0, .ref (ad 47)), (1, .int x1), (2, .int x2), (3, .int x3), (4, .int x4)]) dX7_loan_204 rfl (by decide) (fun _ => rfl) (fun zq444 eq445 => ?_)
                                have tq446 : zq444.toInt = b9_76 + 1 := add_nw eq445 e9_76 (show (Int32.ofInt 1).toInt = 1 by decide) (by omega)
                                refine g_goto X (tgt := 76) dX7_loan_207 (by decide) ?_
                                refine g_sub [0, 1, 4, 5, 6, 7, 8, 9, 10, 11] rfl ?_
                                exact ih76 zq444 _ tq446 zq441 _ rfl (by omega) (by omega)
                          · refine g_iload X 0 rfl dX7_loan_158 ?_
                            refine g_if_eq X (show (0 : Int32).toInt = 0 by decide) (tgt := 181) dX7_loan_160 (by decide) (fun cq447 => ?_) (fun cq447 => ?_)
                            · refine g_iconst X 0 dX7_loan_181 (by decide) ?_
                              refine g_istore X [(11, .int 0), (10, .int 0), (9, .int y9_76), (8, .int y8_76), (7, .int rq37), (6, .int rq33), (5, .int rq29), (0, .ref (ad 47)), (1, .int x1), (2, .int x2), (3, .int x3), (4, .int x4)] dX7_loan_182 (by decide) rfl ?_
                              refine g_iload X 3 rfl dX7_loan_184 ?_
                              refine g_iload X 1 rfl dX7_loan_186 ?_
                              refine g_if_eq X (show (0 : Int32).toInt = 0 by decide) (tgt := 200) dX7_loan_188 (by decide) (fun cq448 => ?_) (fun cq448 => ?_)
                              · refine g_iconst X 0 dX7_loan_200 (by decide) ?_
                                refine g_iadd X dX7_loan_201 (fun zq449 eq450 => ?_)
                                refine g_istore X [(8, .int zq449), (11, .int 0), (10, .int 0), (9, .int y9_76), (7, .int rq37), (6, .int rq33), (5, .int rq29), (0, .ref (ad 47)), (1, .int x1), (2, .int x2), (3, .int x3), (4, .int x4)] dX7_loan_202 (by decide) rfl ?_
                                refine g_iinc X 3 (fun v => [(9, .int v), (8, .int zq449), (11, .int 0), (10, .int 0), (7, .int rq37), (6, .int rq33), (5, .int rq29), (0, .ref (ad 47)), (1, .int x1), (2, .int x2), (3, .int x3), (4, .int x4)]) dX7_loan_204 rfl (by decide) (fun _ => rfl) (fun zq452 eq453 => ?_)
                                have tq454 : zq452.toInt = b9_76 + 1 := add_nw eq453 e9_76 (show (Int32.ofInt 1).toInt = 1 by decide) (by omega)
                                refine g_goto X (tgt := 76) dX7_loan_207 (by decide) ?_
                                refine g_sub [0, 1, 4, 5, 6, 7, 8, 9, 10, 11] rfl ?_
                                exact ih76 zq452 _ tq454 zq449 _ rfl (by omega) (by omega)
                              · refine g_iload X 0 rfl dX7_loan_191 ?_
                                refine g_if_ne X (show (0 : Int32).toInt = 0 by decide) (tgt := 200) dX7_loan_193 (by decide) (fun cq455 => ?_) (fun cq455 => ?_)
                                · refine g_iconst X 0 dX7_loan_200 (by decide) ?_
                                  refine g_iadd X dX7_loan_201 (fun zq456 eq457 => ?_)
                                  refine g_istore X [(8, .int zq456), (11, .int 0), (10, .int 0), (9, .int y9_76), (7, .int rq37), (6, .int rq33), (5, .int rq29), (0, .ref (ad 47)), (1, .int x1), (2, .int x2), (3, .int x3), (4, .int x4)] dX7_loan_202 (by decide) rfl ?_
                                  refine g_iinc X 3 (fun v => [(9, .int v), (8, .int zq456), (11, .int 0), (10, .int 0), (7, .int rq37), (6, .int rq33), (5, .int rq29), (0, .ref (ad 47)), (1, .int x1), (2, .int x2), (3, .int x3), (4, .int x4)]) dX7_loan_204 rfl (by decide) (fun _ => rfl) (fun zq459 eq460 => ?_)
                                  have tq461 : zq459.toInt = b9_76 + 1 := add_nw eq460 e9_76 (show (Int32.ofInt 1).toInt = 1 by decide) (by omega)
                                  refine g_goto X (tgt := 76) dX7_loan_207 (by decide) ?_
                                  refine g_sub [0, 1, 4, 5, 6, 7, 8, 9, 10, 11] rfl ?_
                                  exact ih76 zq459 _ tq461 zq456 _ rfl (by omega) (by omega)
                                · refine g_iconst X 1 dX7_loan_196 (by decide) ?_
                                  refine g_goto X (tgt := 201) dX7_loan_197 (by decide) ?_
                                  refine g_iadd X dX7_loan_201 (fun zq462 eq463 => ?_)
                                  refine g_istore X [(8, .int zq462), (11, .int 0), (10, .int 0), (9, .int y9_76), (7, .int rq37), (6, .int rq33), (5, .int rq29), (0, .ref (ad 47)), (1, .int x1), (2, .int x2), (3, .int x3), (4, .int x4)] dX7_loan_202 (by decide) rfl ?_
                                  refine g_iinc X 3 (fun v => [(9, .int v), (8, .int zq462), (11, .int 0), (10, .int 0), (7, .int rq37), (6, .int rq33), (5, .int rq29), (0, .ref (ad 47)), (1, .int x1), (2, .int x2), (3, .int x3), (4, .int x4)]) dX7_loan_204 rfl (by decide) (fun _ => rfl) (fun zq465 eq466 => ?_)
                                  have tq467 : zq465.toInt = b9_76 + 1 := add_nw eq466 e9_76 (show (Int32.ofInt 1).toInt = 1 by decide) (by omega)
                                  refine g_goto X (tgt := 76) dX7_loan_207 (by decide) ?_
                                  refine g_sub [0, 1, 4, 5, 6, 7, 8, 9, 10, 11] rfl ?_
                                  exact ih76 zq465 _ tq467 zq462 _ rfl (by omega) (by omega)
                            · refine g_aload_n X 6 rfl dX7_loan_163 ?_
                              refine g_iload X 3 rfl dX7_loan_164 ?_
                              refine g_iload X 1 rfl dX7_loan_166 ?_
                              refine g_iload_n X 9 rfl dX7_loan_168 ?_
                              refine g_iload X 5 rfl dX7_loan_169 ?_
                              refine g_callV X m_X7_322 (c_X7_hasLine ad Mq rq37 tq39 y9_76 e9_76 x3 t3 rq29 tq31 Iq0 (by omega)) rfl (by decide) (Nat.le_of_ble_eq_true rfl) rfl dX7_loan_171 ?_
                              rintro _ _ ⟨rq468, aq469, rfl, tq470, hq471, rfl⟩
                              show G Γ Mq 174 [(10, .int 0), (9, .int y9_76), (8, .int y8_76), (7, .int rq37), (6, .int rq33), (5, .int rq29), (0, .ref (ad 47)), (1, .int x1), (2, .int x2), (3, .int x3), (4, .int x4)] [.int rq468]
                              refine g_if_eq X tq470 (tgt := 181) dX7_loan_174 (by decide) (fun cq472 => ?_) (fun cq472 => ?_)
                              · refine g_iconst X 0 dX7_loan_181 (by decide) ?_
                                refine g_istore X [(11, .int 0), (10, .int 0), (9, .int y9_76), (8, .int y8_76), (7, .int rq37), (6, .int rq33), (5, .int rq29), (0, .ref (ad 47)), (1, .int x1), (2, .int x2), (3, .int x3), (4, .int x4)] dX7_loan_182 (by decide) rfl ?_
                                refine g_iload X 3 rfl dX7_loan_184 ?_
                                refine g_iload X 1 rfl dX7_loan_186 ?_
                                refine g_if_eq X (show (0 : Int32).toInt = 0 by decide) (tgt := 200) dX7_loan_188 (by decide) (fun cq473 => ?_) (fun cq473 => ?_)
                                · refine g_iconst X 0 dX7_loan_200 (by decide) ?_
                                  refine g_iadd X dX7_loan_201 (fun zq474 eq475 => ?_)
                                  refine g_istore X [(8, .int zq474), (11, .int 0), (10, .int 0), (9, .int y9_76), (7, .int rq37), (6, .int rq33), (5, .int rq29), (0, .ref (ad 47)), (1, .int x1), (2, .int x2), (3, .int x3), (4, .int x4)] dX7_loan_202 (by decide) rfl ?_
                                  refine g_iinc X 3 (fun v => [(9, .int v), (8, .int zq474), (11, .int 0), (10, .int 0), (7, .int rq37), (6, .int rq33), (5, .int rq29), (0, .ref (ad 47)), (1, .int x1), (2, .int x2), (3, .int x3), (4, .int x4)]) dX7_loan_204 rfl (by decide) (fun _ => rfl) (fun zq477 eq478 => ?_)
                                  have tq479 : zq477.toInt = b9_76 + 1 := add_nw eq478 e9_76 (show (Int32.ofInt 1).toInt = 1 by decide) (by omega)
                                  refine g_goto X (tgt := 76) dX7_loan_207 (by decide) ?_
                                  refine g_sub [0, 1, 4, 5, 6, 7, 8, 9, 10, 11] rfl ?_
                                  exact ih76 zq477 _ tq479 zq474 _ rfl (by omega) (by omega)
                                · refine g_iload X 0 rfl dX7_loan_191 ?_
                                  refine g_if_ne X (show (0 : Int32).toInt = 0 by decide) (tgt := 200) dX7_loan_193 (by decide) (fun cq480 => ?_) (fun cq480 => ?_)
                                  · refine g_iconst X 0 dX7_loan_200 (by decide) ?_
                                    refine g_iadd X dX7_loan_201 (fun zq481 eq482 => ?_)
                                    refine g_istore X [(8, .int zq481), (11, .int 0), (10, .int 0), (9, .int y9_76), (7, .int rq37), (6, .int rq33), (5, .int rq29), (0, .ref (ad 47)), (1, .int x1), (2, .int x2), (3, .int x3), (4, .int x4)] dX7_loan_202 (by decide) rfl ?_
                                    refine g_iinc X 3 (fun v => [(9, .int v), (8, .int zq481), (11, .int 0), (10, .int 0), (7, .int rq37), (6, .int rq33), (5, .int rq29), (0, .ref (ad 47)), (1, .int x1), (2, .int x2), (3, .int x3), (4, .int x4)]) dX7_loan_204 rfl (by decide) (fun _ => rfl) (fun zq484 eq485 => ?_)
                                    have tq486 : zq484.toInt = b9_76 + 1 := add_nw eq485 e9_76 (show (Int32.ofInt 1).toInt = 1 by decide) (by omega)
                                    refine g_goto X (tgt := 76) dX7_loan_207 (by decide) ?_
                                    refine g_sub [0, 1, 4, 5, 6, 7, 8, 9, 10, 11] rfl ?_
                                    exact ih76 zq484 _ tq486 zq481 _ rfl (by omega) (by omega)
                                  · refine g_iconst X 1 dX7_loan_196 (by decide) ?_
                                    refine g_goto X (tgt := 201) dX7_loan_197 (by decide) ?_
                                    refine g_iadd X dX7_loan_201 (fun zq487 eq488 => ?_)
                                    refine g_istore X [(8, .int zq487), (11, .int 0), (10, .int 0), (9, .int y9_76), (7, .int rq37), (6, .int rq33), (5, .int rq29), (0, .ref (ad 47)), (1, .int x1), (2, .int x2), (3, .int x3), (4, .int x4)] dX7_loan_202 (by decide) rfl ?_
                                    refine g_iinc X 3 (fun v => [(9, .int v), (8, .int zq487), (11, .int 0), (10, .int 0), (7, .int rq37), (6, .int rq33), (5, .int rq29), (0, .ref (ad 47)), (1, .int x1), (2, .int x2), (3, .int x3), (4, .int x4)]) dX7_loan_204 rfl (by decide) (fun _ => rfl) (fun zq490 eq491 => ?_)
                                    have tq492 : zq490.toInt = b9_76 + 1 := add_nw eq491 e9_76 (show (Int32.ofInt 1).toInt = 1 by decide) (by omega)
                                    refine g_goto X (tgt := 76) dX7_loan_207 (by decide) ?_
                                    refine g_sub [0, 1, 4, 5, 6, 7, 8, 9, 10, 11] rfl ?_
                                    exact ih76 zq490 _ tq492 zq487 _ rfl (by omega) (by omega)
                              · refine g_iconst X 1 dX7_loan_177 (by decide) ?_
                                refine g_goto X (tgt := 182) dX7_loan_178 (by decide) ?_
                                refine g_istore X [(11, .int 1), (10, .int 0), (9, .int y9_76), (8, .int y8_76), (7, .int rq37), (6, .int rq33), (5, .int rq29), (0, .ref (ad 47)), (1, .int x1), (2, .int x2), (3, .int x3), (4, .int x4)] dX7_loan_182 (by decide) rfl ?_
                                refine g_iload X 3 rfl dX7_loan_184 ?_
                                refine g_iload X 1 rfl dX7_loan_186 ?_
                                refine g_if_eq X (show (0 : Int32).toInt = 0 by decide) (tgt := 200) dX7_loan_188 (by decide) (fun cq493 => ?_) (fun cq493 => ?_)
                                · refine g_iconst X 0 dX7_loan_200 (by decide) ?_
                                  refine g_iadd X dX7_loan_201 (fun zq494 eq495 => ?_)
                                  refine g_istore X [(8, .int zq494), (11, .int 1), (10, .int 0), (9, .int y9_76), (7, .int rq37), (6, .int rq33), (5, .int rq29), (0, .ref (ad 47)), (1, .int x1), (2, .int x2), (3, .int x3), (4, .int x4)] dX7_loan_202 (by decide) rfl ?_
                                  refine g_iinc X 3 (fun v => [(9, .int v), (8, .int zq494), (11, .int 1), (10, .int 0), (7, .int rq37), (6, .int rq33), (5, .int rq29), (0, .ref (ad 47)), (1, .int x1), (2, .int x2), (3, .int x3), (4, .int x4)]) dX7_loan_204 rfl (by decide) (fun _ => rfl) (fun zq497 eq498 => ?_)
                                  have tq499 : zq497.toInt = b9_76 + 1 := add_nw eq498 e9_76 (show (Int32.ofInt 1).toInt = 1 by decide) (by omega)
                                  refine g_goto X (tgt := 76) dX7_loan_207 (by decide) ?_
                                  refine g_sub [0, 1, 4, 5, 6, 7, 8, 9, 10, 11] rfl ?_
                                  exact ih76 zq497 _ tq499 zq494 _ rfl (by omega) (by omega)
                                · refine g_iload X 0 rfl dX7_loan_191 ?_
                                  refine g_if_ne X (show (1 : Int32).toInt = 1 by decide) (tgt := 200) dX7_loan_193 (by decide) (fun cq500 => ?_) (fun cq500 => ?_)
                                  · refine g_iconst X 0 dX7_loan_200 (by decide) ?_
                                    refine g_iadd X dX7_loan_201 (fun zq501 eq502 => ?_)
                                    refine g_istore X [(8, .int zq501), (11, .int 1), (10, .int 0), (9, .int y9_76), (7, .int rq37), (6, .int rq33), (5, .int rq29), (0, .ref (ad 47)), (1, .int x1), (2, .int x2), (3, .int x3), (4, .int x4)] dX7_loan_202 (by decide) rfl ?_
                                    refine g_iinc X 3 (fun v => [(9, .int v), (8, .int zq501), (11, .int 1), (10, .int 0), (7, .int rq37), (6, .int rq33), (5, .int rq29), (0, .ref (ad 47)), (1, .int x1), (2, .int x2), (3, .int x3), (4, .int x4)]) dX7_loan_204 rfl (by decide) (fun _ => rfl) (fun zq504 eq505 => ?_)
                                    have tq506 : zq504.toInt = b9_76 + 1 := add_nw eq505 e9_76 (show (Int32.ofInt 1).toInt = 1 by decide) (by omega)
                                    refine g_goto X (tgt := 76) dX7_loan_207 (by decide) ?_
                                    refine g_sub [0, 1, 4, 5, 6, 7, 8, 9, 10, 11] rfl ?_
                                    exact ih76 zq504 _ tq506 zq501 _ rfl (by omega) (by omega)
                                  · refine g_iconst X 1 dX7_loan_196 (by decide) ?_
                                    refine g_goto X (tgt := 201) dX7_loan_197 (by decide) ?_
                                    refine g_iadd X dX7_loan_201 (fun zq507 eq508 => ?_)
                                    refine g_istore X [(8, .int zq507), (11, .int 1), (10, .int 0), (9, .int y9_76), (7, .int rq37), (6, .int rq33), (5, .int rq29), (0, .ref (ad 47)), (1, .int x1), (2, .int x2), (3, .int x3), (4, .int x4)] dX7_loan_202 (by decide) rfl ?_
                                    refine g_iinc X 3 (fun v => [(9, .int v), (8, .int zq507), (11, .int 1), (10, .int 0), (7, .int rq37), (6, .int rq33), (5, .int rq29), (0, .ref (ad 47)), (1, .int x1), (2, .int x2), (3, .int x3), (4, .int x4)]) dX7_loan_204 rfl (by decide) (fun _ => rfl) (fun zq510 eq511 => ?_)
                                    have tq512 : zq510.toInt = b9_76 + 1 := add_nw eq511 e9_76 (show (Int32.ofInt 1).toInt = 1 by decide) (by omega)
                                    refine g_goto X (tgt := 76) dX7_loan_207 (by decide) ?_
                                    refine g_sub [0, 1, 4, 5, 6, 7, 8, 9, 10, 11] rfl ?_
                                    exact ih76 zq510 _ tq512 zq507 _ rfl (by omega) (by omega)
                        · refine g_aload_n X 6 rfl dX7_loan_139 ?_
                          refine g_iload X 4 rfl dX7_loan_140 ?_
                          refine g_iload X 1 rfl dX7_loan_142 ?_
                          refine g_iload_n X 9 rfl dX7_loan_144 ?_
                          refine g_iload X 5 rfl dX7_loan_145 ?_
                          refine g_callV X m_X7_322 (c_X7_hasLine ad Mq rq33 tq35 y9_76 e9_76 x3 t3 rq29 tq31 Iq0 (by omega)) rfl (by decide) (Nat.le_of_ble_eq_true rfl) rfl dX7_loan_147 ?_
                          rintro _ _ ⟨rq513, aq514, rfl, tq515, hq516, rfl⟩
                          show G Γ Mq 150 [(10, .int 0), (9, .int y9_76), (8, .int y8_76), (7, .int rq37), (6, .int rq33), (5, .int rq29), (0, .ref (ad 47)), (1, .int x1), (2, .int x2), (3, .int x3), (4, .int x4)] [.int rq513]
                          refine g_if_ne X tq515 (tgt := 177) dX7_loan_150 (by decide) (fun cq517 => ?_) (fun cq517 => ?_)
                          · refine g_iconst X 1 dX7_loan_177 (by decide) ?_
                            refine g_goto X (tgt := 182) dX7_loan_178 (by decide) ?_
                            refine g_istore X [(11, .int 1), (10, .int 0), (9, .int y9_76), (8, .int y8_76), (7, .int rq37), (6, .int rq33), (5, .int rq29), (0, .ref (ad 47)), (1, .int x1), (2, .int x2), (3, .int x3), (4, .int x4)] dX7_loan_182 (by decide) rfl ?_
                            refine g_iload X 3 rfl dX7_loan_184 ?_
                            refine g_iload X 1 rfl dX7_loan_186 ?_
                            refine g_if_eq X (show (0 : Int32).toInt = 0 by decide) (tgt := 200) dX7_loan_188 (by decide) (fun cq518 => ?_) (fun cq518 => ?_)
                            · refine g_iconst X 0 dX7_loan_200 (by decide) ?_
                              refine g_iadd X dX7_loan_201 (fun zq519 eq520 => ?_)
                              refine g_istore X [(8, .int zq519), (11, .int 1), (10, .int 0), (9, .int y9_76), (7, .int rq37), (6, .int rq33), (5, .int rq29), (0, .ref (ad 47)), (1, .int x1), (2, .int x2), (3, .int x3), (4, .int x4)] dX7_loan_202 (by decide) rfl ?_
                              refine g_iinc X 3 (fun v => [(9, .int v), (8, .int zq519), (11, .int 1), (10, .int 0), (7, .int rq37), (6, .int rq33), (5, .int rq29), (0, .ref (ad 47)), (1, .int x1), (2, .int x2), (3, .int x3), (4, .int x4)]) dX7_loan_204 rfl (by decide) (fun _ => rfl) (fun zq522 eq523 => ?_)
                              have tq524 : zq522.toInt = b9_76 + 1 := add_nw eq523 e9_76 (show (Int32.ofInt 1).toInt = 1 by decide) (by omega)
                              refine g_goto X (tgt := 76) dX7_loan_207 (by decide) ?_
                              refine g_sub [0, 1, 4, 5, 6, 7, 8, 9, 10, 11] rfl ?_
                              exact ih76 zq522 _ tq524 zq519 _ rfl (by omega) (by omega)
                            · refine g_iload X 0 rfl dX7_loan_191 ?_
                              refine g_if_ne X (show (1 : Int32).toInt = 1 by decide) (tgt := 200) dX7_loan_193 (by decide) (fun cq525 => ?_) (fun cq525 => ?_)
                              · refine g_iconst X 0 dX7_loan_200 (by decide) ?_
                                refine g_iadd X dX7_loan_201 (fun zq526 eq527 => ?_)
                                refine g_istore X [(8, .int zq526), (11, .int 1), (10, .int 0), (9, .int y9_76), (7, .int rq37), (6, .int rq33), (5, .int rq29), (0, .ref (ad 47)), (1, .int x1), (2, .int x2), (3, .int x3), (4, .int x4)] dX7_loan_202 (by decide) rfl ?_
                                refine g_iinc X 3 (fun v => [(9, .int v), (8, .int zq526), (11, .int 1), (10, .int 0), (7, .int rq37), (6, .int rq33), (5, .int rq29), (0, .ref (ad 47)), (1, .int x1), (2, .int x2), (3, .int x3), (4, .int x4)]) dX7_loan_204 rfl (by decide) (fun _ => rfl) (fun zq529 eq530 => ?_)
                                have tq531 : zq529.toInt = b9_76 + 1 := add_nw eq530 e9_76 (show (Int32.ofInt 1).toInt = 1 by decide) (by omega)
                                refine g_goto X (tgt := 76) dX7_loan_207 (by decide) ?_
                                refine g_sub [0, 1, 4, 5, 6, 7, 8, 9, 10, 11] rfl ?_
                                exact ih76 zq529 _ tq531 zq526 _ rfl (by omega) (by omega)
                              · refine g_iconst X 1 dX7_loan_196 (by decide) ?_
                                refine g_goto X (tgt := 201) dX7_loan_197 (by decide) ?_
                                refine g_iadd X dX7_loan_201 (fun zq532 eq533 => ?_)
                                refine g_istore X [(8, .int zq532), (11, .int 1), (10, .int 0), (9, .int y9_76), (7, .int rq37), (6, .int rq33), (5, .int rq29), (0, .ref (ad 47)), (1, .int x1), (2, .int x2), (3, .int x3), (4, .int x4)] dX7_loan_202 (by decide) rfl ?_
                                refine g_iinc X 3 (fun v => [(9, .int v), (8, .int zq532), (11, .int 1), (10, .int 0), (7, .int rq37), (6, .int rq33), (5, .int rq29), (0, .ref (ad 47)), (1, .int x1), (2, .int x2), (3, .int x3), (4, .int x4)]) dX7_loan_204 rfl (by decide) (fun _ => rfl) (fun zq535 eq536 => ?_)
                                have tq537 : zq535.toInt = b9_76 + 1 := add_nw eq536 e9_76 (show (Int32.ofInt 1).toInt = 1 by decide) (by omega)
                                refine g_goto X (tgt := 76) dX7_loan_207 (by decide) ?_
                                refine g_sub [0, 1, 4, 5, 6, 7, 8, 9, 10, 11] rfl ?_
                                exact ih76 zq535 _ tq537 zq532 _ rfl (by omega) (by omega)
                          · refine g_iload X 3 rfl dX7_loan_153 ?_
                            refine g_if_lt X tq39 (tgt := 181) dX7_loan_155 (by decide) (fun cq538 => ?_) (fun cq538 => ?_)
                            · refine g_iconst X 0 dX7_loan_181 (by decide) ?_
                              refine g_istore X [(11, .int 0), (10, .int 0), (9, .int y9_76), (8, .int y8_76), (7, .int rq37), (6, .int rq33), (5, .int rq29), (0, .ref (ad 47)), (1, .int x1), (2, .int x2), (3, .int x3), (4, .int x4)] dX7_loan_182 (by decide) rfl ?_
                              refine g_iload X 3 rfl dX7_loan_184 ?_
                              refine g_iload X 1 rfl dX7_loan_186 ?_
                              refine g_if_eq X (show (0 : Int32).toInt = 0 by decide) (tgt := 200) dX7_loan_188 (by decide) (fun cq539 => ?_) (fun cq539 => ?_)
                              · refine g_iconst X 0 dX7_loan_200 (by decide) ?_
                                refine g_iadd X dX7_loan_201 (fun zq540 eq541 => ?_)
                                refine g_istore X [(8, .int zq540), (11, .int 0), (10, .int 0), (9, .int y9_76), (7, .int rq37), (6, .int rq33), (5, .int rq29), (0, .ref (ad 47)), (1, .int x1), (2, .int x2), (3, .int x3), (4, .int x4)] dX7_loan_202 (by decide) rfl ?_
                                refine g_iinc X 3 (fun v => [(9, .int v), (8, .int zq540), (11, .int 0), (10, .int 0), (7, .int rq37), (6, .int rq33), (5, .int rq29), (0, .ref (ad 47)), (1, .int x1), (2, .int x2), (3, .int x3), (4, .int x4)]) dX7_loan_204 rfl (by decide) (fun _ => rfl) (fun zq543 eq544 => ?_)
                                have tq545 : zq543.toInt = b9_76 + 1 := add_nw eq544 e9_76 (show (Int32.ofInt 1).toInt = 1 by decide) (by omega)
                                refine g_goto X (tgt := 76) dX7_loan_207 (by decide) ?_
                                refine g_sub [0, 1, 4, 5, 6, 7, 8, 9, 10, 11] rfl ?_
                                exact ih76 zq543 _ tq545 zq540 _ rfl (by omega) (by omega)
                              · refine g_iload X 0 rfl dX7_loan_191 ?_
                                refine g_if_ne X (show (0 : Int32).toInt = 0 by decide) (tgt := 200) dX7_loan_193 (by decide) (fun cq546 => ?_) (fun cq546 => ?_)
                                · refine g_iconst X 0 dX7_loan_200 (by decide) ?_
                                  refine g_iadd X dX7_loan_201 (fun zq547 eq548 => ?_)
                                  refine g_istore X [(8, .int zq547), (11, .int 0), (10, .int 0), (9, .int y9_76), (7, .int rq37), (6, .int rq33), (5, .int rq29), (0, .ref (ad 47)), (1, .int x1), (2, .int x2), (3, .int x3), (4, .int x4)] dX7_loan_202 (by decide) rfl ?_
                                  refine g_iinc X 3 (fun v => [(9, .int v), (8, .int zq547), (11, .int 0), (10, .int 0), (7, .int rq37), (6, .int rq33), (5, .int rq29), (0, .ref (ad 47)), (1, .int x1), (2, .int x2), (3, .int x3), (4, .int x4)]) dX7_loan_204 rfl (by decide) (fun _ => rfl) (fun zq550 eq551 => ?_)
                                  have tq552 : zq550.toInt = b9_76 + 1 := add_nw eq551 e9_76 (show (Int32.ofInt 1).toInt = 1 by decide) (by omega)
                                  refine g_goto X (tgt := 76) dX7_loan_207 (by decide) ?_
                                  refine g_sub [0, 1, 4, 5, 6, 7, 8, 9, 10, 11] rfl ?_
                                  exact ih76 zq550 _ tq552 zq547 _ rfl (by omega) (by omega)
                                · refine g_iconst X 1 dX7_loan_196 (by decide) ?_
                                  refine g_goto X (tgt := 201) dX7_loan_197 (by decide) ?_
                                  refine g_iadd X dX7_loan_201 (fun zq553 eq554 => ?_)
                                  refine g_istore X [(8, .int zq553), (11, .int 0), (10, .int 0), (9, .int y9_76), (7, .int rq37), (6, .int rq33), (5, .int rq29), (0, .ref (ad 47)), (1, .int x1), (2, .int x2), (3, .int x3), (4, .int x4)] dX7_loan_202 (by decide) rfl ?_
                                  refine g_iinc X 3 (fun v => [(9, .int v), (8, .int zq553), (11, .int 0), (10, .int 0), (7, .int rq37), (6, .int rq33), (5, .int rq29), (0, .ref (ad 47)), (1, .int x1), (2, .int x2), (3, .int x3), (4, .int x4)]) dX7_loan_204 rfl (by decide) (fun _ => rfl) (fun zq556 eq557 => ?_)
                                  have tq558 : zq556.toInt = b9_76 + 1 := add_nw eq557 e9_76 (show (Int32.ofInt 1).toInt = 1 by decide) (by omega)
                                  refine g_goto X (tgt := 76) dX7_loan_207 (by decide) ?_
                                  refine g_sub [0, 1, 4, 5, 6, 7, 8, 9, 10, 11] rfl ?_
                                  exact ih76 zq556 _ tq558 zq553 _ rfl (by omega) (by omega)
                            · refine g_iload X 0 rfl dX7_loan_158 ?_
                              refine g_if_eq X (show (0 : Int32).toInt = 0 by decide) (tgt := 181) dX7_loan_160 (by decide) (fun cq559 => ?_) (fun cq559 => ?_)
                              · refine g_iconst X 0 dX7_loan_181 (by decide) ?_
                                refine g_istore X [(11, .int 0), (10, .int 0), (9, .int y9_76), (8, .int y8_76), (7, .int rq37), (6, .int rq33), (5, .int rq29), (0, .ref (ad 47)), (1, .int x1), (2, .int x2), (3, .int x3), (4, .int x4)] dX7_loan_182 (by decide) rfl ?_
                                refine g_iload X 3 rfl dX7_loan_184 ?_
                                refine g_iload X 1 rfl dX7_loan_186 ?_
                                refine g_if_eq X (show (0 : Int32).toInt = 0 by decide) (tgt := 200) dX7_loan_188 (by decide) (fun cq560 => ?_) (fun cq560 => ?_)
                                · refine g_iconst X 0 dX7_loan_200 (by decide) ?_
                                  refine g_iadd X dX7_loan_201 (fun zq561 eq562 => ?_)
                                  refine g_istore X [(8, .int zq561), (11, .int 0), (10, .int 0), (9, .int y9_76), (7, .int rq37), (6, .int rq33), (5, .int rq29), (0, .ref (ad 47)), (1, .int x1), (2, .int x2), (3, .int x3), (4, .int x4)] dX7_loan_202 (by decide) rfl ?_
                                  refine g_iinc X 3 (fun v => [(9, .int v), (8, .int zq561), (11, .int 0), (10, .int 0), (7, .int rq37), (6, .int rq33), (5, .int rq29), (0, .ref (ad 47)), (1, .int x1), (2, .int x2), (3, .int x3), (4, .int x4)]) dX7_loan_204 rfl (by decide) (fun _ => rfl) (fun zq564 eq565 => ?_)
                                  have tq566 : zq564.toInt = b9_76 + 1 := add_nw eq565 e9_76 (show (Int32.ofInt 1).toInt = 1 by decide) (by omega)
                                  refine g_goto X (tgt := 76) dX7_loan_207 (by decide) ?_
                                  refine g_sub [0, 1, 4, 5, 6, 7, 8, 9, 10, 11] rfl ?_
                                  exact ih76 zq564 _ tq566 zq561 _ rfl (by omega) (by omega)
                                · refine g_iload X 0 rfl dX7_loan_191 ?_
                                  refine g_if_ne X (show (0 : Int32).toInt = 0 by decide) (tgt := 200) dX7_loan_193 (by decide) (fun cq567 => ?_) (fun cq567 => ?_)
                                  · refine g_iconst X 0 dX7_loan_200 (by decide) ?_
                                    refine g_iadd X dX7_loan_201 (fun zq568 eq569 => ?_)
                                    refine g_istore X [(8, .int zq568), (11, .int 0), (10, .int 0), (9, .int y9_76), (7, .int rq37), (6, .int rq33), (5, .int rq29), (0, .ref (ad 47)), (1, .int x1), (2, .int x2), (3, .int x3), (4, .int x4)] dX7_loan_202 (by decide) rfl ?_
                                    refine g_iinc X 3 (fun v => [(9, .int v), (8, .int zq568), (11, .int 0), (10, .int 0), (7, .int rq37), (6, .int rq33), (5, .int rq29), (0, .ref (ad 47)), (1, .int x1), (2, .int x2), (3, .int x3), (4, .int x4)]) dX7_loan_204 rfl (by decide) (fun _ => rfl) (fun zq571 eq572 => ?_)
                                    have tq573 : zq571.toInt = b9_76 + 1 := add_nw eq572 e9_76 (show (Int32.ofInt 1).toInt = 1 by decide) (by omega)
                                    refine g_goto X (tgt := 76) dX7_loan_207 (by decide) ?_
                                    refine g_sub [0, 1, 4, 5, 6, 7, 8, 9, 10, 11] rfl ?_
                                    exact ih76 zq571 _ tq573 zq568 _ rfl (by omega) (by omega)
                                  · refine g_iconst X 1 dX7_loan_196 (by decide) ?_
                                    refine g_goto X (tgt := 201) dX7_loan_197 (by decide) ?_
                                    refine g_iadd X dX7_loan_201 (fun zq574 eq575 => ?_)
                                    refine g_istore X [(8, .int zq574), (11, .int 0), (10, .int 0), (9, .int y9_76), (7, .int rq37), (6, .int rq33), (5, .int rq29), (0, .ref (ad 47)), (1, .int x1), (2, .int x2), (3, .int x3), (4, .int x4)] dX7_loan_202 (by decide) rfl ?_
                                    refine g_iinc X 3 (fun v => [(9, .int v), (8, .int zq574), (11, .int 0), (10, .int 0), (7, .int rq37), (6, .int rq33), (5, .int rq29), (0, .ref (ad 47)), (1, .int x1), (2, .int x2), (3, .int x3), (4, .int x4)]) dX7_loan_204 rfl (by decide) (fun _ => rfl) (fun zq577 eq578 => ?_)
                                    have tq579 : zq577.toInt = b9_76 + 1 := add_nw eq578 e9_76 (show (Int32.ofInt 1).toInt = 1 by decide) (by omega)
                                    refine g_goto X (tgt := 76) dX7_loan_207 (by decide) ?_
                                    refine g_sub [0, 1, 4, 5, 6, 7, 8, 9, 10, 11] rfl ?_
                                    exact ih76 zq577 _ tq579 zq574 _ rfl (by omega) (by omega)
                              · refine g_aload_n X 6 rfl dX7_loan_163 ?_
                                refine g_iload X 3 rfl dX7_loan_164 ?_
                                refine g_iload X 1 rfl dX7_loan_166 ?_
                                refine g_iload_n X 9 rfl dX7_loan_168 ?_
                                refine g_iload X 5 rfl dX7_loan_169 ?_
                                refine g_callV X m_X7_322 (c_X7_hasLine ad Mq rq37 tq39 y9_76 e9_76 x3 t3 rq29 tq31 Iq0 (by omega)) rfl (by decide) (Nat.le_of_ble_eq_true rfl) rfl dX7_loan_171 ?_
                                rintro _ _ ⟨rq580, aq581, rfl, tq582, hq583, rfl⟩
                                show G Γ Mq 174 [(10, .int 0), (9, .int y9_76), (8, .int y8_76), (7, .int rq37), (6, .int rq33), (5, .int rq29), (0, .ref (ad 47)), (1, .int x1), (2, .int x2), (3, .int x3), (4, .int x4)] [.int rq580]
                                refine g_if_eq X tq582 (tgt := 181) dX7_loan_174 (by decide) (fun cq584 => ?_) (fun cq584 => ?_)
                                · refine g_iconst X 0 dX7_loan_181 (by decide) ?_
                                  refine g_istore X [(11, .int 0), (10, .int 0), (9, .int y9_76), (8, .int y8_76), (7, .int rq37), (6, .int rq33), (5, .int rq29), (0, .ref (ad 47)), (1, .int x1), (2, .int x2), (3, .int x3), (4, .int x4)] dX7_loan_182 (by decide) rfl ?_
                                  refine g_iload X 3 rfl dX7_loan_184 ?_
                                  refine g_iload X 1 rfl dX7_loan_186 ?_
                                  refine g_if_eq X (show (0 : Int32).toInt = 0 by decide) (tgt := 200) dX7_loan_188 (by decide) (fun cq585 => ?_) (fun cq585 => ?_)
                                  · refine g_iconst X 0 dX7_loan_200 (by decide) ?_
                                    refine g_iadd X dX7_loan_201 (fun zq586 eq587 => ?_)
                                    refine g_istore X [(8, .int zq586), (11, .int 0), (10, .int 0), (9, .int y9_76), (7, .int rq37), (6, .int rq33), (5, .int rq29), (0, .ref (ad 47)), (1, .int x1), (2, .int x2), (3, .int x3), (4, .int x4)] dX7_loan_202 (by decide) rfl ?_
                                    refine g_iinc X 3 (fun v => [(9, .int v), (8, .int zq586), (11, .int 0), (10, .int 0), (7, .int rq37), (6, .int rq33), (5, .int rq29), (0, .ref (ad 47)), (1, .int x1), (2, .int x2), (3, .int x3), (4, .int x4)]) dX7_loan_204 rfl (by decide) (fun _ => rfl) (fun zq589 eq590 => ?_)
                                    have tq591 : zq589.toInt = b9_76 + 1 := add_nw eq590 e9_76 (show (Int32.ofInt 1).toInt = 1 by decide) (by omega)
                                    refine g_goto X (tgt := 76) dX7_loan_207 (by decide) ?_
                                    refine g_sub [0, 1, 4, 5, 6, 7, 8, 9, 10, 11] rfl ?_
                                    exact ih76 zq589 _ tq591 zq586 _ rfl (by omega) (by omega)
                                  · refine g_iload X 0 rfl dX7_loan_191 ?_
                                    refine g_if_ne X (show (0 : Int32).toInt = 0 by decide) (tgt := 200) dX7_loan_193 (by decide) (fun cq592 => ?_) (fun cq592 => ?_)
                                    · refine g_iconst X 0 dX7_loan_200 (by decide) ?_
                                      refine g_iadd X dX7_loan_201 (fun zq593 eq594 => ?_)
                                      refine g_istore X [(8, .int zq593), (11, .int 0), (10, .int 0), (9, .int y9_76), (7, .int rq37), (6, .int rq33), (5, .int rq29), (0, .ref (ad 47)), (1, .int x1), (2, .int x2), (3, .int x3), (4, .int x4)] dX7_loan_202 (by decide) rfl ?_
                                      refine g_iinc X 3 (fun v => [(9, .int v), (8, .int zq593), (11, .int 0), (10, .int 0), (7, .int rq37), (6, .int rq33), (5, .int rq29), (0, .ref (ad 47)), (1, .int x1), (2, .int x2), (3, .int x3), (4, .int x4)]) dX7_loan_204 rfl (by decide) (fun _ => rfl) (fun zq596 eq597 => ?_)
                                      have tq598 : zq596.toInt = b9_76 + 1 := add_nw eq597 e9_76 (show (Int32.ofInt 1).toInt = 1 by decide) (by omega)
                                      refine g_goto X (tgt := 76) dX7_loan_207 (by decide) ?_
                                      refine g_sub [0, 1, 4, 5, 6, 7, 8, 9, 10, 11] rfl ?_
                                      exact ih76 zq596 _ tq598 zq593 _ rfl (by omega) (by omega)
                                    · refine g_iconst X 1 dX7_loan_196 (by decide) ?_
                                      refine g_goto X (tgt := 201) dX7_loan_197 (by decide) ?_
                                      refine g_iadd X dX7_loan_201 (fun zq599 eq600 => ?_)
                                      refine g_istore X [(8, .int zq599), (11, .int 0), (10, .int 0), (9, .int y9_76), (7, .int rq37), (6, .int rq33), (5, .int rq29), (0, .ref (ad 47)), (1, .int x1), (2, .int x2), (3, .int x3), (4, .int x4)] dX7_loan_202 (by decide) rfl ?_
                                      refine g_iinc X 3 (fun v => [(9, .int v), (8, .int zq599), (11, .int 0), (10, .int 0), (7, .int rq37), (6, .int rq33), (5, .int rq29), (0, .ref (ad 47)), (1, .int x1), (2, .int x2), (3, .int x3), (4, .int x4)]) dX7_loan_204 rfl (by decide) (fun _ => rfl) (fun zq602 eq603 => ?_)
                                      have tq604 : zq602.toInt = b9_76 + 1 := add_nw eq603 e9_76 (show (Int32.ofInt 1).toInt = 1 by decide) (by omega)
                                      refine g_goto X (tgt := 76) dX7_loan_207 (by decide) ?_
                                      refine g_sub [0, 1, 4, 5, 6, 7, 8, 9, 10, 11] rfl ?_
                                      exact ih76 zq602 _ tq604 zq599 _ rfl (by omega) (by omega)
                                · refine g_iconst X 1 dX7_loan_177 (by decide) ?_
                                  refine g_goto X (tgt := 182) dX7_loan_178 (by decide) ?_
                                  refine g_istore X [(11, .int 1), (10, .int 0), (9, .int y9_76), (8, .int y8_76), (7, .int rq37), (6, .int rq33), (5, .int rq29), (0, .ref (ad 47)), (1, .int x1), (2, .int x2), (3, .int x3), (4, .int x4)] dX7_loan_182 (by decide) rfl ?_
                                  refine g_iload X 3 rfl dX7_loan_184 ?_
                                  refine g_iload X 1 rfl dX7_loan_186 ?_
                                  refine g_if_eq X (show (0 : Int32).toInt = 0 by decide) (tgt := 200) dX7_loan_188 (by decide) (fun cq605 => ?_) (fun cq605 => ?_)
                                  · refine g_iconst X 0 dX7_loan_200 (by decide) ?_
                                    refine g_iadd X dX7_loan_201 (fun zq606 eq607 => ?_)
                                    refine g_istore X [(8, .int zq606), (11, .int 1), (10, .int 0), (9, .int y9_76), (7, .int rq37), (6, .int rq33), (5, .int rq29), (0, .ref (ad 47)), (1, .int x1), (2, .int x2), (3, .int x3), (4, .int x4)] dX7_loan_202 (by decide) rfl ?_
                                    refine g_iinc X 3 (fun v => [(9, .int v), (8, .int zq606), (11, .int 1), (10, .int 0), (7, .int rq37), (6, .int rq33), (5, .int rq29), (0, .ref (ad 47)), (1, .int x1), (2, .int x2), (3, .int x3), (4, .int x4)]) dX7_loan_204 rfl (by decide) (fun _ => rfl) (fun zq609 eq610 => ?_)
                                    have tq611 : zq609.toInt = b9_76 + 1 := add_nw eq610 e9_76 (show (Int32.ofInt 1).toInt = 1 by decide) (by omega)
                                    refine g_goto X (tgt := 76) dX7_loan_207 (by decide) ?_
                                    refine g_sub [0, 1, 4, 5, 6, 7, 8, 9, 10, 11] rfl ?_
                                    exact ih76 zq609 _ tq611 zq606 _ rfl (by omega) (by omega)
                                  · refine g_iload X 0 rfl dX7_loan_191 ?_
                                    refine g_if_ne X (show (1 : Int32).toInt = 1 by decide) (tgt := 200) dX7_loan_193 (by decide) (fun cq612 => ?_) (fun cq612 => ?_)
                                    · refine g_iconst X 0 dX7_loan_200 (by decide) ?_
                                      refine g_iadd X dX7_loan_201 (fun zq613 eq614 => ?_)
                                      refine g_istore X [(8, .int zq613), (11, .int 1), (10, .int 0), (9, .int y9_76), (7, .int rq37), (6, .int rq33), (5, .int rq29), (0, .ref (ad 47)), (1, .int x1), (2, .int x2), (3, .int x3), (4, .int x4)] dX7_loan_202 (by decide) rfl ?_
                                      refine g_iinc X 3 (fun v => [(9, .int v), (8, .int zq613), (11, .int 1), (10, .int 0), (7, .int rq37), (6, .int rq33), (5, .int rq29), (0, .ref (ad 47)), (1, .int x1), (2, .int x2), (3, .int x3), (4, .int x4)]) dX7_loan_204 rfl (by decide) (fun _ => rfl) (fun zq616 eq617 => ?_)
                                      have tq618 : zq616.toInt = b9_76 + 1 := add_nw eq617 e9_76 (show (Int32.ofInt 1).toInt = 1 by decide) (by omega)
                                      refine g_goto X (tgt := 76) dX7_loan_207 (by decide) ?_
                                      refine g_sub [0, 1, 4, 5, 6, 7, 8, 9, 10, 11] rfl ?_
                                      exact ih76 zq616 _ tq618 zq613 _ rfl (by omega) (by omega)
                                    · refine g_iconst X 1 dX7_loan_196 (by decide) ?_
                                      refine g_goto X (tgt := 201) dX7_loan_197 (by decide) ?_
                                      refine g_iadd X dX7_loan_201 (fun zq619 eq620 => ?_)
                                      refine g_istore X [(8, .int zq619), (11, .int 1), (10, .int 0), (9, .int y9_76), (7, .int rq37), (6, .int rq33), (5, .int rq29), (0, .ref (ad 47)), (1, .int x1), (2, .int x2), (3, .int x3), (4, .int x4)] dX7_loan_202 (by decide) rfl ?_
                                      refine g_iinc X 3 (fun v => [(9, .int v), (8, .int zq619), (11, .int 1), (10, .int 0), (7, .int rq37), (6, .int rq33), (5, .int rq29), (0, .ref (ad 47)), (1, .int x1), (2, .int x2), (3, .int x3), (4, .int x4)]) dX7_loan_204 rfl (by decide) (fun _ => rfl) (fun zq622 eq623 => ?_)
                                      have tq624 : zq622.toInt = b9_76 + 1 := add_nw eq623 e9_76 (show (Int32.ofInt 1).toInt = 1 by decide) (by omega)
                                      refine g_goto X (tgt := 76) dX7_loan_207 (by decide) ?_
                                      refine g_sub [0, 1, 4, 5, 6, 7, 8, 9, 10, 11] rfl ?_
                                      exact ih76 zq622 _ tq624 zq619 _ rfl (by omega) (by omega)
                    · refine g_aload_n X 5 rfl dX7_loan_109 ?_
                      refine g_iload_n X 7 rfl dX7_loan_110 ?_
                      refine g_iload X 0 rfl dX7_loan_111 ?_
                      refine g_iload_n X 8 rfl dX7_loan_113 ?_
                      refine g_iload X 4 rfl dX7_loan_114 ?_
                      refine g_callV X m_X7_322 (c_X7_hasLine ad Mq x2 t2 y9_76 e9_76 x3 t3 rq29 tq31 Iq0 (by omega)) rfl (by decide) (Nat.le_of_ble_eq_true rfl) rfl dX7_loan_116 ?_
                      rintro _ _ ⟨rq625, aq626, rfl, tq627, hq628, rfl⟩
                      show G Γ Mq 119 [(9, .int y9_76), (8, .int y8_76), (7, .int rq37), (6, .int rq33), (5, .int rq29), (0, .ref (ad 47)), (1, .int x1), (2, .int x2), (3, .int x3), (4, .int x4)] [.int rq625]
                      refine g_if_eq X tq627 (tgt := 126) dX7_loan_119 (by decide) (fun cq629 => ?_) (fun cq629 => ?_)
                      · refine g_iconst X 0 dX7_loan_126 (by decide) ?_
                        refine g_istore X [(10, .int 0), (9, .int y9_76), (8, .int y8_76), (7, .int rq37), (6, .int rq33), (5, .int rq29), (0, .ref (ad 47)), (1, .int x1), (2, .int x2), (3, .int x3), (4, .int x4)] dX7_loan_127 (by decide) rfl ?_
                        refine g_iload X 4 rfl dX7_loan_129 ?_
                        refine g_if_lt X tq35 (tgt := 153) dX7_loan_131 (by decide) (fun cq630 => ?_) (fun cq630 => ?_)
                        · refine g_iload X 3 rfl dX7_loan_153 ?_
                          refine g_if_lt X tq39 (tgt := 181) dX7_loan_155 (by decide) (fun cq631 => ?_) (fun cq631 => ?_)
                          · refine g_iconst X 0 dX7_loan_181 (by decide) ?_
                            refine g_istore X [(11, .int 0), (10, .int 0), (9, .int y9_76), (8, .int y8_76), (7, .int rq37), (6, .int rq33), (5, .int rq29), (0, .ref (ad 47)), (1, .int x1), (2, .int x2), (3, .int x3), (4, .int x4)] dX7_loan_182 (by decide) rfl ?_
                            refine g_iload X 3 rfl dX7_loan_184 ?_
                            refine g_iload X 1 rfl dX7_loan_186 ?_
                            refine g_if_eq X (show (0 : Int32).toInt = 0 by decide) (tgt := 200) dX7_loan_188 (by decide) (fun cq632 => ?_) (fun cq632 => ?_)
                            · refine g_iconst X 0 dX7_loan_200 (by decide) ?_
                              refine g_iadd X dX7_loan_201 (fun zq633 eq634 => ?_)
                              refine g_istore X [(8, .int zq633), (11, .int 0), (10, .int 0), (9, .int y9_76), (7, .int rq37), (6, .int rq33), (5, .int rq29), (0, .ref (ad 47)), (1, .int x1), (2, .int x2), (3, .int x3), (4, .int x4)] dX7_loan_202 (by decide) rfl ?_
                              refine g_iinc X 3 (fun v => [(9, .int v), (8, .int zq633), (11, .int 0), (10, .int 0), (7, .int rq37), (6, .int rq33), (5, .int rq29), (0, .ref (ad 47)), (1, .int x1), (2, .int x2), (3, .int x3), (4, .int x4)]) dX7_loan_204 rfl (by decide) (fun _ => rfl) (fun zq636 eq637 => ?_)
                              have tq638 : zq636.toInt = b9_76 + 1 := add_nw eq637 e9_76 (show (Int32.ofInt 1).toInt = 1 by decide) (by omega)
                              refine g_goto X (tgt := 76) dX7_loan_207 (by decide) ?_
                              refine g_sub [0, 1, 4, 5, 6, 7, 8, 9, 10, 11] rfl ?_
                              exact ih76 zq636 _ tq638 zq633 _ rfl (by omega) (by omega)
                            · refine g_iload X 0 rfl dX7_loan_191 ?_
                              refine g_if_ne X (show (0 : Int32).toInt = 0 by decide) (tgt := 200) dX7_loan_193 (by decide) (fun cq639 => ?_) (fun cq639 => ?_)
                              · refine g_iconst X 0 dX7_loan_200 (by decide) ?_
                                refine g_iadd X dX7_loan_201 (fun zq640 eq641 => ?_)
                                refine g_istore X [(8, .int zq640), (11, .int 0), (10, .int 0), (9, .int y9_76), (7, .int rq37), (6, .int rq33), (5, .int rq29), (0, .ref (ad 47)), (1, .int x1), (2, .int x2), (3, .int x3), (4, .int x4)] dX7_loan_202 (by decide) rfl ?_
                                refine g_iinc X 3 (fun v => [(9, .int v), (8, .int zq640), (11, .int 0), (10, .int 0), (7, .int rq37), (6, .int rq33), (5, .int rq29), (0, .ref (ad 47)), (1, .int x1), (2, .int x2), (3, .int x3), (4, .int x4)]) dX7_loan_204 rfl (by decide) (fun _ => rfl) (fun zq643 eq644 => ?_)
                                have tq645 : zq643.toInt = b9_76 + 1 := add_nw eq644 e9_76 (show (Int32.ofInt 1).toInt = 1 by decide) (by omega)
                                refine g_goto X (tgt := 76) dX7_loan_207 (by decide) ?_
                                refine g_sub [0, 1, 4, 5, 6, 7, 8, 9, 10, 11] rfl ?_
                                exact ih76 zq643 _ tq645 zq640 _ rfl (by omega) (by omega)
                              · refine g_iconst X 1 dX7_loan_196 (by decide) ?_
                                refine g_goto X (tgt := 201) dX7_loan_197 (by decide) ?_
                                refine g_iadd X dX7_loan_201 (fun zq646 eq647 => ?_)
                                refine g_istore X [(8, .int zq646), (11, .int 0), (10, .int 0), (9, .int y9_76), (7, .int rq37), (6, .int rq33), (5, .int rq29), (0, .ref (ad 47)), (1, .int x1), (2, .int x2), (3, .int x3), (4, .int x4)] dX7_loan_202 (by decide) rfl ?_
                                refine g_iinc X 3 (fun v => [(9, .int v), (8, .int zq646), (11, .int 0), (10, .int 0), (7, .int rq37), (6, .int rq33), (5, .int rq29), (0, .ref (ad 47)), (1, .int x1), (2, .int x2), (3, .int x3), (4, .int x4)]) dX7_loan_204 rfl (by decide) (fun _ => rfl) (fun zq649 eq650 => ?_)
                                have tq651 : zq649.toInt = b9_76 + 1 := add_nw eq650 e9_76 (show (Int32.ofInt 1).toInt = 1 by decide) (by omega)
                                refine g_goto X (tgt := 76) dX7_loan_207 (by decide) ?_
                                refine g_sub [0, 1, 4, 5, 6, 7, 8, 9, 10, 11] rfl ?_
                                exact ih76 zq649 _ tq651 zq646 _ rfl (by omega) (by omega)
                          · refine g_iload X 0 rfl dX7_loan_158 ?_
                            refine g_if_eq X (show (0 : Int32).toInt = 0 by decide) (tgt := 181) dX7_loan_160 (by decide) (fun cq652 => ?_) (fun cq652 => ?_)
                            · refine g_iconst X 0 dX7_loan_181 (by decide) ?_
                              refine g_istore X [(11, .int 0), (10, .int 0), (9, .int y9_76), (8, .int y8_76), (7, .int rq37), (6, .int rq33), (5, .int rq29), (0, .ref (ad 47)), (1, .int x1), (2, .int x2), (3, .int x3), (4, .int x4)] dX7_loan_182 (by decide) rfl ?_
                              refine g_iload X 3 rfl dX7_loan_184 ?_
                              refine g_iload X 1 rfl dX7_loan_186 ?_
                              refine g_if_eq X (show (0 : Int32).toInt = 0 by decide) (tgt := 200) dX7_loan_188 (by decide) (fun cq653 => ?_) (fun cq653 => ?_)
                              · refine g_iconst X 0 dX7_loan_200 (by decide) ?_
                                refine g_iadd X dX7_loan_201 (fun zq654 eq655 => ?_)
                                refine g_istore X [(8, .int zq654), (11, .int 0), (10, .int 0), (9, .int y9_76), (7, .int rq37), (6, .int rq33), (5, .int rq29), (0, .ref (ad 47)), (1, .int x1), (2, .int x2), (3, .int x3), (4, .int x4)] dX7_loan_202 (by decide) rfl ?_
                                refine g_iinc X 3 (fun v => [(9, .int v), (8, .int zq654), (11, .int 0), (10, .int 0), (7, .int rq37), (6, .int rq33), (5, .int rq29), (0, .ref (ad 47)), (1, .int x1), (2, .int x2), (3, .int x3), (4, .int x4)]) dX7_loan_204 rfl (by decide) (fun _ => rfl) (fun zq657 eq658 => ?_)
                                have tq659 : zq657.toInt = b9_76 + 1 := add_nw eq658 e9_76 (show (Int32.ofInt 1).toInt = 1 by decide) (by omega)
                                refine g_goto X (tgt := 76) dX7_loan_207 (by decide) ?_
                                refine g_sub [0, 1, 4, 5, 6, 7, 8, 9, 10, 11] rfl ?_
                                exact ih76 zq657 _ tq659 zq654 _ rfl (by omega) (by omega)
                              · refine g_iload X 0 rfl dX7_loan_191 ?_
                                refine g_if_ne X (show (0 : Int32).toInt = 0 by decide) (tgt := 200) dX7_loan_193 (by decide) (fun cq660 => ?_) (fun cq660 => ?_)
                                · refine g_iconst X 0 dX7_loan_200 (by decide) ?_
                                  refine g_iadd X dX7_loan_201 (fun zq661 eq662 => ?_)
                                  refine g_istore X [(8, .int zq661), (11, .int 0), (10, .int 0), (9, .int y9_76), (7, .int rq37), (6, .int rq33), (5, .int rq29), (0, .ref (ad 47)), (1, .int x1), (2, .int x2), (3, .int x3), (4, .int x4)] dX7_loan_202 (by decide) rfl ?_
                                  refine g_iinc X 3 (fun v => [(9, .int v), (8, .int zq661), (11, .int 0), (10, .int 0), (7, .int rq37), (6, .int rq33), (5, .int rq29), (0, .ref (ad 47)), (1, .int x1), (2, .int x2), (3, .int x3), (4, .int x4)]) dX7_loan_204 rfl (by decide) (fun _ => rfl) (fun zq664 eq665 => ?_)
                                  have tq666 : zq664.toInt = b9_76 + 1 := add_nw eq665 e9_76 (show (Int32.ofInt 1).toInt = 1 by decide) (by omega)
                                  refine g_goto X (tgt := 76) dX7_loan_207 (by decide) ?_
                                  refine g_sub [0, 1, 4, 5, 6, 7, 8, 9, 10, 11] rfl ?_
                                  exact ih76 zq664 _ tq666 zq661 _ rfl (by omega) (by omega)
                                · refine g_iconst X 1 dX7_loan_196 (by decide) ?_
                                  refine g_goto X (tgt := 201) dX7_loan_197 (by decide) ?_
                                  refine g_iadd X dX7_loan_201 (fun zq667 eq668 => ?_)
                                  refine g_istore X [(8, .int zq667), (11, .int 0), (10, .int 0), (9, .int y9_76), (7, .int rq37), (6, .int rq33), (5, .int rq29), (0, .ref (ad 47)), (1, .int x1), (2, .int x2), (3, .int x3), (4, .int x4)] dX7_loan_202 (by decide) rfl ?_
                                  refine g_iinc X 3 (fun v => [(9, .int v), (8, .int zq667), (11, .int 0), (10, .int 0), (7, .int rq37), (6, .int rq33), (5, .int rq29), (0, .ref (ad 47)), (1, .int x1), (2, .int x2), (3, .int x3), (4, .int x4)]) dX7_loan_204 rfl (by decide) (fun _ => rfl) (fun zq670 eq671 => ?_)
                                  have tq672 : zq670.toInt = b9_76 + 1 := add_nw eq671 e9_76 (show (Int32.ofInt 1).toInt = 1 by decide) (by omega)
                                  refine g_goto X (tgt := 76) dX7_loan_207 (by decide) ?_
                                  refine g_sub [0, 1, 4, 5, 6, 7, 8, 9, 10, 11] rfl ?_
                                  exact ih76 zq670 _ tq672 zq667 _ rfl (by omega) (by omega)
                            · refine g_aload_n X 6 rfl dX7_loan_163 ?_
                              refine g_iload X 3 rfl dX7_loan_164 ?_
                              refine g_iload X 1 rfl dX7_loan_166 ?_
                              refine g_iload_n X 9 rfl dX7_loan_168 ?_
                              refine g_iload X 5 rfl dX7_loan_169 ?_
                              refine g_callV X m_X7_322 (c_X7_hasLine ad Mq rq37 tq39 y9_76 e9_76 x3 t3 rq29 tq31 Iq0 (by omega)) rfl (by decide) (Nat.le_of_ble_eq_true rfl) rfl dX7_loan_171 ?_
                              rintro _ _ ⟨rq673, aq674, rfl, tq675, hq676, rfl⟩
                              show G Γ Mq 174 [(10, .int 0), (9, .int y9_76), (8, .int y8_76), (7, .int rq37), (6, .int rq33), (5, .int rq29), (0, .ref (ad 47)), (1, .int x1), (2, .int x2), (3, .int x3), (4, .int x4)] [.int rq673]
                              refine g_if_eq X tq675 (tgt := 181) dX7_loan_174 (by decide) (fun cq677 => ?_) (fun cq677 => ?_)
                              · refine g_iconst X 0 dX7_loan_181 (by decide) ?_
                                refine g_istore X [(11, .int 0), (10, .int 0), (9, .int y9_76), (8, .int y8_76), (7, .int rq37), (6, .int rq33), (5, .int rq29), (0, .ref (ad 47)), (1, .int x1), (2, .int x2), (3, .int x3), (4, .int x4)] dX7_loan_182 (by decide) rfl ?_
                                refine g_iload X 3 rfl dX7_loan_184 ?_
                                refine g_iload X 1 rfl dX7_loan_186 ?_
                                refine g_if_eq X (show (0 : Int32).toInt = 0 by decide) (tgt := 200) dX7_loan_188 (by decide) (fun cq678 => ?_) (fun cq678 => ?_)
                                · refine g_iconst X 0 dX7_loan_200 (by decide) ?_
                                  refine g_iadd X dX7_loan_201 (fun zq679 eq680 => ?_)
                                  refine g_istore X [(8, .int zq679), (11, .int 0), (10, .int 0), (9, .int y9_76), (7, .int rq37), (6, .int rq33), (5, .int rq29), (0, .ref (ad 47)), (1, .int x1), (2, .int x2), (3, .int x3), (4, .int x4)] dX7_loan_202 (by decide) rfl ?_
                                  refine g_iinc X 3 (fun v => [(9, .int v), (8, .int zq679), (11, .int 0), (10, .int 0), (7, .int rq37), (6, .int rq33), (5, .int rq29), (0, .ref (ad 47)), (1, .int x1), (2, .int x2), (3, .int x3), (4, .int x4)]) dX7_loan_204 rfl (by decide) (fun _ => rfl) (fun zq682 eq683 => ?_)
                                  have tq684 : zq682.toInt = b9_76 + 1 := add_nw eq683 e9_76 (show (Int32.ofInt 1).toInt = 1 by decide) (by omega)
                                  refine g_goto X (tgt := 76) dX7_loan_207 (by decide) ?_
                                  refine g_sub [0, 1, 4, 5, 6, 7, 8, 9, 10, 11] rfl ?_
                                  exact ih76 zq682 _ tq684 zq679 _ rfl (by omega) (by omega)
                                · refine g_iload X 0 rfl dX7_loan_191 ?_
                                  refine g_if_ne X (show (0 : Int32).toInt = 0 by decide) (tgt := 200) dX7_loan_193 (by decide) (fun cq685 => ?_) (fun cq685 => ?_)
                                  · refine g_iconst X 0 dX7_loan_200 (by decide) ?_
                                    refine g_iadd X dX7_loan_201 (fun zq686 eq687 => ?_)
                                    refine g_istore X [(8, .int zq686), (11, .int 0), (10, .int 0), (9, .int y9_76), (7, .int rq37), (6, .int rq33), (5, .int rq29), (0, .ref (ad 47)), (1, .int x1), (2, .int x2), (3, .int x3), (4, .int x4)] dX7_loan_202 (by decide) rfl ?_
                                    refine g_iinc X 3 (fun v => [(9, .int v), (8, .int zq686), (11, .int 0), (10, .int 0), (7, .int rq37), (6, .int rq33), (5, .int rq29), (0, .ref (ad 47)), (1, .int x1), (2, .int x2), (3, .int x3), (4, .int x4)]) dX7_loan_204 rfl (by decide) (fun _ => rfl) (fun zq689 eq690 => ?_)
                                    have tq691 : zq689.toInt = b9_76 + 1 := add_nw eq690 e9_76 (show (Int32.ofInt 1).toInt = 1 by decide) (by omega)
                                    refine g_goto X (tgt := 76) dX7_loan_207 (by decide) ?_
                                    refine g_sub [0, 1, 4, 5, 6, 7, 8, 9, 10, 11] rfl ?_
                                    exact ih76 zq689 _ tq691 zq686 _ rfl (by omega) (by omega)
                                  · refine g_iconst X 1 dX7_loan_196 (by decide) ?_
                                    refine g_goto X (tgt := 201) dX7_loan_197 (by decide) ?_
                                    refine g_iadd X dX7_loan_201 (fun zq692 eq693 => ?_)
                                    refine g_istore X [(8, .int zq692), (11, .int 0), (10, .int 0), (9, .int y9_76), (7, .int rq37), (6, .int rq33), (5, .int rq29), (0, .ref (ad 47)), (1, .int x1), (2, .int x2), (3, .int x3), (4, .int x4)] dX7_loan_202 (by decide) rfl ?_
                                    refine g_iinc X 3 (fun v => [(9, .int v), (8, .int zq692), (11, .int 0), (10, .int 0), (7, .int rq37), (6, .int rq33), (5, .int rq29), (0, .ref (ad 47)), (1, .int x1), (2, .int x2), (3, .int x3), (4, .int x4)]) dX7_loan_204 rfl (by decide) (fun _ => rfl) (fun zq695 eq696 => ?_)
                                    have tq697 : zq695.toInt = b9_76 + 1 := add_nw eq696 e9_76 (show (Int32.ofInt 1).toInt = 1 by decide) (by omega)
                                    refine g_goto X (tgt := 76) dX7_loan_207 (by decide) ?_
                                    refine g_sub [0, 1, 4, 5, 6, 7, 8, 9, 10, 11] rfl ?_
                                    exact ih76 zq695 _ tq697 zq692 _ rfl (by omega) (by omega)
                              · refine g_iconst X 1 dX7_loan_177 (by decide) ?_
                                refine g_goto X (tgt := 182) dX7_loan_178 (by decide) ?_
                                refine g_istore X [(11, .int 1), (10, .int 0), (9, .int y9_76), (8, .int y8_76), (7, .int rq37), (6, .int rq33), (5, .int rq29), (0, .ref (ad 47)), (1, .int x1), (2, .int x2), (3, .int x3), (4, .int x4)] dX7_loan_182 (by decide) rfl ?_
                                refine g_iload X 3 rfl dX7_loan_184 ?_
                                refine g_iload X 1 rfl dX7_loan_186 ?_
                                refine g_if_eq X (show (0 : Int32).toInt = 0 by decide) (tgt := 200) dX7_loan_188 (by decide) (fun cq698 => ?_) (fun cq698 => ?_)
                                · refine g_iconst X 0 dX7_loan_200 (by decide) ?_
                                  refine g_iadd X dX7_loan_201 (fun zq699 eq700 => ?_)
                                  refine g_istore X [(8, .int zq699), (11, .int 1), (10, .int 0), (9, .int y9_76), (7, .int rq37), (6, .int rq33), (5, .int rq29), (0, .ref (ad 47)), (1, .int x1), (2, .int x2), (3, .int x3), (4, .int x4)] dX7_loan_202 (by decide) rfl ?_
                                  refine g_iinc X 3 (fun v => [(9, .int v), (8, .int zq699), (11, .int 1), (10, .int 0), (7, .int rq37), (6, .int rq33), (5, .int rq29), (0, .ref (ad 47)), (1, .int x1), (2, .int x2), (3, .int x3), (4, .int x4)]) dX7_loan_204 rfl (by decide) (fun _ => rfl) (fun zq702 eq703 => ?_)
                                  have tq704 : zq702.toInt = b9_76 + 1 := add_nw eq703 e9_76 (show (Int32.ofInt 1).toInt = 1 by decide) (by omega)
                                  refine g_goto X (tgt := 76) dX7_loan_207 (by decide) ?_
                                  refine g_sub [0, 1, 4, 5, 6, 7, 8, 9, 10, 11] rfl ?_
                                  exact ih76 zq702 _ tq704 zq699 _ rfl (by omega) (by omega)
                                · refine g_iload X 0 rfl dX7_loan_191 ?_
                                  refine g_if_ne X (show (1 : Int32).toInt = 1 by decide) (tgt := 200) dX7_loan_193 (by decide) (fun cq705 => ?_) (fun cq705 => ?_)
                                  · refine g_iconst X 0 dX7_loan_200 (by decide) ?_
                                    refine g_iadd X dX7_loan_201 (fun zq706 eq707 => ?_)
                                    refine g_istore X [(8, .int zq706), (11, .int 1), (10, .int 0), (9, .int y9_76), (7, .int rq37), (6, .int rq33), (5, .int rq29), (0, .ref (ad 47)), (1, .int x1), (2, .int x2), (3, .int x3), (4, .int x4)] dX7_loan_202 (by decide) rfl ?_
                                    refine g_iinc X 3 (fun v => [(9, .int v), (8, .int zq706), (11, .int 1), (10, .int 0), (7, .int rq37), (6, .int rq33), (5, .int rq29), (0, .ref (ad 47)), (1, .int x1), (2, .int x2), (3, .int x3), (4, .int x4)]) dX7_loan_204 rfl (by decide) (fun _ => rfl) (fun zq709 eq710 => ?_)
                                    have tq711 : zq709.toInt = b9_76 + 1 := add_nw eq710 e9_76 (show (Int32.ofInt 1).toInt = 1 by decide) (by omega)
                                    refine g_goto X (tgt := 76) dX7_loan_207 (by decide) ?_
                                    refine g_sub [0, 1, 4, 5, 6, 7, 8, 9, 10, 11] rfl ?_
                                    exact ih76 zq709 _ tq711 zq706 _ rfl (by omega) (by omega)
                                  · refine g_iconst X 1 dX7_loan_196 (by decide) ?_
                                    refine g_goto X (tgt := 201) dX7_loan_197 (by decide) ?_
                                    refine g_iadd X dX7_loan_201 (fun zq712 eq713 => ?_)
                                    refine g_istore X [(8, .int zq712), (11, .int 1), (10, .int 0), (9, .int y9_76), (7, .int rq37), (6, .int rq33), (5, .int rq29), (0, .ref (ad 47)), (1, .int x1), (2, .int x2), (3, .int x3), (4, .int x4)] dX7_loan_202 (by decide) rfl ?_
                                    refine g_iinc X 3 (fun v => [(9, .int v), (8, .int zq712), (11, .int 1), (10, .int 0), (7, .int rq37), (6, .int rq33), (5, .int rq29), (0, .ref (ad 47)), (1, .int x1), (2, .int x2), (3, .int x3), (4, .int x4)]) dX7_loan_204 rfl (by decide) (fun _ => rfl) (fun zq715 eq716 => ?_)
                                    have tq717 : zq715.toInt = b9_76 + 1 := add_nw eq716 e9_76 (show (Int32.ofInt 1).toInt = 1 by decide) (by omega)
                                    refine g_goto X (tgt := 76) dX7_loan_207 (by decide) ?_
                                    refine g_sub [0, 1, 4, 5, 6, 7, 8, 9, 10, 11] rfl ?_
                                    exact ih76 zq715 _ tq717 zq712 _ rfl (by omega) (by omega)
                        · refine g_iload X 0 rfl dX7_loan_134 ?_
                          refine g_if_eq X (show (0 : Int32).toInt = 0 by decide) (tgt := 153) dX7_loan_136 (by decide) (fun cq718 => ?_) (fun cq718 => ?_)
                          · refine g_iload X 3 rfl dX7_loan_153 ?_
                            refine g_if_lt X tq39 (tgt := 181) dX7_loan_155 (by decide) (fun cq719 => ?_) (fun cq719 => ?_)
                            · refine g_iconst X 0 dX7_loan_181 (by decide) ?_
                              refine g_istore X [(11, .int 0), (10, .int 0), (9, .int y9_76), (8, .int y8_76), (7, .int rq37), (6, .int rq33), (5, .int rq29), (0, .ref (ad 47)), (1, .int x1), (2, .int x2), (3, .int x3), (4, .int x4)] dX7_loan_182 (by decide) rfl ?_
                              refine g_iload X 3 rfl dX7_loan_184 ?_
                              refine g_iload X 1 rfl dX7_loan_186 ?_
                              refine g_if_eq X (show (0 : Int32).toInt = 0 by decide) (tgt := 200) dX7_loan_188 (by decide) (fun cq720 => ?_) (fun cq720 => ?_)
                              · refine g_iconst X 0 dX7_loan_200 (by decide) ?_
                                refine g_iadd X dX7_loan_201 (fun zq721 eq722 => ?_)
                                refine g_istore X [(8, .int zq721), (11, .int 0), (10, .int 0), (9, .int y9_76), (7, .int rq37), (6, .int rq33), (5, .int rq29), (0, .ref (ad 47)), (1, .int x1), (2, .int x2), (3, .int x3), (4, .int x4)] dX7_loan_202 (by decide) rfl ?_
                                refine g_iinc X 3 (fun v => [(9, .int v), (8, .int zq721), (11, .int 0), (10, .int 0), (7, .int rq37), (6, .int rq33), (5, .int rq29), (0, .ref (ad 47)), (1, .int x1), (2, .int x2), (3, .int x3), (4, .int x4)]) dX7_loan_204 rfl (by decide) (fun _ => rfl) (fun zq724 eq725 => ?_)
                                have tq726 : zq724.toInt = b9_76 + 1 := add_nw eq725 e9_76 (show (Int32.ofInt 1).toInt = 1 by decide) (by omega)
                                refine g_goto X (tgt := 76) dX7_loan_207 (by decide) ?_
                                refine g_sub [0, 1, 4, 5, 6, 7, 8, 9, 10, 11] rfl ?_
                                exact ih76 zq724 _ tq726 zq721 _ rfl (by omega) (by omega)
                              · refine g_iload X 0 rfl dX7_loan_191 ?_
                                refine g_if_ne X (show (0 : Int32).toInt = 0 by decide) (tgt := 200) dX7_loan_193 (by decide) (fun cq727 => ?_) (fun cq727 => ?_)
                                · refine g_iconst X 0 dX7_loan_200 (by decide) ?_
                                  refine g_iadd X dX7_loan_201 (fun zq728 eq729 => ?_)
                                  refine g_istore X [(8, .int zq728), (11, .int 0), (10, .int 0), (9, .int y9_76), (7, .int rq37), (6, .int rq33), (5, .int rq29), (0, .ref (ad 47)), (1, .int x1), (2, .int x2), (3, .int x3), (4, .int x4)] dX7_loan_202 (by decide) rfl ?_
                                  refine g_iinc X 3 (fun v => [(9, .int v), (8, .int zq728), (11, .int 0), (10, .int 0), (7, .int rq37), (6, .int rq33), (5, .int rq29), (0, .ref (ad 47)), (1, .int x1), (2, .int x2), (3, .int x3), (4, .int x4)]) dX7_loan_204 rfl (by decide) (fun _ => rfl) (fun zq731 eq732 => ?_)
                                  have tq733 : zq731.toInt = b9_76 + 1 := add_nw eq732 e9_76 (show (Int32.ofInt 1).toInt = 1 by decide) (by omega)
                                  refine g_goto X (tgt := 76) dX7_loan_207 (by decide) ?_
                                  refine g_sub [0, 1, 4, 5, 6, 7, 8, 9, 10, 11] rfl ?_
                                  exact ih76 zq731 _ tq733 zq728 _ rfl (by omega) (by omega)
                                · refine g_iconst X 1 dX7_loan_196 (by decide) ?_
                                  refine g_goto X (tgt := 201) dX7_loan_197 (by decide) ?_
                                  refine g_iadd X dX7_loan_201 (fun zq734 eq735 => ?_)
                                  refine g_istore X [(8, .int zq734), (11, .int 0), (10, .int 0), (9, .int y9_76), (7, .int rq37), (6, .int rq33), (5, .int rq29), (0, .ref (ad 47)), (1, .int x1), (2, .int x2), (3, .int x3), (4, .int x4)] dX7_loan_202 (by decide) rfl ?_
                                  refine g_iinc X 3 (fun v => [(9, .int v), (8, .int zq734), (11, .int 0), (10, .int 0), (7, .int rq37), (6, .int rq33), (5, .int rq29), (0, .ref (ad 47)), (1, .int x1), (2, .int x2), (3, .int x3), (4, .int x4)]) dX7_loan_204 rfl (by decide) (fun _ => rfl) (fun zq737 eq738 => ?_)
                                  have tq739 : zq737.toInt = b9_76 + 1 := add_nw eq738 e9_76 (show (Int32.ofInt 1).toInt = 1 by decide) (by omega)
                                  refine g_goto X (tgt := 76) dX7_loan_207 (by decide) ?_
                                  refine g_sub [0, 1, 4, 5, 6, 7, 8, 9, 10, 11] rfl ?_
                                  exact ih76 zq737 _ tq739 zq734 _ rfl (by omega) (by omega)
                            · refine g_iload X 0 rfl dX7_loan_158 ?_
                              refine g_if_eq X (show (0 : Int32).toInt = 0 by decide) (tgt := 181) dX7_loan_160 (by decide) (fun cq740 => ?_) (fun cq740 => ?_)
                              · refine g_iconst X 0 dX7_loan_181 (by decide) ?_
                                refine g_istore X [(11, .int 0), (10, .int 0), (9, .int y9_76), (8, .int y8_76), (7, .int rq37), (6, .int rq33), (5, .int rq29), (0, .ref (ad 47)), (1, .int x1), (2, .int x2), (3, .int x3), (4, .int x4)] dX7_loan_182 (by decide) rfl ?_
                                refine g_iload X 3 rfl dX7_loan_184 ?_
                                refine g_iload X 1 rfl dX7_loan_186 ?_
                                refine g_if_eq X (show (0 : Int32).toInt = 0 by decide) (tgt := 200) dX7_loan_188 (by decide) (fun cq741 => ?_) (fun cq741 => ?_)
                                · refine g_iconst X 0 dX7_loan_200 (by decide) ?_
                                  refine g_iadd X dX7_loan_201 (fun zq742 eq743 => ?_)
                                  refine g_istore X [(8, .int zq742), (11, .int 0), (10, .int 0), (9, .int y9_76), (7, .int rq37), (6, .int rq33), (5, .int rq29), (0, .ref (ad 47)), (1, .int x1), (2, .int x2), (3, .int x3), (4, .int x4)] dX7_loan_202 (by decide) rfl ?_
                                  refine g_iinc X 3 (fun v => [(9, .int v), (8, .int zq742), (11, .int 0), (10, .int 0), (7, .int rq37), (6, .int rq33), (5, .int rq29), (0, .ref (ad 47)), (1, .int x1), (2, .int x2), (3, .int x3), (4, .int x4)]) dX7_loan_204 rfl (by decide) (fun _ => rfl) (fun zq745 eq746 => ?_)
                                  have tq747 : zq745.toInt = b9_76 + 1 := add_nw eq746 e9_76 (show (Int32.ofInt 1).toInt = 1 by decide) (by omega)
                                  refine g_goto X (tgt := 76) dX7_loan_207 (by decide) ?_
                                  refine g_sub [0, 1, 4, 5, 6, 7, 8, 9, 10, 11] rfl ?_
                                  exact ih76 zq745 _ tq747 zq742 _ rfl (by omega) (by omega)
                                · refine g_iload X 0 rfl dX7_loan_191 ?_
                                  refine g_if_ne X (show (0 : Int32).toInt = 0 by decide) (tgt := 200) dX7_loan_193 (by decide) (fun cq748 => ?_) (fun cq748 => ?_)
                                  · refine g_iconst X 0 dX7_loan_200 (by decide) ?_
                                    refine g_iadd X dX7_loan_201 (fun zq749 eq750 => ?_)
                                    refine g_istore X [(8, .int zq749), (11, .int 0), (10, .int 0), (9, .int y9_76), (7, .int rq37), (6, .int rq33), (5, .int rq29), (0, .ref (ad 47)), (1, .int x1), (2, .int x2), (3, .int x3), (4, .int x4)] dX7_loan_202 (by decide) rfl ?_
                                    refine g_iinc X 3 (fun v => [(9, .int v), (8, .int zq749), (11, .int 0), (10, .int 0), (7, .int rq37), (6, .int rq33), (5, .int rq29), (0, .ref (ad 47)), (1, .int x1), (2, .int x2), (3, .int x3), (4, .int x4)]) dX7_loan_204 rfl (by decide) (fun _ => rfl) (fun zq752 eq753 => ?_)
                                    have tq754 : zq752.toInt = b9_76 + 1 := add_nw eq753 e9_76 (show (Int32.ofInt 1).toInt = 1 by decide) (by omega)
                                    refine g_goto X (tgt := 76) dX7_loan_207 (by decide) ?_
                                    refine g_sub [0, 1, 4, 5, 6, 7, 8, 9, 10, 11] rfl ?_
                                    exact ih76 zq752 _ tq754 zq749 _ rfl (by omega) (by omega)
                                  · refine g_iconst X 1 dX7_loan_196 (by decide) ?_
                                    refine g_goto X (tgt := 201) dX7_loan_197 (by decide) ?_
                                    refine g_iadd X dX7_loan_201 (fun zq755 eq756 => ?_)
                                    refine g_istore X [(8, .int zq755), (11, .int 0), (10, .int 0), (9, .int y9_76), (7, .int rq37), (6, .int rq33), (5, .int rq29), (0, .ref (ad 47)), (1, .int x1), (2, .int x2), (3, .int x3), (4, .int x4)] dX7_loan_202 (by decide) rfl ?_
                                    refine g_iinc X 3 (fun v => [(9, .int v), (8, .int zq755), (11, .int 0), (10, .int 0), (7, .int rq37), (6, .int rq33), (5, .int rq29), (0, .ref (ad 47)), (1, .int x1), (2, .int x2), (3, .int x3), (4, .int x4)]) dX7_loan_204 rfl (by decide) (fun _ => rfl) (fun zq758 eq759 => ?_)
                                    have tq760 : zq758.toInt = b9_76 + 1 := add_nw eq759 e9_76 (show (Int32.ofInt 1).toInt = 1 by decide) (by omega)
                                    refine g_goto X (tgt := 76) dX7_loan_207 (by decide) ?_
                                    refine g_sub [0, 1, 4, 5, 6, 7, 8, 9, 10, 11] rfl ?_
                                    exact ih76 zq758 _ tq760 zq755 _ rfl (by omega) (by omega)
                              · refine g_aload_n X 6 rfl dX7_loan_163 ?_
                                refine g_iload X 3 rfl dX7_loan_164 ?_
                                refine g_iload X 1 rfl dX7_loan_166 ?_
                                refine g_iload_n X 9 rfl dX7_loan_168 ?_
                                refine g_iload X 5 rfl dX7_loan_169 ?_
                                refine g_callV X m_X7_322 (c_X7_hasLine ad Mq rq37 tq39 y9_76 e9_76 x3 t3 rq29 tq31 Iq0 (by omega)) rfl (by decide) (Nat.le_of_ble_eq_true rfl) rfl dX7_loan_171 ?_
                                rintro _ _ ⟨rq761, aq762, rfl, tq763, hq764, rfl⟩
                                show G Γ Mq 174 [(10, .int 0), (9, .int y9_76), (8, .int y8_76), (7, .int rq37), (6, .int rq33), (5, .int rq29), (0, .ref (ad 47)), (1, .int x1), (2, .int x2), (3, .int x3), (4, .int x4)] [.int rq761]
                                refine g_if_eq X tq763 (tgt := 181) dX7_loan_174 (by decide) (fun cq765 => ?_) (fun cq765 => ?_)
                                · refine g_iconst X 0 dX7_loan_181 (by decide) ?_
                                  refine g_istore X [(11, .int 0), (10, .int 0), (9, .int y9_76), (8, .int y8_76), (7, .int rq37), (6, .int rq33), (5, .int rq29), (0, .ref (ad 47)), (1, .int x1), (2, .int x2), (3, .int x3), (4, .int x4)] dX7_loan_182 (by decide) rfl ?_
                                  refine g_iload X 3 rfl dX7_loan_184 ?_
                                  refine g_iload X 1 rfl dX7_loan_186 ?_
                                  refine g_if_eq X (show (0 : Int32).toInt = 0 by decide) (tgt := 200) dX7_loan_188 (by decide) (fun cq766 => ?_) (fun cq766 => ?_)
                                  · refine g_iconst X 0 dX7_loan_200 (by decide) ?_
                                    refine g_iadd X dX7_loan_201 (fun zq767 eq768 => ?_)
                                    refine g_istore X [(8, .int zq767), (11, .int 0), (10, .int 0), (9, .int y9_76), (7, .int rq37), (6, .int rq33), (5, .int rq29), (0, .ref (ad 47)), (1, .int x1), (2, .int x2), (3, .int x3), (4, .int x4)] dX7_loan_202 (by decide) rfl ?_
                                    refine g_iinc X 3 (fun v => [(9, .int v), (8, .int zq767), (11, .int 0), (10, .int 0), (7, .int rq37), (6, .int rq33), (5, .int rq29), (0, .ref (ad 47)), (1, .int x1), (2, .int x2), (3, .int x3), (4, .int x4)]) dX7_loan_204 rfl (by decide) (fun _ => rfl) (fun zq770 eq771 => ?_)
                                    have tq772 : zq770.toInt = b9_76 + 1 := add_nw eq771 e9_76 (show (Int32.ofInt 1).toInt = 1 by decide) (by omega)
                                    refine g_goto X (tgt := 76) dX7_loan_207 (by decide) ?_
                                    refine g_sub [0, 1, 4, 5, 6, 7, 8, 9, 10, 11] rfl ?_
                                    exact ih76 zq770 _ tq772 zq767 _ rfl (by omega) (by omega)
                                  · refine g_iload X 0 rfl dX7_loan_191 ?_
                                    refine g_if_ne X (show (0 : Int32).toInt = 0 by decide) (tgt := 200) dX7_loan_193 (by decide) (fun cq773 => ?_) (fun cq773 => ?_)
                                    · refine g_iconst X 0 dX7_loan_200 (by decide) ?_
                                      refine g_iadd X dX7_loan_201 (fun zq774 eq775 => ?_)
                                      refine g_istore X [(8, .int zq774), (11, .int 0), (10, .int 0), (9, .int y9_76), (7, .int rq37), (6, .int rq33), (5, .int rq29), (0, .ref (ad 47)), (1, .int x1), (2, .int x2), (3, .int x3), (4, .int x4)] dX7_loan_202 (by decide) rfl ?_
                                      refine g_iinc X 3 (fun v => [(9, .int v), (8, .int zq774), (11, .int 0), (10, .int 0), (7, .int rq37), (6, .int rq33), (5, .int rq29), (0, .ref (ad 47)), (1, .int x1), (2, .int x2), (3, .int x3), (4, .int x4)]) dX7_loan_204 rfl (by decide) (fun _ => rfl) (fun zq777 eq778 => ?_)
                                      have tq779 : zq777.toInt = b9_76 + 1 := add_nw eq778 e9_76 (show (Int32.ofInt 1).toInt = 1 by decide) (by omega)
                                      refine g_goto X (tgt := 76) dX7_loan_207 (by decide) ?_
                                      refine g_sub [0, 1, 4, 5, 6, 7, 8, 9, 10, 11] rfl ?_
                                      exact ih76 zq777 _ tq779 zq774 _ rfl (by omega) (by omega)
                                    · refine g_iconst X 1 dX7_loan_196 (by decide) ?_
                                      refine g_goto X (tgt := 201) dX7_loan_197 (by decide) ?_
                                      refine g_iadd X dX7_loan_201 (fun zq780 eq781 => ?_)
                                      refine g_istore X [(8, .int zq780), (11, .int 0), (10, .int 0), (9, .int y9_76), (7, .int rq37), (6, .int rq33), (5, .int rq29), (0, .ref (ad 47)), (1, .int x1), (2, .int x2), (3, .int x3), (4, .int x4)] dX7_loan_202 (by decide) rfl ?_
                                      refine g_iinc X 3 (fun v => [(9, .int v), (8, .int zq780), (11, .int 0), (10, .int 0), (7, .int rq37), (6, .int rq33), (5, .int rq29), (0, .ref (ad 47)), (1, .int x1), (2, .int x2), (3, .int x3), (4, .int x4)]) dX7_loan_204 rfl (by decide) (fun _ => rfl) (fun zq783 eq784 => ?_)
                                      have tq785 : zq783.toInt = b9_76 + 1 := add_nw eq784 e9_76 (show (Int32.ofInt 1).toInt = 1 by decide) (by omega)
                                      refine g_goto X (tgt := 76) dX7_loan_207 (by decide) ?_
                                      refine g_sub [0, 1, 4, 5, 6, 7, 8, 9, 10, 11] rfl ?_
                                      exact ih76 zq783 _ tq785 zq780 _ rfl (by omega) (by omega)
                                · refine g_iconst X 1 dX7_loan_177 (by decide) ?_
                                  refine g_goto X (tgt := 182) dX7_loan_178 (by decide) ?_
                                  refine g_istore X [(11, .int 1), (10, .int 0), (9, .int y9_76), (8, .int y8_76), (7, .int rq37), (6, .int rq33), (5, .int rq29), (0, .ref (ad 47)), (1, .int x1), (2, .int x2), (3, .int x3), (4, .int x4)] dX7_loan_182 (by decide) rfl ?_
                                  refine g_iload X 3 rfl dX7_loan_184 ?_
                                  refine g_iload X 1 rfl dX7_loan_186 ?_
                                  refine g_if_eq X (show (0 : Int32).toInt = 0 by decide) (tgt := 200) dX7_loan_188 (by decide) (fun cq786 => ?_) (fun cq786 => ?_)
                                  · refine g_iconst X 0 dX7_loan_200 (by decide) ?_
                                    refine g_iadd X dX7_loan_201 (fun zq787 eq788 => ?_)
                                    refine g_istore X [(8, .int zq787), (11, .int 1), (10, .int 0), (9, .int y9_76), (7, .int rq37), (6, .int rq33), (5, .int rq29), (0, .ref (ad 47)), (1, .int x1), (2, .int x2), (3, .int x3), (4, .int x4)] dX7_loan_202 (by decide) rfl ?_
                                    refine g_iinc X 3 (fun v => [(9, .int v), (8, .int zq787), (11, .int 1), (10, .int 0), (7, .int rq37), (6, .int rq33), (5, .int rq29), (0, .ref (ad 47)), (1, .int x1), (2, .int x2), (3, .int x3), (4, .int x4)]) dX7_loan_204 rfl (by decide) (fun _ => rfl) (fun zq790 eq791 => ?_)
                                    have tq792 : zq790.toInt = b9_76 + 1 := add_nw eq791 e9_76 (show (Int32.ofInt 1).toInt = 1 by decide) (by omega)
                                    refine g_goto X (tgt := 76) dX7_loan_207 (by decide) ?_
                                    refine g_sub [0, 1, 4, 5, 6, 7, 8, 9, 10, 11] rfl ?_
                                    exact ih76 zq790 _ tq792 zq787 _ rfl (by omega) (by omega)
                                  · refine g_iload X 0 rfl dX7_loan_191 ?_
                                    refine g_if_ne X (show (1 : Int32).toInt = 1 by decide) (tgt := 200) dX7_loan_193 (by decide) (fun cq793 => ?_) (fun cq793 => ?_)
                                    · refine g_iconst X 0 dX7_loan_200 (by decide) ?_
                                      refine g_iadd X dX7_loan_201 (fun zq794 eq795 => ?_)
                                      refine g_istore X [(8, .int zq794), (11, .int 1), (10, .int 0), (9, .int y9_76), (7, .int rq37), (6, .int rq33), (5, .int rq29), (0, .ref (ad 47)), (1, .int x1), (2, .int x2), (3, .int x3), (4, .int x4)] dX7_loan_202 (by decide) rfl ?_
                                      refine g_iinc X 3 (fun v => [(9, .int v), (8, .int zq794), (11, .int 1), (10, .int 0), (7, .int rq37), (6, .int rq33), (5, .int rq29), (0, .ref (ad 47)), (1, .int x1), (2, .int x2), (3, .int x3), (4, .int x4)]) dX7_loan_204 rfl (by decide) (fun _ => rfl) (fun zq797 eq798 => ?_)
                                      have tq799 : zq797.toInt = b9_76 + 1 := add_nw eq798 e9_76 (show (Int32.ofInt 1).toInt = 1 by decide) (by omega)
                                      refine g_goto X (tgt := 76) dX7_loan_207 (by decide) ?_
                                      refine g_sub [0, 1, 4, 5, 6, 7, 8, 9, 10, 11] rfl ?_
                                      exact ih76 zq797 _ tq799 zq794 _ rfl (by omega) (by omega)
                                    · refine g_iconst X 1 dX7_loan_196 (by decide) ?_
                                      refine g_goto X (tgt := 201) dX7_loan_197 (by decide) ?_
                                      refine g_iadd X dX7_loan_201 (fun zq800 eq801 => ?_)
                                      refine g_istore X [(8, .int zq800), (11, .int 1), (10, .int 0), (9, .int y9_76), (7, .int rq37), (6, .int rq33), (5, .int rq29), (0, .ref (ad 47)), (1, .int x1), (2, .int x2), (3, .int x3), (4, .int x4)] dX7_loan_202 (by decide) rfl ?_
                                      refine g_iinc X 3 (fun v => [(9, .int v), (8, .int zq800), (11, .int 1), (10, .int 0), (7, .int rq37), (6, .int rq33), (5, .int rq29), (0, .ref (ad 47)), (1, .int x1), (2, .int x2), (3, .int x3), (4, .int x4)]) dX7_loan_204 rfl (by decide) (fun _ => rfl) (fun zq803 eq804 => ?_)
                                      have tq805 : zq803.toInt = b9_76 + 1 := add_nw eq804 e9_76 (show (Int32.ofInt 1).toInt = 1 by decide) (by omega)
                                      refine g_goto X (tgt := 76) dX7_loan_207 (by decide) ?_
                                      refine g_sub [0, 1, 4, 5, 6, 7, 8, 9, 10, 11] rfl ?_
                                      exact ih76 zq803 _ tq805 zq800 _ rfl (by omega) (by omega)
                          · refine g_aload_n X 6 rfl dX7_loan_139 ?_
                            refine g_iload X 4 rfl dX7_loan_140 ?_
                            refine g_iload X 1 rfl dX7_loan_142 ?_
                            refine g_iload_n X 9 rfl dX7_loan_144 ?_
                            refine g_iload X 5 rfl dX7_loan_145 ?_
                            refine g_callV X m_X7_322 (c_X7_hasLine ad Mq rq33 tq35 y9_76 e9_76 x3 t3 rq29 tq31 Iq0 (by omega)) rfl (by decide) (Nat.le_of_ble_eq_true rfl) rfl dX7_loan_147 ?_
                            rintro _ _ ⟨rq806, aq807, rfl, tq808, hq809, rfl⟩
                            show G Γ Mq 150 [(10, .int 0), (9, .int y9_76), (8, .int y8_76), (7, .int rq37), (6, .int rq33), (5, .int rq29), (0, .ref (ad 47)), (1, .int x1), (2, .int x2), (3, .int x3), (4, .int x4)] [.int rq806]
                            refine g_if_ne X tq808 (tgt := 177) dX7_loan_150 (by decide) (fun cq810 => ?_) (fun cq810 => ?_)
                            · refine g_iconst X 1 dX7_loan_177 (by decide) ?_
                              refine g_goto X (tgt := 182) dX7_loan_178 (by decide) ?_
                              refine g_istore X [(11, .int 1), (10, .int 0), (9, .int y9_76), (8, .int y8_76), (7, .int rq37), (6, .int rq33), (5, .int rq29), (0, .ref (ad 47)), (1, .int x1), (2, .int x2), (3, .int x3), (4, .int x4)] dX7_loan_182 (by decide) rfl ?_
                              refine g_iload X 3 rfl dX7_loan_184 ?_
                              refine g_iload X 1 rfl dX7_loan_186 ?_
                              refine g_if_eq X (show (0 : Int32).toInt = 0 by decide) (tgt := 200) dX7_loan_188 (by decide) (fun cq811 => ?_) (fun cq811 => ?_)
                              · refine g_iconst X 0 dX7_loan_200 (by decide) ?_
                                refine g_iadd X dX7_loan_201 (fun zq812 eq813 => ?_)
                                refine g_istore X [(8, .int zq812), (11, .int 1), (10, .int 0), (9, .int y9_76), (7, .int rq37), (6, .int rq33), (5, .int rq29), (0, .ref (ad 47)), (1, .int x1), (2, .int x2), (3, .int x3), (4, .int x4)] dX7_loan_202 (by decide) rfl ?_
                                refine g_iinc X 3 (fun v => [(9, .int v), (8, .int zq812), (11, .int 1), (10, .int 0), (7, .int rq37), (6, .int rq33), (5, .int rq29), (0, .ref (ad 47)), (1, .int x1), (2, .int x2), (3, .int x3), (4, .int x4)]) dX7_loan_204 rfl (by decide) (fun _ => rfl) (fun zq815 eq816 => ?_)
                                have tq817 : zq815.toInt = b9_76 + 1 := add_nw eq816 e9_76 (show (Int32.ofInt 1).toInt = 1 by decide) (by omega)
                                refine g_goto X (tgt := 76) dX7_loan_207 (by decide) ?_
                                refine g_sub [0, 1, 4, 5, 6, 7, 8, 9, 10, 11] rfl ?_
                                exact ih76 zq815 _ tq817 zq812 _ rfl (by omega) (by omega)
                              · refine g_iload X 0 rfl dX7_loan_191 ?_
                                refine g_if_ne X (show (1 : Int32).toInt = 1 by decide) (tgt := 200) dX7_loan_193 (by decide) (fun cq818 => ?_) (fun cq818 => ?_)
                                · refine g_iconst X 0 dX7_loan_200 (by decide) ?_
                                  refine g_iadd X dX7_loan_201 (fun zq819 eq820 => ?_)
                                  refine g_istore X [(8, .int zq819), (11, .int 1), (10, .int 0), (9, .int y9_76), (7, .int rq37), (6, .int rq33), (5, .int rq29), (0, .ref (ad 47)), (1, .int x1), (2, .int x2), (3, .int x3), (4, .int x4)] dX7_loan_202 (by decide) rfl ?_
                                  refine g_iinc X 3 (fun v => [(9, .int v), (8, .int zq819), (11, .int 1), (10, .int 0), (7, .int rq37), (6, .int rq33), (5, .int rq29), (0, .ref (ad 47)), (1, .int x1), (2, .int x2), (3, .int x3), (4, .int x4)]) dX7_loan_204 rfl (by decide) (fun _ => rfl) (fun zq822 eq823 => ?_)
                                  have tq824 : zq822.toInt = b9_76 + 1 := add_nw eq823 e9_76 (show (Int32.ofInt 1).toInt = 1 by decide) (by omega)
                                  refine g_goto X (tgt := 76) dX7_loan_207 (by decide) ?_
                                  refine g_sub [0, 1, 4, 5, 6, 7, 8, 9, 10, 11] rfl ?_
                                  exact ih76 zq822 _ tq824 zq819 _ rfl (by omega) (by omega)
                                · refine g_iconst X 1 dX7_loan_196 (by decide) ?_
                                  refine g_goto X (tgt := 201) dX7_loan_197 (by decide) ?_
                                  refine g_iadd X dX7_loan_201 (fun zq825 eq826 => ?_)
                                  refine g_istore X [(8, .int zq825), (11, .int 1), (10, .int 0), (9, .int y9_76), (7, .int rq37), (6, .int rq33), (5, .int rq29), (0, .ref (ad 47)), (1, .int x1), (2, .int x2), (3, .int x3), (4, .int x4)] dX7_loan_202 (by decide) rfl ?_
                                  refine g_iinc X 3 (fun v => [(9, .int v), (8, .int zq825), (11, .int 1), (10, .int 0), (7, .int rq37), (6, .int rq33), (5, .int rq29), (0, .ref (ad 47)), (1, .int x1), (2, .int x2), (3, .int x3), (4, .int x4)]) dX7_loan_204 rfl (by decide) (fun _ => rfl) (fun zq828 eq829 => ?_)
                                  have tq830 : zq828.toInt = b9_76 + 1 := add_nw eq829 e9_76 (show (Int32.ofInt 1).toInt = 1 by decide) (by omega)
                                  refine g_goto X (tgt := 76) dX7_loan_207 (by decide) ?_
                                  refine g_sub [0, 1, 4, 5, 6, 7, 8, 9, 10, 11] rfl ?_
                                  exact ih76 zq828 _ tq830 zq825 _ rfl (by omega) (by omega)
                            · refine g_iload X 3 rfl dX7_loan_153 ?_
                              refine g_if_lt X tq39 (tgt := 181) dX7_loan_155 (by decide) (fun cq831 => ?_) (fun cq831 => ?_)
                              · refine g_iconst X 0 dX7_loan_181 (by decide) ?_
                                refine g_istore X [(11, .int 0), (10, .int 0), (9, .int y9_76), (8, .int y8_76), (7, .int rq37), (6, .int rq33), (5, .int rq29), (0, .ref (ad 47)), (1, .int x1), (2, .int x2), (3, .int x3), (4, .int x4)] dX7_loan_182 (by decide) rfl ?_
                                refine g_iload X 3 rfl dX7_loan_184 ?_
                                refine g_iload X 1 rfl dX7_loan_186 ?_
                                refine g_if_eq X (show (0 : Int32).toInt = 0 by decide) (tgt := 200) dX7_loan_188 (by decide) (fun cq832 => ?_) (fun cq832 => ?_)
                                · refine g_iconst X 0 dX7_loan_200 (by decide) ?_
                                  refine g_iadd X dX7_loan_201 (fun zq833 eq834 => ?_)
                                  refine g_istore X [(8, .int zq833), (11, .int 0), (10, .int 0), (9, .int y9_76), (7, .int rq37), (6, .int rq33), (5, .int rq29), (0, .ref (ad 47)), (1, .int x1), (2, .int x2), (3, .int x3), (4, .int x4)] dX7_loan_202 (by decide) rfl ?_
                                  refine g_iinc X 3 (fun v => [(9, .int v), (8, .int zq833), (11, .int 0), (10, .int 0), (7, .int rq37), (6, .int rq33), (5, .int rq29), (0, .ref (ad 47)), (1, .int x1), (2, .int x2), (3, .int x3), (4, .int x4)]) dX7_loan_204 rfl (by decide) (fun _ => rfl) (fun zq836 eq837 => ?_)
                                  have tq838 : zq836.toInt = b9_76 + 1 := add_nw eq837 e9_76 (show (Int32.ofInt 1).toInt = 1 by decide) (by omega)
                                  refine g_goto X (tgt := 76) dX7_loan_207 (by decide) ?_
                                  refine g_sub [0, 1, 4, 5, 6, 7, 8, 9, 10, 11] rfl ?_
                                  exact ih76 zq836 _ tq838 zq833 _ rfl (by omega) (by omega)
                                · refine g_iload X 0 rfl dX7_loan_191 ?_
                                  refine g_if_ne X (show (0 : Int32).toInt = 0 by decide) (tgt := 200) dX7_loan_193 (by decide) (fun cq839 => ?_) (fun cq839 => ?_)
                                  · refine g_iconst X 0 dX7_loan_200 (by decide) ?_
                                    refine g_iadd X dX7_loan_201 (fun zq840 eq841 => ?_)
                                    refine g_istore X [(8, .int zq840), (11, .int 0), (10, .int 0), (9, .int y9_76), (7, .int rq37), (6, .int rq33), (5, .int rq29), (0, .ref (ad 47)), (1, .int x1), (2, .int x2), (3, .int x3), (4, .int x4)] dX7_loan_202 (by decide) rfl ?_
                                    refine g_iinc X 3 (fun v => [(9, .int v), (8, .int zq840), (11, .int 0), (10, .int 0), (7, .int rq37), (6, .int rq33), (5, .int rq29), (0, .ref (ad 47)), (1, .int x1), (2, .int x2), (3, .int x3), (4, .int x4)]) dX7_loan_204 rfl (by decide) (fun _ => rfl) (fun zq843 eq844 => ?_)
                                    have tq845 : zq843.toInt = b9_76 + 1 := add_nw eq844 e9_76 (show (Int32.ofInt 1).toInt = 1 by decide) (by omega)
                                    refine g_goto X (tgt := 76) dX7_loan_207 (by decide) ?_
                                    refine g_sub [0, 1, 4, 5, 6, 7, 8, 9, 10, 11] rfl ?_
                                    exact ih76 zq843 _ tq845 zq840 _ rfl (by omega) (by omega)
                                  · refine g_iconst X 1 dX7_loan_196 (by decide) ?_
                                    refine g_goto X (tgt := 201) dX7_loan_197 (by decide) ?_
                                    refine g_iadd X dX7_loan_201 (fun zq846 eq847 => ?_)
                                    refine g_istore X [(8, .int zq846), (11, .int 0), (10, .int 0), (9, .int y9_76), (7, .int rq37), (6, .int rq33), (5, .int rq29), (0, .ref (ad 47)), (1, .int x1), (2, .int x2), (3, .int x3), (4, .int x4)] dX7_loan_202 (by decide) rfl ?_
                                    refine g_iinc X 3 (fun v => [(9, .int v), (8, .int zq846), (11, .int 0), (10, .int 0), (7, .int rq37), (6, .int rq33), (5, .int rq29), (0, .ref (ad 47)), (1, .int x1), (2, .int x2), (3, .int x3), (4, .int x4)]) dX7_loan_204 rfl (by decide) (fun _ => rfl) (fun zq849 eq850 => ?_)
                                    have tq851 : zq849.toInt = b9_76 + 1 := add_nw eq850 e9_76 (show (Int32.ofInt 1).toInt = 1 by decide) (by omega)
                                    refine g_goto X (tgt := 76) dX7_loan_207 (by decide) ?_
                                    refine g_sub [0, 1, 4, 5, 6, 7, 8, 9, 10, 11] rfl ?_
                                    exact ih76 zq849 _ tq851 zq846 _ rfl (by omega) (by omega)
                              · refine g_iload X 0 rfl dX7_loan_158 ?_
                                refine g_if_eq X (show (0 : Int32).toInt = 0 by decide) (tgt := 181) dX7_loan_160 (by decide) (fun cq852 => ?_) (fun cq852 => ?_)
                                · refine g_iconst X 0 dX7_loan_181 (by decide) ?_
                                  refine g_istore X [(11, .int 0), (10, .int 0), (9, .int y9_76), (8, .int y8_76), (7, .int rq37), (6, .int rq33), (5, .int rq29), (0, .ref (ad 47)), (1, .int x1), (2, .int x2), (3, .int x3), (4, .int x4)] dX7_loan_182 (by decide) rfl ?_
                                  refine g_iload X 3 rfl dX7_loan_184 ?_
                                  refine g_iload X 1 rfl dX7_loan_186 ?_
                                  refine g_if_eq X (show (0 : Int32).toInt = 0 by decide) (tgt := 200) dX7_loan_188 (by decide) (fun cq853 => ?_) (fun cq853 => ?_)
                                  · refine g_iconst X 0 dX7_loan_200 (by decide) ?_
                                    refine g_iadd X dX7_loan_201 (fun zq854 eq855 => ?_)
                                    refine g_istore X [(8, .int zq854), (11, .int 0), (10, .int 0), (9, .int y9_76), (7, .int rq37), (6, .int rq33), (5, .int rq29), (0, .ref (ad 47)), (1, .int x1), (2, .int x2), (3, .int x3), (4, .int x4)] dX7_loan_202 (by decide) rfl ?_
                                    refine g_iinc X 3 (fun v => [(9, .int v), (8, .int zq854), (11, .int 0), (10, .int 0), (7, .int rq37), (6, .int rq33), (5, .int rq29), (0, .ref (ad 47)), (1, .int x1), (2, .int x2), (3, .int x3), (4, .int x4)]) dX7_loan_204 rfl (by decide) (fun _ => rfl) (fun zq857 eq858 => ?_)
                                    have tq859 : zq857.toInt = b9_76 + 1 := add_nw eq858 e9_76 (show (Int32.ofInt 1).toInt = 1 by decide) (by omega)
                                    refine g_goto X (tgt := 76) dX7_loan_207 (by decide) ?_
                                    refine g_sub [0, 1, 4, 5, 6, 7, 8, 9, 10, 11] rfl ?_
                                    exact ih76 zq857 _ tq859 zq854 _ rfl (by omega) (by omega)
                                  · refine g_iload X 0 rfl dX7_loan_191 ?_
                                    refine g_if_ne X (show (0 : Int32).toInt = 0 by decide) (tgt := 200) dX7_loan_193 (by decide) (fun cq860 => ?_) (fun cq860 => ?_)
                                    · refine g_iconst X 0 dX7_loan_200 (by decide) ?_
                                      refine g_iadd X dX7_loan_201 (fun zq861 eq862 => ?_)
                                      refine g_istore X [(8, .int zq861), (11, .int 0), (10, .int 0), (9, .int y9_76), (7, .int rq37), (6, .int rq33), (5, .int rq29), (0, .ref (ad 47)), (1, .int x1), (2, .int x2), (3, .int x3), (4, .int x4)] dX7_loan_202 (by decide) rfl ?_
                                      refine g_iinc X 3 (fun v => [(9, .int v), (8, .int zq861), (11, .int 0), (10, .int 0), (7, .int rq37), (6, .int rq33), (5, .int rq29), (0, .ref (ad 47)), (1, .int x1), (2, .int x2), (3, .int x3), (4, .int x4)]) dX7_loan_204 rfl (by decide) (fun _ => rfl) (fun zq864 eq865 => ?_)
                                      have tq866 : zq864.toInt = b9_76 + 1 := add_nw eq865 e9_76 (show (Int32.ofInt 1).toInt = 1 by decide) (by omega)
                                      refine g_goto X (tgt := 76) dX7_loan_207 (by decide) ?_
                                      refine g_sub [0, 1, 4, 5, 6, 7, 8, 9, 10, 11] rfl ?_
                                      exact ih76 zq864 _ tq866 zq861 _ rfl (by omega) (by omega)
                                    · refine g_iconst X 1 dX7_loan_196 (by decide) ?_
                                      refine g_goto X (tgt := 201) dX7_loan_197 (by decide) ?_
                                      refine g_iadd X dX7_loan_201 (fun zq867 eq868 => ?_)
                                      refine g_istore X [(8, .int zq867), (11, .int 0), (10, .int 0), (9, .int y9_76), (7, .int rq37), (6, .int rq33), (5, .int rq29), (0, .ref (ad 47)), (1, .int x1), (2, .int x2), (3, .int x3), (4, .int x4)] dX7_loan_202 (by decide) rfl ?_
                                      refine g_iinc X 3 (fun v => [(9, .int v), (8, .int zq867), (11, .int 0), (10, .int 0), (7, .int rq37), (6, .int rq33), (5, .int rq29), (0, .ref (ad 47)), (1, .int x1), (2, .int x2), (3, .int x3), (4, .int x4)]) dX7_loan_204 rfl (by decide) (fun _ => rfl) (fun zq870 eq871 => ?_)
                                      have tq872 : zq870.toInt = b9_76 + 1 := add_nw eq871 e9_76 (show (Int32.ofInt 1).toInt = 1 by decide) (by omega)
                                      refine g_goto X (tgt := 76) dX7_loan_207 (by decide) ?_
                                      refine g_sub [0, 1, 4, 5, 6, 7, 8, 9, 10, 11] rfl ?_
                                      exact ih76 zq870 _ tq872 zq867 _ rfl (by omega) (by omega)
                                · refine g_aload_n X 6 rfl dX7_loan_163 ?_
                                  refine g_iload X 3 rfl dX7_loan_164 ?_
                                  refine g_iload X 1 rfl dX7_loan_166 ?_
                                  refine g_iload_n X 9 rfl dX7_loan_168 ?_
                                  refine g_iload X 5 rfl dX7_loan_169 ?_
                                  refine g_callV X m_X7_322 (c_X7_hasLine ad Mq rq37 tq39 y9_76 e9_76 x3 t3 rq29 tq31 Iq0 (by omega)) rfl (by decide) (Nat.le_of_ble_eq_true rfl) rfl dX7_loan_171 ?_
                                  rintro _ _ ⟨rq873, aq874, rfl, tq875, hq876, rfl⟩
                                  show G Γ Mq 174 [(10, .int 0), (9, .int y9_76), (8, .int y8_76), (7, .int rq37), (6, .int rq33), (5, .int rq29), (0, .ref (ad 47)), (1, .int x1), (2, .int x2), (3, .int x3), (4, .int x4)] [.int rq873]
                                  refine g_if_eq X tq875 (tgt := 181) dX7_loan_174 (by decide) (fun cq877 => ?_) (fun cq877 => ?_)
                                  · refine g_iconst X 0 dX7_loan_181 (by decide) ?_
                                    refine g_istore X [(11, .int 0), (10, .int 0), (9, .int y9_76), (8, .int y8_76), (7, .int rq37), (6, .int rq33), (5, .int rq29), (0, .ref (ad 47)), (1, .int x1), (2, .int x2), (3, .int x3), (4, .int x4)] dX7_loan_182 (by decide) rfl ?_
                                    refine g_iload X 3 rfl dX7_loan_184 ?_
                                    refine g_iload X 1 rfl dX7_loan_186 ?_
                                    refine g_if_eq X (show (0 : Int32).toInt = 0 by decide) (tgt := 200) dX7_loan_188 (by decide) (fun cq878 => ?_) (fun cq878 => ?_)
                                    · refine g_iconst X 0 dX7_loan_200 (by decide) ?_
                                      refine g_iadd X dX7_loan_201 (fun zq879 eq880 => ?_)
                                      refine g_istore X [(8, .int zq879), (11, .int 0), (10, .int 0), (9, .int y9_76), (7, .int rq37), (6, .int rq33), (5, .int rq29), (0, .ref (ad 47)), (1, .int x1), (2, .int x2), (3, .int x3), (4, .int x4)] dX7_loan_202 (by decide) rfl ?_
                                      refine g_iinc X 3 (fun v => [(9, .int v), (8, .int zq879), (11, .int 0), (10, .int 0), (7, .int rq37), (6, .int rq33), (5, .int rq29), (0, .ref (ad 47)), (1, .int x1), (2, .int x2), (3, .int x3), (4, .int x4)]) dX7_loan_204 rfl (by decide) (fun _ => rfl) (fun zq882 eq883 => ?_)
                                      have tq884 : zq882.toInt = b9_76 + 1 := add_nw eq883 e9_76 (show (Int32.ofInt 1).toInt = 1 by decide) (by omega)
                                      refine g_goto X (tgt := 76) dX7_loan_207 (by decide) ?_
                                      refine g_sub [0, 1, 4, 5, 6, 7, 8, 9, 10, 11] rfl ?_
                                      exact ih76 zq882 _ tq884 zq879 _ rfl (by omega) (by omega)
                                    · refine g_iload X 0 rfl dX7_loan_191 ?_
                                      refine g_if_ne X (show (0 : Int32).toInt = 0 by decide) (tgt := 200) dX7_loan_193 (by decide) (fun cq885 => ?_) (fun cq885 => ?_)
                                      · refine g_iconst X 0 dX7_loan_200 (by decide) ?_
                                        refine g_iadd X dX7_loan_201 (fun zq886 eq887 => ?_)
                                        refine g_istore X [(8, .int zq886), (11, .int 0), (10, .int 0), (9, .int y9_76), (7, .int rq37), (6, .int rq33), (5, .int rq29), (0, .ref (ad 47)), (1, .int x1), (2, .int x2), (3, .int x3), (4, .int x4)] dX7_loan_202 (by decide) rfl ?_
                                        refine g_iinc X 3 (fun v => [(9, .int v), (8, .int zq886), (11, .int 0), (10, .int 0), (7, .int rq37), (6, .int rq33), (5, .int rq29), (0, .ref (ad 47)), (1, .int x1), (2, .int x2), (3, .int x3), (4, .int x4)]) dX7_loan_204 rfl (by decide) (fun _ => rfl) (fun zq889 eq890 => ?_)
                                        have tq891 : zq889.toInt = b9_76 + 1 := add_nw eq890 e9_76 (show (Int32.ofInt 1).toInt = 1 by decide) (by omega)
                                        refine g_goto X (tgt := 76) dX7_loan_207 (by decide) ?_
                                        refine g_sub [0, 1, 4, 5, 6, 7, 8, 9, 10, 11] rfl ?_
                                        exact ih76 zq889 _ tq891 zq886 _ rfl (by omega) (by omega)
                                      · refine g_iconst X 1 dX7_loan_196 (by decide) ?_
                                        refine g_goto X (tgt := 201) dX7_loan_197 (by decide) ?_
                                        refine g_iadd X dX7_loan_201 (fun zq892 eq893 => ?_)
                                        refine g_istore X [(8, .int zq892), (11, .int 0), (10, .int 0), (9, .int y9_76), (7, .int rq37), (6, .int rq33), (5, .int rq29), (0, .ref (ad 47)), (1, .int x1), (2, .int x2), (3, .int x3), (4, .int x4)] dX7_loan_202 (by decide) rfl ?_
                                        refine g_iinc X 3 (fun v => [(9, .int v), (8, .int zq892), (11, .int 0), (10, .int 0), (7, .int rq37), (6, .int rq33), (5, .int rq29), (0, .ref (ad 47)), (1, .int x1), (2, .int x2), (3, .int x3), (4, .int x4)]) dX7_loan_204 rfl (by decide) (fun _ => rfl) (fun zq895 eq896 => ?_)
                                        have tq897 : zq895.toInt = b9_76 + 1 := add_nw eq896 e9_76 (show (Int32.ofInt 1).toInt = 1 by decide) (by omega)
                                        refine g_goto X (tgt := 76) dX7_loan_207 (by decide) ?_
                                        refine g_sub [0, 1, 4, 5, 6, 7, 8, 9, 10, 11] rfl ?_
                                        exact ih76 zq895 _ tq897 zq892 _ rfl (by omega) (by omega)
                                  · refine g_iconst X 1 dX7_loan_177 (by decide) ?_
                                    refine g_goto X (tgt := 182) dX7_loan_178 (by decide) ?_
                                    refine g_istore X [(11, .int 1), (10, .int 0), (9, .int y9_76), (8, .int y8_76), (7, .int rq37), (6, .int rq33), (5, .int rq29), (0, .ref (ad 47)), (1, .int x1), (2, .int x2), (3, .int x3), (4, .int x4)] dX7_loan_182 (by decide) rfl ?_
                                    refine g_iload X 3 rfl dX7_loan_184 ?_
                                    refine g_iload X 1 rfl dX7_loan_186 ?_
                                    refine g_if_eq X (show (0 : Int32).toInt = 0 by decide) (tgt := 200) dX7_loan_188 (by decide) (fun cq898 => ?_) (fun cq898 => ?_)
                                    · refine g_iconst X 0 dX7_loan_200 (by decide) ?_
                                      refine g_iadd X dX7_loan_201 (fun zq899 eq900 => ?_)
                                      refine g_istore X [(8, .int zq899), (11, .int 1), (10, .int 0), (9, .int y9_76), (7, .int rq37), (6, .int rq33), (5, .int rq29), (0, .ref (ad 47)), (1, .int x1), (2, .int x2), (3, .int x3), (4, .int x4)] dX7_loan_202 (by decide) rfl ?_
                                      refine g_iinc X 3 (fun v => [(9, .int v), (8, .int zq899), (11, .int 1), (10, .int 0), (7, .int rq37), (6, .int rq33), (5, .int rq29), (0, .ref (ad 47)), (1, .int x1), (2, .int x2), (3, .int x3), (4, .int x4)]) dX7_loan_204 rfl (by decide) (fun _ => rfl) (fun zq902 eq903 => ?_)
                                      have tq904 : zq902.toInt = b9_76 + 1 := add_nw eq903 e9_76 (show (Int32.ofInt 1).toInt = 1 by decide) (by omega)
                                      refine g_goto X (tgt := 76) dX7_loan_207 (by decide) ?_
                                      refine g_sub [0, 1, 4, 5, 6, 7, 8, 9, 10, 11] rfl ?_
                                      exact ih76 zq902 _ tq904 zq899 _ rfl (by omega) (by omega)
                                    · refine g_iload X 0 rfl dX7_loan_191 ?_
                                      refine g_if_ne X (show (1 : Int32).toInt = 1 by decide) (tgt := 200) dX7_loan_193 (by decide) (fun cq905 => ?_) (fun cq905 => ?_)
                                      · refine g_iconst X 0 dX7_loan_200 (by decide) ?_
                                        refine g_iadd X dX7_loan_201 (fun zq906 eq907 => ?_)
                                        refine g_istore X [(8, .int zq906), (11, .int 1), (10, .int 0), (9, .int y9_76), (7, .int rq37), (6, .int rq33), (5, .int rq29), (0, .ref (ad 47)), (1, .int x1), (2, .int x2), (3, .int x3), (4, .int x4)] dX7_loan_202 (by decide) rfl ?_
                                        refine g_iinc X 3 (fun v => [(9, .int v), (8, .int zq906), (11, .int 1), (10, .int 0), (7, .int rq37), (6, .int rq33), (5, .int rq29), (0, .ref (ad 47)), (1, .int x1), (2, .int x2), (3, .int x3), (4, .int x4)]) dX7_loan_204 rfl (by decide) (fun _ => rfl) (fun zq909 eq910 => ?_)
                                        have tq911 : zq909.toInt = b9_76 + 1 := add_nw eq910 e9_76 (show (Int32.ofInt 1).toInt = 1 by decide) (by omega)
                                        refine g_goto X (tgt := 76) dX7_loan_207 (by decide) ?_
                                        refine g_sub [0, 1, 4, 5, 6, 7, 8, 9, 10, 11] rfl ?_
                                        exact ih76 zq909 _ tq911 zq906 _ rfl (by omega) (by omega)
                                      · refine g_iconst X 1 dX7_loan_196 (by decide) ?_
                                        refine g_goto X (tgt := 201) dX7_loan_197 (by decide) ?_
                                        refine g_iadd X dX7_loan_201 (fun zq912 eq913 => ?_)
                                        refine g_istore X [(8, .int zq912), (11, .int 1), (10, .int 0), (9, .int y9_76), (7, .int rq37), (6, .int rq33), (5, .int rq29), (0, .ref (ad 47)), (1, .int x1), (2, .int x2), (3, .int x3), (4, .int x4)] dX7_loan_202 (by decide) rfl ?_
                                        refine g_iinc X 3 (fun v => [(9, .int v), (8, .int zq912), (11, .int 1), (10, .int 0), (7, .int rq37), (6, .int rq33), (5, .int rq29), (0, .ref (ad 47)), (1, .int x1), (2, .int x2), (3, .int x3), (4, .int x4)]) dX7_loan_204 rfl (by decide) (fun _ => rfl) (fun zq915 eq916 => ?_)
                                        have tq917 : zq915.toInt = b9_76 + 1 := add_nw eq916 e9_76 (show (Int32.ofInt 1).toInt = 1 by decide) (by omega)
                                        refine g_goto X (tgt := 76) dX7_loan_207 (by decide) ?_
                                        refine g_sub [0, 1, 4, 5, 6, 7, 8, 9, 10, 11] rfl ?_
                                        exact ih76 zq915 _ tq917 zq912 _ rfl (by omega) (by omega)
                      · refine g_iconst X 1 dX7_loan_122 (by decide) ?_
                        refine g_goto X (tgt := 127) dX7_loan_123 (by decide) ?_
                        refine g_istore X [(10, .int 1), (9, .int y9_76), (8, .int y8_76), (7, .int rq37), (6, .int rq33), (5, .int rq29), (0, .ref (ad 47)), (1, .int x1), (2, .int x2), (3, .int x3), (4, .int x4)] dX7_loan_127 (by decide) rfl ?_
                        refine g_iload X 4 rfl dX7_loan_129 ?_
                        refine g_if_lt X tq35 (tgt := 153) dX7_loan_131 (by decide) (fun cq918 => ?_) (fun cq918 => ?_)
                        · refine g_iload X 3 rfl dX7_loan_153 ?_
                          refine g_if_lt X tq39 (tgt := 181) dX7_loan_155 (by decide) (fun cq919 => ?_) (fun cq919 => ?_)
                          · refine g_iconst X 0 dX7_loan_181 (by decide) ?_
                            refine g_istore X [(11, .int 0), (10, .int 1), (9, .int y9_76), (8, .int y8_76), (7, .int rq37), (6, .int rq33), (5, .int rq29), (0, .ref (ad 47)), (1, .int x1), (2, .int x2), (3, .int x3), (4, .int x4)] dX7_loan_182 (by decide) rfl ?_
                            refine g_iload X 3 rfl dX7_loan_184 ?_
                            refine g_iload X 1 rfl dX7_loan_186 ?_
                            refine g_if_eq X (show (1 : Int32).toInt = 1 by decide) (tgt := 200) dX7_loan_188 (by decide) (fun cq920 => ?_) (fun cq920 => ?_)
                            · refine g_iconst X 0 dX7_loan_200 (by decide) ?_
                              refine g_iadd X dX7_loan_201 (fun zq921 eq922 => ?_)
                              refine g_istore X [(8, .int zq921), (11, .int 0), (10, .int 1), (9, .int y9_76), (7, .int rq37), (6, .int rq33), (5, .int rq29), (0, .ref (ad 47)), (1, .int x1), (2, .int x2), (3, .int x3), (4, .int x4)] dX7_loan_202 (by decide) rfl ?_
                              refine g_iinc X 3 (fun v => [(9, .int v), (8, .int zq921), (11, .int 0), (10, .int 1), (7, .int rq37), (6, .int rq33), (5, .int rq29), (0, .ref (ad 47)), (1, .int x1), (2, .int x2), (3, .int x3), (4, .int x4)]) dX7_loan_204 rfl (by decide) (fun _ => rfl) (fun zq924 eq925 => ?_)
                              have tq926 : zq924.toInt = b9_76 + 1 := add_nw eq925 e9_76 (show (Int32.ofInt 1).toInt = 1 by decide) (by omega)
                              refine g_goto X (tgt := 76) dX7_loan_207 (by decide) ?_
                              refine g_sub [0, 1, 4, 5, 6, 7, 8, 9, 10, 11] rfl ?_
                              exact ih76 zq924 _ tq926 zq921 _ rfl (by omega) (by omega)
                            · refine g_iload X 0 rfl dX7_loan_191 ?_
                              refine g_if_ne X (show (0 : Int32).toInt = 0 by decide) (tgt := 200) dX7_loan_193 (by decide) (fun cq927 => ?_) (fun cq927 => ?_)
                              · refine g_iconst X 0 dX7_loan_200 (by decide) ?_
                                refine g_iadd X dX7_loan_201 (fun zq928 eq929 => ?_)
                                refine g_istore X [(8, .int zq928), (11, .int 0), (10, .int 1), (9, .int y9_76), (7, .int rq37), (6, .int rq33), (5, .int rq29), (0, .ref (ad 47)), (1, .int x1), (2, .int x2), (3, .int x3), (4, .int x4)] dX7_loan_202 (by decide) rfl ?_
                                refine g_iinc X 3 (fun v => [(9, .int v), (8, .int zq928), (11, .int 0), (10, .int 1), (7, .int rq37), (6, .int rq33), (5, .int rq29), (0, .ref (ad 47)), (1, .int x1), (2, .int x2), (3, .int x3), (4, .int x4)]) dX7_loan_204 rfl (by decide) (fun _ => rfl) (fun zq931 eq932 => ?_)
                                have tq933 : zq931.toInt = b9_76 + 1 := add_nw eq932 e9_76 (show (Int32.ofInt 1).toInt = 1 by decide) (by omega)
                                refine g_goto X (tgt := 76) dX7_loan_207 (by decide) ?_
                                refine g_sub [0, 1, 4, 5, 6, 7, 8, 9, 10, 11] rfl ?_
                                exact ih76 zq931 _ tq933 zq928 _ rfl (by omega) (by omega)
                              · refine g_iconst X 1 dX7_loan_196 (by decide) ?_
                                refine g_goto X (tgt := 201) dX7_loan_197 (by decide) ?_
                                refine g_iadd X dX7_loan_201 (fun zq934 eq935 => ?_)
                                refine g_istore X [(8, .int zq934), (11, .int 0), (10, .int 1), (9, .int y9_76), (7, .int rq37), (6, .int rq33), (5, .int rq29), (0, .ref (ad 47)), (1, .int x1), (2, .int x2), (3, .int x3), (4, .int x4)] dX7_loan_202 (by decide) rfl ?_
                                refine g_iinc X 3 (fun v => [(9, .int v), (8, .int zq934), (11, .int 0), (10, .int 1), (7, .int rq37), (6, .int rq33), (5, .int rq29), (0, .ref (ad 47)), (1, .int x1), (2, .int x2), (3, .int x3), (4, .int x4)]) dX7_loan_204 rfl (by decide) (fun _ => rfl) (fun zq937 eq938 => ?_)
                                have tq939 : zq937.toInt = b9_76 + 1 := add_nw eq938 e9_76 (show (Int32.ofInt 1).toInt = 1 by decide) (by omega)
                                refine g_goto X (tgt := 76) dX7_loan_207 (by decide) ?_
                                refine g_sub [0, 1, 4, 5, 6, 7, 8, 9, 10, 11] rfl ?_
                                exact ih76 zq937 _ tq939 zq934 _ rfl (by omega) (by omega)
                          · refine g_iload X 0 rfl dX7_loan_158 ?_
                            refine g_if_eq X (show (1 : Int32).toInt = 1 by decide) (tgt := 181) dX7_loan_160 (by decide) (fun cq940 => ?_) (fun cq940 => ?_)
                            · refine g_iconst X 0 dX7_loan_181 (by decide) ?_
                              refine g_istore X [(11, .int 0), (10, .int 1), (9, .int y9_76), (8, .int y8_76), (7, .int rq37), (6, .int rq33), (5, .int rq29), (0, .ref (ad 47)), (1, .int x1), (2, .int x2), (3, .int x3), (4, .int x4)] dX7_loan_182 (by decide) rfl ?_
                              refine g_iload X 3 rfl dX7_loan_184 ?_
                              refine g_iload X 1 rfl dX7_loan_186 ?_
                              refine g_if_eq X (show (1 : Int32).toInt = 1 by decide) (tgt := 200) dX7_loan_188 (by decide) (fun cq941 => ?_) (fun cq941 => ?_)
                              · refine g_iconst X 0 dX7_loan_200 (by decide) ?_
                                refine g_iadd X dX7_loan_201 (fun zq942 eq943 => ?_)
                                refine g_istore X [(8, .int zq942), (11, .int 0), (10, .int 1), (9, .int y9_76), (7, .int rq37), (6, .int rq33), (5, .int rq29), (0, .ref (ad 47)), (1, .int x1), (2, .int x2), (3, .int x3), (4, .int x4)] dX7_loan_202 (by decide) rfl ?_
                                refine g_iinc X 3 (fun v => [(9, .int v), (8, .int zq942), (11, .int 0), (10, .int 1), (7, .int rq37), (6, .int rq33), (5, .int rq29), (0, .ref (ad 47)), (1, .int x1), (2, .int x2), (3, .int x3), (4, .int x4)]) dX7_loan_204 rfl (by decide) (fun _ => rfl) (fun zq945 eq946 => ?_)
                                have tq947 : zq945.toInt = b9_76 + 1 := add_nw eq946 e9_76 (show (Int32.ofInt 1).toInt = 1 by decide) (by omega)
                                refine g_goto X (tgt := 76) dX7_loan_207 (by decide) ?_
                                refine g_sub [0, 1, 4, 5, 6, 7, 8, 9, 10, 11] rfl ?_
                                exact ih76 zq945 _ tq947 zq942 _ rfl (by omega) (by omega)
                              · refine g_iload X 0 rfl dX7_loan_191 ?_
                                refine g_if_ne X (show (0 : Int32).toInt = 0 by decide) (tgt := 200) dX7_loan_193 (by decide) (fun cq948 => ?_) (fun cq948 => ?_)
                                · refine g_iconst X 0 dX7_loan_200 (by decide) ?_
                                  refine g_iadd X dX7_loan_201 (fun zq949 eq950 => ?_)
                                  refine g_istore X [(8, .int zq949), (11, .int 0), (10, .int 1), (9, .int y9_76), (7, .int rq37), (6, .int rq33), (5, .int rq29), (0, .ref (ad 47)), (1, .int x1), (2, .int x2), (3, .int x3), (4, .int x4)] dX7_loan_202 (by decide) rfl ?_
                                  refine g_iinc X 3 (fun v => [(9, .int v), (8, .int zq949), (11, .int 0), (10, .int 1), (7, .int rq37), (6, .int rq33), (5, .int rq29), (0, .ref (ad 47)), (1, .int x1), (2, .int x2), (3, .int x3), (4, .int x4)]) dX7_loan_204 rfl (by decide) (fun _ => rfl) (fun zq952 eq953 => ?_)
                                  have tq954 : zq952.toInt = b9_76 + 1 := add_nw eq953 e9_76 (show (Int32.ofInt 1).toInt = 1 by decide) (by omega)
                                  refine g_goto X (tgt := 76) dX7_loan_207 (by decide) ?_
                                  refine g_sub [0, 1, 4, 5, 6, 7, 8, 9, 10, 11] rfl ?_
                                  exact ih76 zq952 _ tq954 zq949 _ rfl (by omega) (by omega)
                                · refine g_iconst X 1 dX7_loan_196 (by decide) ?_
                                  refine g_goto X (tgt := 201) dX7_loan_197 (by decide) ?_
                                  refine g_iadd X dX7_loan_201 (fun zq955 eq956 => ?_)
                                  refine g_istore X [(8, .int zq955), (11, .int 0), (10, .int 1), (9, .int y9_76), (7, .int rq37), (6, .int rq33), (5, .int rq29), (0, .ref (ad 47)), (1, .int x1), (2, .int x2), (3, .int x3), (4, .int x4)] dX7_loan_202 (by decide) rfl ?_
                                  refine g_iinc X 3 (fun v => [(9, .int v), (8, .int zq955), (11, .int 0), (10, .int 1), (7, .int rq37), (6, .int rq33), (5, .int rq29), (0, .ref (ad 47)), (1, .int x1), (2, .int x2), (3, .int x3), (4, .int x4)]) dX7_loan_204 rfl (by decide) (fun _ => rfl) (fun zq958 eq959 => ?_)
                                  have tq960 : zq958.toInt = b9_76 + 1 := add_nw eq959 e9_76 (show (Int32.ofInt 1).toInt = 1 by decide) (by omega)
                                  refine g_goto X (tgt := 76) dX7_loan_207 (by decide) ?_
                                  refine g_sub [0, 1, 4, 5, 6, 7, 8, 9, 10, 11] rfl ?_
                                  exact ih76 zq958 _ tq960 zq955 _ rfl (by omega) (by omega)
                            · refine g_aload_n X 6 rfl dX7_loan_163 ?_
                              refine g_iload X 3 rfl dX7_loan_164 ?_
                              refine g_iload X 1 rfl dX7_loan_166 ?_
                              refine g_iload_n X 9 rfl dX7_loan_168 ?_
                              refine g_iload X 5 rfl dX7_loan_169 ?_
                              refine g_callV X m_X7_322 (c_X7_hasLine ad Mq rq37 tq39 y9_76 e9_76 x3 t3 rq29 tq31 Iq0 (by omega)) rfl (by decide) (Nat.le_of_ble_eq_true rfl) rfl dX7_loan_171 ?_
                              rintro _ _ ⟨rq961, aq962, rfl, tq963, hq964, rfl⟩
                              show G Γ Mq 174 [(10, .int 1), (9, .int y9_76), (8, .int y8_76), (7, .int rq37), (6, .int rq33), (5, .int rq29), (0, .ref (ad 47)), (1, .int x1), (2, .int x2), (3, .int x3), (4, .int x4)] [.int rq961]
                              refine g_if_eq X tq963 (tgt := 181) dX7_loan_174 (by decide) (fun cq965 => ?_) (fun cq965 => ?_)
                              · refine g_iconst X 0 dX7_loan_181 (by decide) ?_
                                refine g_istore X [(11, .int 0), (10, .int 1), (9, .int y9_76), (8, .int y8_76), (7, .int rq37), (6, .int rq33), (5, .int rq29), (0, .ref (ad 47)), (1, .int x1), (2, .int x2), (3, .int x3), (4, .int x4)] dX7_loan_182 (by decide) rfl ?_
                                refine g_iload X 3 rfl dX7_loan_184 ?_
                                refine g_iload X 1 rfl dX7_loan_186 ?_
                                refine g_if_eq X (show (1 : Int32).toInt = 1 by decide) (tgt := 200) dX7_loan_188 (by decide) (fun cq966 => ?_) (fun cq966 => ?_)
                                · refine g_iconst X 0 dX7_loan_200 (by decide) ?_
                                  refine g_iadd X dX7_loan_201 (fun zq967 eq968 => ?_)
                                  refine g_istore X [(8, .int zq967), (11, .int 0), (10, .int 1), (9, .int y9_76), (7, .int rq37), (6, .int rq33), (5, .int rq29), (0, .ref (ad 47)), (1, .int x1), (2, .int x2), (3, .int x3), (4, .int x4)] dX7_loan_202 (by decide) rfl ?_
                                  refine g_iinc X 3 (fun v => [(9, .int v), (8, .int zq967), (11, .int 0), (10, .int 1), (7, .int rq37), (6, .int rq33), (5, .int rq29), (0, .ref (ad 47)), (1, .int x1), (2, .int x2), (3, .int x3), (4, .int x4)]) dX7_loan_204 rfl (by decide) (fun _ => rfl) (fun zq970 eq971 => ?_)
                                  have tq972 : zq970.toInt = b9_76 + 1 := add_nw eq971 e9_76 (show (Int32.ofInt 1).toInt = 1 by decide) (by omega)
                                  refine g_goto X (tgt := 76) dX7_loan_207 (by decide) ?_
                                  refine g_sub [0, 1, 4, 5, 6, 7, 8, 9, 10, 11] rfl ?_
                                  exact ih76 zq970 _ tq972 zq967 _ rfl (by omega) (by omega)
                                · refine g_iload X 0 rfl dX7_loan_191 ?_
                                  refine g_if_ne X (show (0 : Int32).toInt = 0 by decide) (tgt := 200) dX7_loan_193 (by decide) (fun cq973 => ?_) (fun cq973 => ?_)
                                  · refine g_iconst X 0 dX7_loan_200 (by decide) ?_
                                    refine g_iadd X dX7_loan_201 (fun zq974 eq975 => ?_)
                                    refine g_istore X [(8, .int zq974), (11, .int 0), (10, .int 1), (9, .int y9_76), (7, .int rq37), (6, .int rq33), (5, .int rq29), (0, .ref (ad 47)), (1, .int x1), (2, .int x2), (3, .int x3), (4, .int x4)] dX7_loan_202 (by decide) rfl ?_
                                    refine g_iinc X 3 (fun v => [(9, .int v), (8, .int zq974), (11, .int 0), (10, .int 1), (7, .int rq37), (6, .int rq33), (5, .int rq29), (0, .ref (ad 47)), (1, .int x1), (2, .int x2), (3, .int x3), (4, .int x4)]) dX7_loan_204 rfl (by decide) (fun _ => rfl) (fun zq977 eq978 => ?_)
                                    have tq979 : zq977.toInt = b9_76 + 1 := add_nw eq978 e9_76 (show (Int32.ofInt 1).toInt = 1 by decide) (by omega)
                                    refine g_goto X (tgt := 76) dX7_loan_207 (by decide) ?_
                                    refine g_sub [0, 1, 4, 5, 6, 7, 8, 9, 10, 11] rfl ?_
                                    exact ih76 zq977 _ tq979 zq974 _ rfl (by omega) (by omega)
                                  · refine g_iconst X 1 dX7_loan_196 (by decide) ?_
                                    refine g_goto X (tgt := 201) dX7_loan_197 (by decide) ?_
                                    refine g_iadd X dX7_loan_201 (fun zq980 eq981 => ?_)
                                    refine g_istore X [(8, .int zq980), (11, .int 0), (10, .int 1), (9, .int y9_76), (7, .int rq37), (6, .int rq33), (5, .int rq29), (0, .ref (ad 47)), (1, .int x1), (2, .int x2), (3, .int x3), (4, .int x4)] dX7_loan_202 (by decide) rfl ?_
                                    refine g_iinc X 3 (fun v => [(9, .int v), (8, .int zq980), (11, .int 0), (10, .int 1), (7, .int rq37), (6, .int rq33), (5, .int rq29), (0, .ref (ad 47)), (1, .int x1), (2, .int x2), (3, .int x3), (4, .int x4)]) dX7_loan_204 rfl (by decide) (fun _ => rfl) (fun zq983 eq984 => ?_)
                                    have tq985 : zq983.toInt = b9_76 + 1 := add_nw eq984 e9_76 (show (Int32.ofInt 1).toInt = 1 by decide) (by omega)
                                    refine g_goto X (tgt := 76) dX7_loan_207 (by decide) ?_
                                    refine g_sub [0, 1, 4, 5, 6, 7, 8, 9, 10, 11] rfl ?_
                                    exact ih76 zq983 _ tq985 zq980 _ rfl (by omega) (by omega)
                              · refine g_iconst X 1 dX7_loan_177 (by decide) ?_
                                refine g_goto X (tgt := 182) dX7_loan_178 (by decide) ?_
                                refine g_istore X [(11, .int 1), (10, .int 1), (9, .int y9_76), (8, .int y8_76), (7, .int rq37), (6, .int rq33), (5, .int rq29), (0, .ref (ad 47)), (1, .int x1), (2, .int x2), (3, .int x3), (4, .int x4)] dX7_loan_182 (by decide) rfl ?_
                                refine g_iload X 3 rfl dX7_loan_184 ?_
                                refine g_iload X 1 rfl dX7_loan_186 ?_
                                refine g_if_eq X (show (1 : Int32).toInt = 1 by decide) (tgt := 200) dX7_loan_188 (by decide) (fun cq986 => ?_) (fun cq986 => ?_)
                                · refine g_iconst X 0 dX7_loan_200 (by decide) ?_
                                  refine g_iadd X dX7_loan_201 (fun zq987 eq988 => ?_)
                                  refine g_istore X [(8, .int zq987), (11, .int 1), (10, .int 1), (9, .int y9_76), (7, .int rq37), (6, .int rq33), (5, .int rq29), (0, .ref (ad 47)), (1, .int x1), (2, .int x2), (3, .int x3), (4, .int x4)] dX7_loan_202 (by decide) rfl ?_
                                  refine g_iinc X 3 (fun v => [(9, .int v), (8, .int zq987), (11, .int 1), (10, .int 1), (7, .int rq37), (6, .int rq33), (5, .int rq29), (0, .ref (ad 47)), (1, .int x1), (2, .int x2), (3, .int x3), (4, .int x4)]) dX7_loan_204 rfl (by decide) (fun _ => rfl) (fun zq990 eq991 => ?_)
                                  have tq992 : zq990.toInt = b9_76 + 1 := add_nw eq991 e9_76 (show (Int32.ofInt 1).toInt = 1 by decide) (by omega)
                                  refine g_goto X (tgt := 76) dX7_loan_207 (by decide) ?_
                                  refine g_sub [0, 1, 4, 5, 6, 7, 8, 9, 10, 11] rfl ?_
                                  exact ih76 zq990 _ tq992 zq987 _ rfl (by omega) (by omega)
                                · refine g_iload X 0 rfl dX7_loan_191 ?_
                                  refine g_if_ne X (show (1 : Int32).toInt = 1 by decide) (tgt := 200) dX7_loan_193 (by decide) (fun cq993 => ?_) (fun cq993 => ?_)
                                  · refine g_iconst X 0 dX7_loan_200 (by decide) ?_
                                    refine g_iadd X dX7_loan_201 (fun zq994 eq995 => ?_)
                                    refine g_istore X [(8, .int zq994), (11, .int 1), (10, .int 1), (9, .int y9_76), (7, .int rq37), (6, .int rq33), (5, .int rq29), (0, .ref (ad 47)), (1, .int x1), (2, .int x2), (3, .int x3), (4, .int x4)] dX7_loan_202 (by decide) rfl ?_
                                    refine g_iinc X 3 (fun v => [(9, .int v), (8, .int zq994), (11, .int 1), (10, .int 1), (7, .int rq37), (6, .int rq33), (5, .int rq29), (0, .ref (ad 47)), (1, .int x1), (2, .int x2), (3, .int x3), (4, .int x4)]) dX7_loan_204 rfl (by decide) (fun _ => rfl) (fun zq997 eq998 => ?_)
                                    have tq999 : zq997.toInt = b9_76 + 1 := add_nw eq998 e9_76 (show (Int32.ofInt 1).toInt = 1 by decide) (by omega)
                                    refine g_goto X (tgt := 76) dX7_loan_207 (by decide) ?_
                                    refine g_sub [0, 1, 4, 5, 6, 7, 8, 9, 10, 11] rfl ?_
                                    exact ih76 zq997 _ tq999 zq994 _ rfl (by omega) (by omega)
                                  · refine g_iconst X 1 dX7_loan_196 (by decide) ?_
                                    refine g_goto X (tgt := 201) dX7_loan_197 (by decide) ?_
                                    refine g_iadd X dX7_loan_201 (fun zq1000 eq1001 => ?_)
                                    refine g_istore X [(8, .int zq1000), (11, .int 1), (10, .int 1), (9, .int y9_76), (7, .int rq37), (6, .int rq33), (5, .int rq29), (0, .ref (ad 47)), (1, .int x1), (2, .int x2), (3, .int x3), (4, .int x4)] dX7_loan_202 (by decide) rfl ?_
                                    refine g_iinc X 3 (fun v => [(9, .int v), (8, .int zq1000), (11, .int 1), (10, .int 1), (7, .int rq37), (6, .int rq33), (5, .int rq29), (0, .ref (ad 47)), (1, .int x1), (2, .int x2), (3, .int x3), (4, .int x4)]) dX7_loan_204 rfl (by decide) (fun _ => rfl) (fun zq1003 eq1004 => ?_)
                                    have tq1005 : zq1003.toInt = b9_76 + 1 := add_nw eq1004 e9_76 (show (Int32.ofInt 1).toInt = 1 by decide) (by omega)
                                    refine g_goto X (tgt := 76) dX7_loan_207 (by decide) ?_
                                    refine g_sub [0, 1, 4, 5, 6, 7, 8, 9, 10, 11] rfl ?_
                                    exact ih76 zq1003 _ tq1005 zq1000 _ rfl (by omega) (by omega)
                        · refine g_iload X 0 rfl dX7_loan_134 ?_
                          refine g_if_eq X (show (1 : Int32).toInt = 1 by decide) (tgt := 153) dX7_loan_136 (by decide) (fun cq1006 => ?_) (fun cq1006 => ?_)
                          · refine g_iload X 3 rfl dX7_loan_153 ?_
                            refine g_if_lt X tq39 (tgt := 181) dX7_loan_155 (by decide) (fun cq1007 => ?_) (fun cq1007 => ?_)
                            · refine g_iconst X 0 dX7_loan_181 (by decide) ?_
                              refine g_istore X [(11, .int 0), (10, .int 1), (9, .int y9_76), (8, .int y8_76), (7, .int rq37), (6, .int rq33), (5, .int rq29), (0, .ref (ad 47)), (1, .int x1), (2, .int x2), (3, .int x3), (4, .int x4)] dX7_loan_182 (by decide) rfl ?_
                              refine g_iload X 3 rfl dX7_loan_184 ?_
                              refine g_iload X 1 rfl dX7_loan_186 ?_
                              refine g_if_eq X (show (1 : Int32).toInt = 1 by decide) (tgt := 200) dX7_loan_188 (by decide) (fun cq1008 => ?_) (fun cq1008 => ?_)
                              · refine g_iconst X 0 dX7_loan_200 (by decide) ?_
                                refine g_iadd X dX7_loan_201 (fun zq1009 eq1010 => ?_)
                                refine g_istore X [(8, .int zq1009), (11, .int 0), (10, .int 1), (9, .int y9_76), (7, .int rq37), (6, .int rq33), (5, .int rq29), (0, .ref (ad 47)), (1, .int x1), (2, .int x2), (3, .int x3), (4, .int x4)] dX7_loan_202 (by decide) rfl ?_
                                refine g_iinc X 3 (fun v => [(9, .int v), (8, .int zq1009), (11, .int 0), (10, .int 1), (7, .int rq37), (6, .int rq33), (5, .int rq29), (0, .ref (ad 47)), (1, .int x1), (2, .int x2), (3, .int x3), (4, .int x4)]) dX7_loan_204 rfl (by decide) (fun _ => rfl) (fun zq1012 eq1013 => ?_)
                                have tq1014 : zq1012.toInt = b9_76 + 1 := add_nw eq1013 e9_76 (show (Int32.ofInt 1).toInt = 1 by decide) (by omega)
                                refine g_goto X (tgt := 76) dX7_loan_207 (by decide) ?_
                                refine g_sub [0, 1, 4, 5, 6, 7, 8, 9, 10, 11] rfl ?_
                                exact ih76 zq1012 _ tq1014 zq1009 _ rfl (by omega) (by omega)
                              · refine g_iload X 0 rfl dX7_loan_191 ?_
                                refine g_if_ne X (show (0 : Int32).toInt = 0 by decide) (tgt := 200) dX7_loan_193 (by decide) (fun cq1015 => ?_) (fun cq1015 => ?_)
                                · refine g_iconst X 0 dX7_loan_200 (by decide) ?_
                                  refine g_iadd X dX7_loan_201 (fun zq1016 eq1017 => ?_)
                                  refine g_istore X [(8, .int zq1016), (11, .int 0), (10, .int 1), (9, .int y9_76), (7, .int rq37), (6, .int rq33), (5, .int rq29), (0, .ref (ad 47)), (1, .int x1), (2, .int x2), (3, .int x3), (4, .int x4)] dX7_loan_202 (by decide) rfl ?_
                                  refine g_iinc X 3 (fun v => [(9, .int v), (8, .int zq1016), (11, .int 0), (10, .int 1), (7, .int rq37), (6, .int rq33), (5, .int rq29), (0, .ref (ad 47)), (1, .int x1), (2, .int x2), (3, .int x3), (4, .int x4)]) dX7_loan_204 rfl (by decide) (fun _ => rfl) (fun zq1019 eq1020 => ?_)
                                  have tq1021 : zq1019.toInt = b9_76 + 1 := add_nw eq1020 e9_76 (show (Int32.ofInt 1).toInt = 1 by decide) (by omega)
                                  refine g_goto X (tgt := 76) dX7_loan_207 (by decide) ?_
                                  refine g_sub [0, 1, 4, 5, 6, 7, 8, 9, 10, 11] rfl ?_
                                  exact ih76 zq1019 _ tq1021 zq1016 _ rfl (by omega) (by omega)
                                · refine g_iconst X 1 dX7_loan_196 (by decide) ?_
                                  refine g_goto X (tgt := 201) dX7_loan_197 (by decide) ?_
                                  refine g_iadd X dX7_loan_201 (fun zq1022 eq1023 => ?_)
                                  refine g_istore X [(8, .int zq1022), (11, .int 0), (10, .int 1), (9, .int y9_76), (7, .int rq37), (6, .int rq33), (5, .int rq29), (0, .ref (ad 47)), (1, .int x1), (2, .int x2), (3, .int x3), (4, .int x4)] dX7_loan_202 (by decide) rfl ?_
                                  refine g_iinc X 3 (fun v => [(9, .int v), (8, .int zq1022), (11, .int 0), (10, .int 1), (7, .int rq37), (6, .int rq33), (5, .int rq29), (0, .ref (ad 47)), (1, .int x1), (2, .int x2), (3, .int x3), (4, .int x4)]) dX7_loan_204 rfl (by decide) (fun _ => rfl) (fun zq1025 eq1026 => ?_)
                                  have tq1027 : zq1025.toInt = b9_76 + 1 := add_nw eq1026 e9_76 (show (Int32.ofInt 1).toInt = 1 by decide) (by omega)
                                  refine g_goto X (tgt := 76) dX7_loan_207 (by decide) ?_
                                  refine g_sub [0, 1, 4, 5, 6, 7, 8, 9, 10, 11] rfl ?_
                                  exact ih76 zq1025 _ tq1027 zq1022 _ rfl (by omega) (by omega)
                            · refine g_iload X 0 rfl dX7_loan_158 ?_
                              refine g_if_eq X (show (1 : Int32).toInt = 1 by decide) (tgt := 181) dX7_loan_160 (by decide) (fun cq1028 => ?_) (fun cq1028 => ?_)
                              · refine g_iconst X 0 dX7_loan_181 (by decide) ?_
                                refine g_istore X [(11, .int 0), (10, .int 1), (9, .int y9_76), (8, .int y8_76), (7, .int rq37), (6, .int rq33), (5, .int rq29), (0, .ref (ad 47)), (1, .int x1), (2, .int x2), (3, .int x3), (4, .int x4)] dX7_loan_182 (by decide) rfl ?_
                                refine g_iload X 3 rfl dX7_loan_184 ?_
                                refine g_iload X 1 rfl dX7_loan_186 ?_
                                refine g_if_eq X (show (1 : Int32).toInt = 1 by decide) (tgt := 200) dX7_loan_188 (by decide) (fun cq1029 => ?_) (fun cq1029 => ?_)
                                · refine g_iconst X 0 dX7_loan_200 (by decide) ?_
                                  refine g_iadd X dX7_loan_201 (fun zq1030 eq1031 => ?_)
                                  refine g_istore X [(8, .int zq1030), (11, .int 0), (10, .int 1), (9, .int y9_76), (7, .int rq37), (6, .int rq33), (5, .int rq29), (0, .ref (ad 47)), (1, .int x1), (2, .int x2), (3, .int x3), (4, .int x4)] dX7_loan_202 (by decide) rfl ?_
                                  refine g_iinc X 3 (fun v => [(9, .int v), (8, .int zq1030), (11, .int 0), (10, .int 1), (7, .int rq37), (6, .int rq33), (5, .int rq29), (0, .ref (ad 47)), (1, .int x1), (2, .int x2), (3, .int x3), (4, .int x4)]) dX7_loan_204 rfl (by decide) (fun _ => rfl) (fun zq1033 eq1034 => ?_)
                                  have tq1035 : zq1033.toInt = b9_76 + 1 := add_nw eq1034 e9_76 (show (Int32.ofInt 1).toInt = 1 by decide) (by omega)
                                  refine g_goto X (tgt := 76) dX7_loan_207 (by decide) ?_
                                  refine g_sub [0, 1, 4, 5, 6, 7, 8, 9, 10, 11] rfl ?_
                                  exact ih76 zq1033 _ tq1035 zq1030 _ rfl (by omega) (by omega)
                                · refine g_iload X 0 rfl dX7_loan_191 ?_
                                  refine g_if_ne X (show (0 : Int32).toInt = 0 by decide) (tgt := 200) dX7_loan_193 (by decide) (fun cq1036 => ?_) (fun cq1036 => ?_)
                                  · refine g_iconst X 0 dX7_loan_200 (by decide) ?_
                                    refine g_iadd X dX7_loan_201 (fun zq1037 eq1038 => ?_)
                                    refine g_istore X [(8, .int zq1037), (11, .int 0), (10, .int 1), (9, .int y9_76), (7, .int rq37), (6, .int rq33), (5, .int rq29), (0, .ref (ad 47)), (1, .int x1), (2, .int x2), (3, .int x3), (4, .int x4)] dX7_loan_202 (by decide) rfl ?_
                                    refine g_iinc X 3 (fun v => [(9, .int v), (8, .int zq1037), (11, .int 0), (10, .int 1), (7, .int rq37), (6, .int rq33), (5, .int rq29), (0, .ref (ad 47)), (1, .int x1), (2, .int x2), (3, .int x3), (4, .int x4)]) dX7_loan_204 rfl (by decide) (fun _ => rfl) (fun zq1040 eq1041 => ?_)
                                    have tq1042 : zq1040.toInt = b9_76 + 1 := add_nw eq1041 e9_76 (show (Int32.ofInt 1).toInt = 1 by decide) (by omega)
                                    refine g_goto X (tgt := 76) dX7_loan_207 (by decide) ?_
                                    refine g_sub [0, 1, 4, 5, 6, 7, 8, 9, 10, 11] rfl ?_
                                    exact ih76 zq1040 _ tq1042 zq1037 _ rfl (by omega) (by omega)
                                  · refine g_iconst X 1 dX7_loan_196 (by decide) ?_
                                    refine g_goto X (tgt := 201) dX7_loan_197 (by decide) ?_
                                    refine g_iadd X dX7_loan_201 (fun zq1043 eq1044 => ?_)
                                    refine g_istore X [(8, .int zq1043), (11, .int 0), (10, .int 1), (9, .int y9_76), (7, .int rq37), (6, .int rq33), (5, .int rq29), (0, .ref (ad 47)), (1, .int x1), (2, .int x2), (3, .int x3), (4, .int x4)] dX7_loan_202 (by decide) rfl ?_
                                    refine g_iinc X 3 (fun v => [(9, .int v), (8, .int zq1043), (11, .int 0), (10, .int 1), (7, .int rq37), (6, .int rq33), (5, .int rq29), (0, .ref (ad 47)), (1, .int x1), (2, .int x2), (3, .int x3), (4, .int x4)]) dX7_loan_204 rfl (by decide) (fun _ => rfl) (fun zq1046 eq1047 => ?_)
                                    have tq1048 : zq1046.toInt = b9_76 + 1 := add_nw eq1047 e9_76 (show (Int32.ofInt 1).toInt = 1 by decide) (by omega)
                                    refine g_goto X (tgt := 76) dX7_loan_207 (by decide) ?_
                                    refine g_sub [0, 1, 4, 5, 6, 7, 8, 9, 10, 11] rfl ?_
                                    exact ih76 zq1046 _ tq1048 zq1043 _ rfl (by omega) (by omega)
                              · refine g_aload_n X 6 rfl dX7_loan_163 ?_
                                refine g_iload X 3 rfl dX7_loan_164 ?_
                                refine g_iload X 1 rfl dX7_loan_166 ?_
                                refine g_iload_n X 9 rfl dX7_loan_168 ?_
                                refine g_iload X 5 rfl dX7_loan_169 ?_
                                refine g_callV X m_X7_322 (c_X7_hasLine ad Mq rq37 tq39 y9_76 e9_76 x3 t3 rq29 tq31 Iq0 (by omega)) rfl (by decide) (Nat.le_of_ble_eq_true rfl) rfl dX7_loan_171 ?_
                                rintro _ _ ⟨rq1049, aq1050, rfl, tq1051, hq1052, rfl⟩
                                show G Γ Mq 174 [(10, .int 1), (9, .int y9_76), (8, .int y8_76), (7, .int rq37), (6, .int rq33), (5, .int rq29), (0, .ref (ad 47)), (1, .int x1), (2, .int x2), (3, .int x3), (4, .int x4)] [.int rq1049]
                                refine g_if_eq X tq1051 (tgt := 181) dX7_loan_174 (by decide) (fun cq1053 => ?_) (fun cq1053 => ?_)
                                · refine g_iconst X 0 dX7_loan_181 (by decide) ?_
                                  refine g_istore X [(11, .int 0), (10, .int 1), (9, .int y9_76), (8, .int y8_76), (7, .int rq37), (6, .int rq33), (5, .int rq29), (0, .ref (ad 47)), (1, .int x1), (2, .int x2), (3, .int x3), (4, .int x4)] dX7_loan_182 (by decide) rfl ?_
                                  refine g_iload X 3 rfl dX7_loan_184 ?_
                                  refine g_iload X 1 rfl dX7_loan_186 ?_
                                  refine g_if_eq X (show (1 : Int32).toInt = 1 by decide) (tgt := 200) dX7_loan_188 (by decide) (fun cq1054 => ?_) (fun cq1054 => ?_)
                                  · refine g_iconst X 0 dX7_loan_200 (by decide) ?_
                                    refine g_iadd X dX7_loan_201 (fun zq1055 eq1056 => ?_)
                                    refine g_istore X [(8, .int zq1055), (11, .int 0), (10, .int 1), (9, .int y9_76), (7, .int rq37), (6, .int rq33), (5, .int rq29), (0, .ref (ad 47)), (1, .int x1), (2, .int x2), (3, .int x3), (4, .int x4)] dX7_loan_202 (by decide) rfl ?_
                                    refine g_iinc X 3 (fun v => [(9, .int v), (8, .int zq1055), (11, .int 0), (10, .int 1), (7, .int rq37), (6, .int rq33), (5, .int rq29), (0, .ref (ad 47)), (1, .int x1), (2, .int x2), (3, .int x3), (4, .int x4)]) dX7_loan_204 rfl (by decide) (fun _ => rfl) (fun zq1058 eq1059 => ?_)
                                    have tq1060 : zq1058.toInt = b9_76 + 1 := add_nw eq1059 e9_76 (show (Int32.ofInt 1).toInt = 1 by decide) (by omega)
                                    refine g_goto X (tgt := 76) dX7_loan_207 (by decide) ?_
                                    refine g_sub [0, 1, 4, 5, 6, 7, 8, 9, 10, 11] rfl ?_
                                    exact ih76 zq1058 _ tq1060 zq1055 _ rfl (by omega) (by omega)
                                  · refine g_iload X 0 rfl dX7_loan_191 ?_
                                    refine g_if_ne X (show (0 : Int32).toInt = 0 by decide) (tgt := 200) dX7_loan_193 (by decide) (fun cq1061 => ?_) (fun cq1061 => ?_)
                                    · refine g_iconst X 0 dX7_loan_200 (by decide) ?_
                                      refine g_iadd X dX7_loan_201 (fun zq1062 eq1063 => ?_)
                                      refine g_istore X [(8, .int zq1062), (11, .int 0), (10, .int 1), (9, .int y9_76), (7, .int rq37), (6, .int rq33), (5, .int rq29), (0, .ref (ad 47)), (1, .int x1), (2, .int x2), (3, .int x3), (4, .int x4)] dX7_loan_202 (by decide) rfl ?_
                                      refine g_iinc X 3 (fun v => [(9, .int v), (8, .int zq1062), (11, .int 0), (10, .int 1), (7, .int rq37), (6, .int rq33), (5, .int rq29), (0, .ref (ad 47)), (1, .int x1), (2, .int x2), (3, .int x3), (4, .int x4)]) dX7_loan_204 rfl (by decide) (fun _ => rfl) (fun zq1065 eq1066 => ?_)
                                      have tq1067 : zq1065.toInt = b9_76 + 1 := add_nw eq1066 e9_76 (show (Int32.ofInt 1).toInt = 1 by decide) (by omega)
                                      refine g_goto X (tgt := 76) dX7_loan_207 (by decide) ?_
                                      refine g_sub [0, 1, 4, 5, 6, 7, 8, 9, 10, 11] rfl ?_
                                      exact ih76 zq1065 _ tq1067 zq1062 _ rfl (by omega) (by omega)
                                    · refine g_iconst X 1 dX7_loan_196 (by decide) ?_
                                      refine g_goto X (tgt := 201) dX7_loan_197 (by decide) ?_
                                      refine g_iadd X dX7_loan_201 (fun zq1068 eq1069 => ?_)
                                      refine g_istore X [(8, .int zq1068), (11, .int 0), (10, .int 1), (9, .int y9_76), (7, .int rq37), (6, .int rq33), (5, .int rq29), (0, .ref (ad 47)), (1, .int x1), (2, .int x2), (3, .int x3), (4, .int x4)] dX7_loan_202 (by decide) rfl ?_
                                      refine g_iinc X 3 (fun v => [(9, .int v), (8, .int zq1068), (11, .int 0), (10, .int 1), (7, .int rq37), (6, .int rq33), (5, .int rq29), (0, .ref (ad 47)), (1, .int x1), (2, .int x2), (3, .int x3), (4, .int x4)]) dX7_loan_204 rfl (by decide) (fun _ => rfl) (fun zq1071 eq1072 => ?_)
                                      have tq1073 : zq1071.toInt = b9_76 + 1 := add_nw eq1072 e9_76 (show (Int32.ofInt 1).toInt = 1 by decide) (by omega)
                                      refine g_goto X (tgt := 76) dX7_loan_207 (by decide) ?_
                                      refine g_sub [0, 1, 4, 5, 6, 7, 8, 9, 10, 11] rfl ?_
                                      exact ih76 zq1071 _ tq1073 zq1068 _ rfl (by omega) (by omega)
                                · refine g_iconst X 1 dX7_loan_177 (by decide) ?_
                                  refine g_goto X (tgt := 182) dX7_loan_178 (by decide) ?_
                                  refine g_istore X [(11, .int 1), (10, .int 1), (9, .int y9_76), (8, .int y8_76), (7, .int rq37), (6, .int rq33), (5, .int rq29), (0, .ref (ad 47)), (1, .int x1), (2, .int x2), (3, .int x3), (4, .int x4)] dX7_loan_182 (by decide) rfl ?_
                                  refine g_iload X 3 rfl dX7_loan_184 ?_
                                  refine g_iload X 1 rfl dX7_loan_186 ?_
                                  refine g_if_eq X (show (1 : Int32).toInt = 1 by decide) (tgt := 200) dX7_loan_188 (by decide) (fun cq1074 => ?_) (fun cq1074 => ?_)
                                  · refine g_iconst X 0 dX7_loan_200 (by decide) ?_
                                    refine g_iadd X dX7_loan_201 (fun zq1075 eq1076 => ?_)
                                    refine g_istore X [(8, .int zq1075), (11, .int 1), (10, .int 1), (9, .int y9_76), (7, .int rq37), (6, .int rq33), (5, .int rq29), (0, .ref (ad 47)), (1, .int x1), (2, .int x2), (3, .int x3), (4, .int x4)] dX7_loan_202 (by decide) rfl ?_
                                    refine g_iinc X 3 (fun v => [(9, .int v), (8, .int zq1075), (11, .int 1), (10, .int 1), (7, .int rq37), (6, .int rq33), (5, .int rq29), (0, .ref (ad 47)), (1, .int x1), (2, .int x2), (3, .int x3), (4, .int x4)]) dX7_loan_204 rfl (by decide) (fun _ => rfl) (fun zq1078 eq1079 => ?_)
                                    have tq1080 : zq1078.toInt = b9_76 + 1 := add_nw eq1079 e9_76 (show (Int32.ofInt 1).toInt = 1 by decide) (by omega)
                                    refine g_goto X (tgt := 76) dX7_loan_207 (by decide) ?_
                                    refine g_sub [0, 1, 4, 5, 6, 7, 8, 9, 10, 11] rfl ?_
                                    exact ih76 zq1078 _ tq1080 zq1075 _ rfl (by omega) (by omega)
                                  · refine g_iload X 0 rfl dX7_loan_191 ?_
                                    refine g_if_ne X (show (1 : Int32).toInt = 1 by decide) (tgt := 200) dX7_loan_193 (by decide) (fun cq1081 => ?_) (fun cq1081 => ?_)
                                    · refine g_iconst X 0 dX7_loan_200 (by decide) ?_
                                      refine g_iadd X dX7_loan_201 (fun zq1082 eq1083 => ?_)
                                      refine g_istore X [(8, .int zq1082), (11, .int 1), (10, .int 1), (9, .int y9_76), (7, .int rq37), (6, .int rq33), (5, .int rq29), (0, .ref (ad 47)), (1, .int x1), (2, .int x2), (3, .int x3), (4, .int x4)] dX7_loan_202 (by decide) rfl ?_
                                      refine g_iinc X 3 (fun v => [(9, .int v), (8, .int zq1082), (11, .int 1), (10, .int 1), (7, .int rq37), (6, .int rq33), (5, .int rq29), (0, .ref (ad 47)), (1, .int x1), (2, .int x2), (3, .int x3), (4, .int x4)]) dX7_loan_204 rfl (by decide) (fun _ => rfl) (fun zq1085 eq1086 => ?_)
                                      have tq1087 : zq1085.toInt = b9_76 + 1 := add_nw eq1086 e9_76 (show (Int32.ofInt 1).toInt = 1 by decide) (by omega)
                                      refine g_goto X (tgt := 76) dX7_loan_207 (by decide) ?_
                                      refine g_sub [0, 1, 4, 5, 6, 7, 8, 9, 10, 11] rfl ?_
                                      exact ih76 zq1085 _ tq1087 zq1082 _ rfl (by omega) (by omega)
                                    · refine g_iconst X 1 dX7_loan_196 (by decide) ?_
                                      refine g_goto X (tgt := 201) dX7_loan_197 (by decide) ?_
                                      refine g_iadd X dX7_loan_201 (fun zq1088 eq1089 => ?_)
                                      refine g_istore X [(8, .int zq1088), (11, .int 1), (10, .int 1), (9, .int y9_76), (7, .int rq37), (6, .int rq33), (5, .int rq29), (0, .ref (ad 47)), (1, .int x1), (2, .int x2), (3, .int x3), (4, .int x4)] dX7_loan_202 (by decide) rfl ?_
                                      refine g_iinc X 3 (fun v => [(9, .int v), (8, .int zq1088), (11, .int 1), (10, .int 1), (7, .int rq37), (6, .int rq33), (5, .int rq29), (0, .ref (ad 47)), (1, .int x1), (2, .int x2), (3, .int x3), (4, .int x4)]) dX7_loan_204 rfl (by decide) (fun _ => rfl) (fun zq1091 eq1092 => ?_)
                                      have tq1093 : zq1091.toInt = b9_76 + 1 := add_nw eq1092 e9_76 (show (Int32.ofInt 1).toInt = 1 by decide) (by omega)
                                      refine g_goto X (tgt := 76) dX7_loan_207 (by decide) ?_
                                      refine g_sub [0, 1, 4, 5, 6, 7, 8, 9, 10, 11] rfl ?_
                                      exact ih76 zq1091 _ tq1093 zq1088 _ rfl (by omega) (by omega)
                          · refine g_aload_n X 6 rfl dX7_loan_139 ?_
                            refine g_iload X 4 rfl dX7_loan_140 ?_
                            refine g_iload X 1 rfl dX7_loan_142 ?_
                            refine g_iload_n X 9 rfl dX7_loan_144 ?_
                            refine g_iload X 5 rfl dX7_loan_145 ?_
                            refine g_callV X m_X7_322 (c_X7_hasLine ad Mq rq33 tq35 y9_76 e9_76 x3 t3 rq29 tq31 Iq0 (by omega)) rfl (by decide) (Nat.le_of_ble_eq_true rfl) rfl dX7_loan_147 ?_
                            rintro _ _ ⟨rq1094, aq1095, rfl, tq1096, hq1097, rfl⟩
                            show G Γ Mq 150 [(10, .int 1), (9, .int y9_76), (8, .int y8_76), (7, .int rq37), (6, .int rq33), (5, .int rq29), (0, .ref (ad 47)), (1, .int x1), (2, .int x2), (3, .int x3), (4, .int x4)] [.int rq1094]
                            refine g_if_ne X tq1096 (tgt := 177) dX7_loan_150 (by decide) (fun cq1098 => ?_) (fun cq1098 => ?_)
                            · refine g_iconst X 1 dX7_loan_177 (by decide) ?_
                              refine g_goto X (tgt := 182) dX7_loan_178 (by decide) ?_
                              refine g_istore X [(11, .int 1), (10, .int 1), (9, .int y9_76), (8, .int y8_76), (7, .int rq37), (6, .int rq33), (5, .int rq29), (0, .ref (ad 47)), (1, .int x1), (2, .int x2), (3, .int x3), (4, .int x4)] dX7_loan_182 (by decide) rfl ?_
                              refine g_iload X 3 rfl dX7_loan_184 ?_
                              refine g_iload X 1 rfl dX7_loan_186 ?_
                              refine g_if_eq X (show (1 : Int32).toInt = 1 by decide) (tgt := 200) dX7_loan_188 (by decide) (fun cq1099 => ?_) (fun cq1099 => ?_)
                              · refine g_iconst X 0 dX7_loan_200 (by decide) ?_
                                refine g_iadd X dX7_loan_201 (fun zq1100 eq1101 => ?_)
                                refine g_istore X [(8, .int zq1100), (11, .int 1), (10, .int 1), (9, .int y9_76), (7, .int rq37), (6, .int rq33), (5, .int rq29), (0, .ref (ad 47)), (1, .int x1), (2, .int x2), (3, .int x3), (4, .int x4)] dX7_loan_202 (by decide) rfl ?_
                                refine g_iinc X 3 (fun v => [(9, .int v), (8, .int zq1100), (11, .int 1), (10, .int 1), (7, .int rq37), (6, .int rq33), (5, .int rq29), (0, .ref (ad 47)), (1, .int x1), (2, .int x2), (3, .int x3), (4, .int x4)]) dX7_loan_204 rfl (by decide) (fun _ => rfl) (fun zq1103 eq1104 => ?_)
                                have tq1105 : zq1103.toInt = b9_76 + 1 := add_nw eq1104 e9_76 (show (Int32.ofInt 1).toInt = 1 by decide) (by omega)
                                refine g_goto X (tgt := 76) dX7_loan_207 (by decide) ?_
                                refine g_sub [0, 1, 4, 5, 6, 7, 8, 9, 10, 11] rfl ?_
                                exact ih76 zq1103 _ tq1105 zq1100 _ rfl (by omega) (by omega)
                              · refine g_iload X 0 rfl dX7_loan_191 ?_
                                refine g_if_ne X (show (1 : Int32).toInt = 1 by decide) (tgt := 200) dX7_loan_193 (by decide) (fun cq1106 => ?_) (fun cq1106 => ?_)
                                · refine g_iconst X 0 dX7_loan_200 (by decide) ?_
                                  refine g_iadd X dX7_loan_201 (fun zq1107 eq1108 => ?_)
                                  refine g_istore X [(8, .int zq1107), (11, .int 1), (10, .int 1), (9, .int y9_76), (7, .int rq37), (6, .int rq33), (5, .int rq29), (0, .ref (ad 47)), (1, .int x1), (2, .int x2), (3, .int x3), (4, .int x4)] dX7_loan_202 (by decide) rfl ?_
                                  refine g_iinc X 3 (fun v => [(9, .int v), (8, .int zq1107), (11, .int 1), (10, .int 1), (7, .int rq37), (6, .int rq33), (5, .int rq29), (0, .ref (ad 47)), (1, .int x1), (2, .int x2), (3, .int x3), (4, .int x4)]) dX7_loan_204 rfl (by decide) (fun _ => rfl) (fun zq1110 eq1111 => ?_)
                                  have tq1112 : zq1110.toInt = b9_76 + 1 := add_nw eq1111 e9_76 (show (Int32.ofInt 1).toInt = 1 by decide) (by omega)
                                  refine g_goto X (tgt := 76) dX7_loan_207 (by decide) ?_
                                  refine g_sub [0, 1, 4, 5, 6, 7, 8, 9, 10, 11] rfl ?_
                                  exact ih76 zq1110 _ tq1112 zq1107 _ rfl (by omega) (by omega)
                                · refine g_iconst X 1 dX7_loan_196 (by decide) ?_
                                  refine g_goto X (tgt := 201) dX7_loan_197 (by decide) ?_
                                  refine g_iadd X dX7_loan_201 (fun zq1113 eq1114 => ?_)
                                  refine g_istore X [(8, .int zq1113), (11, .int 1), (10, .int 1), (9, .int y9_76), (7, .int rq37), (6, .int rq33), (5, .int rq29), (0, .ref (ad 47)), (1, .int x1), (2, .int x2), (3, .int x3), (4, .int x4)] dX7_loan_202 (by decide) rfl ?_
                                  refine g_iinc X 3 (fun v => [(9, .int v), (8, .int zq1113), (11, .int 1), (10, .int 1), (7, .int rq37), (6, .int rq33), (5, .int rq29), (0, .ref (ad 47)), (1, .int x1), (2, .int x2), (3, .int x3), (4, .int x4)]) dX7_loan_204 rfl (by decide) (fun _ => rfl) (fun zq1116 eq1117 => ?_)
                                  have tq1118 : zq1116.toInt = b9_76 + 1 := add_nw eq1117 e9_76 (show (Int32.ofInt 1).toInt = 1 by decide) (by omega)
                                  refine g_goto X (tgt := 76) dX7_loan_207 (by decide) ?_
                                  refine g_sub [0, 1, 4, 5, 6, 7, 8, 9, 10, 11] rfl ?_
                                  exact ih76 zq1116 _ tq1118 zq1113 _ rfl (by omega) (by omega)
                            · refine g_iload X 3 rfl dX7_loan_153 ?_
                              refine g_if_lt X tq39 (tgt := 181) dX7_loan_155 (by decide) (fun cq1119 => ?_) (fun cq1119 => ?_)
                              · refine g_iconst X 0 dX7_loan_181 (by decide) ?_
                                refine g_istore X [(11, .int 0), (10, .int 1), (9, .int y9_76), (8, .int y8_76), (7, .int rq37), (6, .int rq33), (5, .int rq29), (0, .ref (ad 47)), (1, .int x1), (2, .int x2), (3, .int x3), (4, .int x4)] dX7_loan_182 (by decide) rfl ?_
                                refine g_iload X 3 rfl dX7_loan_184 ?_
                                refine g_iload X 1 rfl dX7_loan_186 ?_
                                refine g_if_eq X (show (1 : Int32).toInt = 1 by decide) (tgt := 200) dX7_loan_188 (by decide) (fun cq1120 => ?_) (fun cq1120 => ?_)
                                · refine g_iconst X 0 dX7_loan_200 (by decide) ?_
                                  refine g_iadd X dX7_loan_201 (fun zq1121 eq1122 => ?_)
                                  refine g_istore X [(8, .int zq1121), (11, .int 0), (10, .int 1), (9, .int y9_76), (7, .int rq37), (6, .int rq33), (5, .int rq29), (0, .ref (ad 47)), (1, .int x1), (2, .int x2), (3, .int x3), (4, .int x4)] dX7_loan_202 (by decide) rfl ?_
                                  refine g_iinc X 3 (fun v => [(9, .int v), (8, .int zq1121), (11, .int 0), (10, .int 1), (7, .int rq37), (6, .int rq33), (5, .int rq29), (0, .ref (ad 47)), (1, .int x1), (2, .int x2), (3, .int x3), (4, .int x4)]) dX7_loan_204 rfl (by decide) (fun _ => rfl) (fun zq1124 eq1125 => ?_)
                                  have tq1126 : zq1124.toInt = b9_76 + 1 := add_nw eq1125 e9_76 (show (Int32.ofInt 1).toInt = 1 by decide) (by omega)
                                  refine g_goto X (tgt := 76) dX7_loan_207 (by decide) ?_
                                  refine g_sub [0, 1, 4, 5, 6, 7, 8, 9, 10, 11] rfl ?_
                                  exact ih76 zq1124 _ tq1126 zq1121 _ rfl (by omega) (by omega)
                                · refine g_iload X 0 rfl dX7_loan_191 ?_
                                  refine g_if_ne X (show (0 : Int32).toInt = 0 by decide) (tgt := 200) dX7_loan_193 (by decide) (fun cq1127 => ?_) (fun cq1127 => ?_)
                                  · refine g_iconst X 0 dX7_loan_200 (by decide) ?_
                                    refine g_iadd X dX7_loan_201 (fun zq1128 eq1129 => ?_)
                                    refine g_istore X [(8, .int zq1128), (11, .int 0), (10, .int 1), (9, .int y9_76), (7, .int rq37), (6, .int rq33), (5, .int rq29), (0, .ref (ad 47)), (1, .int x1), (2, .int x2), (3, .int x3), (4, .int x4)] dX7_loan_202 (by decide) rfl ?_
                                    refine g_iinc X 3 (fun v => [(9, .int v), (8, .int zq1128), (11, .int 0), (10, .int 1), (7, .int rq37), (6, .int rq33), (5, .int rq29), (0, .ref (ad 47)), (1, .int x1), (2, .int x2), (3, .int x3), (4, .int x4)]) dX7_loan_204 rfl (by decide) (fun _ => rfl) (fun zq1131 eq1132 => ?_)
                                    have tq1133 : zq1131.toInt = b9_76 + 1 := add_nw eq1132 e9_76 (show (Int32.ofInt 1).toInt = 1 by decide) (by omega)
                                    refine g_goto X (tgt := 76) dX7_loan_207 (by decide) ?_
                                    refine g_sub [0, 1, 4, 5, 6, 7, 8, 9, 10, 11] rfl ?_
                                    exact ih76 zq1131 _ tq1133 zq1128 _ rfl (by omega) (by omega)
                                  · refine g_iconst X 1 dX7_loan_196 (by decide) ?_
                                    refine g_goto X (tgt := 201) dX7_loan_197 (by decide) ?_
                                    refine g_iadd X dX7_loan_201 (fun zq1134 eq1135 => ?_)
                                    refine g_istore X [(8, .int zq1134), (11, .int 0), (10, .int 1), (9, .int y9_76), (7, .int rq37), (6, .int rq33), (5, .int rq29), (0, .ref (ad 47)), (1, .int x1), (2, .int x2), (3, .int x3), (4, .int x4)] dX7_loan_202 (by decide) rfl ?_
                                    refine g_iinc X 3 (fun v => [(9, .int v), (8, .int zq1134), (11, .int 0), (10, .int 1), (7, .int rq37), (6, .int rq33), (5, .int rq29), (0, .ref (ad 47)), (1, .int x1), (2, .int x2), (3, .int x3), (4, .int x4)]) dX7_loan_204 rfl (by decide) (fun _ => rfl) (fun zq1137 eq1138 => ?_)
                                    have tq1139 : zq1137.toInt = b9_76 + 1 := add_nw eq1138 e9_76 (show (Int32.ofInt 1).toInt = 1 by decide) (by omega)
                                    refine g_goto X (tgt := 76) dX7_loan_207 (by decide) ?_
                                    refine g_sub [0, 1, 4, 5, 6, 7, 8, 9, 10, 11] rfl ?_
                                    exact ih76 zq1137 _ tq1139 zq1134 _ rfl (by omega) (by omega)
                              · refine g_iload X 0 rfl dX7_loan_158 ?_
                                refine g_if_eq X (show (1 : Int32).toInt = 1 by decide) (tgt := 181) dX7_loan_160 (by decide) (fun cq1140 => ?_) (fun cq1140 => ?_)
                                · refine g_iconst X 0 dX7_loan_181 (by decide) ?_
                                  refine g_istore X [(11, .int 0), (10, .int 1), (9, .int y9_76), (8, .int y8_76), (7, .int rq37), (6, .int rq33), (5, .int rq29), (0, .ref (ad 47)), (1, .int x1), (2, .int x2), (3, .int x3), (4, .int x4)] dX7_loan_182 (by decide) rfl ?_
                                  refine g_iload X 3 rfl dX7_loan_184 ?_
                                  refine g_iload X 1 rfl dX7_loan_186 ?_
                                  refine g_if_eq X (show (1 : Int32).toInt = 1 by decide) (tgt := 200) dX7_loan_188 (by decide) (fun cq1141 => ?_) (fun cq1141 => ?_)
                                  · refine g_iconst X 0 dX7_loan_200 (by decide) ?_
                                    refine g_iadd X dX7_loan_201 (fun zq1142 eq1143 => ?_)
                                    refine g_istore X [(8, .int zq1142), (11, .int 0), (10, .int 1), (9, .int y9_76), (7, .int rq37), (6, .int rq33), (5, .int rq29), (0, .ref (ad 47)), (1, .int x1), (2, .int x2), (3, .int x3), (4, .int x4)] dX7_loan_202 (by decide) rfl ?_
                                    refine g_iinc X 3 (fun v => [(9, .int v), (8, .int zq1142), (11, .int 0), (10, .int 1), (7, .int rq37), (6, .int rq33), (5, .int rq29), (0, .ref (ad 47)), (1, .int x1), (2, .int x2), (3, .int x3), (4, .int x4)]) dX7_loan_204 rfl (by decide) (fun _ => rfl) (fun zq1145 eq1146 => ?_)
                                    have tq1147 : zq1145.toInt = b9_76 + 1 := add_nw eq1146 e9_76 (show (Int32.ofInt 1).toInt = 1 by decide) (by omega)
                                    refine g_goto X (tgt := 76) dX7_loan_207 (by decide) ?_
                                    refine g_sub [0, 1, 4, 5, 6, 7, 8, 9, 10, 11] rfl ?_
                                    exact ih76 zq1145 _ tq1147 zq1142 _ rfl (by omega) (by omega)
                                  · refine g_iload X 0 rfl dX7_loan_191 ?_
                                    refine g_if_ne X (show (0 : Int32).toInt = 0 by decide) (tgt := 200) dX7_loan_193 (by decide) (fun cq1148 => ?_) (fun cq1148 => ?_)
                                    · refine g_iconst X 0 dX7_loan_200 (by decide) ?_
                                      refine g_iadd X dX7_loan_201 (fun zq1149 eq1150 => ?_)
                                      refine g_istore X [(8, .int zq1149), (11, .int 0), (10, .int 1), (9, .int y9_76), (7, .int rq37), (6, .int rq33), (5, .int rq29), (0, .ref (ad 47)), (1, .int x1), (2, .int x2), (3, .int x3), (4, .int x4)] dX7_loan_202 (by decide) rfl ?_
                                      refine g_iinc X 3 (fun v => [(9, .int v), (8, .int zq1149), (11, .int 0), (10, .int 1), (7, .int rq37), (6, .int rq33), (5, .int rq29), (0, .ref (ad 47)), (1, .int x1), (2, .int x2), (3, .int x3), (4, .int x4)]) dX7_loan_204 rfl (by decide) (fun _ => rfl) (fun zq1152 eq1153 => ?_)
                                      have tq1154 : zq1152.toInt = b9_76 + 1 := add_nw eq1153 e9_76 (show (Int32.ofInt 1).toInt = 1 by decide) (by omega)
                                      refine g_goto X (tgt := 76) dX7_loan_207 (by decide) ?_
                                      refine g_sub [0, 1, 4, 5, 6, 7, 8, 9, 10, 11] rfl ?_
                                      exact ih76 zq1152 _ tq1154 zq1149 _ rfl (by omega) (by omega)
                                    · refine g_iconst X 1 dX7_loan_196 (by decide) ?_
                                      refine g_goto X (tgt := 201) dX7_loan_197 (by decide) ?_
                                      refine g_iadd X dX7_loan_201 (fun zq1155 eq1156 => ?_)
                                      refine g_istore X [(8, .int zq1155), (11, .int 0), (10, .int 1), (9, .int y9_76), (7, .int rq37), (6, .int rq33), (5, .int rq29), (0, .ref (ad 47)), (1, .int x1), (2, .int x2), (3, .int x3), (4, .int x4)] dX7_loan_202 (by decide) rfl ?_
                                      refine g_iinc X 3 (fun v => [(9, .int v), (8, .int zq1155), (11, .int 0), (10, .int 1), (7, .int rq37), (6, .int rq33), (5, .int rq29), (0, .ref (ad 47)), (1, .int x1), (2, .int x2), (3, .int x3), (4, .int x4)]) dX7_loan_204 rfl (by decide) (fun _ => rfl) (fun zq1158 eq1159 => ?_)
                                      have tq1160 : zq1158.toInt = b9_76 + 1 := add_nw eq1159 e9_76 (show (Int32.ofInt 1).toInt = 1 by decide) (by omega)
                                      refine g_goto X (tgt := 76) dX7_loan_207 (by decide) ?_
                                      refine g_sub [0, 1, 4, 5, 6, 7, 8, 9, 10, 11] rfl ?_
                                      exact ih76 zq1158 _ tq1160 zq1155 _ rfl (by omega) (by omega)
                                · refine g_aload_n X 6 rfl dX7_loan_163 ?_
                                  refine g_iload X 3 rfl dX7_loan_164 ?_
                                  refine g_iload X 1 rfl dX7_loan_166 ?_
                                  refine g_iload_n X 9 rfl dX7_loan_168 ?_
                                  refine g_iload X 5 rfl dX7_loan_169 ?_
                                  refine g_callV X m_X7_322 (c_X7_hasLine ad Mq rq37 tq39 y9_76 e9_76 x3 t3 rq29 tq31 Iq0 (by omega)) rfl (by decide) (Nat.le_of_ble_eq_true rfl) rfl dX7_loan_171 ?_
                                  rintro _ _ ⟨rq1161, aq1162, rfl, tq1163, hq1164, rfl⟩
                                  show G Γ Mq 174 [(10, .int 1), (9, .int y9_76), (8, .int y8_76), (7, .int rq37), (6, .int rq33), (5, .int rq29), (0, .ref (ad 47)), (1, .int x1), (2, .int x2), (3, .int x3), (4, .int x4)] [.int rq1161]
                                  refine g_if_eq X tq1163 (tgt := 181) dX7_loan_174 (by decide) (fun cq1165 => ?_) (fun cq1165 => ?_)
                                  · refine g_iconst X 0 dX7_loan_181 (by decide) ?_
                                    refine g_istore X [(11, .int 0), (10, .int 1), (9, .int y9_76), (8, .int y8_76), (7, .int rq37), (6, .int rq33), (5, .int rq29), (0, .ref (ad 47)), (1, .int x1), (2, .int x2), (3, .int x3), (4, .int x4)] dX7_loan_182 (by decide) rfl ?_
                                    refine g_iload X 3 rfl dX7_loan_184 ?_
                                    refine g_iload X 1 rfl dX7_loan_186 ?_
                                    refine g_if_eq X (show (1 : Int32).toInt = 1 by decide) (tgt := 200) dX7_loan_188 (by decide) (fun cq1166 => ?_) (fun cq1166 => ?_)
                                    · refine g_iconst X 0 dX7_loan_200 (by decide) ?_
                                      refine g_iadd X dX7_loan_201 (fun zq1167 eq1168 => ?_)
                                      refine g_istore X [(8, .int zq1167), (11, .int 0), (10, .int 1), (9, .int y9_76), (7, .int rq37), (6, .int rq33), (5, .int rq29), (0, .ref (ad 47)), (1, .int x1), (2, .int x2), (3, .int x3), (4, .int x4)] dX7_loan_202 (by decide) rfl ?_
                                      refine g_iinc X 3 (fun v => [(9, .int v), (8, .int zq1167), (11, .int 0), (10, .int 1), (7, .int rq37), (6, .int rq33), (5, .int rq29), (0, .ref (ad 47)), (1, .int x1), (2, .int x2), (3, .int x3), (4, .int x4)]) dX7_loan_204 rfl (by decide) (fun _ => rfl) (fun zq1170 eq1171 => ?_)
                                      have tq1172 : zq1170.toInt = b9_76 + 1 := add_nw eq1171 e9_76 (show (Int32.ofInt 1).toInt = 1 by decide) (by omega)
                                      refine g_goto X (tgt := 76) dX7_loan_207 (by decide) ?_
                                      refine g_sub [0, 1, 4, 5, 6, 7, 8, 9, 10, 11] rfl ?_
                                      exact ih76 zq1170 _ tq1172 zq1167 _ rfl (by omega) (by omega)
                                    · refine g_iload X 0 rfl dX7_loan_191 ?_
                                      refine g_if_ne X (show (0 : Int32).toInt = 0 by decide) (tgt := 200) dX7_loan_193 (by decide) (fun cq1173 => ?_) (fun cq1173 => ?_)
                                      · refine g_iconst X 0 dX7_loan_200 (by decide) ?_
                                        refine g_iadd X dX7_loan_201 (fun zq1174 eq1175 => ?_)
                                        refine g_istore X [(8, .int zq1174), (11, .int 0), (10, .int 1), (9, .int y9_76), (7, .int rq37), (6, .int rq33), (5, .int rq29), (0, .ref (ad 47)), (1, .int x1), (2, .int x2), (3, .int x3), (4, .int x4)] dX7_loan_202 (by decide) rfl ?_
                                        refine g_iinc X 3 (fun v => [(9, .int v), (8, .int zq1174), (11, .int 0), (10, .int 1), (7, .int rq37), (6, .int rq33), (5, .int rq29), (0, .ref (ad 47)), (1, .int x1), (2, .int x2), (3, .int x3), (4, .int x4)]) dX7_loan_204 rfl (by decide) (fun _ => rfl) (fun zq1177 eq1178 => ?_)
                                        have tq1179 : zq1177.toInt = b9_76 + 1 := add_nw eq1178 e9_76 (show (Int32.ofInt 1).toInt = 1 by decide) (by omega)
                                        refine g_goto X (tgt := 76) dX7_loan_207 (by decide) ?_
                                        refine g_sub [0, 1, 4, 5, 6, 7, 8, 9, 10, 11] rfl ?_
                                        exact ih76 zq1177 _ tq1179 zq1174 _ rfl (by omega) (by omega)
                                      · refine g_iconst X 1 dX7_loan_196 (by decide) ?_
                                        refine g_goto X (tgt := 201) dX7_loan_197 (by decide) ?_
                                        refine g_iadd X dX7_loan_201 (fun zq1180 eq1181 => ?_)
                                        refine g_istore X [(8, .int zq1180), (11, .int 0), (10, .int 1), (9, .int y9_76), (7, .int rq37), (6, .int rq33), (5, .int rq29), (0, .ref (ad 47)), (1, .int x1), (2, .int x2), (3, .int x3), (4, .int x4)] dX7_loan_202 (by decide) rfl ?_
                                        refine g_iinc X 3 (fun v => [(9, .int v), (8, .int zq1180), (11, .int 0), (10, .int 1), (7, .int rq37), (6, .int rq33), (5, .int rq29), (0, .ref (ad 47)), (1, .int x1), (2, .int x2), (3, .int x3), (4, .int x4)]) dX7_loan_204 rfl (by decide) (fun _ => rfl) (fun zq1183 eq1184 => ?_)
                                        have tq1185 : zq1183.toInt = b9_76 + 1 := add_nw eq1184 e9_76 (show (Int32.ofInt 1).toInt = 1 by decide) (by omega)
                                        refine g_goto X (tgt := 76) dX7_loan_207 (by decide) ?_
                                        refine g_sub [0, 1, 4, 5, 6, 7, 8, 9, 10, 11] rfl ?_
                                        exact ih76 zq1183 _ tq1185 zq1180 _ rfl (by omega) (by omega)
                                  · refine g_iconst X 1 dX7_loan_177 (by decide) ?_
                                    refine g_goto X (tgt := 182) dX7_loan_178 (by decide) ?_
                                    refine g_istore X [(11, .int 1), (10, .int 1), (9, .int y9_76), (8, .int y8_76), (7, .int rq37), (6, .int rq33), (5, .int rq29), (0, .ref (ad 47)), (1, .int x1), (2, .int x2), (3, .int x3), (4, .int x4)] dX7_loan_182 (by decide) rfl ?_
                                    refine g_iload X 3 rfl dX7_loan_184 ?_
                                    refine g_iload X 1 rfl dX7_loan_186 ?_
                                    refine g_if_eq X (show (1 : Int32).toInt = 1 by decide) (tgt := 200) dX7_loan_188 (by decide) (fun cq1186 => ?_) (fun cq1186 => ?_)
                                    · refine g_iconst X 0 dX7_loan_200 (by decide) ?_
                                      refine g_iadd X dX7_loan_201 (fun zq1187 eq1188 => ?_)
                                      refine g_istore X [(8, .int zq1187), (11, .int 1), (10, .int 1), (9, .int y9_76), (7, .int rq37), (6, .int rq33), (5, .int rq29), (0, .ref (ad 47)), (1, .int x1), (2, .int x2), (3, .int x3), (4, .int x4)] dX7_loan_202 (by decide) rfl ?_
                                      refine g_iinc X 3 (fun v => [(9, .int v), (8, .int zq1187), (11, .int 1), (10, .int 1), (7, .int rq37), (6, .int rq33), (5, .int rq29), (0, .ref (ad 47)), (1, .int x1), (2, .int x2), (3, .int x3), (4, .int x4)]) dX7_loan_204 rfl (by decide) (fun _ => rfl) (fun zq1190 eq1191 => ?_)
                                      have tq1192 : zq1190.toInt = b9_76 + 1 := add_nw eq1191 e9_76 (show (Int32.ofInt 1).toInt = 1 by decide) (by omega)
                                      refine g_goto X (tgt := 76) dX7_loan_207 (by decide) ?_
                                      refine g_sub [0, 1, 4, 5, 6, 7, 8, 9, 10, 11] rfl ?_
                                      exact ih76 zq1190 _ tq1192 zq1187 _ rfl (by omega) (by omega)
                                    · refine g_iload X 0 rfl dX7_loan_191 ?_
                                      refine g_if_ne X (show (1 : Int32).toInt = 1 by decide) (tgt := 200) dX7_loan_193 (by decide) (fun cq1193 => ?_) (fun cq1193 => ?_)
                                      · refine g_iconst X 0 dX7_loan_200 (by decide) ?_
                                        refine g_iadd X dX7_loan_201 (fun zq1194 eq1195 => ?_)
                                        refine g_istore X [(8, .int zq1194), (11, .int 1), (10, .int 1), (9, .int y9_76), (7, .int rq37), (6, .int rq33), (5, .int rq29), (0, .ref (ad 47)), (1, .int x1), (2, .int x2), (3, .int x3), (4, .int x4)] dX7_loan_202 (by decide) rfl ?_
                                        refine g_iinc X 3 (fun v => [(9, .int v), (8, .int zq1194), (11, .int 1), (10, .int 1), (7, .int rq37), (6, .int rq33), (5, .int rq29), (0, .ref (ad 47)), (1, .int x1), (2, .int x2), (3, .int x3), (4, .int x4)]) dX7_loan_204 rfl (by decide) (fun _ => rfl) (fun zq1197 eq1198 => ?_)
                                        have tq1199 : zq1197.toInt = b9_76 + 1 := add_nw eq1198 e9_76 (show (Int32.ofInt 1).toInt = 1 by decide) (by omega)
                                        refine g_goto X (tgt := 76) dX7_loan_207 (by decide) ?_
                                        refine g_sub [0, 1, 4, 5, 6, 7, 8, 9, 10, 11] rfl ?_
                                        exact ih76 zq1197 _ tq1199 zq1194 _ rfl (by omega) (by omega)
                                      · refine g_iconst X 1 dX7_loan_196 (by decide) ?_
                                        refine g_goto X (tgt := 201) dX7_loan_197 (by decide) ?_
                                        refine g_iadd X dX7_loan_201 (fun zq1200 eq1201 => ?_)
                                        refine g_istore X [(8, .int zq1200), (11, .int 1), (10, .int 1), (9, .int y9_76), (7, .int rq37), (6, .int rq33), (5, .int rq29), (0, .ref (ad 47)), (1, .int x1), (2, .int x2), (3, .int x3), (4, .int x4)] dX7_loan_202 (by decide) rfl ?_
                                        refine g_iinc X 3 (fun v => [(9, .int v), (8, .int zq1200), (11, .int 1), (10, .int 1), (7, .int rq37), (6, .int rq33), (5, .int rq29), (0, .ref (ad 47)), (1, .int x1), (2, .int x2), (3, .int x3), (4, .int x4)]) dX7_loan_204 rfl (by decide) (fun _ => rfl) (fun zq1203 eq1204 => ?_)
                                        have tq1205 : zq1203.toInt = b9_76 + 1 := add_nw eq1204 e9_76 (show (Int32.ofInt 1).toInt = 1 by decide) (by omega)
                                        refine g_goto X (tgt := 76) dX7_loan_207 (by decide) ?_
                                        refine g_sub [0, 1, 4, 5, 6, 7, 8, 9, 10, 11] rfl ?_
                                        exact ih76 zq1203 _ tq1205 zq1200 _ rfl (by omega) (by omega)
            refine g_sub [0, 1, 2, 3, 4, 5, 6, 7, 8, 9] rfl ?_
            exact lp76 _ 0 _ (show (0 : Int32).toInt = 0 by decide) 0 _ (show (0 : Int32).toInt = 0 by decide) (by omega) (Nat.lt_succ_self _)
          · refine g_bipush X (-2) dX7_loan_39 (by decide) ?_
            exact g_iret X dX7_loan_41 ⟨_, _, rfl, (show ((-2) : Int32).toInt = (-2) by decide), trivial, rfl⟩
      · have pq1206 : ¬ (-1 ≤ a4 ∧ a4 ≤ ((Mq.1 47 53)).toInt) := by omega
        clear hq18 cq19 tq17
        refine g_iconst X (-1) dX7_loan_25 (by decide) ?_
        exact g_iret X dX7_loan_26 ⟨_, _, rfl, (show ((-1) : Int32).toInt = (-1) by decide), trivial, rfl⟩
end
