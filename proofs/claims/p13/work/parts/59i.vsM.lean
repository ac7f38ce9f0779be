section
set_option maxHeartbeats 4000000 in
set_option maxRecDepth 4000 in
theorem c_X7_longOf_E (ad : Nat → Nat) (Mq : Mem) (x1 : Int32) {a1 : Int} (t1 : x1.toInt = a1) (x2 : Int32) {a2 : Int} (t2 : x2.toInt = a2) (h1 : 0 ≤ a1 ∧ a1 < 40) (h2 : 0 ≤ a2 ∧ a2 ≤ 9) : Ctr ad yX7_longOf cX7_longOf 3 (some .int) 0 [.ref (ad 47), .int x1, .int x2] Mq (fun v M' => ∃ (r : Int32) (a : Int), v = some (.int r) ∧ r.toInt = a ∧ (r = (loF (Mq.1 48 a1.toNat) (Mq.1 50 a1.toNat) (Mq.1 51 a2.toNat))) ∧ Mq = M') := by
  refine ctr_of (L := [(0, .ref (ad 47)), (1, .int x1), (2, .int x2)]) (by decide) (Nat.le_of_ble_eq_true rfl) rfl ?_
  intro Γ X
  have X : gX Γ cX7_longOf RX7 3 (some .int) 0 ad _ := X
  refine g_aload_n X 0 rfl dX7_longOf_0 ?_
  refine g_getr X f_X7_7 dX7_longOf_1 ?_
  refine g_iload_n X 1 rfl dX7_longOf_4 ?_
  refine g_iald X la_48 t1 dX7_longOf_5 (by omega) (x := Mq.1 48 a1.toNat) rfl ?_
  refine g_aload_n X 0 rfl dX7_longOf_6 ?_
  refine g_getr X f_X7_16 dX7_longOf_7 ?_
  refine g_iload_n X 1 rfl dX7_longOf_10 ?_
  refine g_iald X la_50 t1 dX7_longOf_11 (by omega) (x := Mq.1 50 a1.toNat) rfl ?_
  refine g_if_ge X rfl (tgt := 19) dX7_longOf_12 (by decide) (fun cq1 => ?_) (fun cq1 => ?_)
  · refine g_aload_n X 0 rfl dX7_longOf_19 ?_
    refine g_getr X f_X7_19 dX7_longOf_20 ?_
    refine g_iload_n X 2 rfl dX7_longOf_23 ?_
    refine g_iald X la_51 t2 dX7_longOf_24 (by omega) (x := Mq.1 51 a2.toNat) rfl ?_
    refine g_iadd X dX7_longOf_25 (fun zq2 eq3 => ?_)
    have kx25 := eq3
    exact g_iret X dX7_longOf_26 ⟨_, _, rfl, rfl, (by first | exact (kx25.trans (Int32.add_zero _)).trans (if_pos (by assumption)).symm | exact kx25.trans (if_neg (by omega)).symm), rfl⟩
  · refine g_iconst X 0 dX7_longOf_15 (by decide) ?_
    refine g_goto X (tgt := 25) dX7_longOf_16 (by decide) ?_
    refine g_iadd X dX7_longOf_25 (fun zq5 eq6 => ?_)
    have kx25 := eq6
    exact g_iret X dX7_longOf_26 ⟨_, _, rfl, rfl, (by first | exact (kx25.trans (Int32.add_zero _)).trans (if_pos (by assumption)).symm | exact kx25.trans (if_neg (by omega)).symm), rfl⟩
set_option maxHeartbeats 4000000 in
set_option maxRecDepth 4000 in
theorem c_X7_heavyOf_E (ad : Nat → Nat) (Mq : Mem) (x1 : Int32) {a1 : Int} (t1 : x1.toInt = a1) (x2 : Int32) {a2 : Int} (t2 : x2.toInt = a2) (h1 : 0 ≤ a1 ∧ a1 < 40) (h2 : 0 ≤ a2 ∧ a2 ≤ 9) : Ctr ad yX7_heavyOf cX7_heavyOf 5 (some .int) 0 [.ref (ad 47), .int x1, .int x2] Mq (fun v M' => ∃ (r : Int32) (a : Int), v = some (.int r) ∧ r.toInt = a ∧ (r = (hvF (Mq.1 49 a1.toNat) (Mq.1 50 a1.toNat) (Mq.1 52 a2.toNat) (Mq.1 51 a2.toNat))) ∧ Mq = M') := by
  refine ctr_of (L := [(0, .ref (ad 47)), (1, .int x1), (2, .int x2)]) (by decide) (Nat.le_of_ble_eq_true rfl) rfl ?_
  intro Γ X
  have X : gX Γ cX7_heavyOf RX7 5 (some .int) 0 ad _ := X
  refine g_aload_n X 0 rfl dX7_heavyOf_0 ?_
  refine g_getr X f_X7_16 dX7_heavyOf_1 ?_
  refine g_iload_n X 1 rfl dX7_heavyOf_4 ?_
  refine g_iald X la_50 t1 dX7_heavyOf_5 (by omega) (x := Mq.1 50 a1.toNat) rfl ?_
  refine g_istore_n X (i := 3) [(3, .int (Mq.1 50 a1.toNat)), (0, .ref (ad 47)), (1, .int x1), (2, .int x2)] dX7_heavyOf_6 rfl (by decide) rfl ?_
  refine g_iload_n X 0 rfl dX7_heavyOf_7 ?_
  refine g_if_ge X rfl (tgt := 18) dX7_heavyOf_8 (by decide) (fun cq1 => ?_) (fun cq1 => ?_)
  · refine g_aload_n X 1 rfl dX7_heavyOf_18 ?_
    refine g_getr X f_X7_13 dX7_heavyOf_19 ?_
    refine g_iload_n X 2 rfl dX7_heavyOf_22 ?_
    refine g_iald X la_49 t1 dX7_heavyOf_23 (by omega) (x := Mq.1 49 a1.toNat) rfl ?_
    refine g_iconst X 1 dX7_heavyOf_24 (by decide) ?_
    refine g_iload_n X 0 rfl dX7_heavyOf_25 ?_
    refine g_ishl X dX7_heavyOf_26 (fun zq2 eq3 => ?_)
    have kx26 := eq3
    refine g_iconst X 1 dX7_heavyOf_27 (by decide) ?_
    refine g_isub X dX7_heavyOf_28 (fun zq5 eq6 => ?_)
    have kx28 := eq6
    refine g_iand X dX7_heavyOf_29 (fun zq8 eq9 => ?_)
    have kx29 := eq9
    refine g_istore X [(4, .int zq8), (3, .int (Mq.1 50 a1.toNat)), (0, .ref (ad 47)), (1, .int x1), (2, .int x2)] dX7_heavyOf_30 (by decide) rfl ?_
    refine g_iload X 0 rfl dX7_heavyOf_32 ?_
    refine g_aload_n X 2 rfl dX7_heavyOf_34 ?_
    refine g_getr X f_X7_22 dX7_heavyOf_35 ?_
    refine g_iload_n X 4 rfl dX7_heavyOf_38 ?_
    refine g_iald X la_52 t2 dX7_heavyOf_39 (by omega) (x := Mq.1 52 a2.toNat) rfl ?_
    refine g_iload_n X 1 rfl dX7_heavyOf_40 ?_
    refine g_ishl X dX7_heavyOf_41 (fun zq11 eq12 => ?_)
    have kx41 := eq12
    refine g_ior X dX7_heavyOf_42 (fun zq14 eq15 => ?_)
    have kx42 := eq15
    refine g_aload_n X 2 rfl dX7_heavyOf_43 ?_
    refine g_getr X f_X7_13 dX7_heavyOf_44 ?_
    refine g_iload_n X 3 rfl dX7_heavyOf_47 ?_
    refine g_iald X la_49 t1 dX7_heavyOf_48 (by omega) (x := Mq.1 49 a1.toNat) rfl ?_
    refine g_iload_n X 1 rfl dX7_heavyOf_49 ?_
    refine g_ishr X dX7_heavyOf_50 (fun zq17 eq18 => ?_)
    have kx50 := eq18
    refine g_iload_n X 1 rfl dX7_heavyOf_51 ?_
    refine g_aload_n X 2 rfl dX7_heavyOf_52 ?_
    refine g_getr X f_X7_19 dX7_heavyOf_53 ?_
    refine g_iload_n X 4 rfl dX7_heavyOf_56 ?_
    refine g_iald X la_51 t2 dX7_heavyOf_57 (by omega) (x := Mq.1 51 a2.toNat) rfl ?_
    refine g_iadd X dX7_heavyOf_58 (fun zq20 eq21 => ?_)
    have kx58 := eq21
    refine g_ishl X dX7_heavyOf_59 (fun zq23 eq24 => ?_)
    have kx59 := eq24
    refine g_ior X dX7_heavyOf_60 (fun zq26 eq27 => ?_)
    have kx60 := eq27
    exact g_iret X dX7_heavyOf_61 ⟨_, _, rfl, rfl, (by first | exact (if_pos (by assumption)).symm | (rw [kx60, kx59, kx58, kx50, kx42, kx41, kx29, kx28, kx26]; exact (if_neg (by omega)).symm)), rfl⟩
  · refine g_aload_n X 1 rfl dX7_heavyOf_11 ?_
    refine g_getr X f_X7_13 dX7_heavyOf_12 ?_
    refine g_iload_n X 2 rfl dX7_heavyOf_15 ?_
    refine g_iald X la_49 t1 dX7_heavyOf_16 (by omega) (x := Mq.1 49 a1.toNat) rfl ?_
    exact g_iret X dX7_heavyOf_17 ⟨_, _, rfl, rfl, (by first | exact (if_pos (by assumption)).symm | (rw [kx60, kx59, kx58, kx50, kx42, kx41, kx29, kx28, kx26]; exact (if_neg (by omega)).symm)), rfl⟩
set_option maxHeartbeats 4000000 in
set_option maxRecDepth 4000 in
theorem c_X7_heavyAll_E (ad : Nat → Nat) (Mq : Mem) (x1 : Int32) {a1 : Int} (t1 : x1.toInt = a1) (x2 : Int32) {a2 : Int} (t2 : x2.toInt = a2) (x3 : Int32) {a3 : Int} (t3 : x3.toInt = a3) (h1 : 0 ≤ a1 ∧ a1 < 40) (h2 : 0 ≤ a2 ∧ a2 < 40) (h3 : 0 ≤ a3 ∧ a3 ≤ 9) : Ctr ad yX7_heavyAll cX7_heavyAll 4 (some .int) 1 [.ref (ad 47), .int x1, .int x2, .int x3] Mq (fun v M' => ∃ (r : Int32) (a : Int), v = some (.int r) ∧ r.toInt = a ∧ (r = (hvF (Mq.1 49 a1.toNat) (Mq.1 50 a1.toNat) (Mq.1 52 a3.toNat) (Mq.1 51 a3.toNat)) ||| ((hvF (Mq.1 49 a2.toNat) (Mq.1 50 a2.toNat) (Mq.1 52 a3.toNat) (Mq.1 51 a3.toNat)) <<< ((loF (Mq.1 48 a1.toNat) (Mq.1 50 a1.toNat) (Mq.1 51 a3.toNat)) &&& 31))) ∧ Mq = M') := by
  refine ctr_of (L := [(0, .ref (ad 47)), (1, .int x1), (2, .int x2), (3, .int x3)]) (by decide) (Nat.le_of_ble_eq_true rfl) rfl ?_
  intro Γ X
  have X : gX Γ cX7_heavyAll RX7 4 (some .int) 1 ad _ := X
  refine g_aload_n X 0 rfl dX7_heavyAll_0 ?_
  refine g_iload_n X 1 rfl dX7_heavyAll_1 ?_
  refine g_iload_n X 3 rfl dX7_heavyAll_2 ?_
  refine g_callV X m_X7_175 (c_X7_heavyOf_E ad Mq x1 t1 x3 t3 (by omega) (by omega)) rfl (by decide) (Nat.le_of_ble_eq_true rfl) rfl dX7_heavyAll_3 ?_
  rintro _ _ ⟨rq1, aq2, rfl, tq3, hq4, rfl⟩
  have hh1 := hq4
  show G Γ Mq 6 [(0, .ref (ad 47)), (1, .int x1), (2, .int x2), (3, .int x3)] [.int rq1]
  refine g_aload_n X 0 rfl dX7_heavyAll_6 ?_
  refine g_iload_n X 2 rfl dX7_heavyAll_7 ?_
  refine g_iload_n X 3 rfl dX7_heavyAll_8 ?_
  refine g_callV X m_X7_175 (c_X7_heavyOf_E ad Mq x2 t2 x3 t3 (by omega) (by omega)) rfl (by decide) (Nat.le_of_ble_eq_true rfl) rfl dX7_heavyAll_9 ?_
  rintro _ _ ⟨rq5, aq6, rfl, tq7, hq8, rfl⟩
  have hh2 := hq8
  show G Γ Mq 12 [(0, .ref (ad 47)), (1, .int x1), (2, .int x2), (3, .int x3)] [.int rq5, .int rq1]
  refine g_aload_n X 0 rfl dX7_heavyAll_12 ?_
  refine g_iload_n X 1 rfl dX7_heavyAll_13 ?_
  refine g_iload_n X 3 rfl dX7_heavyAll_14 ?_
  refine g_callV X m_X7_179 (c_X7_longOf_E ad Mq x1 t1 x3 t3 (by omega) (by omega)) rfl (by decide) (Nat.le_of_ble_eq_true rfl) rfl dX7_heavyAll_15 ?_
  rintro _ _ ⟨rq9, aq10, rfl, tq11, hq12, rfl⟩
  have hl1 := hq12
  show G Γ Mq 18 [(0, .ref (ad 47)), (1, .int x1), (2, .int x2), (3, .int x3)] [.int rq9, .int rq5, .int rq1]
  refine g_ishl X dX7_heavyAll_18 (fun zq13 eq14 => ?_)
  have kx18 := eq14
  refine g_ior X dX7_heavyAll_19 (fun zq16 eq17 => ?_)
  have kx19 := eq17
  exact g_iret X dX7_heavyAll_20 ⟨_, _, rfl, rfl, (by rw [kx19, kx18, hh1, hh2, hl1]), rfl⟩
set_option maxHeartbeats 4000000 in
set_option maxRecDepth 4000 in
theorem c_X7_scans_E (ad : Nat → Nat) (Mq : Mem) (x1 : Int32) {a1 : Int} (t1 : x1.toInt = a1) (x2 : Int32) {a2 : Int} (t2 : x2.toInt = a2) (x3 : Int32) {a3 : Int} (t3 : x3.toInt = a3) (h1 : 0 ≤ a1 ∧ a1 < 40) (h2 : 0 ≤ a2 ∧ a2 < 40) (h3 : 0 ≤ a3 ∧ a3 ≤ 9) : Ctr ad yX7_scans cX7_scans 4 (some .boolean) 2 [.ref (ad 47), .int x1, .int x2, .int x3] Mq (fun v M' => ∃ (r : Int32) (a : Int), v = some (.int r) ∧ r.toInt = a ∧ ((a = 1 ∧ (scb (loF (Mq.1 48 a1.toNat) (Mq.1 50 a1.toNat) (Mq.1 51 a3.toNat)) (hvF (Mq.1 49 a1.toNat) (Mq.1 50 a1.toNat) (Mq.1 52 a3.toNat) (Mq.1 51 a3.toNat)) (loF (Mq.1 48 a2.toNat) (Mq.1 50 a2.toNat) (Mq.1 51 a3.toNat)) (hvF (Mq.1 49 a2.toNat) (Mq.1 50 a2.toNat) (Mq.1 52 a3.toNat) (Mq.1 51 a3.toNat)) (Mq.1 58) = true)) ∨ (a = 0 ∧ ¬ (scb (loF (Mq.1 48 a1.toNat) (Mq.1 50 a1.toNat) (Mq.1 51 a3.toNat)) (hvF (Mq.1 49 a1.toNat) (Mq.1 50 a1.toNat) (Mq.1 52 a3.toNat) (Mq.1 51 a3.toNat)) (loF (Mq.1 48 a2.toNat) (Mq.1 50 a2.toNat) (Mq.1 51 a3.toNat)) (hvF (Mq.1 49 a2.toNat) (Mq.1 50 a2.toNat) (Mq.1 52 a3.toNat) (Mq.1 51 a3.toNat)) (Mq.1 58) = true))) ∧ Mq = M') := by
  refine ctr_of (L := [(0, .ref (ad 47)), (1, .int x1), (2, .int x2), (3, .int x3)]) (by decide) (Nat.le_of_ble_eq_true rfl) rfl ?_
  intro Γ X
  have X : gX Γ cX7_scans RX7 4 (some .boolean) 2 ad _ := X
  refine g_aload_n X 0 rfl dX7_scans_0 ?_
  refine g_iload_n X 1 rfl dX7_scans_1 ?_
  refine g_iload_n X 3 rfl dX7_scans_2 ?_
  refine g_callV X m_X7_179 (c_X7_longOf_E ad Mq x1 t1 x3 t3 (by omega) (by omega)) rfl (by decide) (Nat.le_of_ble_eq_true rfl) rfl dX7_scans_3 ?_
  rintro _ _ ⟨rq1, aq2, rfl, tq3, hq4, rfl⟩
  have hl1 := hq4
  show G Γ Mq 6 [(0, .ref (ad 47)), (1, .int x1), (2, .int x2), (3, .int x3)] [.int rq1]
  refine g_aload_n X 0 rfl dX7_scans_6 ?_
  refine g_getr X f_X7_40 dX7_scans_7 ?_
  refine g_iconst X 0 dX7_scans_10 (by decide) ?_
  refine g_iald X la_58 (show (0 : Int32).toInt = 0 by decide) dX7_scans_11 (by omega) (x := Mq.1 58 0) rfl ?_
  refine g_icmp_ne X tq3 rfl (tgt := 53) dX7_scans_12 (by decide) (fun cq5 => ?_) (fun cq5 => ?_)
  · refine g_iconst X 0 dX7_scans_53 (by decide) ?_
    exact g_zret X (b01 (show (0 : Int32).toInt = 0 by decide) (by omega)) dX7_scans_54 ⟨_, _, rfl, (show (0 : Int32).toInt = 0 by decide), (by first | exact Or.inl ⟨rfl, scb_iff.mpr ⟨by rw [← hl1]; omega, by rw [← hl2]; omega, by rw [← hkey]; exact i0 (by assumption)⟩⟩ | exact Or.inr ⟨rfl, fun z => by have w := (scb_iff.mp z).1; rw [← hl1] at w; omega⟩ | exact Or.inr ⟨rfl, fun z => by have w := (scb_iff.mp z).2.1; rw [← hl2] at w; omega⟩ | exact Or.inr ⟨rfl, fun z => by have w := (scb_iff.mp z).2.2; rw [← hkey] at w; exact absurd (congrArg Int32.toInt w) (by assumption)⟩), rfl⟩
  · refine g_aload_n X 0 rfl dX7_scans_15 ?_
    refine g_iload_n X 2 rfl dX7_scans_16 ?_
    refine g_iload_n X 3 rfl dX7_scans_17 ?_
    refine g_callV X m_X7_179 (c_X7_longOf_E ad Mq x2 t2 x3 t3 (by omega) (by omega)) rfl (by decide) (Nat.le_of_ble_eq_true rfl) rfl dX7_scans_18 ?_
    rintro _ _ ⟨rq6, aq7, rfl, tq8, hq9, rfl⟩
    have hl2 := hq9
    show G Γ Mq 21 [(0, .ref (ad 47)), (1, .int x1), (2, .int x2), (3, .int x3)] [.int rq6]
    refine g_aload_n X 0 rfl dX7_scans_21 ?_
    refine g_getr X f_X7_40 dX7_scans_22 ?_
    refine g_iconst X 1 dX7_scans_25 (by decide) ?_
    refine g_iald X la_58 (show (1 : Int32).toInt = 1 by decide) dX7_scans_26 (by omega) (x := Mq.1 58 1) rfl ?_
    refine g_icmp_ne X tq8 rfl (tgt := 53) dX7_scans_27 (by decide) (fun cq10 => ?_) (fun cq10 => ?_)
    · refine g_iconst X 0 dX7_scans_53 (by decide) ?_
      exact g_zret X (b01 (show (0 : Int32).toInt = 0 by decide) (by omega)) dX7_scans_54 ⟨_, _, rfl, (show (0 : Int32).toInt = 0 by decide), (by first | exact Or.inl ⟨rfl, scb_iff.mpr ⟨by rw [← hl1]; omega, by rw [← hl2]; omega, by rw [← hkey]; exact i0 (by assumption)⟩⟩ | exact Or.inr ⟨rfl, fun z => by have w := (scb_iff.mp z).1; rw [← hl1] at w; omega⟩ | exact Or.inr ⟨rfl, fun z => by have w := (scb_iff.mp z).2.1; rw [← hl2] at w; omega⟩ | exact Or.inr ⟨rfl, fun z => by have w := (scb_iff.mp z).2.2; rw [← hkey] at w; exact absurd (congrArg Int32.toInt w) (by assumption)⟩), rfl⟩
    · refine g_aload_n X 0 rfl dX7_scans_30 ?_
      refine g_getr X f_X7_40 dX7_scans_31 ?_
      refine g_iconst X 2 dX7_scans_34 (by decide) ?_
      refine g_iald X la_58 (show (2 : Int32).toInt = 2 by decide) dX7_scans_35 (by omega) (x := Mq.1 58 2) rfl ?_
      refine g_aload_n X 0 rfl dX7_scans_36 ?_
      refine g_iload_n X 1 rfl dX7_scans_37 ?_
      refine g_iload_n X 2 rfl dX7_scans_38 ?_
      refine g_iload_n X 3 rfl dX7_scans_39 ?_
      refine g_callV X m_X7_182 (c_X7_heavyAll_E ad Mq x1 t1 x2 t2 x3 t3 (by omega) (by omega) (by omega)) rfl (by decide) (Nat.le_of_ble_eq_true rfl) rfl dX7_scans_40 ?_
      rintro _ _ ⟨rq11, aq12, rfl, tq13, hq14, rfl⟩
      have hha := hq14
      show G Γ Mq 43 [(0, .ref (ad 47)), (1, .int x1), (2, .int x2), (3, .int x3)] [.int rq11, .int (Mq.1 58 2)]
      refine g_iconst X (-1) dX7_scans_43 (by decide) ?_
      refine g_ixor X dX7_scans_44 (fun zq15 eq16 => ?_)
      have kx44 := eq16
      refine g_iand X dX7_scans_45 (fun zq18 eq19 => ?_)
      have hkey : zq18 = Mq.1 58 2 &&& (((hvF (Mq.1 49 a1.toNat) (Mq.1 50 a1.toNat) (Mq.1 52 a3.toNat) (Mq.1 51 a3.toNat)) ||| ((hvF (Mq.1 49 a2.toNat) (Mq.1 50 a2.toNat) (Mq.1 52 a3.toNat) (Mq.1 51 a3.toNat)) <<< ((loF (Mq.1 48 a1.toNat) (Mq.1 50 a1.toNat) (Mq.1 51 a3.toNat)) &&& 31))) ^^^ (-1)) := by rw [eq19, kx44, hha]
      refine g_if_ne X rfl (tgt := 53) dX7_scans_46 (by decide) (fun cq21 => ?_) (fun cq21 => ?_)
      · refine g_iconst X 0 dX7_scans_53 (by decide) ?_
        exact g_zret X (b01 (show (0 : Int32).toInt = 0 by decide) (by omega)) dX7_scans_54 ⟨_, _, rfl, (show (0 : Int32).toInt = 0 by decide), (by first | exact Or.inl ⟨rfl, scb_iff.mpr ⟨by rw [← hl1]; omega, by rw [← hl2]; omega, by rw [← hkey]; exact i0 (by assumption)⟩⟩ | exact Or.inr ⟨rfl, fun z => by have w := (scb_iff.mp z).1; rw [← hl1] at w; omega⟩ | exact Or.inr ⟨rfl, fun z => by have w := (scb_iff.mp z).2.1; rw [← hl2] at w; omega⟩ | exact Or.inr ⟨rfl, fun z => by have w := (scb_iff.mp z).2.2; rw [← hkey] at w; exact absurd (congrArg Int32.toInt w) (by assumption)⟩), rfl⟩
      · refine g_iconst X 1 dX7_scans_49 (by decide) ?_
        refine g_goto X (tgt := 54) dX7_scans_50 (by decide) ?_
        exact g_zret X (b01 (show (1 : Int32).toInt = 1 by decide) (by omega)) dX7_scans_54 ⟨_, _, rfl, (show (1 : Int32).toInt = 1 by decide), (by first | exact Or.inl ⟨rfl, scb_iff.mpr ⟨by rw [← hl1]; omega, by rw [← hl2]; omega, by rw [← hkey]; exact i0 (by assumption)⟩⟩ | exact Or.inr ⟨rfl, fun z => by have w := (scb_iff.mp z).1; rw [← hl1] at w; omega⟩ | exact Or.inr ⟨rfl, fun z => by have w := (scb_iff.mp z).2.1; rw [← hl2] at w; omega⟩ | exact Or.inr ⟨rfl, fun z => by have w := (scb_iff.mp z).2.2; rw [← hkey] at w; exact absurd (congrArg Int32.toInt w) (by assumption)⟩), rfl⟩
end
