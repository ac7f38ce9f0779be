section
set_option maxHeartbeats 4000000 in
set_option maxRecDepth 4000 in
theorem c_X6_bit_E (ad : Nat → Nat) (Mq : Mem) (x1 : Int64) {a1 : Int} (t1 : x1.toInt = a1) (x2 : Int32) {a2 : Int} (t2 : x2.toInt = a2) (h2 : 0 ≤ a2 ∧ a2 < 64) : Ctr ad yX6_bit cX6_bit 3 (some .int) 0 [.long x1, .int x2] Mq (fun v M' => ∃ (r : Int32) (a : Int), v = some (.int r) ∧ r.toInt = a ∧ ((a = 1 ∧ (b64 x1 a2.toNat = true)) ∨ (a = 0 ∧ ¬ (b64 x1 a2.toNat = true))) ∧ Mq = M') := by
  refine ctr_of (L := [(0, .long x1), (2, .int x2)]) (by decide) (Nat.le_of_ble_eq_true rfl) rfl ?_
  intro Γ X
  have X : gX Γ cX6_bit RX6 3 (some .int) 0 ad _ := X
  refine g_lload_n X 0 rfl dX6_bit_0 ?_
  refine g_iload_n X 1 rfl dX6_bit_1 ?_
  refine g_lushr X dX6_bit_2 (fun zq1 eq2 => ?_)
  have hq1 := eq2
  refine g_lconst X 1 dX6_bit_3 (by decide) ?_
  refine g_land X dX6_bit_4 (fun zq3 eq4 => ?_)
  have hq2 := eq4
  refine g_l2i X dX6_bit_5 (fun zq5 eq6 => ?_)
  have hq3 := eq6
  exact g_iret X dX6_bit_6 ⟨_, _, rfl, rfl, (bit_spec t2 h2 hq1 hq2 hq3), rfl⟩
set_option maxHeartbeats 4000000 in
set_option maxRecDepth 4000 in
theorem c_X5_sungBeats_E (ad : Nat → Nat) (Mq : Mem) (x1 : Int32) {a1 : Int} (t1 : x1.toInt = a1) (x2 : Int32) {a2 : Int} (t2 : x2.toInt = a2) (h1 : 0 ≤ a1 ∧ a1 < 40) (h2 : 0 ≤ a2 ∧ a2 ≤ 9) : Ctr ad yX5_sungBeats cX5_sungBeats 3 (some .int) 0 [.ref (ad 1), .int x1, .int x2] Mq (fun v M' => ∃ (r : Int32) (a : Int), v = some (.int r) ∧ r.toInt = a ∧ (r = (loF (Mq.1 2 a1.toNat) (Mq.1 4 a1.toNat) (Mq.1 5 a2.toNat))) ∧ Mq = M') := by
  refine ctr_of (L := [(0, .ref (ad 1)), (1, .int x1), (2, .int x2)]) (by decide) (Nat.le_of_ble_eq_true rfl) rfl ?_
  intro Γ X
  have X : gX Γ cX5_sungBeats RX5 3 (some .int) 0 ad _ := X
  refine g_aload_n X 0 rfl dX5_sungBeats_0 ?_
  refine g_getr X f_X5_18 dX5_sungBeats_1 ?_
  refine g_iload_n X 1 rfl dX5_sungBeats_4 ?_
  refine g_iald X la_4 t1 dX5_sungBeats_5 (by omega) (x := Mq.1 4 a1.toNat) rfl ?_
  refine g_if_ge X rfl (tgt := 18) dX5_sungBeats_6 (by decide) (fun cq1 => ?_) (fun cq1 => ?_)
  · refine g_aload_n X 0 rfl dX5_sungBeats_18 ?_
    refine g_getr X f_X5_9 dX5_sungBeats_19 ?_
    refine g_iload_n X 1 rfl dX5_sungBeats_22 ?_
    refine g_iald X la_2 t1 dX5_sungBeats_23 (by omega) (x := Mq.1 2 a1.toNat) rfl ?_
    refine g_aload_n X 0 rfl dX5_sungBeats_24 ?_
    refine g_getr X f_X5_25 dX5_sungBeats_25 ?_
    refine g_iload_n X 2 rfl dX5_sungBeats_28 ?_
    refine g_iald X la_5 t2 dX5_sungBeats_29 (by omega) (x := Mq.1 5 a2.toNat) rfl ?_
    refine g_iadd X dX5_sungBeats_30 (fun zq2 eq3 => ?_)
    have kx30 := eq3
    exact g_iret X dX5_sungBeats_31 ⟨_, _, rfl, rfl, (by first | exact (if_pos (by assumption)).symm | exact kx30.trans (if_neg (by omega)).symm), rfl⟩
  · refine g_aload_n X 0 rfl dX5_sungBeats_9 ?_
    refine g_getr X f_X5_9 dX5_sungBeats_10 ?_
    refine g_iload_n X 1 rfl dX5_sungBeats_13 ?_
    refine g_iald X la_2 t1 dX5_sungBeats_14 (by omega) (x := Mq.1 2 a1.toNat) rfl ?_
    refine g_goto X (tgt := 31) dX5_sungBeats_15 (by decide) ?_
    exact g_iret X dX5_sungBeats_31 ⟨_, _, rfl, rfl, (by first | exact (if_pos (by assumption)).symm | exact kx30.trans (if_neg (by omega)).symm), rfl⟩
set_option maxHeartbeats 4000000 in
set_option maxRecDepth 4000 in
theorem c_X5_sungHeavy_E (ad : Nat → Nat) (Mq : Mem) (x1 : Int32) {a1 : Int} (t1 : x1.toInt = a1) (x2 : Int32) {a2 : Int} (t2 : x2.toInt = a2) (h1 : 0 ≤ a1 ∧ a1 < 40) (h2 : 0 ≤ a2 ∧ a2 ≤ 9) : Ctr ad yX5_sungHeavy cX5_sungHeavy 7 (some .int) 0 [.ref (ad 1), .int x1, .int x2] Mq (fun v M' => ∃ (r : Int32) (a : Int), v = some (.int r) ∧ r.toInt = a ∧ (r = (hvF (Mq.1 3 a1.toNat) (Mq.1 4 a1.toNat) (Mq.1 6 a2.toNat) (Mq.1 5 a2.toNat))) ∧ Mq = M') := by
  refine ctr_of (L := [(0, .ref (ad 1)), (1, .int x1), (2, .int x2)]) (by decide) (Nat.le_of_ble_eq_true rfl) rfl ?_
  intro Γ X
  have X : gX Γ cX5_sungHeavy RX5 7 (some .int) 0 ad _ := X
  refine g_aload_n X 0 rfl dX5_sungHeavy_0 ?_
  refine g_getr X f_X5_18 dX5_sungHeavy_1 ?_
  refine g_iload_n X 1 rfl dX5_sungHeavy_4 ?_
  refine g_iald X la_4 t1 dX5_sungHeavy_5 (by omega) (x := Mq.1 4 a1.toNat) rfl ?_
  refine g_istore_n X (i := 3) [(3, .int (Mq.1 4 a1.toNat)), (0, .ref (ad 1)), (1, .int x1), (2, .int x2)] dX5_sungHeavy_6 rfl (by decide) rfl ?_
  refine g_aload_n X 1 rfl dX5_sungHeavy_7 ?_
  refine g_getr X f_X5_15 dX5_sungHeavy_8 ?_
  refine g_iload_n X 2 rfl dX5_sungHeavy_11 ?_
  refine g_iald X la_3 t1 dX5_sungHeavy_12 (by omega) (x := Mq.1 3 a1.toNat) rfl ?_
  refine g_istore X [(4, .int (Mq.1 3 a1.toNat)), (3, .int (Mq.1 4 a1.toNat)), (0, .ref (ad 1)), (1, .int x1), (2, .int x2)] dX5_sungHeavy_13 (by decide) rfl ?_
  refine g_iload_n X 1 rfl dX5_sungHeavy_15 ?_
  refine g_if_ge X rfl (tgt := 22) dX5_sungHeavy_16 (by decide) (fun cq1 => ?_) (fun cq1 => ?_)
  · refine g_iload X 0 rfl dX5_sungHeavy_22 ?_
    refine g_iconst X 1 dX5_sungHeavy_24 (by decide) ?_
    refine g_iload_n X 1 rfl dX5_sungHeavy_25 ?_
    refine g_ishl X dX5_sungHeavy_26 (fun zq2 eq3 => ?_)
    have kx26 := eq3
    refine g_iconst X 1 dX5_sungHeavy_27 (by decide) ?_
    refine g_isub X dX5_sungHeavy_28 (fun zq5 eq6 => ?_)
    have kx28 := eq6
    refine g_iand X dX5_sungHeavy_29 (fun zq8 eq9 => ?_)
    have kx29 := eq9
    refine g_istore X [(5, .int zq8), (4, .int (Mq.1 3 a1.toNat)), (3, .int (Mq.1 4 a1.toNat)), (0, .ref (ad 1)), (1, .int x1), (2, .int x2)] dX5_sungHeavy_30 (by decide) rfl ?_
    refine g_iload X 1 rfl dX5_sungHeavy_32 ?_
    refine g_iload_n X 2 rfl dX5_sungHeavy_34 ?_
    refine g_ishr X dX5_sungHeavy_35 (fun zq11 eq12 => ?_)
    have kx35 := eq12
    refine g_istore X [(6, .int zq11), (5, .int zq8), (4, .int (Mq.1 3 a1.toNat)), (3, .int (Mq.1 4 a1.toNat)), (0, .ref (ad 1)), (1, .int x1), (2, .int x2)] dX5_sungHeavy_36 (by decide) rfl ?_
    refine g_iload X 1 rfl dX5_sungHeavy_38 ?_
    refine g_aload_n X 4 rfl dX5_sungHeavy_40 ?_
    refine g_getr X f_X5_28 dX5_sungHeavy_41 ?_
    refine g_iload_n X 6 rfl dX5_sungHeavy_44 ?_
    refine g_iald X la_6 t2 dX5_sungHeavy_45 (by omega) (x := Mq.1 6 a2.toNat) rfl ?_
    refine g_iload_n X 3 rfl dX5_sungHeavy_46 ?_
    refine g_ishl X dX5_sungHeavy_47 (fun zq14 eq15 => ?_)
    have kx47 := eq15
    refine g_ior X dX5_sungHeavy_48 (fun zq17 eq18 => ?_)
    have kx48 := eq18
    refine g_iload X 0 rfl dX5_sungHeavy_49 ?_
    refine g_iload_n X 3 rfl dX5_sungHeavy_51 ?_
    refine g_aload_n X 4 rfl dX5_sungHeavy_52 ?_
    refine g_getr X f_X5_25 dX5_sungHeavy_53 ?_
    refine g_iload_n X 6 rfl dX5_sungHeavy_56 ?_
    refine g_iald X la_5 t2 dX5_sungHeavy_57 (by omega) (x := Mq.1 5 a2.toNat) rfl ?_
    refine g_iadd X dX5_sungHeavy_58 (fun zq20 eq21 => ?_)
    have kx58 := eq21
    refine g_ishl X dX5_sungHeavy_59 (fun zq23 eq24 => ?_)
    have kx59 := eq24
    refine g_ior X dX5_sungHeavy_60 (fun zq26 eq27 => ?_)
    have kx60 := eq27
    exact g_iret X dX5_sungHeavy_61 ⟨_, _, rfl, rfl, (by first | exact (if_pos (by assumption)).symm | (rw [kx60, kx59, kx58, kx48, kx47, kx35, kx29, kx28, kx26]; exact (if_neg (by omega)).symm)), rfl⟩
  · refine g_iload X 0 rfl dX5_sungHeavy_19 ?_
    exact g_iret X dX5_sungHeavy_21 ⟨_, _, rfl, rfl, (by first | exact (if_pos (by assumption)).symm | (rw [kx60, kx59, kx58, kx48, kx47, kx35, kx29, kx28, kx26]; exact (if_neg (by omega)).symm)), rfl⟩
set_option maxHeartbeats 4000000 in
set_option maxRecDepth 4000 in
theorem c_X5_fitsFirst_E (ad : Nat → Nat) (Mq : Mem) (x1 : Int32) {a1 : Int} (t1 : x1.toInt = a1) (x2 : Int32) {a2 : Int} (t2 : x2.toInt = a2) (h1 : 0 ≤ a1 ∧ a1 < 40) (h2 : 0 ≤ a2 ∧ a2 ≤ 9) : Ctr ad yX5_fitsFirst cX5_fitsFirst 4 (some .boolean) 1 [.ref (ad 1), .int x1, .int x2] Mq (fun v M' => ∃ (r : Int32) (a : Int), v = some (.int r) ∧ r.toInt = a ∧ ((a = 1 ∧ (ffb (loF (Mq.1 2 a1.toNat) (Mq.1 4 a1.toNat) (Mq.1 5 a2.toNat)) (hvF (Mq.1 3 a1.toNat) (Mq.1 4 a1.toNat) (Mq.1 6 a2.toNat) (Mq.1 5 a2.toNat)) (Mq.1 12) = true)) ∨ (a = 0 ∧ ¬ (ffb (loF (Mq.1 2 a1.toNat) (Mq.1 4 a1.toNat) (Mq.1 5 a2.toNat)) (hvF (Mq.1 3 a1.toNat) (Mq.1 4 a1.toNat) (Mq.1 6 a2.toNat) (Mq.1 5 a2.toNat)) (Mq.1 12) = true))) ∧ Mq = M') := by
  refine ctr_of (L := [(0, .ref (ad 1)), (1, .int x1), (2, .int x2)]) (by decide) (Nat.le_of_ble_eq_true rfl) rfl ?_
  intro Γ X
  have X : gX Γ cX5_fitsFirst RX5 4 (some .boolean) 1 ad _ := X
  refine g_aload_n X 0 rfl dX5_fitsFirst_0 ?_
  refine g_getr X f_X5_54 dX5_fitsFirst_1 ?_
  refine g_iconst X 2 dX5_fitsFirst_4 (by decide) ?_
  refine g_iald X la_12 (show (2 : Int32).toInt = 2 by decide) dX5_fitsFirst_5 (by omega) (x := Mq.1 12 2) rfl ?_
  refine g_iconst X 1 dX5_fitsFirst_6 (by decide) ?_
  refine g_aload_n X 0 rfl dX5_fitsFirst_7 ?_
  refine g_getr X f_X5_54 dX5_fitsFirst_8 ?_
  refine g_iconst X 0 dX5_fitsFirst_11 (by decide) ?_
  refine g_iald X la_12 (show (0 : Int32).toInt = 0 by decide) dX5_fitsFirst_12 (by omega) (x := Mq.1 12 0) rfl ?_
  refine g_ishl X dX5_fitsFirst_13 (fun zq1 eq2 => ?_)
  have kx13 := eq2
  refine g_iconst X 1 dX5_fitsFirst_14 (by decide) ?_
  refine g_isub X dX5_fitsFirst_15 (fun zq4 eq5 => ?_)
  have kx15 := eq5
  refine g_iand X dX5_fitsFirst_16 (fun zq7 eq8 => ?_)
  have kx16 := eq8
  refine g_istore_n X (i := 3) [(3, .int zq7), (0, .ref (ad 1)), (1, .int x1), (2, .int x2)] dX5_fitsFirst_17 rfl (by decide) rfl ?_
  refine g_aload_n X 1 rfl dX5_fitsFirst_18 ?_
  refine g_iload_n X 2 rfl dX5_fitsFirst_19 ?_
  refine g_iload_n X 3 rfl dX5_fitsFirst_20 ?_
  refine g_callV X m_X5_69 (c_X5_sungBeats_E ad Mq x1 t1 x2 t2 (by omega) (by omega)) rfl (by decide) (Nat.le_of_ble_eq_true rfl) rfl dX5_fitsFirst_21 ?_
  rintro _ _ ⟨rq10, aq11, rfl, tq12, hq13, rfl⟩
  have hlo := hq13
  show G Γ Mq 24 [(3, .int zq7), (0, .ref (ad 1)), (1, .int x1), (2, .int x2)] [.int rq10]
  refine g_aload_n X 1 rfl dX5_fitsFirst_24 ?_
  refine g_getr X f_X5_54 dX5_fitsFirst_25 ?_
  refine g_iconst X 0 dX5_fitsFirst_28 (by decide) ?_
  refine g_iald X la_12 (show (0 : Int32).toInt = 0 by decide) dX5_fitsFirst_29 (by omega) (x := Mq.1 12 0) rfl ?_
  refine g_icmp_ne X tq12 rfl (tgt := 50) dX5_fitsFirst_30 (by decide) (fun cq14 => ?_) (fun cq14 => ?_)
  · refine g_iconst X 0 dX5_fitsFirst_50 (by decide) ?_
    exact g_zret X (b01 (show (0 : Int32).toInt = 0 by decide) (by omega)) dX5_fitsFirst_51 ⟨_, _, rfl, (show (0 : Int32).toInt = 0 by decide), (by first | exact Or.inl ⟨rfl, ffb_iff.mpr ⟨by rw [← hlo]; omega, by rw [← hkey]; exact i0 (by assumption)⟩⟩ | exact Or.inr ⟨rfl, fun z => by have w := (ffb_iff.mp z).1; rw [← hlo] at w; omega⟩ | exact Or.inr ⟨rfl, fun z => by have w := (ffb_iff.mp z).2; rw [← hkey] at w; exact absurd (congrArg Int32.toInt w) (by assumption)⟩), rfl⟩
  · refine g_iload_n X 0 rfl dX5_fitsFirst_33 ?_
    refine g_aload_n X 1 rfl dX5_fitsFirst_34 ?_
    refine g_iload_n X 2 rfl dX5_fitsFirst_35 ?_
    refine g_iload_n X 3 rfl dX5_fitsFirst_36 ?_
    refine g_callV X m_X5_73 (c_X5_sungHeavy_E ad Mq x1 t1 x2 t2 (by omega) (by omega)) rfl (by decide) (Nat.le_of_ble_eq_true rfl) rfl dX5_fitsFirst_37 ?_
    rintro _ _ ⟨rq15, aq16, rfl, tq17, hq18, rfl⟩
    have hhv := hq18
    show G Γ Mq 40 [(3, .int zq7), (0, .ref (ad 1)), (1, .int x1), (2, .int x2)] [.int rq15, .int zq7]
    refine g_iconst X (-1) dX5_fitsFirst_40 (by decide) ?_
    refine g_ixor X dX5_fitsFirst_41 (fun zq19 eq20 => ?_)
    have kx41 := eq20
    refine g_iand X dX5_fitsFirst_42 (fun zq22 eq23 => ?_)
    have hkey : zq22 = (Mq.1 12 2 &&& (((1 : Int32) <<< (Mq.1 12 0 &&& 31)) - 1)) &&& ((hvF (Mq.1 3 a1.toNat) (Mq.1 4 a1.toNat) (Mq.1 6 a2.toNat) (Mq.1 5 a2.toNat)) ^^^ (-1)) := by rw [eq23, kx41, hhv, kx16, kx15, kx13]
    refine g_if_ne X rfl (tgt := 50) dX5_fitsFirst_43 (by decide) (fun cq25 => ?_) (fun cq25 => ?_)
    · refine g_iconst X 0 dX5_fitsFirst_50 (by decide) ?_
      exact g_zret X (b01 (show (0 : Int32).toInt = 0 by decide) (by omega)) dX5_fitsFirst_51 ⟨_, _, rfl, (show (0 : Int32).toInt = 0 by decide), (by first | exact Or.inl ⟨rfl, ffb_iff.mpr ⟨by rw [← hlo]; omega, by rw [← hkey]; exact i0 (by assumption)⟩⟩ | exact Or.inr ⟨rfl, fun z => by have w := (ffb_iff.mp z).1; rw [← hlo] at w; omega⟩ | exact Or.inr ⟨rfl, fun z => by have w := (ffb_iff.mp z).2; rw [← hkey] at w; exact absurd (congrArg Int32.toInt w) (by assumption)⟩), rfl⟩
    · refine g_iconst X 1 dX5_fitsFirst_46 (by decide) ?_
      refine g_goto X (tgt := 51) dX5_fitsFirst_47 (by decide) ?_
      exact g_zret X (b01 (show (1 : Int32).toInt = 1 by decide) (by omega)) dX5_fitsFirst_51 ⟨_, _, rfl, (show (1 : Int32).toInt = 1 by decide), (by first | exact Or.inl ⟨rfl, ffb_iff.mpr ⟨by rw [← hlo]; omega, by rw [← hkey]; exact i0 (by assumption)⟩⟩ | exact Or.inr ⟨rfl, fun z => by have w := (ffb_iff.mp z).1; rw [← hlo] at w; omega⟩ | exact Or.inr ⟨rfl, fun z => by have w := (ffb_iff.mp z).2; rw [← hkey] at w; exact absurd (congrArg Int32.toInt w) (by assumption)⟩), rfl⟩
set_option maxHeartbeats 4000000 in
set_option maxRecDepth 4000 in
theorem c_X5_fitsSecond_E (ad : Nat → Nat) (Mq : Mem) (x1 : Int32) {a1 : Int} (t1 : x1.toInt = a1) (x2 : Int32) {a2 : Int} (t2 : x2.toInt = a2) (h1 : 0 ≤ a1 ∧ a1 < 40) (h2 : 0 ≤ a2 ∧ a2 ≤ 9) : Ctr ad yX5_fitsSecond cX5_fitsSecond 4 (some .boolean) 1 [.ref (ad 1), .int x1, .int x2] Mq (fun v M' => ∃ (r : Int32) (a : Int), v = some (.int r) ∧ r.toInt = a ∧ ((a = 1 ∧ (fsb (loF (Mq.1 2 a1.toNat) (Mq.1 4 a1.toNat) (Mq.1 5 a2.toNat)) (hvF (Mq.1 3 a1.toNat) (Mq.1 4 a1.toNat) (Mq.1 6 a2.toNat) (Mq.1 5 a2.toNat)) (Mq.1 12) = true)) ∨ (a = 0 ∧ ¬ (fsb (loF (Mq.1 2 a1.toNat) (Mq.1 4 a1.toNat) (Mq.1 5 a2.toNat)) (hvF (Mq.1 3 a1.toNat) (Mq.1 4 a1.toNat) (Mq.1 6 a2.toNat) (Mq.1 5 a2.toNat)) (Mq.1 12) = true))) ∧ Mq = M') := by
  refine ctr_of (L := [(0, .ref (ad 1)), (1, .int x1), (2, .int x2)]) (by decide) (Nat.le_of_ble_eq_true rfl) rfl ?_
  intro Γ X
  have X : gX Γ cX5_fitsSecond RX5 4 (some .boolean) 1 ad _ := X
  refine g_aload_n X 0 rfl dX5_fitsSecond_0 ?_
  refine g_getr X f_X5_54 dX5_fitsSecond_1 ?_
  refine g_iconst X 2 dX5_fitsSecond_4 (by decide) ?_
  refine g_iald X la_12 (show (2 : Int32).toInt = 2 by decide) dX5_fitsSecond_5 (by omega) (x := Mq.1 12 2) rfl ?_
  refine g_aload_n X 0 rfl dX5_fitsSecond_6 ?_
  refine g_getr X f_X5_54 dX5_fitsSecond_7 ?_
  refine g_iconst X 0 dX5_fitsSecond_10 (by decide) ?_
  refine g_iald X la_12 (show (0 : Int32).toInt = 0 by decide) dX5_fitsSecond_11 (by omega) (x := Mq.1 12 0) rfl ?_
  refine g_ishr X dX5_fitsSecond_12 (fun zq1 eq2 => ?_)
  have kx12 := eq2
  refine g_istore_n X (i := 3) [(3, .int zq1), (0, .ref (ad 1)), (1, .int x1), (2, .int x2)] dX5_fitsSecond_13 rfl (by decide) rfl ?_
  refine g_aload_n X 1 rfl dX5_fitsSecond_14 ?_
  refine g_iload_n X 2 rfl dX5_fitsSecond_15 ?_
  refine g_iload_n X 3 rfl dX5_fitsSecond_16 ?_
  refine g_callV X m_X5_69 (c_X5_sungBeats_E ad Mq x1 t1 x2 t2 (by omega) (by omega)) rfl (by decide) (Nat.le_of_ble_eq_true rfl) rfl dX5_fitsSecond_17 ?_
  rintro _ _ ⟨rq4, aq5, rfl, tq6, hq7, rfl⟩
  have hlo := hq7
  show G Γ Mq 20 [(3, .int zq1), (0, .ref (ad 1)), (1, .int x1), (2, .int x2)] [.int rq4]
  refine g_aload_n X 1 rfl dX5_fitsSecond_20 ?_
  refine g_getr X f_X5_54 dX5_fitsSecond_21 ?_
  refine g_iconst X 1 dX5_fitsSecond_24 (by decide) ?_
  refine g_iald X la_12 (show (1 : Int32).toInt = 1 by decide) dX5_fitsSecond_25 (by omega) (x := Mq.1 12 1) rfl ?_
  refine g_icmp_ne X tq6 rfl (tgt := 46) dX5_fitsSecond_26 (by decide) (fun cq8 => ?_) (fun cq8 => ?_)
  · refine g_iconst X 0 dX5_fitsSecond_46 (by decide) ?_
    exact g_zret X (b01 (show (0 : Int32).toInt = 0 by decide) (by omega)) dX5_fitsSecond_47 ⟨_, _, rfl, (show (0 : Int32).toInt = 0 by decide), (by first | exact Or.inl ⟨rfl, fsb_iff.mpr ⟨by rw [← hlo]; omega, by rw [← hkey]; exact i0 (by assumption)⟩⟩ | exact Or.inr ⟨rfl, fun z => by have w := (fsb_iff.mp z).1; rw [← hlo] at w; omega⟩ | exact Or.inr ⟨rfl, fun z => by have w := (fsb_iff.mp z).2; rw [← hkey] at w; exact absurd (congrArg Int32.toInt w) (by assumption)⟩), rfl⟩
  · refine g_iload_n X 0 rfl dX5_fitsSecond_29 ?_
    refine g_aload_n X 1 rfl dX5_fitsSecond_30 ?_
    refine g_iload_n X 2 rfl dX5_fitsSecond_31 ?_
    refine g_iload_n X 3 rfl dX5_fitsSecond_32 ?_
    refine g_callV X m_X5_73 (c_X5_sungHeavy_E ad Mq x1 t1 x2 t2 (by omega) (by omega)) rfl (by decide) (Nat.le_of_ble_eq_true rfl) rfl dX5_fitsSecond_33 ?_
    rintro _ _ ⟨rq9, aq10, rfl, tq11, hq12, rfl⟩
    have hhv := hq12
    show G Γ Mq 36 [(3, .int zq1), (0, .ref (ad 1)), (1, .int x1), (2, .int x2)] [.int rq9, .int zq1]
    refine g_iconst X (-1) dX5_fitsSecond_36 (by decide) ?_
    refine g_ixor X dX5_fitsSecond_37 (fun zq13 eq14 => ?_)
    have kx37 := eq14
    refine g_iand X dX5_fitsSecond_38 (fun zq16 eq17 => ?_)
    have hkey : zq16 = (Mq.1 12 2 >>> (Mq.1 12 0 &&& 31)) &&& ((hvF (Mq.1 3 a1.toNat) (Mq.1 4 a1.toNat) (Mq.1 6 a2.toNat) (Mq.1 5 a2.toNat)) ^^^ (-1)) := by rw [eq17, kx37, hhv, kx12]
    refine g_if_ne X rfl (tgt := 46) dX5_fitsSecond_39 (by decide) (fun cq19 => ?_) (fun cq19 => ?_)
    · refine g_iconst X 0 dX5_fitsSecond_46 (by decide) ?_
      exact g_zret X (b01 (show (0 : Int32).toInt = 0 by decide) (by omega)) dX5_fitsSecond_47 ⟨_, _, rfl, (show (0 : Int32).toInt = 0 by decide), (by first | exact Or.inl ⟨rfl, fsb_iff.mpr ⟨by rw [← hlo]; omega, by rw [← hkey]; exact i0 (by assumption)⟩⟩ | exact Or.inr ⟨rfl, fun z => by have w := (fsb_iff.mp z).1; rw [← hlo] at w; omega⟩ | exact Or.inr ⟨rfl, fun z => by have w := (fsb_iff.mp z).2; rw [← hkey] at w; exact absurd (congrArg Int32.toInt w) (by assumption)⟩), rfl⟩
    · refine g_iconst X 1 dX5_fitsSecond_42 (by decide) ?_
      refine g_goto X (tgt := 47) dX5_fitsSecond_43 (by decide) ?_
      exact g_zret X (b01 (show (1 : Int32).toInt = 1 by decide) (by omega)) dX5_fitsSecond_47 ⟨_, _, rfl, (show (1 : Int32).toInt = 1 by decide), (by first | exact Or.inl ⟨rfl, fsb_iff.mpr ⟨by rw [← hlo]; omega, by rw [← hkey]; exact i0 (by assumption)⟩⟩ | exact Or.inr ⟨rfl, fun z => by have w := (fsb_iff.mp z).1; rw [← hlo] at w; omega⟩ | exact Or.inr ⟨rfl, fun z => by have w := (fsb_iff.mp z).2; rw [← hkey] at w; exact absurd (congrArg Int32.toInt w) (by assumption)⟩), rfl⟩
set_option maxHeartbeats 4000000 in
set_option maxRecDepth 4000 in
theorem c_X5_scans_E (ad : Nat → Nat) (Mq : Mem) (x1 : Int32) {a1 : Int} (t1 : x1.toInt = a1) (Iq0 : Iv TX Mq) (h1 : 0 ≤ a1 ∧ a1 < 40) : Ctr ad yX5_scans cX5_scans 3 (some .boolean) 2 [.ref (ad 1), .int x1] Mq (fun v M' => ∃ (r : Int32) (a : Int), v = some (.int r) ∧ r.toInt = a ∧ ((a = 1 ∧ ((ffb (loF (Mq.1 2 ((Mq.1 7 a1.toNat).toInt).toNat) (Mq.1 4 ((Mq.1 7 a1.toNat).toInt).toNat) (Mq.1 5 ((Mq.1 10 a1.toNat).toInt).toNat)) (hvF (Mq.1 3 ((Mq.1 7 a1.toNat).toInt).toNat) (Mq.1 4 ((Mq.1 7 a1.toNat).toInt).toNat) (Mq.1 6 ((Mq.1 10 a1.toNat).toInt).toNat) (Mq.1 5 ((Mq.1 10 a1.toNat).toInt).toNat)) (Mq.1 12) && fsb (loF (Mq.1 2 ((Mq.1 8 a1.toNat).toInt).toNat) (Mq.1 4 ((Mq.1 8 a1.toNat).toInt).toNat) (Mq.1 5 ((Mq.1 10 a1.toNat).toInt).toNat)) (hvF (Mq.1 3 ((Mq.1 8 a1.toNat).toInt).toNat) (Mq.1 4 ((Mq.1 8 a1.toNat).toInt).toNat) (Mq.1 6 ((Mq.1 10 a1.toNat).toInt).toNat) (Mq.1 5 ((Mq.1 10 a1.toNat).toInt).toNat)) (Mq.1 12)) = true)) ∨ (a = 0 ∧ ¬ ((ffb (loF (Mq.1 2 ((Mq.1 7 a1.toNat).toInt).toNat) (Mq.1 4 ((Mq.1 7 a1.toNat).toInt).toNat) (Mq.1 5 ((Mq.1 10 a1.toNat).toInt).toNat)) (hvF (Mq.1 3 ((Mq.1 7 a1.toNat).toInt).toNat) (Mq.1 4 ((Mq.1 7 a1.toNat).toInt).toNat) (Mq.1 6 ((Mq.1 10 a1.toNat).toInt).toNat) (Mq.1 5 ((Mq.1 10 a1.toNat).toInt).toNat)) (Mq.1 12) && fsb (loF (Mq.1 2 ((Mq.1 8 a1.toNat).toInt).toNat) (Mq.1 4 ((Mq.1 8 a1.toNat).toInt).toNat) (Mq.1 5 ((Mq.1 10 a1.toNat).toInt).toNat)) (hvF (Mq.1 3 ((Mq.1 8 a1.toNat).toInt).toNat) (Mq.1 4 ((Mq.1 8 a1.toNat).toInt).toNat) (Mq.1 6 ((Mq.1 10 a1.toNat).toInt).toNat) (Mq.1 5 ((Mq.1 10 a1.toNat).toInt).toNat)) (Mq.1 12)) = true))) ∧ Mq = M') := by
  refine ctr_of (L := [(0, .ref (ad 1)), (1, .int x1)]) (by decide) (Nat.le_of_ble_eq_true rfl) rfl ?_
  intro Γ X
  have X : gX Γ cX5_scans RX5 3 (some .boolean) 2 ad _ := X
  refine g_aload_n X 0 rfl dX5_scans_0 ?_
  refine g_getr X f_X5_40 dX5_scans_1 ?_
  refine g_iload_n X 1 rfl dX5_scans_4 ?_
  refine g_iald X la_10 t1 dX5_scans_5 (by omega) (x := Mq.1 10 a1.toNat) rfl ?_
  have bq1 := ig_10 Iq0 a1.toNat (by omega)
  refine g_istore_n X (i := 2) [(2, .int (Mq.1 10 a1.toNat)), (0, .ref (ad 1)), (1, .int x1)] dX5_scans_6 rfl (by decide) rfl ?_
  refine g_aload_n X 1 rfl dX5_scans_7 ?_
  refine g_aload_n X 1 rfl dX5_scans_8 ?_
  refine g_getr X f_X5_31 dX5_scans_9 ?_
  refine g_iload_n X 2 rfl dX5_scans_12 ?_
  refine g_iald X la_7 t1 dX5_scans_13 (by omega) (x := Mq.1 7 a1.toNat) rfl ?_
  have bq2 := ig_7 Iq0 a1.toNat (by omega)
  refine g_iload_n X 0 rfl dX5_scans_14 ?_
  refine g_callV X m_X5_76 (c_X5_fitsFirst_E ad Mq (Mq.1 7 a1.toNat) rfl (Mq.1 10 a1.toNat) rfl (by omega) (by omega)) rfl (by decide) (Nat.le_of_ble_eq_true rfl) rfl dX5_scans_15 ?_
  rintro _ _ ⟨rq3, aq4, rfl, tq5, hq6, rfl⟩
  show G Γ Mq 18 [(2, .int (Mq.1 10 a1.toNat)), (0, .ref (ad 1)), (1, .int x1)] [.int rq3]
  refine g_if_eq X tq5 (tgt := 39) dX5_scans_18 (by decide) (fun cq7 => ?_) (fun cq7 => ?_)
  · have pq8 : ¬ (ffb (loF (Mq.1 2 ((Mq.1 7 a1.toNat).toInt).toNat) (Mq.1 4 ((Mq.1 7 a1.toNat).toInt).toNat) (Mq.1 5 ((Mq.1 10 a1.toNat).toInt).toNat)) (hvF (Mq.1 3 ((Mq.1 7 a1.toNat).toInt).toNat) (Mq.1 4 ((Mq.1 7 a1.toNat).toInt).toNat) (Mq.1 6 ((Mq.1 10 a1.toNat).toInt).toNat) (Mq.1 5 ((Mq.1 10 a1.toNat).toInt).toNat)) (Mq.1 12) = true) := by first | omega | (rcases hq6 with ⟨z1, z2⟩ | ⟨z1, z2⟩ <;> first | exact z2 | (exfalso; omega))
    refine g_iconst X 0 dX5_scans_39 (by decide) ?_
    exact g_zret X (b01 (show (0 : Int32).toInt = 0 by decide) (by omega)) dX5_scans_40 ⟨_, _, rfl, (show (0 : Int32).toInt = 0 by decide), (by first | exact Or.inl ⟨rfl, Bool.and_eq_true_iff.mpr ⟨by assumption, by assumption⟩⟩ | exact Or.inr ⟨rfl, fun z => by have w := (Bool.and_eq_true_iff.mp z).1; contradiction⟩ | exact Or.inr ⟨rfl, fun z => by have w := (Bool.and_eq_true_iff.mp z).2; contradiction⟩), rfl⟩
  · have pq9 : (ffb (loF (Mq.1 2 ((Mq.1 7 a1.toNat).toInt).toNat) (Mq.1 4 ((Mq.1 7 a1.toNat).toInt).toNat) (Mq.1 5 ((Mq.1 10 a1.toNat).toInt).toNat)) (hvF (Mq.1 3 ((Mq.1 7 a1.toNat).toInt).toNat) (Mq.1 4 ((Mq.1 7 a1.toNat).toInt).toNat) (Mq.1 6 ((Mq.1 10 a1.toNat).toInt).toNat) (Mq.1 5 ((Mq.1 10 a1.toNat).toInt).toNat)) (Mq.1 12) = true) := by first | omega | (rcases hq6 with ⟨z1, z2⟩ | ⟨z1, z2⟩ <;> first | exact z2 | (exfalso; omega))
    refine g_aload_n X 1 rfl dX5_scans_21 ?_
    refine g_aload_n X 1 rfl dX5_scans_22 ?_
    refine g_getr X f_X5_34 dX5_scans_23 ?_
    refine g_iload_n X 2 rfl dX5_scans_26 ?_
    refine g_iald X la_8 t1 dX5_scans_27 (by omega) (x := Mq.1 8 a1.toNat) rfl ?_
    have bq10 := ig_8 Iq0 a1.toNat (by omega)
    refine g_iload_n X 0 rfl dX5_scans_28 ?_
    refine g_callV X m_X5_80 (c_X5_fitsSecond_E ad Mq (Mq.1 8 a1.toNat) rfl (Mq.1 10 a1.toNat) rfl (by omega) (by omega)) rfl (by decide) (Nat.le_of_ble_eq_true rfl) rfl dX5_scans_29 ?_
    rintro _ _ ⟨rq11, aq12, rfl, tq13, hq14, rfl⟩
    show G Γ Mq 32 [(2, .int (Mq.1 10 a1.toNat)), (0, .ref (ad 1)), (1, .int x1)] [.int rq11]
    refine g_if_eq X tq13 (tgt := 39) dX5_scans_32 (by decide) (fun cq15 => ?_) (fun cq15 => ?_)
    · have pq16 : ¬ (fsb (loF (Mq.1 2 ((Mq.1 8 a1.toNat).toInt).toNat) (Mq.1 4 ((Mq.1 8 a1.toNat).toInt).toNat) (Mq.1 5 ((Mq.1 10 a1.toNat).toInt).toNat)) (hvF (Mq.1 3 ((Mq.1 8 a1.toNat).toInt).toNat) (Mq.1 4 ((Mq.1 8 a1.toNat).toInt).toNat) (Mq.1 6 ((Mq.1 10 a1.toNat).toInt).toNat) (Mq.1 5 ((Mq.1 10 a1.toNat).toInt).toNat)) (Mq.1 12) = true) := by first | omega | (rcases hq14 with ⟨z1, z2⟩ | ⟨z1, z2⟩ <;> first | exact z2 | (exfalso; omega))
      refine g_iconst X 0 dX5_scans_39 (by decide) ?_
      exact g_zret X (b01 (show (0 : Int32).toInt = 0 by decide) (by omega)) dX5_scans_40 ⟨_, _, rfl, (show (0 : Int32).toInt = 0 by decide), (by first | exact Or.inl ⟨rfl, Bool.and_eq_true_iff.mpr ⟨by assumption, by assumption⟩⟩ | exact Or.inr ⟨rfl, fun z => by have w := (Bool.and_eq_true_iff.mp z).1; contradiction⟩ | exact Or.inr ⟨rfl, fun z => by have w := (Bool.and_eq_true_iff.mp z).2; contradiction⟩), rfl⟩
    · have pq17 : (fsb (loF (Mq.1 2 ((Mq.1 8 a1.toNat).toInt).toNat) (Mq.1 4 ((Mq.1 8 a1.toNat).toInt).toNat) (Mq.1 5 ((Mq.1 10 a1.toNat).toInt).toNat)) (hvF (Mq.1 3 ((Mq.1 8 a1.toNat).toInt).toNat) (Mq.1 4 ((Mq.1 8 a1.toNat).toInt).toNat) (Mq.1 6 ((Mq.1 10 a1.toNat).toInt).toNat) (Mq.1 5 ((Mq.1 10 a1.toNat).toInt).toNat)) (Mq.1 12) = true) := by first | omega | (rcases hq14 with ⟨z1, z2⟩ | ⟨z1, z2⟩ <;> first | exact z2 | (exfalso; omega))
      refine g_iconst X 1 dX5_scans_35 (by decide) ?_
      refine g_goto X (tgt := 40) dX5_scans_36 (by decide) ?_
      exact g_zret X (b01 (show (1 : Int32).toInt = 1 by decide) (by omega)) dX5_scans_40 ⟨_, _, rfl, (show (1 : Int32).toInt = 1 by decide), (by first | exact Or.inl ⟨rfl, Bool.and_eq_true_iff.mpr ⟨by assumption, by assumption⟩⟩ | exact Or.inr ⟨rfl, fun z => by have w := (Bool.and_eq_true_iff.mp z).1; contradiction⟩ | exact Or.inr ⟨rfl, fun z => by have w := (Bool.and_eq_true_iff.mp z).2; contradiction⟩), rfl⟩
set_option maxHeartbeats 4000000 in
set_option maxRecDepth 4000 in
theorem c_X5_lineBeats_E (ad : Nat → Nat) (Mq : Mem) (x1 : Int32) {a1 : Int} (t1 : x1.toInt = a1) (Iq0 : Iv TX Mq) (h1 : 0 ≤ a1 ∧ a1 < 40) : Ctr ad yX5_lineBeats cX5_lineBeats 3 (some .int) 1 [.ref (ad 1), .int x1] Mq (fun v M' => ∃ (r : Int32) (a : Int), v = some (.int r) ∧ r.toInt = a ∧ (r = (loF (Mq.1 2 ((Mq.1 7 a1.toNat).toInt).toNat) (Mq.1 4 ((Mq.1 7 a1.toNat).toInt).toNat) (Mq.1 5 ((Mq.1 10 a1.toNat).toInt).toNat)) + (loF (Mq.1 2 ((Mq.1 8 a1.toNat).toInt).toNat) (Mq.1 4 ((Mq.1 8 a1.toNat).toInt).toNat) (Mq.1 5 ((Mq.1 10 a1.toNat).toInt).toNat))) ∧ Mq = M') := by
  refine ctr_of (L := [(0, .ref (ad 1)), (1, .int x1)]) (by decide) (Nat.le_of_ble_eq_true rfl) rfl ?_
  intro Γ X
  have X : gX Γ cX5_lineBeats RX5 3 (some .int) 1 ad _ := X
  refine g_aload_n X 0 rfl dX5_lineBeats_0 ?_
  refine g_getr X f_X5_40 dX5_lineBeats_1 ?_
  refine g_iload_n X 1 rfl dX5_lineBeats_4 ?_
  refine g_iald X la_10 t1 dX5_lineBeats_5 (by omega) (x := Mq.1 10 a1.toNat) rfl ?_
  have bq1 := ig_10 Iq0 a1.toNat (by omega)
  refine g_istore_n X (i := 2) [(2, .int (Mq.1 10 a1.toNat)), (0, .ref (ad 1)), (1, .int x1)] dX5_lineBeats_6 rfl (by decide) rfl ?_
  refine g_aload_n X 1 rfl dX5_lineBeats_7 ?_
  refine g_aload_n X 1 rfl dX5_lineBeats_8 ?_
  refine g_getr X f_X5_31 dX5_lineBeats_9 ?_
  refine g_iload_n X 2 rfl dX5_lineBeats_12 ?_
  refine g_iald X la_7 t1 dX5_lineBeats_13 (by omega) (x := Mq.1 7 a1.toNat) rfl ?_
  have bq2 := ig_7 Iq0 a1.toNat (by omega)
  refine g_iload_n X 0 rfl dX5_lineBeats_14 ?_
  refine g_callV X m_X5_69 (c_X5_sungBeats_E ad Mq (Mq.1 7 a1.toNat) rfl (Mq.1 10 a1.toNat) rfl (by omega) (by omega)) rfl (by decide) (Nat.le_of_ble_eq_true rfl) rfl dX5_lineBeats_15 ?_
  rintro _ _ ⟨rq3, aq4, rfl, tq5, hq6, rfl⟩
  have hl1 := hq6
  show G Γ Mq 18 [(2, .int (Mq.1 10 a1.toNat)), (0, .ref (ad 1)), (1, .int x1)] [.int rq3]
  refine g_aload_n X 1 rfl dX5_lineBeats_18 ?_
  refine g_aload_n X 1 rfl dX5_lineBeats_19 ?_
  refine g_getr X f_X5_34 dX5_lineBeats_20 ?_
  refine g_iload_n X 2 rfl dX5_lineBeats_23 ?_
  refine g_iald X la_8 t1 dX5_lineBeats_24 (by omega) (x := Mq.1 8 a1.toNat) rfl ?_
  have bq7 := ig_8 Iq0 a1.toNat (by omega)
  refine g_iload_n X 0 rfl dX5_lineBeats_25 ?_
  refine g_callV X m_X5_69 (c_X5_sungBeats_E ad Mq (Mq.1 8 a1.toNat) rfl (Mq.1 10 a1.toNat) rfl (by omega) (by omega)) rfl (by decide) (Nat.le_of_ble_eq_true rfl) rfl dX5_lineBeats_26 ?_
  rintro _ _ ⟨rq8, aq9, rfl, tq10, hq11, rfl⟩
  have hl2 := hq11
  show G Γ Mq 29 [(2, .int (Mq.1 10 a1.toNat)), (0, .ref (ad 1)), (1, .int x1)] [.int rq8, .int rq3]
  refine g_iadd X dX5_lineBeats_29 (fun zq12 eq13 => ?_)
  have kx29 := eq13
  exact g_iret X dX5_lineBeats_30 ⟨_, _, rfl, rfl, (by rw [kx29, hl1, hl2]), rfl⟩
set_option maxHeartbeats 4000000 in
set_option maxRecDepth 4000 in
theorem c_X5_lineHeavy_E (ad : Nat → Nat) (Mq : Mem) (x1 : Int32) {a1 : Int} (t1 : x1.toInt = a1) (Iq0 : Iv TX Mq) (h1 : 0 ≤ a1 ∧ a1 < 40) : Ctr ad yX5_lineHeavy cX5_lineHeavy 4 (some .int) 1 [.ref (ad 1), .int x1] Mq (fun v M' => ∃ (r : Int32) (a : Int), v = some (.int r) ∧ r.toInt = a ∧ (r = (hvF (Mq.1 3 ((Mq.1 7 a1.toNat).toInt).toNat) (Mq.1 4 ((Mq.1 7 a1.toNat).toInt).toNat) (Mq.1 6 ((Mq.1 10 a1.toNat).toInt).toNat) (Mq.1 5 ((Mq.1 10 a1.toNat).toInt).toNat)) ||| ((hvF (Mq.1 3 ((Mq.1 8 a1.toNat).toInt).toNat) (Mq.1 4 ((Mq.1 8 a1.toNat).toInt).toNat) (Mq.1 6 ((Mq.1 10 a1.toNat).toInt).toNat) (Mq.1 5 ((Mq.1 10 a1.toNat).toInt).toNat)) <<< ((loF (Mq.1 2 ((Mq.1 7 a1.toNat).toInt).toNat) (Mq.1 4 ((Mq.1 7 a1.toNat).toInt).toNat) (Mq.1 5 ((Mq.1 10 a1.toNat).toInt).toNat)) &&& 31))) ∧ Mq = M') := by
  refine ctr_of (L := [(0, .ref (ad 1)), (1, .int x1)]) (by decide) (Nat.le_of_ble_eq_true rfl) rfl ?_
  intro Γ X
  have X : gX Γ cX5_lineHeavy RX5 4 (some .int) 1 ad _ := X
  refine g_aload_n X 0 rfl dX5_lineHeavy_0 ?_
  refine g_getr X f_X5_40 dX5_lineHeavy_1 ?_
  refine g_iload_n X 1 rfl dX5_lineHeavy_4 ?_
  refine g_iald X la_10 t1 dX5_lineHeavy_5 (by omega) (x := Mq.1 10 a1.toNat) rfl ?_
  have bq1 := ig_10 Iq0 a1.toNat (by omega)
  refine g_istore_n X (i := 2) [(2, .int (Mq.1 10 a1.toNat)), (0, .ref (ad 1)), (1, .int x1)] dX5_lineHeavy_6 rfl (by decide) rfl ?_
  refine g_aload_n X 1 rfl dX5_lineHeavy_7 ?_
  refine g_aload_n X 1 rfl dX5_lineHeavy_8 ?_
  refine g_getr X f_X5_31 dX5_lineHeavy_9 ?_
  refine g_iload_n X 2 rfl dX5_lineHeavy_12 ?_
  refine g_iald X la_7 t1 dX5_lineHeavy_13 (by omega) (x := Mq.1 7 a1.toNat) rfl ?_
  have bq2 := ig_7 Iq0 a1.toNat (by omega)
  refine g_iload_n X 0 rfl dX5_lineHeavy_14 ?_
  refine g_callV X m_X5_69 (c_X5_sungBeats_E ad Mq (Mq.1 7 a1.toNat) rfl (Mq.1 10 a1.toNat) rfl (by omega) (by omega)) rfl (by decide) (Nat.le_of_ble_eq_true rfl) rfl dX5_lineHeavy_15 ?_
  rintro _ _ ⟨rq3, aq4, rfl, tq5, hq6, rfl⟩
  have hl1 := hq6
  show G Γ Mq 18 [(2, .int (Mq.1 10 a1.toNat)), (0, .ref (ad 1)), (1, .int x1)] [.int rq3]
  refine g_istore_n X (i := 3) [(3, .int rq3), (2, .int (Mq.1 10 a1.toNat)), (0, .ref (ad 1)), (1, .int x1)] dX5_lineHeavy_18 rfl (by decide) rfl ?_
  refine g_aload_n X 2 rfl dX5_lineHeavy_19 ?_
  refine g_aload_n X 2 rfl dX5_lineHeavy_20 ?_
  refine g_getr X f_X5_31 dX5_lineHeavy_21 ?_
  refine g_iload_n X 3 rfl dX5_lineHeavy_24 ?_
  refine g_iald X la_7 t1 dX5_lineHeavy_25 (by omega) (x := Mq.1 7 a1.toNat) rfl ?_
  have bq7 := ig_7 Iq0 a1.toNat (by omega)
  refine g_iload_n X 1 rfl dX5_lineHeavy_26 ?_
  refine g_callV X m_X5_73 (c_X5_sungHeavy_E ad Mq (Mq.1 7 a1.toNat) rfl (Mq.1 10 a1.toNat) rfl (by omega) (by omega)) rfl (by decide) (Nat.le_of_ble_eq_true rfl) rfl dX5_lineHeavy_27 ?_
  rintro _ _ ⟨rq8, aq9, rfl, tq10, hq11, rfl⟩
  have hh1 := hq11
  show G Γ Mq 30 [(3, .int rq3), (2, .int (Mq.1 10 a1.toNat)), (0, .ref (ad 1)), (1, .int x1)] [.int rq8]
  refine g_aload_n X 2 rfl dX5_lineHeavy_30 ?_
  refine g_aload_n X 2 rfl dX5_lineHeavy_31 ?_
  refine g_getr X f_X5_34 dX5_lineHeavy_32 ?_
  refine g_iload_n X 3 rfl dX5_lineHeavy_35 ?_
  refine g_iald X la_8 t1 dX5_lineHeavy_36 (by omega) (x := Mq.1 8 a1.toNat) rfl ?_
  have bq12 := ig_8 Iq0 a1.toNat (by omega)
  refine g_iload_n X 1 rfl dX5_lineHeavy_37 ?_
  refine g_callV X m_X5_73 (c_X5_sungHeavy_E ad Mq (Mq.1 8 a1.toNat) rfl (Mq.1 10 a1.toNat) rfl (by omega) (by omega)) rfl (by decide) (Nat.le_of_ble_eq_true rfl) rfl dX5_lineHeavy_38 ?_
  rintro _ _ ⟨rq13, aq14, rfl, tq15, hq16, rfl⟩
  have hh2 := hq16
  show G Γ Mq 41 [(3, .int rq3), (2, .int (Mq.1 10 a1.toNat)), (0, .ref (ad 1)), (1, .int x1)] [.int rq13, .int rq8]
  refine g_iload_n X 0 rfl dX5_lineHeavy_41 ?_
  refine g_ishl X dX5_lineHeavy_42 (fun zq17 eq18 => ?_)
  have kx42 := eq18
  refine g_ior X dX5_lineHeavy_43 (fun zq20 eq21 => ?_)
  have kx43 := eq21
  exact g_iret X dX5_lineHeavy_44 ⟨_, _, rfl, rfl, (by rw [kx43, kx42, hh1, hh2, hl1]), rfl⟩
set_option maxHeartbeats 4000000 in
set_option maxRecDepth 4000 in
theorem c_X5_leastFirst_E (ad : Nat → Nat) (Mq : Mem) (x1 : Int32) {a1 : Int} (t1 : x1.toInt = a1) (Iq0 : Iv TX Mq) (h1 : 0 ≤ a1 ∧ a1 ≤ 9) : Ctr ad yX5_leastFirst cX5_leastFirst 3 (some .int) 2 [.ref (ad 1), .int x1] Mq (fun v M' => ∃ (r : Int32) (a : Int), v = some (.int r) ∧ r.toInt = a ∧ (lst (fun h => ffb (loF (Mq.1 2 h) (Mq.1 4 h) (Mq.1 5 a1.toNat)) (hvF (Mq.1 3 h) (Mq.1 4 h) (Mq.1 6 a1.toNat) (Mq.1 5 a1.toNat)) (Mq.1 12) = true) ((Mq.1 1 3).toInt).toNat a) ∧ Mq = M') := by
  refine ctr_of (L := [(0, .ref (ad 1)), (1, .int x1)]) (by decide) (Nat.le_of_ble_eq_true rfl) rfl ?_
  intro Γ X
  have X : gX Γ cX5_leastFirst RX5 3 (some .int) 2 ad _ := X
  have hgh := ig_1_3 Iq0
  refine g_iconst X 0 dX5_leastFirst_0 (by decide) ?_
  refine g_istore_n X (i := 2) [(2, .int 0), (0, .ref (ad 1)), (1, .int x1)] dX5_leastFirst_1 rfl (by decide) rfl ?_
  have lp2 : ∀ n : Nat, ∀ (y2_2 : Int32) (b2_2 : Int), y2_2.toInt = b2_2 → (0 ≤ b2_2 ∧ b2_2 ≤ (Mq.1 1 3).toInt) → (∀ j : Nat, (j : Int) < b2_2 → ¬ (ffb (loF (Mq.1 2 j) (Mq.1 4 j) (Mq.1 5 a1.toNat)) (hvF (Mq.1 3 j) (Mq.1 4 j) (Mq.1 6 a1.toNat) (Mq.1 5 a1.toNat)) (Mq.1 12) = true)) → ((Mq.1 1 3).toInt - b2_2).toNat < n → G Γ Mq 2 [(2, .int y2_2), (0, .ref (ad 1)), (1, .int x1)] [] := by
    intro n
    induction n with
    | zero => intro y2_2 b2_2 e2_2 i1 i2 hm; exact absurd hm (Nat.not_lt_zero _)
    | succ n ih2 =>
      intro y2_2 b2_2 e2_2 i1 i2 hm2
      refine g_iload_n X 0 rfl dX5_leastFirst_2 ?_
      refine g_aload_n X 1 rfl dX5_leastFirst_3 ?_
      refine g_geti X f_X5_21 dX5_leastFirst_4 (x := Mq.1 1 3) rfl ?_
      have bq1 := ig_1_3 Iq0
      refine g_icmp_ge X e2_2 rfl (tgt := 27) dX5_leastFirst_7 (by decide) (fun cq2 => ?_) (fun cq2 => ?_)
      · refine g_iconst X (-1) dX5_leastFirst_27 (by decide) ?_
        exact g_iret X dX5_leastFirst_28 ⟨_, _, rfl, (show ((-1) : Int32).toInt = (-1) by decide), (by first | exact Or.inl ⟨rfl, fun j hj => i2 j (by omega)⟩ | exact Or.inr ⟨i1.1, by omega, by assumption, fun j hj => i2 j (by omega)⟩), rfl⟩
      · refine g_aload_n X 1 rfl dX5_leastFirst_10 ?_
        refine g_iload_n X 0 rfl dX5_leastFirst_11 ?_
        refine g_iload_n X 2 rfl dX5_leastFirst_12 ?_
        refine g_callV X m_X5_76 (c_X5_fitsFirst_E ad Mq y2_2 e2_2 x1 t1 (by omega) (by omega)) rfl (by decide) (Nat.le_of_ble_eq_true rfl) rfl dX5_leastFirst_13 ?_
        rintro _ _ ⟨rq3, aq4, rfl, tq5, hq6, rfl⟩
        show G Γ Mq 16 [(2, .int y2_2), (0, .ref (ad 1)), (1, .int x1)] [.int rq3]
        refine g_if_eq X tq5 (tgt := 21) dX5_leastFirst_16 (by decide) (fun cq7 => ?_) (fun cq7 => ?_)
        · have pq8 : ¬ (ffb (loF (Mq.1 2 b2_2.toNat) (Mq.1 4 b2_2.toNat) (Mq.1 5 a1.toNat)) (hvF (Mq.1 3 b2_2.toNat) (Mq.1 4 b2_2.toNat) (Mq.1 6 a1.toNat) (Mq.1 5 a1.toNat)) (Mq.1 12) = true) := by first | omega | (rcases hq6 with ⟨z1, z2⟩ | ⟨z1, z2⟩ <;> first | exact z2 | (exfalso; omega))
          refine g_iinc X 0 (fun v => [(2, .int v), (0, .ref (ad 1)), (1, .int x1)]) dX5_leastFirst_21 rfl (by decide) (fun _ => rfl) (fun zq9 eq10 => ?_)
          have tq11 : zq9.toInt = b2_2 + 1 := add_nw eq10 e2_2 (show (Int32.ofInt 1).toInt = 1 by decide) (by omega)
          refine g_goto X (tgt := 2) dX5_leastFirst_24 (by decide) ?_
          refine g_sub [0, 1, 2] rfl ?_
          exact ih2 zq9 _ tq11 (by omega) (ok_s (ok := fun j => ¬ (ffb (loF (Mq.1 2 j) (Mq.1 4 j) (Mq.1 5 a1.toNat)) (hvF (Mq.1 3 j) (Mq.1 4 j) (Mq.1 6 a1.toNat) (Mq.1 5 a1.toNat)) (Mq.1 12) = true)) i2 (by assumption) i1.1) (by omega)
        · have pq12 : (ffb (loF (Mq.1 2 b2_2.toNat) (Mq.1 4 b2_2.toNat) (Mq.1 5 a1.toNat)) (hvF (Mq.1 3 b2_2.toNat) (Mq.1 4 b2_2.toNat) (Mq.1 6 a1.toNat) (Mq.1 5 a1.toNat)) (Mq.1 12) = true) := by first | omega | (rcases hq6 with ⟨z1, z2⟩ | ⟨z1, z2⟩ <;> first | exact z2 | (exfalso; omega))
          refine g_iload_n X 0 rfl dX5_leastFirst_19 ?_
          exact g_iret X dX5_leastFirst_20 ⟨_, _, rfl, e2_2, (by first | exact Or.inl ⟨rfl, fun j hj => i2 j (by omega)⟩ | exact Or.inr ⟨i1.1, by omega, by assumption, fun j hj => i2 j (by omega)⟩), rfl⟩
  refine g_sub [0, 1, 2] rfl ?_
  exact lp2 _ 0 _ (show (0 : Int32).toInt = 0 by decide) (by omega) (fun j hj => absurd hj (by omega)) (Nat.lt_succ_self _)
set_option maxHeartbeats 4000000 in
set_option maxRecDepth 4000 in
theorem c_X5_leastSecond_E (ad : Nat → Nat) (Mq : Mem) (x1 : Int32) {a1 : Int} (t1 : x1.toInt = a1) (Iq0 : Iv TX Mq) (h1 : 0 ≤ a1 ∧ a1 ≤ 9) : Ctr ad yX5_leastSecond cX5_leastSecond 3 (some .int) 2 [.ref (ad 1), .int x1] Mq (fun v M' => ∃ (r : Int32) (a : Int), v = some (.int r) ∧ r.toInt = a ∧ (lst (fun h => fsb (loF (Mq.1 2 h) (Mq.1 4 h) (Mq.1 5 a1.toNat)) (hvF (Mq.1 3 h) (Mq.1 4 h) (Mq.1 6 a1.toNat) (Mq.1 5 a1.toNat)) (Mq.1 12) = true) ((Mq.1 1 3).toInt).toNat a) ∧ Mq = M') := by
  refine ctr_of (L := [(0, .ref (ad 1)), (1, .int x1)]) (by decide) (Nat.le_of_ble_eq_true rfl) rfl ?_
  intro Γ X
  have X : gX Γ cX5_leastSecond RX5 3 (some .int) 2 ad _ := X
  have hgh := ig_1_3 Iq0
  refine g_iconst X 0 dX5_leastSecond_0 (by decide) ?_
  refine g_istore_n X (i := 2) [(2, .int 0), (0, .ref (ad 1)), (1, .int x1)] dX5_leastSecond_1 rfl (by decide) rfl ?_
  have lp2 : ∀ n : Nat, ∀ (y2_2 : Int32) (b2_2 : Int), y2_2.toInt = b2_2 → (0 ≤ b2_2 ∧ b2_2 ≤ (Mq.1 1 3).toInt) → (∀ j : Nat, (j : Int) < b2_2 → ¬ (fsb (loF (Mq.1 2 j) (Mq.1 4 j) (Mq.1 5 a1.toNat)) (hvF (Mq.1 3 j) (Mq.1 4 j) (Mq.1 6 a1.toNat) (Mq.1 5 a1.toNat)) (Mq.1 12) = true)) → ((Mq.1 1 3).toInt - b2_2).toNat < n → G Γ Mq 2 [(2, .int y2_2), (0, .ref (ad 1)), (1, .int x1)] [] := by
    intro n
    induction n with
    | zero => intro y2_2 b2_2 e2_2 i1 i2 hm; exact absurd hm (Nat.not_lt_zero _)
    | succ n ih2 =>
      intro y2_2 b2_2 e2_2 i1 i2 hm2
      refine g_iload_n X 0 rfl dX5_leastSecond_2 ?_
      refine g_aload_n X 1 rfl dX5_leastSecond_3 ?_
      refine g_geti X f_X5_21 dX5_leastSecond_4 (x := Mq.1 1 3) rfl ?_
      have bq1 := ig_1_3 Iq0
      refine g_icmp_ge X e2_2 rfl (tgt := 27) dX5_leastSecond_7 (by decide) (fun cq2 => ?_) (fun cq2 => ?_)
      · refine g_iconst X (-1) dX5_leastSecond_27 (by decide) ?_
        exact g_iret X dX5_leastSecond_28 ⟨_, _, rfl, (show ((-1) : Int32).toInt = (-1) by decide), (by first | exact Or.inl ⟨rfl, fun j hj => i2 j (by omega)⟩ | exact Or.inr ⟨i1.1, by omega, by assumption, fun j hj => i2 j (by omega)⟩), rfl⟩
      · refine g_aload_n X 1 rfl dX5_leastSecond_10 ?_
        refine g_iload_n X 0 rfl dX5_leastSecond_11 ?_
        refine g_iload_n X 2 rfl dX5_leastSecond_12 ?_
        refine g_callV X m_X5_80 (c_X5_fitsSecond_E ad Mq y2_2 e2_2 x1 t1 (by omega) (by omega)) rfl (by decide) (Nat.le_of_ble_eq_true rfl) rfl dX5_leastSecond_13 ?_
        rintro _ _ ⟨rq3, aq4, rfl, tq5, hq6, rfl⟩
        show G Γ Mq 16 [(2, .int y2_2), (0, .ref (ad 1)), (1, .int x1)] [.int rq3]
        refine g_if_eq X tq5 (tgt := 21) dX5_leastSecond_16 (by decide) (fun cq7 => ?_) (fun cq7 => ?_)
        · have pq8 : ¬ (fsb (loF (Mq.1 2 b2_2.toNat) (Mq.1 4 b2_2.toNat) (Mq.1 5 a1.toNat)) (hvF (Mq.1 3 b2_2.toNat) (Mq.1 4 b2_2.toNat) (Mq.1 6 a1.toNat) (Mq.1 5 a1.toNat)) (Mq.1 12) = true) := by first | omega | (rcases hq6 with ⟨z1, z2⟩ | ⟨z1, z2⟩ <;> first | exact z2 | (exfalso; omega))
          refine g_iinc X 0 (fun v => [(2, .int v), (0, .ref (ad 1)), (1, .int x1)]) dX5_leastSecond_21 rfl (by decide) (fun _ => rfl) (fun zq9 eq10 => ?_)
          have tq11 : zq9.toInt = b2_2 + 1 := add_nw eq10 e2_2 (show (Int32.ofInt 1).toInt = 1 by decide) (by omega)
          refine g_goto X (tgt := 2) dX5_leastSecond_24 (by decide) ?_
          refine g_sub [0, 1, 2] rfl ?_
          exact ih2 zq9 _ tq11 (by omega) (ok_s (ok := fun j => ¬ (fsb (loF (Mq.1 2 j) (Mq.1 4 j) (Mq.1 5 a1.toNat)) (hvF (Mq.1 3 j) (Mq.1 4 j) (Mq.1 6 a1.toNat) (Mq.1 5 a1.toNat)) (Mq.1 12) = true)) i2 (by assumption) i1.1) (by omega)
        · have pq12 : (fsb (loF (Mq.1 2 b2_2.toNat) (Mq.1 4 b2_2.toNat) (Mq.1 5 a1.toNat)) (hvF (Mq.1 3 b2_2.toNat) (Mq.1 4 b2_2.toNat) (Mq.1 6 a1.toNat) (Mq.1 5 a1.toNat)) (Mq.1 12) = true) := by first | omega | (rcases hq6 with ⟨z1, z2⟩ | ⟨z1, z2⟩ <;> first | exact z2 | (exfalso; omega))
          refine g_iload_n X 0 rfl dX5_leastSecond_19 ?_
          exact g_iret X dX5_leastSecond_20 ⟨_, _, rfl, e2_2, (by first | exact Or.inl ⟨rfl, fun j hj => i2 j (by omega)⟩ | exact Or.inr ⟨i1.1, by omega, by assumption, fun j hj => i2 j (by omega)⟩), rfl⟩
  refine g_sub [0, 1, 2] rfl ?_
  exact lp2 _ 0 _ (show (0 : Int32).toInt = 0 by decide) (by omega) (fun j hj => absurd hj (by omega)) (Nat.lt_succ_self _)
end
