section
abbrev W_X5_mend_E : List (Nat × Nat) := [(7, 99), (8, 99)]
set_option maxHeartbeats 4000000 in
set_option maxRecDepth 4000 in
theorem c_X5_mend_E (ad : Nat → Nat) (Mq : Mem) (x1 : Int32) {a1 : Int} (t1 : x1.toInt = a1) (x2 : Int32) {a2 : Int} (t2 : x2.toInt = a2) (x3 : Int32) {a3 : Int} (t3 : x3.toInt = a3) (Iq0 : Iv TX Mq) (h1 : 0 ≤ a1 ∧ a1 < 40) (h2 : a2 = -1 ∨ (0 ≤ a2 ∧ a2 < 40)) (h3 : a3 = -1 ∨ (0 ≤ a3 ∧ a3 < 40)) : Ctr ad yX5_mend cX5_mend 5 (some .boolean) 2 [.ref (ad 1), .int x1, .int x2, .int x3] Mq (fun v M' => ∃ (r : Int32) (a : Int), v = some (.int r) ∧ r.toInt = a ∧ ((a = 0 ∧ (a2 = -1 ∨ a3 = -1)) ∨ (a = 1 ∧ ¬ (a2 = -1 ∨ a3 = -1))) ∧ (((a2 = -1 ∨ a3 = -1) → M'.1 7 = Mq.1 7 ∧ M'.1 8 = Mq.1 8) ∧ (¬ (a2 = -1 ∨ a3 = -1) → mdR (FX Mq ((Mq.1 7 a1.toNat).toInt).toNat ((Mq.1 10 a1.toNat).toInt).toNat) a1.toNat x2 (Mq.1 7) (M'.1 7) ∧ mdR (SX Mq ((Mq.1 8 a1.toNat).toInt).toNat ((Mq.1 10 a1.toNat).toInt).toNat) a1.toNat x3 (Mq.1 8) (M'.1 8))) ∧ Iv TX M' ∧ Fr W_X5_mend_E Mq M') := by
  refine ctr_of (L := [(0, .ref (ad 1)), (1, .int x1), (2, .int x2), (3, .int x3)]) (by decide) (Nat.le_of_ble_eq_true rfl) rfl ?_
  intro Γ X
  have X : gX Γ cX5_mend RX5 5 (some .boolean) 2 ad _ := X
  have frq0 : Fr W_X5_mend_E Mq Mq := Fr.rf
  refine g_iload_n X 2 rfl dX5_mend_0 ?_
  refine g_iconst X (-1) dX5_mend_1 (by decide) ?_
  refine g_icmp_eq X t2 (show ((-1) : Int32).toInt = (-1) by decide) (tgt := 10) dX5_mend_2 (by decide) (fun cq1 => ?_) (fun cq1 => ?_)
  · refine g_iconst X 0 dX5_mend_10 (by decide) ?_
    exact g_zret X (b01 (show (0 : Int32).toInt = 0 by decide) (by omega)) dX5_mend_11 ⟨_, _, rfl, (show (0 : Int32).toInt = 0 by decide), (by omega), (⟨fun h => by first | exact ⟨rfl, rfl⟩ | exact absurd h (by omega), fun h => by first | exact absurd (by omega) h | exact ⟨(by first | exact mdR_y (bb1 hF (by omega)) (fun j => by simp [ui]) | exact mdR_n (bb0 hF (by omega)) (fun j q => by simp [ui, q]) (by simp [ui])), (by first | exact mdR_y (bb1 hS (by omega)) (fun j => by simp [ui]) | exact mdR_n (bb0 hS (by omega)) (fun j q => by simp [ui, q]) (by simp [ui]))⟩⟩), Iq0, frq0⟩
  · refine g_iload_n X 3 rfl dX5_mend_5 ?_
    refine g_iconst X (-1) dX5_mend_6 (by decide) ?_
    refine g_icmp_ne X t3 (show ((-1) : Int32).toInt = (-1) by decide) (tgt := 12) dX5_mend_7 (by decide) (fun cq2 => ?_) (fun cq2 => ?_)
    · refine g_aload_n X 0 rfl dX5_mend_12 ?_
      refine g_getr X f_X5_40 dX5_mend_13 ?_
      refine g_iload_n X 1 rfl dX5_mend_16 ?_
      refine g_iald X la_10 t1 dX5_mend_17 (by omega) (x := Mq.1 10 a1.toNat) rfl ?_
      have bq3 := ig_10 Iq0 a1.toNat (by omega)
      refine g_istore X [(4, .int (Mq.1 10 a1.toNat)), (0, .ref (ad 1)), (1, .int x1), (2, .int x2), (3, .int x3)] dX5_mend_18 (by decide) rfl ?_
      refine g_aload_n X 1 rfl dX5_mend_20 ?_
      refine g_aload_n X 1 rfl dX5_mend_21 ?_
      refine g_getr X f_X5_31 dX5_mend_22 ?_
      refine g_iload_n X 2 rfl dX5_mend_25 ?_
      refine g_iald X la_7 t1 dX5_mend_26 (by omega) (x := Mq.1 7 a1.toNat) rfl ?_
      have bq4 := ig_7 Iq0 a1.toNat (by omega)
      refine g_iload X 0 rfl dX5_mend_27 ?_
      refine g_callV X m_X5_76 (c_X5_fitsFirst_E ad Mq (Mq.1 7 a1.toNat) rfl (Mq.1 10 a1.toNat) rfl (by omega) (by omega)) rfl (by decide) (Nat.le_of_ble_eq_true rfl) rfl dX5_mend_29 ?_
      rintro _ _ ⟨rq5, aq6, rfl, tq7, hq8, rfl⟩
      have hF : (aq6 = 1 ∧ (FX Mq ((Mq.1 7 a1.toNat).toInt).toNat ((Mq.1 10 a1.toNat).toInt).toNat = true)) ∨ (aq6 = 0 ∧ ¬ (FX Mq ((Mq.1 7 a1.toNat).toInt).toNat ((Mq.1 10 a1.toNat).toInt).toNat = true)) := hq8
      show G Γ Mq 32 [(4, .int (Mq.1 10 a1.toNat)), (0, .ref (ad 1)), (1, .int x1), (2, .int x2), (3, .int x3)] [.int rq5]
      refine g_if_ne X tq7 (tgt := 42) dX5_mend_32 (by decide) (fun cq9 => ?_) (fun cq9 => ?_)
      · have pq10 : (ffb (loF (Mq.1 2 ((Mq.1 7 a1.toNat).toInt).toNat) (Mq.1 4 ((Mq.1 7 a1.toNat).toInt).toNat) (Mq.1 5 ((Mq.1 10 a1.toNat).toInt).toNat)) (hvF (Mq.1 3 ((Mq.1 7 a1.toNat).toInt).toNat) (Mq.1 4 ((Mq.1 7 a1.toNat).toInt).toNat) (Mq.1 6 ((Mq.1 10 a1.toNat).toInt).toNat) (Mq.1 5 ((Mq.1 10 a1.toNat).toInt).toNat)) (Mq.1 12) = true) := by first | omega | (rcases hq8 with ⟨z1, z2⟩ | ⟨z1, z2⟩ <;> first | exact z2 | (exfalso; omega))
        refine g_aload_n X 1 rfl dX5_mend_42 ?_
        refine g_aload_n X 1 rfl dX5_mend_43 ?_
        refine g_getr X f_X5_34 dX5_mend_44 ?_
        refine g_iload_n X 2 rfl dX5_mend_47 ?_
        refine g_iald X la_8 t1 dX5_mend_48 (by omega) (x := Mq.1 8 a1.toNat) rfl ?_
        have bq11 := ig_8 Iq0 a1.toNat (by omega)
        refine g_iload X 0 rfl dX5_mend_49 ?_
        refine g_callV X m_X5_80 (c_X5_fitsSecond_E ad Mq (Mq.1 8 a1.toNat) rfl (Mq.1 10 a1.toNat) rfl (by omega) (by omega)) rfl (by decide) (Nat.le_of_ble_eq_true rfl) rfl dX5_mend_51 ?_
        rintro _ _ ⟨rq12, aq13, rfl, tq14, hq15, rfl⟩
        have hS : (aq13 = 1 ∧ (SX Mq ((Mq.1 8 a1.toNat).toInt).toNat ((Mq.1 10 a1.toNat).toInt).toNat = true)) ∨ (aq13 = 0 ∧ ¬ (SX Mq ((Mq.1 8 a1.toNat).toInt).toNat ((Mq.1 10 a1.toNat).toInt).toNat = true)) := hq15
        show G Γ Mq 54 [(4, .int (Mq.1 10 a1.toNat)), (0, .ref (ad 1)), (1, .int x1), (2, .int x2), (3, .int x3)] [.int rq12]
        refine g_if_ne X tq14 (tgt := 64) dX5_mend_54 (by decide) (fun cq16 => ?_) (fun cq16 => ?_)
        · have pq17 : (fsb (loF (Mq.1 2 ((Mq.1 8 a1.toNat).toInt).toNat) (Mq.1 4 ((Mq.1 8 a1.toNat).toInt).toNat) (Mq.1 5 ((Mq.1 10 a1.toNat).toInt).toNat)) (hvF (Mq.1 3 ((Mq.1 8 a1.toNat).toInt).toNat) (Mq.1 4 ((Mq.1 8 a1.toNat).toInt).toNat) (Mq.1 6 ((Mq.1 10 a1.toNat).toInt).toNat) (Mq.1 5 ((Mq.1 10 a1.toNat).toInt).toNat)) (Mq.1 12) = true) := by first | omega | (rcases hq15 with ⟨z1, z2⟩ | ⟨z1, z2⟩ <;> first | exact z2 | (exfalso; omega))
          refine g_iconst X 1 dX5_mend_64 (by decide) ?_
          exact g_zret X (b01 (show (1 : Int32).toInt = 1 by decide) (by omega)) dX5_mend_65 ⟨_, _, rfl, (show (1 : Int32).toInt = 1 by decide), (by omega), (⟨fun h => by first | exact ⟨rfl, rfl⟩ | exact absurd h (by omega), fun h => by first | exact absurd (by omega) h | exact ⟨(by first | exact mdR_y (bb1 hF (by omega)) (fun j => by simp [ui]) | exact mdR_n (bb0 hF (by omega)) (fun j q => by simp [ui, q]) (by simp [ui])), (by first | exact mdR_y (bb1 hS (by omega)) (fun j => by simp [ui]) | exact mdR_n (bb0 hS (by omega)) (fun j q => by simp [ui, q]) (by simp [ui]))⟩⟩), Iq0, frq0⟩
        · have pq18 : ¬ (fsb (loF (Mq.1 2 ((Mq.1 8 a1.toNat).toInt).toNat) (Mq.1 4 ((Mq.1 8 a1.toNat).toInt).toNat) (Mq.1 5 ((Mq.1 10 a1.toNat).toInt).toNat)) (hvF (Mq.1 3 ((Mq.1 8 a1.toNat).toInt).toNat) (Mq.1 4 ((Mq.1 8 a1.toNat).toInt).toNat) (Mq.1 6 ((Mq.1 10 a1.toNat).toInt).toNat) (Mq.1 5 ((Mq.1 10 a1.toNat).toInt).toNat)) (Mq.1 12) = true) := by first | omega | (rcases hq15 with ⟨z1, z2⟩ | ⟨z1, z2⟩ <;> first | exact z2 | (exfalso; omega))
          refine g_aload_n X 1 rfl dX5_mend_57 ?_
          refine g_getr X f_X5_34 dX5_mend_58 ?_
          refine g_iload_n X 2 rfl dX5_mend_61 ?_
          refine g_iload_n X 4 rfl dX5_mend_62 ?_
          refine g_iast X la_8 t1 dX5_mend_63 (by omega) ?_
          have Iq19 : Iv TX (ui Mq 8 a1.toNat x3) := Iq0.putA 0 39 t3 (by omega) rfl
          have frq20 : Fr W_X5_mend_E Mq (ui Mq 8 a1.toNat x3) := frq0.ui rfl
          refine g_iconst X 1 dX5_mend_64 (by decide) ?_
          exact g_zret X (b01 (show (1 : Int32).toInt = 1 by decide) (by omega)) dX5_mend_65 ⟨_, _, rfl, (show (1 : Int32).toInt = 1 by decide), (by omega), (⟨fun h => by first | exact ⟨rfl, rfl⟩ | exact absurd h (by omega), fun h => by first | exact absurd (by omega) h | exact ⟨(by first | exact mdR_y (bb1 hF (by omega)) (fun j => by simp [ui]) | exact mdR_n (bb0 hF (by omega)) (fun j q => by simp [ui, q]) (by simp [ui])), (by first | exact mdR_y (bb1 hS (by omega)) (fun j => by simp [ui]) | exact mdR_n (bb0 hS (by omega)) (fun j q => by simp [ui, q]) (by simp [ui]))⟩⟩), Iq19, frq20⟩
      · have pq21 : ¬ (ffb (loF (Mq.1 2 ((Mq.1 7 a1.toNat).toInt).toNat) (Mq.1 4 ((Mq.1 7 a1.toNat).toInt).toNat) (Mq.1 5 ((Mq.1 10 a1.toNat).toInt).toNat)) (hvF (Mq.1 3 ((Mq.1 7 a1.toNat).toInt).toNat) (Mq.1 4 ((Mq.1 7 a1.toNat).toInt).toNat) (Mq.1 6 ((Mq.1 10 a1.toNat).toInt).toNat) (Mq.1 5 ((Mq.1 10 a1.toNat).toInt).toNat)) (Mq.1 12) = true) := by first | omega | (rcases hq8 with ⟨z1, z2⟩ | ⟨z1, z2⟩ <;> first | exact z2 | (exfalso; omega))
        refine g_aload_n X 1 rfl dX5_mend_35 ?_
        refine g_getr X f_X5_31 dX5_mend_36 ?_
        refine g_iload_n X 2 rfl dX5_mend_39 ?_
        refine g_iload_n X 3 rfl dX5_mend_40 ?_
        refine g_iast X la_7 t1 dX5_mend_41 (by omega) ?_
        have Iq22 : Iv TX (ui Mq 7 a1.toNat x2) := Iq0.putA 0 39 t2 (by omega) rfl
        have frq23 : Fr W_X5_mend_E Mq (ui Mq 7 a1.toNat x2) := frq0.ui rfl
        refine g_aload_n X 1 rfl dX5_mend_42 ?_
        refine g_aload_n X 1 rfl dX5_mend_43 ?_
        refine g_getr X f_X5_34 dX5_mend_44 ?_
        refine g_iload_n X 2 rfl dX5_mend_47 ?_
        refine g_iald X la_8 t1 dX5_mend_48 (by omega) (x := Mq.1 8 a1.toNat) rfl ?_
        have bq24 := ig_8 Iq0 a1.toNat (by omega)
        refine g_iload X 0 rfl dX5_mend_49 ?_
        refine g_callV X m_X5_80 (c_X5_fitsSecond_E ad (ui Mq 7 a1.toNat x2) (Mq.1 8 a1.toNat) rfl (Mq.1 10 a1.toNat) rfl (by omega) (by omega)) rfl (by decide) (Nat.le_of_ble_eq_true rfl) rfl dX5_mend_51 ?_
        rintro _ _ ⟨rq25, aq26, rfl, tq27, hq28, rfl⟩
        have hq29 : (aq26 = 1 ∧ (fsb (loF (Mq.1 2 ((Mq.1 8 a1.toNat).toInt).toNat) (Mq.1 4 ((Mq.1 8 a1.toNat).toInt).toNat) (Mq.1 5 ((Mq.1 10 a1.toNat).toInt).toNat)) (hvF (Mq.1 3 ((Mq.1 8 a1.toNat).toInt).toNat) (Mq.1 4 ((Mq.1 8 a1.toNat).toInt).toNat) (Mq.1 6 ((Mq.1 10 a1.toNat).toInt).toNat) (Mq.1 5 ((Mq.1 10 a1.toNat).toInt).toNat)) (Mq.1 12) = true)) ∨ (aq26 = 0 ∧ ¬ (fsb (loF (Mq.1 2 ((Mq.1 8 a1.toNat).toInt).toNat) (Mq.1 4 ((Mq.1 8 a1.toNat).toInt).toNat) (Mq.1 5 ((Mq.1 10 a1.toNat).toInt).toNat)) (hvF (Mq.1 3 ((Mq.1 8 a1.toNat).toInt).toNat) (Mq.1 4 ((Mq.1 8 a1.toNat).toInt).toNat) (Mq.1 6 ((Mq.1 10 a1.toNat).toInt).toNat) (Mq.1 5 ((Mq.1 10 a1.toNat).toInt).toNat)) (Mq.1 12) = true)) := hq28
        clear hq28
        have hS : (aq26 = 1 ∧ (SX Mq ((Mq.1 8 a1.toNat).toInt).toNat ((Mq.1 10 a1.toNat).toInt).toNat = true)) ∨ (aq26 = 0 ∧ ¬ (SX Mq ((Mq.1 8 a1.toNat).toInt).toNat ((Mq.1 10 a1.toNat).toInt).toNat = true)) := hq29
        show G Γ (ui Mq 7 a1.toNat x2) 54 [(4, .int (Mq.1 10 a1.toNat)), (0, .ref (ad 1)), (1, .int x1), (2, .int x2), (3, .int x3)] [.int rq25]
        refine g_if_ne X tq27 (tgt := 64) dX5_mend_54 (by decide) (fun cq30 => ?_) (fun cq30 => ?_)
        · have pq31 : (fsb (loF (Mq.1 2 ((Mq.1 8 a1.toNat).toInt).toNat) (Mq.1 4 ((Mq.1 8 a1.toNat).toInt).toNat) (Mq.1 5 ((Mq.1 10 a1.toNat).toInt).toNat)) (hvF (Mq.1 3 ((Mq.1 8 a1.toNat).toInt).toNat) (Mq.1 4 ((Mq.1 8 a1.toNat).toInt).toNat) (Mq.1 6 ((Mq.1 10 a1.toNat).toInt).toNat) (Mq.1 5 ((Mq.1 10 a1.toNat).toInt).toNat)) (Mq.1 12) = true) := by first | omega | (rcases hq29 with ⟨z1, z2⟩ | ⟨z1, z2⟩ <;> first | exact z2 | (exfalso; omega))
          refine g_iconst X 1 dX5_mend_64 (by decide) ?_
          exact g_zret X (b01 (show (1 : Int32).toInt = 1 by decide) (by omega)) dX5_mend_65 ⟨_, _, rfl, (show (1 : Int32).toInt = 1 by decide), (by omega), (⟨fun h => by first | exact ⟨rfl, rfl⟩ | exact absurd h (by omega), fun h => by first | exact absurd (by omega) h | exact ⟨(by first | exact mdR_y (bb1 hF (by omega)) (fun j => by simp [ui]) | exact mdR_n (bb0 hF (by omega)) (fun j q => by simp [ui, q]) (by simp [ui])), (by first | exact mdR_y (bb1 hS (by omega)) (fun j => by simp [ui]) | exact mdR_n (bb0 hS (by omega)) (fun j q => by simp [ui, q]) (by simp [ui]))⟩⟩), Iq22, frq23⟩
        · have pq32 : ¬ (fsb (loF (Mq.1 2 ((Mq.1 8 a1.toNat).toInt).toNat) (Mq.1 4 ((Mq.1 8 a1.toNat).toInt).toNat) (Mq.1 5 ((Mq.1 10 a1.toNat).toInt).toNat)) (hvF (Mq.1 3 ((Mq.1 8 a1.toNat).toInt).toNat) (Mq.1 4 ((Mq.1 8 a1.toNat).toInt).toNat) (Mq.1 6 ((Mq.1 10 a1.toNat).toInt).toNat) (Mq.1 5 ((Mq.1 10 a1.toNat).toInt).toNat)) (Mq.1 12) = true) := by first | omega | (rcases hq29 with ⟨z1, z2⟩ | ⟨z1, z2⟩ <;> first | exact z2 | (exfalso; omega))
          refine g_aload_n X 1 rfl dX5_mend_57 ?_
          refine g_getr X f_X5_34 dX5_mend_58 ?_
          refine g_iload_n X 2 rfl dX5_mend_61 ?_
          refine g_iload_n X 4 rfl dX5_mend_62 ?_
          refine g_iast X la_8 t1 dX5_mend_63 (by omega) ?_
          have Iq33 : Iv TX (ui (ui Mq 7 a1.toNat x2) 8 a1.toNat x3) := Iq22.putA 0 39 t3 (by omega) rfl
          have frq34 : Fr W_X5_mend_E Mq (ui (ui Mq 7 a1.toNat x2) 8 a1.toNat x3) := frq23.ui rfl
          refine g_iconst X 1 dX5_mend_64 (by decide) ?_
          exact g_zret X (b01 (show (1 : Int32).toInt = 1 by decide) (by omega)) dX5_mend_65 ⟨_, _, rfl, (show (1 : Int32).toInt = 1 by decide), (by omega), (⟨fun h => by first | exact ⟨rfl, rfl⟩ | exact absurd h (by omega), fun h => by first | exact absurd (by omega) h | exact ⟨(by first | exact mdR_y (bb1 hF (by omega)) (fun j => by simp [ui]) | exact mdR_n (bb0 hF (by omega)) (fun j q => by simp [ui, q]) (by simp [ui])), (by first | exact mdR_y (bb1 hS (by omega)) (fun j => by simp [ui]) | exact mdR_n (bb0 hS (by omega)) (fun j q => by simp [ui, q]) (by simp [ui]))⟩⟩), Iq33, frq34⟩
    · refine g_iconst X 0 dX5_mend_10 (by decide) ?_
      exact g_zret X (b01 (show (0 : Int32).toInt = 0 by decide) (by omega)) dX5_mend_11 ⟨_, _, rfl, (show (0 : Int32).toInt = 0 by decide), (by omega), (⟨fun h => by first | exact ⟨rfl, rfl⟩ | exact absurd h (by omega), fun h => by first | exact absurd (by omega) h | exact ⟨(by first | exact mdR_y (bb1 hF (by omega)) (fun j => by simp [ui]) | exact mdR_n (bb0 hF (by omega)) (fun j q => by simp [ui, q]) (by simp [ui])), (by first | exact mdR_y (bb1 hS (by omega)) (fun j => by simp [ui]) | exact mdR_n (bb0 hS (by omega)) (fun j q => by simp [ui, q]) (by simp [ui]))⟩⟩), Iq0, frq0⟩
abbrev W_X5_noteBroken_E : List (Nat × Nat) := [(1, 15), (13, 99)]
set_option maxHeartbeats 4000000 in
set_option maxRecDepth 4000 in
theorem c_X5_noteBroken_E (ad : Nat → Nat) (Mq : Mem) (x1 : Int32) {a1 : Int} (t1 : x1.toInt = a1) (Iq0 : Iv TX Mq) : Ctr ad yX5_noteBroken cX5_noteBroken 2 none 0 [.ref (ad 1), .int x1] Mq (fun v M' => v = none ∧ (True) ∧ ((Mq.1 1 15).toInt < 40 → (M'.1 1 15).toInt = (Mq.1 1 15).toInt + 1 ∧ M'.1 13 = (ui Mq 13 ((Mq.1 1 15).toInt).toNat x1).1 13) ∧ Iv TX M' ∧ Fr W_X5_noteBroken_E Mq M') := by
  refine ctr_of (L := [(0, .ref (ad 1)), (1, .int x1)]) (by decide) (Nat.le_of_ble_eq_true rfl) rfl ?_
  intro Γ X
  have X : gX Γ cX5_noteBroken RX5 2 none 0 ad _ := X
  have frq0 : Fr W_X5_noteBroken_E Mq Mq := Fr.rf
  refine g_aload_n X 0 rfl dX5_noteBroken_0 ?_
  refine g_geti X f_X5_60 dX5_noteBroken_1 (x := Mq.1 1 15) rfl ?_
  have bq1 := ig_1_15 Iq0
  refine g_bipush X 40 dX5_noteBroken_4 (by decide) ?_
  refine g_icmp_ge X rfl (show (40 : Int32).toInt = 40 by decide) (tgt := 29) dX5_noteBroken_6 (by decide) (fun cq2 => ?_) (fun cq2 => ?_)
  · exact g_vret X dX5_noteBroken_29 ⟨rfl, trivial, (fun h => by first | exact absurd h (by omega) | exact ⟨by rw [ui_eq]; omega, ui_cell (by decide)⟩), Iq0, frq0⟩
  · refine g_aload_n X 0 rfl dX5_noteBroken_9 ?_
    refine g_getr X f_X5_57 dX5_noteBroken_10 ?_
    refine g_aload_n X 0 rfl dX5_noteBroken_13 ?_
    refine g_geti X f_X5_60 dX5_noteBroken_14 (x := Mq.1 1 15) rfl ?_
    have bq3 := ig_1_15 Iq0
    refine g_iload_n X 1 rfl dX5_noteBroken_17 ?_
    refine g_iast X la_13 rfl dX5_noteBroken_18 (by omega) ?_
    have Iq4 : Iv TX (ui Mq 13 (((Mq.1 1 15).toInt).toNat) x1) := Iq0.otherA rfl
    have frq5 : Fr W_X5_noteBroken_E Mq (ui Mq 13 (((Mq.1 1 15).toInt).toNat) x1) := frq0.ui rfl
    refine g_aload_n X 0 rfl dX5_noteBroken_19 ?_
    refine g_dup X dX5_noteBroken_20 rfl ?_
    refine g_geti X f_X5_60 dX5_noteBroken_21 (x := Mq.1 1 15) rfl ?_
    have bq6 := ig_1_15 Iq0
    refine g_iconst X 1 dX5_noteBroken_24 (by decide) ?_
    refine g_iadd X dX5_noteBroken_25 (fun zq7 eq8 => ?_)
    have tq9 : zq7.toInt = ((Mq.1 1 15).toInt) + 1 := add_nw eq8 rfl (show (1 : Int32).toInt = 1 by decide) (by omega)
    refine g_puti X p_X5_60 dX5_noteBroken_26 ?_
    have Iq10 : Iv TX (ui (ui Mq 13 (((Mq.1 1 15).toInt).toNat) x1) 1 15 zq7) := Iq4.put 0 40 tq9 (by omega) rfl
    have frq11 : Fr W_X5_noteBroken_E Mq (ui (ui Mq 13 (((Mq.1 1 15).toInt).toNat) x1) 1 15 zq7) := frq5.ui rfl
    exact g_vret X dX5_noteBroken_29 ⟨rfl, trivial, (fun h => by first | exact absurd h (by omega) | exact ⟨by rw [ui_eq]; omega, ui_cell (by decide)⟩), Iq10, frq11⟩
abbrev W_X5_putInPlace_E : List (Nat × Nat) := [(1, 15), (13, 99), (7, 99), (8, 99), (10, 99)]
set_option maxHeartbeats 4000000 in
set_option maxRecDepth 4000 in
theorem c_X5_putInPlace_E (ad : Nat → Nat) (Mq : Mem) (x1 : Int32) {a1 : Int} (t1 : x1.toInt = a1) (x2 : Int32) {a2 : Int} (t2 : x2.toInt = a2) (Iq0 : Iv TX Mq) (h1 : 0 ≤ a1 ∧ a1 ≤ 9) (h2 : 0 ≤ a2 ∧ a2 ≤ 9) : Ctr ad yX5_putInPlace cX5_putInPlace 7 (some .int) 3 [.ref (ad 1), .int x1, .int x2] Mq (fun v M' => ∃ (r : Int32) (a : Int), v = some (.int r) ∧ r.toInt = a ∧ (True) ∧ (SWP (fun h => FX Mq h a2.toNat) (fun h => SX Mq h a2.toNat) ((Mq.1 1 3).toInt).toNat ((Mq.1 1 12).toInt).toNat a1 a2 (Mq.1 10) (Mq.1 7) (Mq.1 8) (M'.1 10) (M'.1 7) (M'.1 8) (M'.1 1 15).toInt (M'.1 13) a) ∧ Iv TX M' ∧ Fr W_X5_putInPlace_E Mq M') := by
  refine ctr_of (L := [(0, .ref (ad 1)), (1, .int x1), (2, .int x2)]) (by decide) (Nat.le_of_ble_eq_true rfl) rfl ?_
  intro Γ X
  have X : gX Γ cX5_putInPlace RX5 7 (some .int) 3 ad _ := X
  have frq0 : Fr W_X5_putInPlace_E Mq Mq := Fr.rf
  have g13 := ig_1_3 Iq0
  have g112 := ig_1_12 Iq0
  refine g_aload_n X 0 rfl dX5_putInPlace_0 ?_
  refine g_iload_n X 2 rfl dX5_putInPlace_1 ?_
  refine g_callV X m_X5_87 (c_X5_leastFirst_E ad Mq x2 t2 Iq0 (by omega)) rfl (by decide) (Nat.le_of_ble_eq_true rfl) rfl dX5_putInPlace_2 ?_
  rintro _ _ ⟨rq1, aq2, rfl, tq3, hq4, rfl⟩
  have hlf : lst (fun h => FX Mq h a2.toNat = true) ((Mq.1 1 3).toInt).toNat aq2 := hq4
  have tlf := tq3
  have hlr := lst_rng hlf (by omega)
  show G Γ Mq 5 [(0, .ref (ad 1)), (1, .int x1), (2, .int x2)] [.int rq1]
  refine g_istore_n X (i := 3) [(3, .int rq1), (0, .ref (ad 1)), (1, .int x1), (2, .int x2)] dX5_putInPlace_5 rfl (by decide) rfl ?_
  refine g_aload_n X 1 rfl dX5_putInPlace_6 ?_
  refine g_iload_n X 3 rfl dX5_putInPlace_7 ?_
  refine g_callV X m_X5_91 (c_X5_leastSecond_E ad Mq x2 t2 Iq0 (by omega)) rfl (by decide) (Nat.le_of_ble_eq_true rfl) rfl dX5_putInPlace_8 ?_
  rintro _ _ ⟨rq5, aq6, rfl, tq7, hq8, rfl⟩
  have hls : lst (fun h => SX Mq h a2.toNat = true) ((Mq.1 1 3).toInt).toNat aq6 := hq8
  have tls := tq7
  have hsr := lst_rng hls (by omega)
  show G Γ Mq 11 [(3, .int rq1), (0, .ref (ad 1)), (1, .int x1), (2, .int x2)] [.int rq5]
  refine g_istore X [(4, .int rq5), (3, .int rq1), (0, .ref (ad 1)), (1, .int x1), (2, .int x2)] dX5_putInPlace_11 (by decide) rfl ?_
  refine g_iconst X 0 dX5_putInPlace_13 (by decide) ?_
  refine g_istore X [(5, .int 0), (4, .int rq5), (3, .int rq1), (0, .ref (ad 1)), (1, .int x1), (2, .int x2)] dX5_putInPlace_14 (by decide) rfl ?_
  refine g_aload_n X 3 rfl dX5_putInPlace_16 ?_
  refine g_iconst X 0 dX5_putInPlace_17 (by decide) ?_
  refine g_puti X p_X5_60 dX5_putInPlace_18 ?_
  have ltq9 : (0 : Int32).toInt = 0 := by decide
  have Iq10 : Iv TX (ui Mq 1 15 0) := Iq0.put 0 40 (show (0 : Int32).toInt = 0 by decide) (by omega) rfl
  have frq11 : Fr W_X5_putInPlace_E Mq (ui Mq 1 15 0) := frq0.ui rfl
  refine g_iconst X 0 dX5_putInPlace_21 (by decide) ?_
  refine g_istore X [(6, .int 0), (5, .int 0), (4, .int rq5), (3, .int rq1), (0, .ref (ad 1)), (1, .int x1), (2, .int x2)] dX5_putInPlace_22 (by decide) rfl ?_
  have lp24 : ∀ n : Nat, ∀ (y6_24 : Int32) (b6_24 : Int), y6_24.toInt = b6_24 → ∀ (y5_24 : Int32) (b5_24 : Int), y5_24.toInt = b5_24 → ∀ (M_24 : Mem), (0 ≤ b6_24 ∧ b6_24 ≤ (Mq.1 1 12).toInt) → (SW (fun h => FX Mq h a2.toNat) (fun h => SX Mq h a2.toNat) aq2 aq6 a1 a2 (Mq.1 10) (Mq.1 7) (Mq.1 8) (M_24.1 10) (M_24.1 7) (M_24.1 8) (b6_24).toNat) → (BR (brk (swN (fun h => FX Mq h a2.toNat) (fun h => SX Mq h a2.toNat) a1 (Mq.1 10) (Mq.1 7) (Mq.1 8)) aq2 aq6) (M_24.1 1 15).toInt (M_24.1 13) (b6_24).toNat) → (b5_24 = (ctb (men (swN (fun h => FX Mq h a2.toNat) (fun h => SX Mq h a2.toNat) a1 (Mq.1 10) (Mq.1 7) (Mq.1 8)) aq2 aq6) (b6_24).toNat : Nat)) → (Iv TX M_24) → (Fr W_X5_putInPlace_E Mq M_24) → ((Mq.1 1 12).toInt - b6_24).toNat < n → G Γ M_24 24 [(6, .int y6_24), (5, .int y5_24), (4, .int rq5), (3, .int rq1), (0, .ref (ad 1)), (1, .int x1), (2, .int x2)] [] := by
    intro n
    induction n with
    | zero => intro y6_24 b6_24 e6_24 y5_24 b5_24 e5_24 M_24 i1 i2 i3 i4 I_24 fr_24 hm; exact absurd hm (Nat.not_lt_zero _)
    | succ n ih24 =>
      intro y6_24 b6_24 e6_24 y5_24 b5_24 e5_24 M_24 i1 i2 i3 i4 I_24 fr_24 hm24
      have q1 : (M_24.1 1 12).toInt = (Mq.1 1 12).toInt := congrArg Int32.toInt (fr_24.at 1 12 rfl)
      have i31 := i3.1
      have hcl := ctb_le (brk (swN (fun h => FX Mq h a2.toNat) (fun h => SX Mq h a2.toNat) a1 (Mq.1 10) (Mq.1 7) (Mq.1 8)) aq2 aq6) (b6_24).toNat
      have hcm := ctb_le (men (swN (fun h => FX Mq h a2.toNat) (fun h => SX Mq h a2.toNat) a1 (Mq.1 10) (Mq.1 7) (Mq.1 8)) aq2 aq6) (b6_24).toNat
      refine g_iload X 0 rfl dX5_putInPlace_24 ?_
      refine g_aload_n X 4 rfl dX5_putInPlace_26 ?_
      refine g_geti X f_X5_51 dX5_putInPlace_27 (x := M_24.1 1 12) rfl ?_
      have bq12 := ig_1_12 I_24
      refine g_icmp_ge X e6_24 rfl (tgt := 91) dX5_putInPlace_30 (by decide) (fun cq13 => ?_) (fun cq13 => ?_)
      · refine g_iload X 1 rfl dX5_putInPlace_91 ?_
        exact g_iret X dX5_putInPlace_93 ⟨_, _, rfl, e5_24, trivial, (by have e : b6_24.toNat = ((Mq.1 1 12).toInt).toNat := (by omega); rw [e] at i2 i3 i4; exact ⟨_, _, hlf, hls, i4, i2, i3⟩), I_24, fr_24⟩
      · refine g_aload_n X 4 rfl dX5_putInPlace_33 ?_
        refine g_getr X f_X5_40 dX5_putInPlace_34 ?_
        refine g_iload X 0 rfl dX5_putInPlace_37 ?_
        refine g_iald X la_10 e6_24 dX5_putInPlace_39 (by omega) (x := M_24.1 10 b6_24.toNat) rfl ?_
        have bq14 := ig_10 I_24 b6_24.toNat (by omega)
        refine g_iload_n X 5 rfl dX5_putInPlace_40 ?_
        refine g_icmp_ne X rfl t1 (tgt := 85) dX5_putInPlace_41 (by decide) (fun cq15 => ?_) (fun cq15 => ?_)
        · refine g_iinc X 0 (fun v => [(6, .int v), (5, .int y5_24), (4, .int rq5), (3, .int rq1), (0, .ref (ad 1)), (1, .int x1), (2, .int x2)]) dX5_putInPlace_85 rfl (by decide) (fun _ => rfl) (fun zq16 eq17 => ?_)
          have tq18 : zq16.toInt = b6_24 + 1 := add_nw eq17 e6_24 (show (Int32.ofInt 1).toInt = 1 by decide) (by omega)
          refine g_goto X (tgt := 24) dX5_putInPlace_88 (by decide) ?_
          refine g_sub [0, 1, 2, 3, 4, 5, 6] rfl ?_
          have hnew : (SW (fun h => FX Mq h a2.toNat) (fun h => SX Mq h a2.toNat) aq2 aq6 a1 a2 (Mq.1 10) (Mq.1 7) (Mq.1 8) (M_24.1 10) (M_24.1 7) (M_24.1 8) (b6_24 + 1).toNat) ∧ (BR (brk (swN (fun h => FX Mq h a2.toNat) (fun h => SX Mq h a2.toNat) a1 (Mq.1 10) (Mq.1 7) (Mq.1 8)) aq2 aq6) (M_24.1 1 15).toInt (M_24.1 13) (b6_24 + 1).toNat) ∧ (b5_24 = (ctb (men (swN (fun h => FX Mq h a2.toNat) (fun h => SX Mq h a2.toNat) a1 (Mq.1 10) (Mq.1 7) (Mq.1 8)) aq2 aq6) (b6_24 + 1).toNat : Nat)) := by first | (have w := SW_other i2 (show b6_24.toNat < 40 by omega) (by first | assumption | omega) (show (b6_24 + 1).toNat = b6_24.toNat + 1 by omega); exact ⟨w.1, BR_n i3 (brk_n w.2).1 (show (b6_24 + 1).toNat = b6_24.toNat + 1 by omega), by have z := ctb_n i4 i1.1 (brk_n w.2).2 (show (b6_24 + 1).toNat = b6_24.toNat + 1 by omega); omega⟩) | (have w := SW_scan (H2 := (ui M_24 10 b6_24.toNat x2).1 10) i2 (show b6_24.toNat < 40 by omega) (by first | assumption | omega) (bb1 hsc (by omega)) (fun j q => ui_nj q) (by rw [ui_eq]; exact t2) (show (b6_24 + 1).toNat = b6_24.toNat + 1 by omega); rw [ui_cell (k := 10) (a := 7) (by decide), ui_cell (k := 10) (a := 8) (by decide), ui_cell (k := 10) (a := 13) (by decide)]; exact ⟨w.1, BR_n i3 (brk_n w.2).1 (show (b6_24 + 1).toNat = b6_24.toNat + 1 by omega), by have z := ctb_n i4 i1.1 (brk_n w.2).2 (show (b6_24 + 1).toNat = b6_24.toNat + 1 by omega); omega⟩) | (have hbd : aq2 = -1 ∨ aq6 = -1 := (by rcases hmr with ⟨_, z⟩ | ⟨z, _⟩; exact z; omega); obtain ⟨q7, q8⟩ := hmd.1 hbd; have w := SW_brk (H2 := (ui M_24 10 b6_24.toNat x2).1 10) i2 (show b6_24.toNat < 40 by omega) (by first | assumption | omega) (bb0 hsc (by omega)) (fun j q => ui_nj q) (by rw [ui_eq]; exact t2) hbd (show (b6_24 + 1).toNat = b6_24.toNat + 1 by omega); rw [n10, n7, n8, m10, q7, q8]; exact ⟨w.1, BR_y i3 (brk_b w.2 hbd).1 (by omega) (fun j q => by rw [hnb.2, ui_nj (by rw [m15]; exact q)]; exact congrFun m13 j) (by rw [hnb.2, ← m15, ui_eq]; omega) (show (b6_24 + 1).toNat = b6_24.toNat + 1 by omega), by have z := ctb_n i4 i1.1 (brk_b w.2 hbd).2 (show (b6_24 + 1).toNat = b6_24.toNat + 1 by omega); omega⟩) | (have hok : aq2 ≠ -1 ∧ aq6 ≠ -1 := (by rcases hmr with ⟨z, _⟩ | ⟨_, z⟩; omega; omega); obtain ⟨hA, hB⟩ := hmd.2 (by omega); have w := SW_men (H2 := (ui M_24 10 b6_24.toNat x2).1 10) (A2 := M_24.1 7) (B2 := M_24.1 8) i2 (show b6_24.toNat < 40 by omega) (by first | assumption | omega) (bb0 hsc (by omega)) (fun j q => ⟨ui_nj q, hA.1 j q, hB.1 j q⟩) (by rw [ui_eq]; exact t2) hok (mdR_i hA tlf) (mdR_i hB tls) (show (b6_24 + 1).toNat = b6_24.toNat + 1 by omega); rw [m10, m13, m15]; exact ⟨w.1, BR_n i3 (brk_m w.2 hok).1 (show (b6_24 + 1).toNat = b6_24.toNat + 1 by omega), ctb_y i4 i1.1 (brk_m w.2 hok).2 (show (b6_24 + 1).toNat = b6_24.toNat + 1 by omega)⟩)
          exact ih24 zq16 _ tq18 y5_24 _ e5_24 M_24 (by omega) hnew.1 hnew.2.1 hnew.2.2 I_24 fr_24 (by omega)
        · refine g_aload_n X 4 rfl dX5_putInPlace_44 ?_
          refine g_getr X f_X5_40 dX5_putInPlace_45 ?_
          refine g_iload X 0 rfl dX5_putInPlace_48 ?_
          refine g_iload_n X 6 rfl dX5_putInPlace_50 ?_
          refine g_iast X la_10 e6_24 dX5_putInPlace_51 (by omega) ?_
          have Iq19 : Iv TX (ui M_24 10 b6_24.toNat x2) := I_24.putA 0 9 t2 (by omega) rfl
          have frq20 : Fr W_X5_putInPlace_E Mq (ui M_24 10 b6_24.toNat x2) := fr_24.ui rfl
          refine g_aload_n X 4 rfl dX5_putInPlace_52 ?_
          refine g_iload X 0 rfl dX5_putInPlace_53 ?_
          refine g_callV X m_X5_83 (c_X5_scans_E ad (ui M_24 10 b6_24.toNat x2) y6_24 e6_24 Iq19 (by omega)) rfl (by decide) (Nat.le_of_ble_eq_true rfl) rfl dX5_putInPlace_55 ?_
          rintro _ _ ⟨rq21, aq22, rfl, tq23, hq24, rfl⟩
          have hq25 : (aq22 = 1 ∧ ((ffb (loF ((ui M_24 10 b6_24.toNat x2).1 2 (((ui M_24 10 b6_24.toNat x2).1 7 b6_24.toNat).toInt).toNat) ((ui M_24 10 b6_24.toNat x2).1 4 (((ui M_24 10 b6_24.toNat x2).1 7 b6_24.toNat).toInt).toNat) ((ui M_24 10 b6_24.toNat x2).1 5 (((ui M_24 10 b6_24.toNat x2).1 10 b6_24.toNat).toInt).toNat)) (hvF ((ui M_24 10 b6_24.toNat x2).1 3 (((ui M_24 10 b6_24.toNat x2).1 7 b6_24.toNat).toInt).toNat) ((ui M_24 10 b6_24.toNat x2).1 4 (((ui M_24 10 b6_24.toNat x2).1 7 b6_24.toNat).toInt).toNat) ((ui M_24 10 b6_24.toNat x2).1 6 (((ui M_24 10 b6_24.toNat x2).1 10 b6_24.toNat).toInt).toNat) ((ui M_24 10 b6_24.toNat x2).1 5 (((ui M_24 10 b6_24.toNat x2).1 10 b6_24.toNat).toInt).toNat)) ((ui M_24 10 b6_24.toNat x2).1 12) && fsb (loF ((ui M_24 10 b6_24.toNat x2).1 2 (((ui M_24 10 b6_24.toNat x2).1 8 b6_24.toNat).toInt).toNat) ((ui M_24 10 b6_24.toNat x2).1 4 (((ui M_24 10 b6_24.toNat x2).1 8 b6_24.toNat).toInt).toNat) ((ui M_24 10 b6_24.toNat x2).1 5 (((ui M_24 10 b6_24.toNat x2).1 10 b6_24.toNat).toInt).toNat)) (hvF ((ui M_24 10 b6_24.toNat x2).1 3 (((ui M_24 10 b6_24.toNat x2).1 8 b6_24.toNat).toInt).toNat) ((ui M_24 10 b6_24.toNat x2).1 4 (((ui M_24 10 b6_24.toNat x2).1 8 b6_24.toNat).toInt).toNat) ((ui M_24 10 b6_24.toNat x2).1 6 (((ui M_24 10 b6_24.toNat x2).1 10 b6_24.toNat).toInt).toNat) ((ui M_24 10 b6_24.toNat x2).1 5 (((ui M_24 10 b6_24.toNat x2).1 10 b6_24.toNat).toInt).toNat)) ((ui M_24 10 b6_24.toNat x2).1 12)) = true)) ∨ (aq22 = 0 ∧ ¬ ((ffb (loF ((ui M_24 10 b6_24.toNat x2).1 2 (((ui M_24 10 b6_24.toNat x2).1 7 b6_24.toNat).toInt).toNat) ((ui M_24 10 b6_24.toNat x2).1 4 (((ui M_24 10 b6_24.toNat x2).1 7 b6_24.toNat).toInt).toNat) ((ui M_24 10 b6_24.toNat x2).1 5 (((ui M_24 10 b6_24.toNat x2).1 10 b6_24.toNat).toInt).toNat)) (hvF ((ui M_24 10 b6_24.toNat x2).1 3 (((ui M_24 10 b6_24.toNat x2).1 7 b6_24.toNat).toInt).toNat) ((ui M_24 10 b6_24.toNat x2).1 4 (((ui M_24 10 b6_24.toNat x2).1 7 b6_24.toNat).toInt).toNat) ((ui M_24 10 b6_24.toNat x2).1 6 (((ui M_24 10 b6_24.toNat x2).1 10 b6_24.toNat).toInt).toNat) ((ui M_24 10 b6_24.toNat x2).1 5 (((ui M_24 10 b6_24.toNat x2).1 10 b6_24.toNat).toInt).toNat)) ((ui M_24 10 b6_24.toNat x2).1 12) && fsb (loF ((ui M_24 10 b6_24.toNat x2).1 2 (((ui M_24 10 b6_24.toNat x2).1 8 b6_24.toNat).toInt).toNat) ((ui M_24 10 b6_24.toNat x2).1 4 (((ui M_24 10 b6_24.toNat x2).1 8 b6_24.toNat).toInt).toNat) ((ui M_24 10 b6_24.toNat x2).1 5 (((ui M_24 10 b6_24.toNat x2).1 10 b6_24.toNat).toInt).toNat)) (hvF ((ui M_24 10 b6_24.toNat x2).1 3 (((ui M_24 10 b6_24.toNat x2).1 8 b6_24.toNat).toInt).toNat) ((ui M_24 10 b6_24.toNat x2).1 4 (((ui M_24 10 b6_24.toNat x2).1 8 b6_24.toNat).toInt).toNat) ((ui M_24 10 b6_24.toNat x2).1 6 (((ui M_24 10 b6_24.toNat x2).1 10 b6_24.toNat).toInt).toNat) ((ui M_24 10 b6_24.toNat x2).1 5 (((ui M_24 10 b6_24.toNat x2).1 10 b6_24.toNat).toInt).toNat)) ((ui M_24 10 b6_24.toNat x2).1 12)) = true)) := hq24
          clear hq24
          have fx := FX_fr frq20 (by decide)
          have hsc : (aq22 = 1 ∧ (FX (ui M_24 10 b6_24.toNat x2) (((ui M_24 10 b6_24.toNat x2).1 7 b6_24.toNat).toInt).toNat (((ui M_24 10 b6_24.toNat x2).1 10 b6_24.toNat).toInt).toNat && SX (ui M_24 10 b6_24.toNat x2) (((ui M_24 10 b6_24.toNat x2).1 8 b6_24.toNat).toInt).toNat (((ui M_24 10 b6_24.toNat x2).1 10 b6_24.toNat).toInt).toNat) = true) ∨ (aq22 = 0 ∧ ¬ ((FX (ui M_24 10 b6_24.toNat x2) (((ui M_24 10 b6_24.toNat x2).1 7 b6_24.toNat).toInt).toNat (((ui M_24 10 b6_24.toNat x2).1 10 b6_24.toNat).toInt).toNat && SX (ui M_24 10 b6_24.toNat x2) (((ui M_24 10 b6_24.toNat x2).1 8 b6_24.toNat).toInt).toNat (((ui M_24 10 b6_24.toNat x2).1 10 b6_24.toNat).toInt).toNat) = true)) := hq25
          rw [ui_eq, t2, fx.1, fx.2, ui_cell (k := 10) (a := 7) (by decide), ui_cell (k := 10) (a := 8) (by decide)] at hsc
          show G Γ (ui M_24 10 b6_24.toNat x2) 58 [(6, .int y6_24), (5, .int y5_24), (4, .int rq5), (3, .int rq1), (0, .ref (ad 1)), (1, .int x1), (2, .int x2)] [.int rq21]
          refine g_if_ne X tq23 (tgt := 85) dX5_putInPlace_58 (by decide) (fun cq26 => ?_) (fun cq26 => ?_)
          · have pq27 : ((ffb (loF ((ui M_24 10 b6_24.toNat x2).1 2 (((ui M_24 10 b6_24.toNat x2).1 7 b6_24.toNat).toInt).toNat) ((ui M_24 10 b6_24.toNat x2).1 4 (((ui M_24 10 b6_24.toNat x2).1 7 b6_24.toNat).toInt).toNat) ((ui M_24 10 b6_24.toNat x2).1 5 (((ui M_24 10 b6_24.toNat x2).1 10 b6_24.toNat).toInt).toNat)) (hvF ((ui M_24 10 b6_24.toNat x2).1 3 (((ui M_24 10 b6_24.toNat x2).1 7 b6_24.toNat).toInt).toNat) ((ui M_24 10 b6_24.toNat x2).1 4 (((ui M_24 10 b6_24.toNat x2).1 7 b6_24.toNat).toInt).toNat) ((ui M_24 10 b6_24.toNat x2).1 6 (((ui M_24 10 b6_24.toNat x2).1 10 b6_24.toNat).toInt).toNat) ((ui M_24 10 b6_24.toNat x2).1 5 (((ui M_24 10 b6_24.toNat x2).1 10 b6_24.toNat).toInt).toNat)) ((ui M_24 10 b6_24.toNat x2).1 12) && fsb (loF ((ui M_24 10 b6_24.toNat x2).1 2 (((ui M_24 10 b6_24.toNat x2).1 8 b6_24.toNat).toInt).toNat) ((ui M_24 10 b6_24.toNat x2).1 4 (((ui M_24 10 b6_24.toNat x2).1 8 b6_24.toNat).toInt).toNat) ((ui M_24 10 b6_24.toNat x2).1 5 (((ui M_24 10 b6_24.toNat x2).1 10 b6_24.toNat).toInt).toNat)) (hvF ((ui M_24 10 b6_24.toNat x2).1 3 (((ui M_24 10 b6_24.toNat x2).1 8 b6_24.toNat).toInt).toNat) ((ui M_24 10 b6_24.toNat x2).1 4 (((ui M_24 10 b6_24.toNat x2).1 8 b6_24.toNat).toInt).toNat) ((ui M_24 10 b6_24.toNat x2).1 6 (((ui M_24 10 b6_24.toNat x2).1 10 b6_24.toNat).toInt).toNat) ((ui M_24 10 b6_24.toNat x2).1 5 (((ui M_24 10 b6_24.toNat x2).1 10 b6_24.toNat).toInt).toNat)) ((ui M_24 10 b6_24.toNat x2).1 12)) = true) := by first | omega | (rcases hq25 with ⟨z1, z2⟩ | ⟨z1, z2⟩ <;> first | exact z2 | (exfalso; omega))
            refine g_iinc X 0 (fun v => [(6, .int v), (5, .int y5_24), (4, .int rq5), (3, .int rq1), (0, .ref (ad 1)), (1, .int x1), (2, .int x2)]) dX5_putInPlace_85 rfl (by decide) (fun _ => rfl) (fun zq28 eq29 => ?_)
            have tq30 : zq28.toInt = b6_24 + 1 := add_nw eq29 e6_24 (show (Int32.ofInt 1).toInt = 1 by decide) (by omega)
            refine g_goto X (tgt := 24) dX5_putInPlace_88 (by decide) ?_
            refine g_sub [0, 1, 2, 3, 4, 5, 6] rfl ?_
            have hnew : (SW (fun h => FX Mq h a2.toNat) (fun h => SX Mq h a2.toNat) aq2 aq6 a1 a2 (Mq.1 10) (Mq.1 7) (Mq.1 8) ((ui M_24 10 b6_24.toNat x2).1 10) ((ui M_24 10 b6_24.toNat x2).1 7) ((ui M_24 10 b6_24.toNat x2).1 8) (b6_24 + 1).toNat) ∧ (BR (brk (swN (fun h => FX Mq h a2.toNat) (fun h => SX Mq h a2.toNat) a1 (Mq.1 10) (Mq.1 7) (Mq.1 8)) aq2 aq6) ((ui M_24 10 b6_24.toNat x2).1 1 15).toInt ((ui M_24 10 b6_24.toNat x2).1 13) (b6_24 + 1).toNat) ∧ (b5_24 = (ctb (men (swN (fun h => FX Mq h a2.toNat) (fun h => SX Mq h a2.toNat) a1 (Mq.1 10) (Mq.1 7) (Mq.1 8)) aq2 aq6) (b6_24 + 1).toNat : Nat)) := by first | (have w := SW_other i2 (show b6_24.toNat < 40 by omega) (by first | assumption | omega) (show (b6_24 + 1).toNat = b6_24.toNat + 1 by omega); exact ⟨w.1, BR_n i3 (brk_n w.2).1 (show (b6_24 + 1).toNat = b6_24.toNat + 1 by omega), by have z := ctb_n i4 i1.1 (brk_n w.2).2 (show (b6_24 + 1).toNat = b6_24.toNat + 1 by omega); omega⟩) | (have w := SW_scan (H2 := (ui M_24 10 b6_24.toNat x2).1 10) i2 (show b6_24.toNat < 40 by omega) (by first | assumption | omega) (bb1 hsc (by omega)) (fun j q => ui_nj q) (by rw [ui_eq]; exact t2) (show (b6_24 + 1).toNat = b6_24.toNat + 1 by omega); rw [ui_cell (k := 10) (a := 7) (by decide), ui_cell (k := 10) (a := 8) (by decide), ui_cell (k := 10) (a := 13) (by decide)]; exact ⟨w.1, BR_n i3 (brk_n w.2).1 (show (b6_24 + 1).toNat = b6_24.toNat + 1 by omega), by have z := ctb_n i4 i1.1 (brk_n w.2).2 (show (b6_24 + 1).toNat = b6_24.toNat + 1 by omega); omega⟩) | (have hbd : aq2 = -1 ∨ aq6 = -1 := (by rcases hmr with ⟨_, z⟩ | ⟨z, _⟩; exact z; omega); obtain ⟨q7, q8⟩ := hmd.1 hbd; have w := SW_brk (H2 := (ui M_24 10 b6_24.toNat x2).1 10) i2 (show b6_24.toNat < 40 by omega) (by first | assumption | omega) (bb0 hsc (by omega)) (fun j q => ui_nj q) (by rw [ui_eq]; exact t2) hbd (show (b6_24 + 1).toNat = b6_24.toNat + 1 by omega); rw [n10, n7, n8, m10, q7, q8]; exact ⟨w.1, BR_y i3 (brk_b w.2 hbd).1 (by omega) (fun j q => by rw [hnb.2, ui_nj (by rw [m15]; exact q)]; exact congrFun m13 j) (by rw [hnb.2, ← m15, ui_eq]; omega) (show (b6_24 + 1).toNat = b6_24.toNat + 1 by omega), by have z := ctb_n i4 i1.1 (brk_b w.2 hbd).2 (show (b6_24 + 1).toNat = b6_24.toNat + 1 by omega); omega⟩) | (have hok : aq2 ≠ -1 ∧ aq6 ≠ -1 := (by rcases hmr with ⟨z, _⟩ | ⟨_, z⟩; omega; omega); obtain ⟨hA, hB⟩ := hmd.2 (by omega); have w := SW_men (H2 := (ui M_24 10 b6_24.toNat x2).1 10) (A2 := (ui M_24 10 b6_24.toNat x2).1 7) (B2 := (ui M_24 10 b6_24.toNat x2).1 8) i2 (show b6_24.toNat < 40 by omega) (by first | assumption | omega) (bb0 hsc (by omega)) (fun j q => ⟨ui_nj q, hA.1 j q, hB.1 j q⟩) (by rw [ui_eq]; exact t2) hok (mdR_i hA tlf) (mdR_i hB tls) (show (b6_24 + 1).toNat = b6_24.toNat + 1 by omega); rw [m10, m13, m15]; exact ⟨w.1, BR_n i3 (brk_m w.2 hok).1 (show (b6_24 + 1).toNat = b6_24.toNat + 1 by omega), ctb_y i4 i1.1 (brk_m w.2 hok).2 (show (b6_24 + 1).toNat = b6_24.toNat + 1 by omega)⟩)
            exact ih24 zq28 _ tq30 y5_24 _ e5_24 (ui M_24 10 b6_24.toNat x2) (by omega) hnew.1 hnew.2.1 hnew.2.2 Iq19 frq20 (by omega)
          · have pq31 : ¬ ((ffb (loF ((ui M_24 10 b6_24.toNat x2).1 2 (((ui M_24 10 b6_24.toNat x2).1 7 b6_24.toNat).toInt).toNat) ((ui M_24 10 b6_24.toNat x2).1 4 (((ui M_24 10 b6_24.toNat x2).1 7 b6_24.toNat).toInt).toNat) ((ui M_24 10 b6_24.toNat x2).1 5 (((ui M_24 10 b6_24.toNat x2).1 10 b6_24.toNat).toInt).toNat)) (hvF ((ui M_24 10 b6_24.toNat x2).1 3 (((ui M_24 10 b6_24.toNat x2).1 7 b6_24.toNat).toInt).toNat) ((ui M_24 10 b6_24.toNat x2).1 4 (((ui M_24 10 b6_24.toNat x2).1 7 b6_24.toNat).toInt).toNat) ((ui M_24 10 b6_24.toNat x2).1 6 (((ui M_24 10 b6_24.toNat x2).1 10 b6_24.toNat).toInt).toNat) ((ui M_24 10 b6_24.toNat x2).1 5 (((ui M_24 10 b6_24.toNat x2).1 10 b6_24.toNat).toInt).toNat)) ((ui M_24 10 b6_24.toNat x2).1 12) && fsb (loF ((ui M_24 10 b6_24.toNat x2).1 2 (((ui M_24 10 b6_24.toNat x2).1 8 b6_24.toNat).toInt).toNat) ((ui M_24 10 b6_24.toNat x2).1 4 (((ui M_24 10 b6_24.toNat x2).1 8 b6_24.toNat).toInt).toNat) ((ui M_24 10 b6_24.toNat x2).1 5 (((ui M_24 10 b6_24.toNat x2).1 10 b6_24.toNat).toInt).toNat)) (hvF ((ui M_24 10 b6_24.toNat x2).1 3 (((ui M_24 10 b6_24.toNat x2).1 8 b6_24.toNat).toInt).toNat) ((ui M_24 10 b6_24.toNat x2).1 4 (((ui M_24 10 b6_24.toNat x2).1 8 b6_24.toNat).toInt).toNat) ((ui M_24 10 b6_24.toNat x2).1 6 (((ui M_24 10 b6_24.toNat x2).1 10 b6_24.toNat).toInt).toNat) ((ui M_24 10 b6_24.toNat x2).1 5 (((ui M_24 10 b6_24.toNat x2).1 10 b6_24.toNat).toInt).toNat)) ((ui M_24 10 b6_24.toNat x2).1 12)) = true) := by first | omega | (rcases hq25 with ⟨z1, z2⟩ | ⟨z1, z2⟩ <;> first | exact z2 | (exfalso; omega))
            refine g_aload_n X 4 rfl dX5_putInPlace_61 ?_
            refine g_iload X 0 rfl dX5_putInPlace_62 ?_
            refine g_iload_n X 3 rfl dX5_putInPlace_64 ?_
            refine g_iload X 2 rfl dX5_putInPlace_65 ?_
            refine g_callV X m_X5_94 (c_X5_mend_E ad (ui M_24 10 b6_24.toNat x2) y6_24 e6_24 rq1 tq3 rq5 tq7 Iq19 (by omega) (by omega) (by omega)) rfl (by decide) (Nat.le_of_ble_eq_true rfl) rfl dX5_putInPlace_67 ?_
            rintro _ Mq37 ⟨rq32, aq33, rfl, tq34, hq35, hq36, Iq38, frq39⟩
            have frq40 : Fr W_X5_putInPlace_E Mq Mq37 := frq20.trans frq39 rfl
            have hmr := hq35
            have hmd := hq36
            rw [ui_eq, t2, fx.1, fx.2, ui_cell (k := 10) (a := 7) (by decide), ui_cell (k := 10) (a := 8) (by decide)] at hmd
            have m10 : Mq37.1 10 = (ui M_24 10 b6_24.toNat x2).1 10 := row_fr frq39 (by decide)
            have m13 : Mq37.1 13 = M_24.1 13 := (row_fr frq39 (by decide)).trans (ui_cell (by decide))
            have m15 : (Mq37.1 1 15).toInt = (M_24.1 1 15).toInt := congrArg Int32.toInt (frq39.at 1 15 rfl)
            show G Γ Mq37 70 [(6, .int y6_24), (5, .int y5_24), (4, .int rq5), (3, .int rq1), (0, .ref (ad 1)), (1, .int x1), (2, .int x2)] [.int rq32]
            refine g_if_eq X tq34 (tgt := 79) dX5_putInPlace_70 (by decide) (fun cq41 => ?_) (fun cq41 => ?_)
            · refine g_aload_n X 4 rfl dX5_putInPlace_79 ?_
              refine g_iload X 0 rfl dX5_putInPlace_80 ?_
              refine g_callV X m_X5_98 (c_X5_noteBroken_E ad Mq37 y6_24 e6_24 Iq38) rfl (by decide) (Nat.le_of_ble_eq_true rfl) rfl dX5_putInPlace_82 ?_
              rintro _ Mq47 ⟨rfl, hq45, hq46, Iq48, frq49⟩
              have frq50 : Fr W_X5_putInPlace_E Mq Mq47 := frq40.trans frq49 rfl
              have hnb := hq46 (by omega)
              have n10 : Mq47.1 10 = Mq37.1 10 := row_fr frq49 (by decide)
              have n7 : Mq47.1 7 = Mq37.1 7 := row_fr frq49 (by decide)
              have n8 : Mq47.1 8 = Mq37.1 8 := row_fr frq49 (by decide)
              show G Γ Mq47 85 [(6, .int y6_24), (5, .int y5_24), (4, .int rq5), (3, .int rq1), (0, .ref (ad 1)), (1, .int x1), (2, .int x2)] []
              refine g_iinc X 0 (fun v => [(6, .int v), (5, .int y5_24), (4, .int rq5), (3, .int rq1), (0, .ref (ad 1)), (1, .int x1), (2, .int x2)]) dX5_putInPlace_85 rfl (by decide) (fun _ => rfl) (fun zq51 eq52 => ?_)
              have tq53 : zq51.toInt = b6_24 + 1 := add_nw eq52 e6_24 (show (Int32.ofInt 1).toInt = 1 by decide) (by omega)
              refine g_goto X (tgt := 24) dX5_putInPlace_88 (by decide) ?_
              refine g_sub [0, 1, 2, 3, 4, 5, 6] rfl ?_
              have hnew : (SW (fun h => FX Mq h a2.toNat) (fun h => SX Mq h a2.toNat) aq2 aq6 a1 a2 (Mq.1 10) (Mq.1 7) (Mq.1 8) (Mq47.1 10) (Mq47.1 7) (Mq47.1 8) (b6_24 + 1).toNat) ∧ (BR (brk (swN (fun h => FX Mq h a2.toNat) (fun h => SX Mq h a2.toNat) a1 (Mq.1 10) (Mq.1 7) (Mq.1 8)) aq2 aq6) (Mq47.1 1 15).toInt (Mq47.1 13) (b6_24 + 1).toNat) ∧ (b5_24 = (ctb (men (swN (fun h => FX Mq h a2.toNat) (fun h => SX Mq h a2.toNat) a1 (Mq.1 10) (Mq.1 7) (Mq.1 8)) aq2 aq6) (b6_24 + 1).toNat : Nat)) := by first | (have w := SW_other i2 (show b6_24.toNat < 40 by omega) (by first | assumption | omega) (show (b6_24 + 1).toNat = b6_24.toNat + 1 by omega); exact ⟨w.1, BR_n i3 (brk_n w.2).1 (show (b6_24 + 1).toNat = b6_24.toNat + 1 by omega), by have z := ctb_n i4 i1.1 (brk_n w.2).2 (show (b6_24 + 1).toNat = b6_24.toNat + 1 by omega); omega⟩) | (have w := SW_scan (H2 := (ui M_24 10 b6_24.toNat x2).1 10) i2 (show b6_24.toNat < 40 by omega) (by first | assumption | omega) (bb1 hsc (by omega)) (fun j q => ui_nj q) (by rw [ui_eq]; exact t2) (show (b6_24 + 1).toNat = b6_24.toNat + 1 by omega); rw [ui_cell (k := 10) (a := 7) (by decide), ui_cell (k := 10) (a := 8) (by decide), ui_cell (k := 10) (a := 13) (by decide)]; exact ⟨w.1, BR_n i3 (brk_n w.2).1 (show (b6_24 + 1).toNat = b6_24.toNat + 1 by omega), by have z := ctb_n i4 i1.1 (brk_n w.2).2 (show (b6_24 + 1).toNat = b6_24.toNat + 1 by omega); omega⟩) | (have hbd : aq2 = -1 ∨ aq6 = -1 := (by rcases hmr with ⟨_, z⟩ | ⟨z, _⟩; exact z; omega); obtain ⟨q7, q8⟩ := hmd.1 hbd; have w := SW_brk (H2 := (ui M_24 10 b6_24.toNat x2).1 10) i2 (show b6_24.toNat < 40 by omega) (by first | assumption | omega) (bb0 hsc (by omega)) (fun j q => ui_nj q) (by rw [ui_eq]; exact t2) hbd (show (b6_24 + 1).toNat = b6_24.toNat + 1 by omega); rw [n10, n7, n8, m10, q7, q8]; exact ⟨w.1, BR_y i3 (brk_b w.2 hbd).1 (by omega) (fun j q => by rw [hnb.2, ui_nj (by rw [m15]; exact q)]; exact congrFun m13 j) (by rw [hnb.2, ← m15, ui_eq]; omega) (show (b6_24 + 1).toNat = b6_24.toNat + 1 by omega), by have z := ctb_n i4 i1.1 (brk_b w.2 hbd).2 (show (b6_24 + 1).toNat = b6_24.toNat + 1 by omega); omega⟩) | (have hok : aq2 ≠ -1 ∧ aq6 ≠ -1 := (by rcases hmr with ⟨z, _⟩ | ⟨_, z⟩; omega; omega); obtain ⟨hA, hB⟩ := hmd.2 (by omega); have w := SW_men (H2 := (ui M_24 10 b6_24.toNat x2).1 10) (A2 := Mq47.1 7) (B2 := Mq47.1 8) i2 (show b6_24.toNat < 40 by omega) (by first | assumption | omega) (bb0 hsc (by omega)) (fun j q => ⟨ui_nj q, hA.1 j q, hB.1 j q⟩) (by rw [ui_eq]; exact t2) hok (mdR_i hA tlf) (mdR_i hB tls) (show (b6_24 + 1).toNat = b6_24.toNat + 1 by omega); rw [m10, m13, m15]; exact ⟨w.1, BR_n i3 (brk_m w.2 hok).1 (show (b6_24 + 1).toNat = b6_24.toNat + 1 by omega), ctb_y i4 i1.1 (brk_m w.2 hok).2 (show (b6_24 + 1).toNat = b6_24.toNat + 1 by omega)⟩)
              exact ih24 zq51 _ tq53 y5_24 _ e5_24 Mq47 (by omega) hnew.1 hnew.2.1 hnew.2.2 Iq48 frq50 (by omega)
            · refine g_iinc X 1 (fun v => [(5, .int v), (6, .int y6_24), (4, .int rq5), (3, .int rq1), (0, .ref (ad 1)), (1, .int x1), (2, .int x2)]) dX5_putInPlace_73 rfl (by decide) (fun _ => rfl) (fun zq54 eq55 => ?_)
              have tq56 : zq54.toInt = b5_24 + 1 := add_nw eq55 e5_24 (show (Int32.ofInt 1).toInt = 1 by decide) (by omega)
              refine g_goto X (tgt := 85) dX5_putInPlace_76 (by decide) ?_
              refine g_iinc X 1 (fun v => [(6, .int v), (5, .int zq54), (4, .int rq5), (3, .int rq1), (0, .ref (ad 1)), (1, .int x1), (2, .int x2)]) dX5_putInPlace_85 rfl (by decide) (fun _ => rfl) (fun zq57 eq58 => ?_)
              have tq59 : zq57.toInt = b6_24 + 1 := add_nw eq58 e6_24 (show (Int32.ofInt 1).toInt = 1 by decide) (by omega)
              refine g_goto X (tgt := 24) dX5_putInPlace_88 (by decide) ?_
              refine g_sub [0, 1, 2, 3, 4, 5, 6] rfl ?_
              have hnew : (SW (fun h => FX Mq h a2.toNat) (fun h => SX Mq h a2.toNat) aq2 aq6 a1 a2 (Mq.1 10) (Mq.1 7) (Mq.1 8) (Mq37.1 10) (Mq37.1 7) (Mq37.1 8) (b6_24 + 1).toNat) ∧ (BR (brk (swN (fun h => FX Mq h a2.toNat) (fun h => SX Mq h a2.toNat) a1 (Mq.1 10) (Mq.1 7) (Mq.1 8)) aq2 aq6) (Mq37.1 1 15).toInt (Mq37.1 13) (b6_24 + 1).toNat) ∧ ((b5_24 + 1) = (ctb (men (swN (fun h => FX Mq h a2.toNat) (fun h => SX Mq h a2.toNat) a1 (Mq.1 10) (Mq.1 7) (Mq.1 8)) aq2 aq6) (b6_24 + 1).toNat : Nat)) := by first | (have w := SW_other i2 (show b6_24.toNat < 40 by omega) (by first | assumption | omega) (show (b6_24 + 1).toNat = b6_24.toNat + 1 by omega); exact ⟨w.1, BR_n i3 (brk_n w.2).1 (show (b6_24 + 1).toNat = b6_24.toNat + 1 by omega), by have z := ctb_n i4 i1.1 (brk_n w.2).2 (show (b6_24 + 1).toNat = b6_24.toNat + 1 by omega); omega⟩) | (have w := SW_scan (H2 := (ui M_24 10 b6_24.toNat x2).1 10) i2 (show b6_24.toNat < 40 by omega) (by first | assumption | omega) (bb1 hsc (by omega)) (fun j q => ui_nj q) (by rw [ui_eq]; exact t2) (show (b6_24 + 1).toNat = b6_24.toNat + 1 by omega); rw [ui_cell (k := 10) (a := 7) (by decide), ui_cell (k := 10) (a := 8) (by decide), ui_cell (k := 10) (a := 13) (by decide)]; exact ⟨w.1, BR_n i3 (brk_n w.2).1 (show (b6_24 + 1).toNat = b6_24.toNat + 1 by omega), by have z := ctb_n i4 i1.1 (brk_n w.2).2 (show (b6_24 + 1).toNat = b6_24.toNat + 1 by omega); omega⟩) | (have hbd : aq2 = -1 ∨ aq6 = -1 := (by rcases hmr with ⟨_, z⟩ | ⟨z, _⟩; exact z; omega); obtain ⟨q7, q8⟩ := hmd.1 hbd; have w := SW_brk (H2 := (ui M_24 10 b6_24.toNat x2).1 10) i2 (show b6_24.toNat < 40 by omega) (by first | assumption | omega) (bb0 hsc (by omega)) (fun j q => ui_nj q) (by rw [ui_eq]; exact t2) hbd (show (b6_24 + 1).toNat = b6_24.toNat + 1 by omega); rw [n10, n7, n8, m10, q7, q8]; exact ⟨w.1, BR_y i3 (brk_b w.2 hbd).1 (by omega) (fun j q => by rw [hnb.2, ui_nj (by rw [m15]; exact q)]; exact congrFun m13 j) (by rw [hnb.2, ← m15, ui_eq]; omega) (show (b6_24 + 1).toNat = b6_24.toNat + 1 by omega), by have z := ctb_n i4 i1.1 (brk_b w.2 hbd).2 (show (b6_24 + 1).toNat = b6_24.toNat + 1 by omega); omega⟩) | (have hok : aq2 ≠ -1 ∧ aq6 ≠ -1 := (by rcases hmr with ⟨z, _⟩ | ⟨_, z⟩; omega; omega); obtain ⟨hA, hB⟩ := hmd.2 (by omega); have w := SW_men (H2 := (ui M_24 10 b6_24.toNat x2).1 10) (A2 := Mq37.1 7) (B2 := Mq37.1 8) i2 (show b6_24.toNat < 40 by omega) (by first | assumption | omega) (bb0 hsc (by omega)) (fun j q => ⟨ui_nj q, hA.1 j q, hB.1 j q⟩) (by rw [ui_eq]; exact t2) hok (mdR_i hA tlf) (mdR_i hB tls) (show (b6_24 + 1).toNat = b6_24.toNat + 1 by omega); rw [m10, m13, m15]; exact ⟨w.1, BR_n i3 (brk_m w.2 hok).1 (show (b6_24 + 1).toNat = b6_24.toNat + 1 by omega), ctb_y i4 i1.1 (brk_m w.2 hok).2 (show (b6_24 + 1).toNat = b6_24.toNat + 1 by omega)⟩)
              exact ih24 zq57 _ tq59 zq54 _ tq56 Mq37 (by omega) hnew.1 hnew.2.1 hnew.2.2 Iq38 frq40 (by omega)
  refine g_sub [0, 1, 2, 3, 4, 5, 6] rfl ?_
  exact lp24 _ 0 _ (show (0 : Int32).toInt = 0 by decide) 0 _ (show (0 : Int32).toInt = 0 by decide) (ui Mq 1 15 0) (by omega) (by rw [ui_cell (k := 1) (a := 10) (by decide), ui_cell (k := 1) (a := 7) (by decide), ui_cell (k := 1) (a := 8) (by decide)]; exact SW_0) (by rw [ui_eq, show ((0 : Int32)).toInt = 0 by decide]; exact BR_0) rfl Iq10 frq11 (Nat.lt_succ_self _)
abbrev W_X6_swap_E : List (Nat × Nat) := [(1, 15), (13, 99), (7, 99), (8, 99), (10, 99)]
set_option maxHeartbeats 4000000 in
set_option maxRecDepth 4000 in
theorem c_X6_swap_E (ad : Nat → Nat) (Mq : Mem) (x1 : Int32) {a1 : Int} (t1 : x1.toInt = a1) (x2 : Int32) {a2 : Int} (t2 : x2.toInt = a2) (Iq0 : Iv TX Mq) : Ctr ad yX6_swap cX6_swap 3 (some .int) 4 [.ref (ad 0), .int x1, .int x2] Mq (fun v M' => ∃ (r : Int32) (a : Int), v = some (.int r) ∧ r.toInt = a ∧ (((¬ (0 ≤ a1 ∧ a1 ≤ 9 ∧ 0 ≤ a2 ∧ a2 ≤ 9)) ∧ (a = -1)) ∨ (¬ (¬ (0 ≤ a1 ∧ a1 ≤ 9 ∧ 0 ≤ a2 ∧ a2 ≤ 9)) ∧ (a1 = a2) ∧ (a = -2)) ∨ (¬ (¬ (0 ≤ a1 ∧ a1 ≤ 9 ∧ 0 ≤ a2 ∧ a2 ≤ 9)) ∧ ¬ (a1 = a2) ∧ (True))) ∧ (((¬ (0 ≤ a1 ∧ a1 ≤ 9 ∧ 0 ≤ a2 ∧ a2 ≤ 9) ∨ a1 = a2) → M' = Mq) ∧ (¬ (¬ (0 ≤ a1 ∧ a1 ≤ 9 ∧ 0 ≤ a2 ∧ a2 ≤ 9) ∨ a1 = a2) → SWP (fun h => FX Mq h a2.toNat) (fun h => SX Mq h a2.toNat) ((Mq.1 1 3).toInt).toNat ((Mq.1 1 12).toInt).toNat a1 a2 (Mq.1 10) (Mq.1 7) (Mq.1 8) (M'.1 10) (M'.1 7) (M'.1 8) (M'.1 1 15).toInt (M'.1 13) a)) ∧ Iv TX M' ∧ Fr W_X6_swap_E Mq M') := by
  refine ctr_of (L := [(0, .ref (ad 0)), (1, .int x1), (2, .int x2)]) (by decide) (Nat.le_of_ble_eq_true rfl) rfl ?_
  intro Γ X
  have X : gX Γ cX6_swap RX6 3 (some .int) 4 ad _ := X
  have frq0 : Fr W_X6_swap_E Mq Mq := Fr.rf
  refine g_iload_n X 1 rfl dX6_swap_0 ?_
  refine g_iconst X 0 dX6_swap_1 (by decide) ?_
  refine g_bipush X 9 dX6_swap_2 (by decide) ?_
  refine g_callS X m_X6_61 (c_X6_inside ad Mq x1 t1 0 (show (0 : Int32).toInt = 0 by decide) 9 (show (9 : Int32).toInt = 9 by decide)) rfl (by decide) (Nat.le_of_ble_eq_true rfl) rfl dX6_swap_4 ?_
  rintro _ _ ⟨rq1, aq2, rfl, tq3, hq4, rfl⟩
  show G Γ Mq 7 [(0, .ref (ad 0)), (1, .int x1), (2, .int x2)] [.int rq1]
  refine g_if_eq X tq3 (tgt := 20) dX6_swap_7 (by decide) (fun cq5 => ?_) (fun cq5 => ?_)
  · have pq6 : ¬ (0 ≤ a1 ∧ a1 ≤ 9) := by first | omega | (rcases hq4 with ⟨z1, z2⟩ | ⟨z1, z2⟩ <;> first | exact z2 | (exfalso; omega))
    clear hq4 cq5 tq3
    refine g_iconst X (-1) dX6_swap_20 (by decide) ?_
    exact g_iret X dX6_swap_21 ⟨_, _, rfl, (show ((-1) : Int32).toInt = (-1) by decide), (by first | exact Or.inl ⟨by omega, rfl⟩ | exact Or.inr (Or.inl ⟨by omega, by omega, rfl⟩) | exact Or.inr (Or.inr ⟨by omega, by omega, trivial⟩)), (⟨fun h => by first | rfl | exact absurd h (by omega), fun h => by first | exact trivial | exact absurd (by omega) h⟩), Iq0, frq0⟩
  · have pq7 : (0 ≤ a1 ∧ a1 ≤ 9) := by first | omega | (rcases hq4 with ⟨z1, z2⟩ | ⟨z1, z2⟩ <;> first | exact z2 | (exfalso; omega))
    clear hq4 cq5 tq3
    refine g_iload_n X 2 rfl dX6_swap_10 ?_
    refine g_iconst X 0 dX6_swap_11 (by decide) ?_
    refine g_bipush X 9 dX6_swap_12 (by decide) ?_
    refine g_callS X m_X6_61 (c_X6_inside ad Mq x2 t2 0 (show (0 : Int32).toInt = 0 by decide) 9 (show (9 : Int32).toInt = 9 by decide)) rfl (by decide) (Nat.le_of_ble_eq_true rfl) rfl dX6_swap_14 ?_
    rintro _ _ ⟨rq8, aq9, rfl, tq10, hq11, rfl⟩
    show G Γ Mq 17 [(0, .ref (ad 0)), (1, .int x1), (2, .int x2)] [.int rq8]
    refine g_if_ne X tq10 (tgt := 22) dX6_swap_17 (by decide) (fun cq12 => ?_) (fun cq12 => ?_)
    · have pq13 : (0 ≤ a2 ∧ a2 ≤ 9) := by first | omega | (rcases hq11 with ⟨z1, z2⟩ | ⟨z1, z2⟩ <;> first | exact z2 | (exfalso; omega))
      clear hq11 cq12 tq10
      refine g_iload_n X 1 rfl dX6_swap_22 ?_
      refine g_iload_n X 2 rfl dX6_swap_23 ?_
      refine g_icmp_ne X t1 t2 (tgt := 30) dX6_swap_24 (by decide) (fun cq14 => ?_) (fun cq14 => ?_)
      · refine g_aload_n X 0 rfl dX6_swap_30 ?_
        refine g_getr X f_X6_10 dX6_swap_31 ?_
        refine g_iload_n X 1 rfl dX6_swap_34 ?_
        refine g_iload_n X 2 rfl dX6_swap_35 ?_
        refine g_callV X m_X6_129 (c_X5_putInPlace_E ad Mq x1 t1 x2 t2 Iq0 (by omega) (by omega)) rfl (by decide) (Nat.le_of_ble_eq_true rfl) rfl dX6_swap_36 ?_
        rintro _ Mq20 ⟨rq15, aq16, rfl, tq17, hq18, hq19, Iq21, frq22⟩
        have frq23 : Fr W_X6_swap_E Mq Mq20 := frq0.trans frq22 rfl
        show G Γ Mq20 39 [(0, .ref (ad 0)), (1, .int x1), (2, .int x2)] [.int rq15]
        exact g_iret X dX6_swap_39 ⟨_, _, rfl, tq17, (by first | exact Or.inl ⟨by omega, rfl⟩ | exact Or.inr (Or.inl ⟨by omega, by omega, rfl⟩) | exact Or.inr (Or.inr ⟨by omega, by omega, trivial⟩)), (⟨fun h => by first | rfl | exact absurd h (by omega), fun h => by first | exact hq19 | exact absurd (by omega) h⟩), Iq21, frq23⟩
      · refine g_bipush X (-2) dX6_swap_27 (by decide) ?_
        exact g_iret X dX6_swap_29 ⟨_, _, rfl, (show ((-2) : Int32).toInt = (-2) by decide), (by first | exact Or.inl ⟨by omega, rfl⟩ | exact Or.inr (Or.inl ⟨by omega, by omega, rfl⟩) | exact Or.inr (Or.inr ⟨by omega, by omega, trivial⟩)), (⟨fun h => by first | rfl | exact absurd h (by omega), fun h => by first | exact trivial | exact absurd (by omega) h⟩), Iq0, frq0⟩
    · have pq24 : ¬ (0 ≤ a2 ∧ a2 ≤ 9) := by first | omega | (rcases hq11 with ⟨z1, z2⟩ | ⟨z1, z2⟩ <;> first | exact z2 | (exfalso; omega))
      clear hq11 cq12 tq10
      refine g_iconst X (-1) dX6_swap_20 (by decide) ?_
      exact g_iret X dX6_swap_21 ⟨_, _, rfl, (show ((-1) : Int32).toInt = (-1) by decide), (by first | exact Or.inl ⟨by omega, rfl⟩ | exact Or.inr (Or.inl ⟨by omega, by omega, rfl⟩) | exact Or.inr (Or.inr ⟨by omega, by omega, trivial⟩)), (⟨fun h => by first | rfl | exact absurd h (by omega), fun h => by first | exact trivial | exact absurd (by omega) h⟩), Iq0, frq0⟩
set_option maxHeartbeats 4000000 in
set_option maxRecDepth 4000 in
theorem c_X6_listed_13_E (ad : Nat → Nat) (Mq : Mem) (x2 : Int32) {a2 : Int} (t2 : x2.toInt = a2) (x3 : Int32) {a3 : Int} (t3 : x3.toInt = a3) : Ctr ad yX6_listed cX6_listed 3 (some .int) 0 [.ref (ad 13), .int x2, .int x3] Mq (fun v M' => ∃ (r : Int32) (a : Int), v = some (.int r) ∧ r.toInt = a ∧ ((a3 = -1 ∧ a = a2) ∨ (a3 ≠ -1 ∧ (0 ≤ a3 ∧ a3 < a2 ∧ a3 < 40) ∧ a = (Mq.1 13 a3.toNat).toInt) ∨ (a3 ≠ -1 ∧ ¬ (0 ≤ a3 ∧ a3 < a2 ∧ a3 < 40) ∧ a = -1)) ∧ Mq = M') := by
  refine ctr_of (L := [(0, .ref (ad 13)), (1, .int x2), (2, .int x3)]) (by decide) (Nat.le_of_ble_eq_true rfl) rfl ?_
  intro Γ X
  have X : gX Γ cX6_listed RX6 3 (some .int) 0 ad _ := X
  refine g_iload_n X 2 rfl dX6_listed_0 ?_
  refine g_iconst X (-1) dX6_listed_1 (by decide) ?_
  refine g_icmp_ne X t3 (show ((-1) : Int32).toInt = (-1) by decide) (tgt := 7) dX6_listed_2 (by decide) (fun cq1 => ?_) (fun cq1 => ?_)
  · refine g_iload_n X 2 rfl dX6_listed_7 ?_
    refine g_if_lt X t3 (tgt := 28) dX6_listed_8 (by decide) (fun cq2 => ?_) (fun cq2 => ?_)
    · refine g_iconst X (-1) dX6_listed_28 (by decide) ?_
      exact g_iret X dX6_listed_29 ⟨_, _, rfl, (show ((-1) : Int32).toInt = (-1) by decide), (by omega), rfl⟩
    · refine g_iload_n X 2 rfl dX6_listed_11 ?_
      refine g_iload_n X 1 rfl dX6_listed_12 ?_
      refine g_icmp_ge X t3 t2 (tgt := 28) dX6_listed_13 (by decide) (fun cq3 => ?_) (fun cq3 => ?_)
      · refine g_iconst X (-1) dX6_listed_28 (by decide) ?_
        exact g_iret X dX6_listed_29 ⟨_, _, rfl, (show ((-1) : Int32).toInt = (-1) by decide), (by omega), rfl⟩
      · refine g_iload_n X 2 rfl dX6_listed_16 ?_
        refine g_aload_n X 0 rfl dX6_listed_17 ?_
        refine g_alen X la_13 40 (by decide) dX6_listed_18 ?_
        refine g_icmp_ge X t3 (show (40 : Int32).toInt = 40 by decide) (tgt := 28) dX6_listed_19 (by decide) (fun cq4 => ?_) (fun cq4 => ?_)
        · refine g_iconst X (-1) dX6_listed_28 (by decide) ?_
          exact g_iret X dX6_listed_29 ⟨_, _, rfl, (show ((-1) : Int32).toInt = (-1) by decide), (by omega), rfl⟩
        · refine g_aload_n X 0 rfl dX6_listed_22 ?_
          refine g_iload_n X 2 rfl dX6_listed_23 ?_
          refine g_iald X la_13 t3 dX6_listed_24 (by omega) (x := Mq.1 13 a3.toNat) rfl ?_
          refine g_goto X (tgt := 29) dX6_listed_25 (by decide) ?_
          exact g_iret X dX6_listed_29 ⟨_, _, rfl, rfl, (by omega), rfl⟩
  · refine g_iload_n X 1 rfl dX6_listed_5 ?_
    exact g_iret X dX6_listed_6 ⟨_, _, rfl, t2, (by omega), rfl⟩
set_option maxHeartbeats 4000000 in
set_option maxRecDepth 4000 in
theorem c_X6_broken_E (ad : Nat → Nat) (Mq : Mem) (x1 : Int32) {a1 : Int} (t1 : x1.toInt = a1) (Iq0 : Iv TX Mq) : Ctr ad yX6_broken cX6_broken 2 (some .int) 1 [.ref (ad 0), .int x1] Mq (fun v M' => ∃ (r : Int32) (a : Int), v = some (.int r) ∧ r.toInt = a ∧ ((a1 = -1 ∧ a = (Mq.1 1 15).toInt) ∨ (a1 ≠ -1 ∧ (0 ≤ a1 ∧ a1 < (Mq.1 1 15).toInt ∧ a1 < 40) ∧ a = (Mq.1 13 a1.toNat).toInt) ∨ (a1 ≠ -1 ∧ ¬ (0 ≤ a1 ∧ a1 < (Mq.1 1 15).toInt ∧ a1 < 40) ∧ a = -1)) ∧ Mq = M') := by
  refine ctr_of (L := [(0, .ref (ad 0)), (1, .int x1)]) (by decide) (Nat.le_of_ble_eq_true rfl) rfl ?_
  intro Γ X
  have X : gX Γ cX6_broken RX6 2 (some .int) 1 ad _ := X
  refine g_aload_n X 0 rfl dX6_broken_0 ?_
  refine g_getr X f_X6_10 dX6_broken_1 ?_
  refine g_getr X f_X6_133 dX6_broken_4 ?_
  refine g_aload_n X 0 rfl dX6_broken_7 ?_
  refine g_getr X f_X6_10 dX6_broken_8 ?_
  refine g_geti X f_X6_136 dX6_broken_11 (x := Mq.1 1 15) rfl ?_
  have bq1 := ig_1_15 Iq0
  refine g_iload_n X 1 rfl dX6_broken_14 ?_
  refine g_callS X m_X6_139 (c_X6_listed_13_E ad Mq (Mq.1 1 15) rfl x1 t1) rfl (by decide) (Nat.le_of_ble_eq_true rfl) rfl dX6_broken_15 ?_
  rintro _ _ ⟨rq2, aq3, rfl, tq4, hq5, rfl⟩
  show G Γ Mq 18 [(0, .ref (ad 0)), (1, .int x1)] [.int rq2]
  exact g_iret X dX6_broken_18 ⟨_, _, rfl, tq4, (by omega), rfl⟩
set_option maxHeartbeats 4000000 in
set_option maxRecDepth 4000 in
theorem c_X6_told_E (ad : Nat → Nat) (Mq : Mem) (x1 : Int32) {a1 : Int} (t1 : x1.toInt = a1) (x2 : Int32) {a2 : Int} (t2 : x2.toInt = a2) (Iq0 : Iv TX Mq) : Ctr ad yX6_told cX6_told 3 (some .int) 3 [.ref (ad 0), .int x1, .int x2] Mq (fun v M' => ∃ (r : Int32) (a : Int), v = some (.int r) ∧ r.toInt = a ∧ (((¬ (0 ≤ a1 ∧ a1 < (Mq.1 1 12).toInt)) → (a = -1)) ∧ ((0 ≤ a1 ∧ a1 < (Mq.1 1 12).toInt) → a2 = 0 → (r = Mq.1 7 a1.toNat)) ∧ ((0 ≤ a1 ∧ a1 < (Mq.1 1 12).toInt) → a2 = 1 → (r = Mq.1 8 a1.toNat)) ∧ ((0 ≤ a1 ∧ a1 < (Mq.1 1 12).toInt) → a2 = 2 → (r = Mq.1 9 a1.toNat)) ∧ ((0 ≤ a1 ∧ a1 < (Mq.1 1 12).toInt) → a2 = 3 → (r = Mq.1 10 a1.toNat)) ∧ ((0 ≤ a1 ∧ a1 < (Mq.1 1 12).toInt) → a2 = 4 → ((a = 1 ∧ (b64 (Mq.2 1 11) a1.toNat = true)) ∨ (a = 0 ∧ ¬ (b64 (Mq.2 1 11) a1.toNat = true)))) ∧ ((0 ≤ a1 ∧ a1 < (Mq.1 1 12).toInt) → a2 = 5 → ((a = 1 ∧ ((FX Mq ((Mq.1 7 a1.toNat).toInt).toNat ((Mq.1 10 a1.toNat).toInt).toNat && SX Mq ((Mq.1 8 a1.toNat).toInt).toNat ((Mq.1 10 a1.toNat).toInt).toNat) = true)) ∨ (a = 0 ∧ ¬ ((FX Mq ((Mq.1 7 a1.toNat).toInt).toNat ((Mq.1 10 a1.toNat).toInt).toNat && SX Mq ((Mq.1 8 a1.toNat).toInt).toNat ((Mq.1 10 a1.toNat).toInt).toNat) = true)))) ∧ ((0 ≤ a1 ∧ a1 < (Mq.1 1 12).toInt) → a2 = 6 → (r = (loF (Mq.1 2 ((Mq.1 7 a1.toNat).toInt).toNat) (Mq.1 4 ((Mq.1 7 a1.toNat).toInt).toNat) (Mq.1 5 ((Mq.1 10 a1.toNat).toInt).toNat)) + (loF (Mq.1 2 ((Mq.1 8 a1.toNat).toInt).toNat) (Mq.1 4 ((Mq.1 8 a1.toNat).toInt).toNat) (Mq.1 5 ((Mq.1 10 a1.toNat).toInt).toNat)))) ∧ ((0 ≤ a1 ∧ a1 < (Mq.1 1 12).toInt) → a2 = 7 → (r = (hvF (Mq.1 3 ((Mq.1 7 a1.toNat).toInt).toNat) (Mq.1 4 ((Mq.1 7 a1.toNat).toInt).toNat) (Mq.1 6 ((Mq.1 10 a1.toNat).toInt).toNat) (Mq.1 5 ((Mq.1 10 a1.toNat).toInt).toNat)) ||| ((hvF (Mq.1 3 ((Mq.1 8 a1.toNat).toInt).toNat) (Mq.1 4 ((Mq.1 8 a1.toNat).toInt).toNat) (Mq.1 6 ((Mq.1 10 a1.toNat).toInt).toNat) (Mq.1 5 ((Mq.1 10 a1.toNat).toInt).toNat)) <<< ((loF (Mq.1 2 ((Mq.1 7 a1.toNat).toInt).toNat) (Mq.1 4 ((Mq.1 7 a1.toNat).toInt).toNat) (Mq.1 5 ((Mq.1 10 a1.toNat).toInt).toNat)) &&& 31)))) ∧ ((0 ≤ a1 ∧ a1 < (Mq.1 1 12).toInt) → ¬ (0 ≤ a2 ∧ a2 ≤ 7) → a = -1)) ∧ Mq = M') := by
  refine ctr_of (L := [(0, .ref (ad 0)), (1, .int x1), (2, .int x2)]) (by decide) (Nat.le_of_ble_eq_true rfl) rfl ?_
  intro Γ X
  have X : gX Γ cX6_told RX6 3 (some .int) 3 ad _ := X
  have g112 := ig_1_12 Iq0
  refine g_aload_n X 0 rfl dX6_told_0 ?_
  refine g_getr X f_X6_10 dX6_told_1 ?_
  refine g_iload_n X 1 rfl dX6_told_4 ?_
  refine g_callV X m_X6_96 (c_X5_isLine ad Mq x1 t1) rfl (by decide) (Nat.le_of_ble_eq_true rfl) rfl dX6_told_5 ?_
  rintro _ _ ⟨rq1, aq2, rfl, tq3, hq4, rfl⟩
  show G Γ Mq 8 [(0, .ref (ad 0)), (1, .int x1), (2, .int x2)] [.int rq1]
  refine g_if_ne X tq3 (tgt := 13) dX6_told_8 (by decide) (fun cq5 => ?_) (fun cq5 => ?_)
  · have pq6 : (0 ≤ a1 ∧ a1 < ((Mq.1 1 12)).toInt) := by first | omega | (rcases hq4 with ⟨z1, z2⟩ | ⟨z1, z2⟩ <;> first | exact z2 | (exfalso; omega))
    refine g_iload_n X 2 rfl dX6_told_13 ?_
    rcases (show (a2 < 0 ∨ 7 < a2) ∨ a2 = 0 ∨ a2 = 1 ∨ a2 = 2 ∨ a2 = 3 ∨ a2 = 4 ∨ a2 = 5 ∨ a2 = 6 ∨ a2 = 7 by omega) with cq7 | cq7 | cq7 | cq7 | cq7 | cq7 | cq7 | cq7 | cq7
    · refine g_tabOut X dX6_told_14 t2 cq7 (tgt := 147) (by decide) ?_
      refine g_iconst X (-1) dX6_told_147 (by decide) ?_
      exact g_iret X dX6_told_148 ⟨_, _, rfl, (show ((-1) : Int32).toInt = (-1) by decide), ⟨fun h => by first | rfl | exact absurd h (by omega), fun h h0 => by first | rfl | exact hres | (exfalso; omega) | omega, fun h h1 => by first | rfl | exact hres | (exfalso; omega) | omega, fun h h2 => by first | rfl | exact hres | (exfalso; omega) | omega, fun h h3 => by first | rfl | exact hres | (exfalso; omega) | omega, fun h h4 => by first | rfl | exact hres | (exfalso; omega) | omega, fun h h5 => by first | rfl | exact hres | (exfalso; omega) | omega, fun h h6 => by first | rfl | exact hres | (exfalso; omega) | omega, fun h h7 => by first | rfl | exact hres | (exfalso; omega) | omega, fun h h8 => by first | rfl | exact hres | (exfalso; omega) | omega⟩, rfl⟩
    · refine g_tabIn X dX6_told_14 (a := 0) (t2.trans cq7) (by decide) (by decide) rfl (tgt := 60) (by decide) ?_
      refine g_aload_n X 0 rfl dX6_told_60 ?_
      refine g_getr X f_X6_10 dX6_told_61 ?_
      refine g_getr X f_X6_99 dX6_told_64 ?_
      refine g_iload_n X 1 rfl dX6_told_67 ?_
      refine g_iald X la_7 t1 dX6_told_68 (by omega) (x := Mq.1 7 a1.toNat) rfl ?_
      have bq8 := ig_7 Iq0 a1.toNat (by omega)
      exact g_iret X dX6_told_69 ⟨_, _, rfl, rfl, ⟨fun h => by first | rfl | exact absurd h (by omega), fun h h0 => by first | rfl | exact hres | (exfalso; omega) | omega, fun h h1 => by first | rfl | exact hres | (exfalso; omega) | omega, fun h h2 => by first | rfl | exact hres | (exfalso; omega) | omega, fun h h3 => by first | rfl | exact hres | (exfalso; omega) | omega, fun h h4 => by first | rfl | exact hres | (exfalso; omega) | omega, fun h h5 => by first | rfl | exact hres | (exfalso; omega) | omega, fun h h6 => by first | rfl | exact hres | (exfalso; omega) | omega, fun h h7 => by first | rfl | exact hres | (exfalso; omega) | omega, fun h h8 => by first | rfl | exact hres | (exfalso; omega) | omega⟩, rfl⟩
    · refine g_tabIn X dX6_told_14 (a := 1) (t2.trans cq7) (by decide) (by decide) rfl (tgt := 70) (by decide) ?_
      refine g_aload_n X 0 rfl dX6_told_70 ?_
      refine g_getr X f_X6_10 dX6_told_71 ?_
      refine g_getr X f_X6_102 dX6_told_74 ?_
      refine g_iload_n X 1 rfl dX6_told_77 ?_
      refine g_iald X la_8 t1 dX6_told_78 (by omega) (x := Mq.1 8 a1.toNat) rfl ?_
      have bq9 := ig_8 Iq0 a1.toNat (by omega)
      exact g_iret X dX6_told_79 ⟨_, _, rfl, rfl, ⟨fun h => by first | rfl | exact absurd h (by omega), fun h h0 => by first | rfl | exact hres | (exfalso; omega) | omega, fun h h1 => by first | rfl | exact hres | (exfalso; omega) | omega, fun h h2 => by first | rfl | exact hres | (exfalso; omega) | omega, fun h h3 => by first | rfl | exact hres | (exfalso; omega) | omega, fun h h4 => by first | rfl | exact hres | (exfalso; omega) | omega, fun h h5 => by first | rfl | exact hres | (exfalso; omega) | omega, fun h h6 => by first | rfl | exact hres | (exfalso; omega) | omega, fun h h7 => by first | rfl | exact hres | (exfalso; omega) | omega, fun h h8 => by first | rfl | exact hres | (exfalso; omega) | omega⟩, rfl⟩
    · refine g_tabIn X dX6_told_14 (a := 2) (t2.trans cq7) (by decide) (by decide) rfl (tgt := 80) (by decide) ?_
      refine g_aload_n X 0 rfl dX6_told_80 ?_
      refine g_getr X f_X6_10 dX6_told_81 ?_
      refine g_getr X f_X6_105 dX6_told_84 ?_
      refine g_iload_n X 1 rfl dX6_told_87 ?_
      refine g_iald X la_9 t1 dX6_told_88 (by omega) (x := Mq.1 9 a1.toNat) rfl ?_
      exact g_iret X dX6_told_89 ⟨_, _, rfl, rfl, ⟨fun h => by first | rfl | exact absurd h (by omega), fun h h0 => by first | rfl | exact hres | (exfalso; omega) | omega, fun h h1 => by first | rfl | exact hres | (exfalso; omega) | omega, fun h h2 => by first | rfl | exact hres | (exfalso; omega) | omega, fun h h3 => by first | rfl | exact hres | (exfalso; omega) | omega, fun h h4 => by first | rfl | exact hres | (exfalso; omega) | omega, fun h h5 => by first | rfl | exact hres | (exfalso; omega) | omega, fun h h6 => by first | rfl | exact hres | (exfalso; omega) | omega, fun h h7 => by first | rfl | exact hres | (exfalso; omega) | omega, fun h h8 => by first | rfl | exact hres | (exfalso; omega) | omega⟩, rfl⟩
    · refine g_tabIn X dX6_told_14 (a := 3) (t2.trans cq7) (by decide) (by decide) rfl (tgt := 90) (by decide) ?_
      refine g_aload_n X 0 rfl dX6_told_90 ?_
      refine g_getr X f_X6_10 dX6_told_91 ?_
      refine g_getr X f_X6_108 dX6_told_94 ?_
      refine g_iload_n X 1 rfl dX6_told_97 ?_
      refine g_iald X la_10 t1 dX6_told_98 (by omega) (x := Mq.1 10 a1.toNat) rfl ?_
      have bq10 := ig_10 Iq0 a1.toNat (by omega)
      exact g_iret X dX6_told_99 ⟨_, _, rfl, rfl, ⟨fun h => by first | rfl | exact absurd h (by omega), fun h h0 => by first | rfl | exact hres | (exfalso; omega) | omega, fun h h1 => by first | rfl | exact hres | (exfalso; omega) | omega, fun h h2 => by first | rfl | exact hres | (exfalso; omega) | omega, fun h h3 => by first | rfl | exact hres | (exfalso; omega) | omega, fun h h4 => by first | rfl | exact hres | (exfalso; omega) | omega, fun h h5 => by first | rfl | exact hres | (exfalso; omega) | omega, fun h h6 => by first | rfl | exact hres | (exfalso; omega) | omega, fun h h7 => by first | rfl | exact hres | (exfalso; omega) | omega, fun h h8 => by first | rfl | exact hres | (exfalso; omega) | omega⟩, rfl⟩
    · refine g_tabIn X dX6_told_14 (a := 4) (t2.trans cq7) (by decide) (by decide) rfl (tgt := 100) (by decide) ?_
      refine g_aload_n X 0 rfl dX6_told_100 ?_
      refine g_getr X f_X6_10 dX6_told_101 ?_
      refine g_getl X f_X6_111 dX6_told_104 (x := Mq.2 1 11) rfl ?_
      refine g_iload_n X 1 rfl dX6_told_107 ?_
      refine g_callS X m_X6_115 (c_X6_bit_E ad Mq (Mq.2 1 11) rfl x1 t1 (by omega)) rfl (by decide) (Nat.le_of_ble_eq_true rfl) rfl dX6_told_108 ?_
      rintro _ _ ⟨rq11, aq12, rfl, tq13, hq14, rfl⟩
      have hres := hq14
      show G Γ Mq 111 [(0, .ref (ad 0)), (1, .int x1), (2, .int x2)] [.int rq11]
      exact g_iret X dX6_told_111 ⟨_, _, rfl, tq13, ⟨fun h => by first | rfl | exact absurd h (by omega), fun h h0 => by first | rfl | exact hres | (exfalso; omega) | omega, fun h h1 => by first | rfl | exact hres | (exfalso; omega) | omega, fun h h2 => by first | rfl | exact hres | (exfalso; omega) | omega, fun h h3 => by first | rfl | exact hres | (exfalso; omega) | omega, fun h h4 => by first | rfl | exact hres | (exfalso; omega) | omega, fun h h5 => by first | rfl | exact hres | (exfalso; omega) | omega, fun h h6 => by first | rfl | exact hres | (exfalso; omega) | omega, fun h h7 => by first | rfl | exact hres | (exfalso; omega) | omega, fun h h8 => by first | rfl | exact hres | (exfalso; omega) | omega⟩, rfl⟩
    · refine g_tabIn X dX6_told_14 (a := 5) (t2.trans cq7) (by decide) (by decide) rfl (tgt := 112) (by decide) ?_
      refine g_aload_n X 0 rfl dX6_told_112 ?_
      refine g_getr X f_X6_10 dX6_told_113 ?_
      refine g_iload_n X 1 rfl dX6_told_116 ?_
      refine g_callV X m_X6_119 (c_X5_scans_E ad Mq x1 t1 Iq0 (by omega)) rfl (by decide) (Nat.le_of_ble_eq_true rfl) rfl dX6_told_117 ?_
      rintro _ _ ⟨rq15, aq16, rfl, tq17, hq18, rfl⟩
      have hrs : (aq16 = 1 ∧ ((FX Mq ((Mq.1 7 a1.toNat).toInt).toNat ((Mq.1 10 a1.toNat).toInt).toNat && SX Mq ((Mq.1 8 a1.toNat).toInt).toNat ((Mq.1 10 a1.toNat).toInt).toNat) = true)) ∨ (aq16 = 0 ∧ ¬ ((FX Mq ((Mq.1 7 a1.toNat).toInt).toNat ((Mq.1 10 a1.toNat).toInt).toNat && SX Mq ((Mq.1 8 a1.toNat).toInt).toNat ((Mq.1 10 a1.toNat).toInt).toNat) = true)) := hq18
      show G Γ Mq 120 [(0, .ref (ad 0)), (1, .int x1), (2, .int x2)] [.int rq15]
      refine g_if_eq X tq17 (tgt := 127) dX6_told_120 (by decide) (fun cq19 => ?_) (fun cq19 => ?_)
      · have pq20 : ¬ ((ffb (loF (Mq.1 2 ((Mq.1 7 a1.toNat).toInt).toNat) (Mq.1 4 ((Mq.1 7 a1.toNat).toInt).toNat) (Mq.1 5 ((Mq.1 10 a1.toNat).toInt).toNat)) (hvF (Mq.1 3 ((Mq.1 7 a1.toNat).toInt).toNat) (Mq.1 4 ((Mq.1 7 a1.toNat).toInt).toNat) (Mq.1 6 ((Mq.1 10 a1.toNat).toInt).toNat) (Mq.1 5 ((Mq.1 10 a1.toNat).toInt).toNat)) (Mq.1 12) && fsb (loF (Mq.1 2 ((Mq.1 8 a1.toNat).toInt).toNat) (Mq.1 4 ((Mq.1 8 a1.toNat).toInt).toNat) (Mq.1 5 ((Mq.1 10 a1.toNat).toInt).toNat)) (hvF (Mq.1 3 ((Mq.1 8 a1.toNat).toInt).toNat) (Mq.1 4 ((Mq.1 8 a1.toNat).toInt).toNat) (Mq.1 6 ((Mq.1 10 a1.toNat).toInt).toNat) (Mq.1 5 ((Mq.1 10 a1.toNat).toInt).toNat)) (Mq.1 12)) = true) := by first | omega | (rcases hq18 with ⟨z1, z2⟩ | ⟨z1, z2⟩ <;> first | exact z2 | (exfalso; omega))
        have hres : ((0 : Int) = 1 ∧ ((FX Mq ((Mq.1 7 a1.toNat).toInt).toNat ((Mq.1 10 a1.toNat).toInt).toNat && SX Mq ((Mq.1 8 a1.toNat).toInt).toNat ((Mq.1 10 a1.toNat).toInt).toNat) = true)) ∨ ((0 : Int) = 0 ∧ ¬ ((FX Mq ((Mq.1 7 a1.toNat).toInt).toNat ((Mq.1 10 a1.toNat).toInt).toNat && SX Mq ((Mq.1 8 a1.toNat).toInt).toNat ((Mq.1 10 a1.toNat).toInt).toNat) = true)) := Or.inr ⟨rfl, bb0 hrs (by omega)⟩
        refine g_iconst X 0 dX6_told_127 (by decide) ?_
        exact g_iret X dX6_told_128 ⟨_, _, rfl, (show (0 : Int32).toInt = 0 by decide), ⟨fun h => by first | rfl | exact absurd h (by omega), fun h h0 => by first | rfl | exact hres | (exfalso; omega) | omega, fun h h1 => by first | rfl | exact hres | (exfalso; omega) | omega, fun h h2 => by first | rfl | exact hres | (exfalso; omega) | omega, fun h h3 => by first | rfl | exact hres | (exfalso; omega) | omega, fun h h4 => by first | rfl | exact hres | (exfalso; omega) | omega, fun h h5 => by first | rfl | exact hres | (exfalso; omega) | omega, fun h h6 => by first | rfl | exact hres | (exfalso; omega) | omega, fun h h7 => by first | rfl | exact hres | (exfalso; omega) | omega, fun h h8 => by first | rfl | exact hres | (exfalso; omega) | omega⟩, rfl⟩
      · have pq21 : ((ffb (loF (Mq.1 2 ((Mq.1 7 a1.toNat).toInt).toNat) (Mq.1 4 ((Mq.1 7 a1.toNat).toInt).toNat) (Mq.1 5 ((Mq.1 10 a1.toNat).toInt).toNat)) (hvF (Mq.1 3 ((Mq.1 7 a1.toNat).toInt).toNat) (Mq.1 4 ((Mq.1 7 a1.toNat).toInt).toNat) (Mq.1 6 ((Mq.1 10 a1.toNat).toInt).toNat) (Mq.1 5 ((Mq.1 10 a1.toNat).toInt).toNat)) (Mq.1 12) && fsb (loF (Mq.1 2 ((Mq.1 8 a1.toNat).toInt).toNat) (Mq.1 4 ((Mq.1 8 a1.toNat).toInt).toNat) (Mq.1 5 ((Mq.1 10 a1.toNat).toInt).toNat)) (hvF (Mq.1 3 ((Mq.1 8 a1.toNat).toInt).toNat) (Mq.1 4 ((Mq.1 8 a1.toNat).toInt).toNat) (Mq.1 6 ((Mq.1 10 a1.toNat).toInt).toNat) (Mq.1 5 ((Mq.1 10 a1.toNat).toInt).toNat)) (Mq.1 12)) = true) := by first | omega | (rcases hq18 with ⟨z1, z2⟩ | ⟨z1, z2⟩ <;> first | exact z2 | (exfalso; omega))
        have hres : ((1 : Int) = 1 ∧ ((FX Mq ((Mq.1 7 a1.toNat).toInt).toNat ((Mq.1 10 a1.toNat).toInt).toNat && SX Mq ((Mq.1 8 a1.toNat).toInt).toNat ((Mq.1 10 a1.toNat).toInt).toNat) = true)) ∨ ((1 : Int) = 0 ∧ ¬ ((FX Mq ((Mq.1 7 a1.toNat).toInt).toNat ((Mq.1 10 a1.toNat).toInt).toNat && SX Mq ((Mq.1 8 a1.toNat).toInt).toNat ((Mq.1 10 a1.toNat).toInt).toNat) = true)) := Or.inl ⟨rfl, bb1 hrs (by omega)⟩
        refine g_iconst X 1 dX6_told_123 (by decide) ?_
        refine g_goto X (tgt := 128) dX6_told_124 (by decide) ?_
        exact g_iret X dX6_told_128 ⟨_, _, rfl, (show (1 : Int32).toInt = 1 by decide), ⟨fun h => by first | rfl | exact absurd h (by omega), fun h h0 => by first | rfl | exact hres | (exfalso; omega) | omega, fun h h1 => by first | rfl | exact hres | (exfalso; omega) | omega, fun h h2 => by first | rfl | exact hres | (exfalso; omega) | omega, fun h h3 => by first | rfl | exact hres | (exfalso; omega) | omega, fun h h4 => by first | rfl | exact hres | (exfalso; omega) | omega, fun h h5 => by first | rfl | exact hres | (exfalso; omega) | omega, fun h h6 => by first | rfl | exact hres | (exfalso; omega) | omega, fun h h7 => by first | rfl | exact hres | (exfalso; omega) | omega, fun h h8 => by first | rfl | exact hres | (exfalso; omega) | omega⟩, rfl⟩
    · refine g_tabIn X dX6_told_14 (a := 6) (t2.trans cq7) (by decide) (by decide) rfl (tgt := 129) (by decide) ?_
      refine g_aload_n X 0 rfl dX6_told_129 ?_
      refine g_getr X f_X6_10 dX6_told_130 ?_
      refine g_iload_n X 1 rfl dX6_told_133 ?_
      refine g_callV X m_X6_122 (c_X5_lineBeats_E ad Mq x1 t1 Iq0 (by omega)) rfl (by decide) (Nat.le_of_ble_eq_true rfl) rfl dX6_told_134 ?_
      rintro _ _ ⟨rq22, aq23, rfl, tq24, hq25, rfl⟩
      have hres := hq25
      show G Γ Mq 137 [(0, .ref (ad 0)), (1, .int x1), (2, .int x2)] [.int rq22]
      exact g_iret X dX6_told_137 ⟨_, _, rfl, tq24, ⟨fun h => by first | rfl | exact absurd h (by omega), fun h h0 => by first | rfl | exact hres | (exfalso; omega) | omega, fun h h1 => by first | rfl | exact hres | (exfalso; omega) | omega, fun h h2 => by first | rfl | exact hres | (exfalso; omega) | omega, fun h h3 => by first | rfl | exact hres | (exfalso; omega) | omega, fun h h4 => by first | rfl | exact hres | (exfalso; omega) | omega, fun h h5 => by first | rfl | exact hres | (exfalso; omega) | omega, fun h h6 => by first | rfl | exact hres | (exfalso; omega) | omega, fun h h7 => by first | rfl | exact hres | (exfalso; omega) | omega, fun h h8 => by first | rfl | exact hres | (exfalso; omega) | omega⟩, rfl⟩
    · refine g_tabIn X dX6_told_14 (a := 7) (t2.trans cq7) (by decide) (by decide) rfl (tgt := 138) (by decide) ?_
      refine g_aload_n X 0 rfl dX6_told_138 ?_
      refine g_getr X f_X6_10 dX6_told_139 ?_
      refine g_iload_n X 1 rfl dX6_told_142 ?_
      refine g_callV X m_X6_126 (c_X5_lineHeavy_E ad Mq x1 t1 Iq0 (by omega)) rfl (by decide) (Nat.le_of_ble_eq_true rfl) rfl dX6_told_143 ?_
      rintro _ _ ⟨rq26, aq27, rfl, tq28, hq29, rfl⟩
      show G Γ Mq 146 [(0, .ref (ad 0)), (1, .int x1), (2, .int x2)] [.int rq26]
      exact g_iret X dX6_told_146 ⟨_, _, rfl, tq28, ⟨fun h => by first | rfl | exact absurd h (by omega), fun h h0 => by first | rfl | exact hres | (exfalso; omega) | omega, fun h h1 => by first | rfl | exact hres | (exfalso; omega) | omega, fun h h2 => by first | rfl | exact hres | (exfalso; omega) | omega, fun h h3 => by first | rfl | exact hres | (exfalso; omega) | omega, fun h h4 => by first | rfl | exact hres | (exfalso; omega) | omega, fun h h5 => by first | rfl | exact hres | (exfalso; omega) | omega, fun h h6 => by first | rfl | exact hres | (exfalso; omega) | omega, fun h h7 => by first | rfl | exact hres | (exfalso; omega) | omega, fun h h8 => by first | rfl | exact hres | (exfalso; omega) | omega⟩, rfl⟩
  · have pq30 : ¬ (0 ≤ a1 ∧ a1 < ((Mq.1 1 12)).toInt) := by first | omega | (rcases hq4 with ⟨z1, z2⟩ | ⟨z1, z2⟩ <;> first | exact z2 | (exfalso; omega))
    refine g_iconst X (-1) dX6_told_11 (by decide) ?_
    exact g_iret X dX6_told_12 ⟨_, _, rfl, (show ((-1) : Int32).toInt = (-1) by decide), ⟨fun h => by first | rfl | exact absurd h (by omega), fun h h0 => by first | rfl | exact hres | (exfalso; omega) | omega, fun h h1 => by first | rfl | exact hres | (exfalso; omega) | omega, fun h h2 => by first | rfl | exact hres | (exfalso; omega) | omega, fun h h3 => by first | rfl | exact hres | (exfalso; omega) | omega, fun h h4 => by first | rfl | exact hres | (exfalso; omega) | omega, fun h h5 => by first | rfl | exact hres | (exfalso; omega) | omega, fun h h6 => by first | rfl | exact hres | (exfalso; omega) | omega, fun h h7 => by first | rfl | exact hres | (exfalso; omega) | omega, fun h h8 => by first | rfl | exact hres | (exfalso; omega) | omega⟩, rfl⟩
end
