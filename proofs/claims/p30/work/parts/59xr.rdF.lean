section
abbrev W_X6_filled_R : List (Nat × Nat) := [(30, 99), (37, 4), (37, 5), (39, 99), (37, 6), (38, 99)]
set_option maxHeartbeats 4000000 in
set_option maxRecDepth 4000 in
theorem c_X6_filled_R (ad : Nat → Nat) (Mq : Mem) (x1 : Int32) {a1 : Int} (t1 : x1.toInt = a1) (x2 : Int32) {a2 : Int} (t2 : x2.toInt = a2) (x3 : Int32) {a3 : Int} (t3 : x3.toInt = a3) (Iq0 : Iv TX Mq) {pf : Nat → RpT} {f : Nat → Nat → Int} {N : Nat → Nat} (hy : ∀ k : Nat, k < 200 → 0 ≤ (Mq.1 28 k).toInt) (hX : RTX Mq f N) (hO : ROR Mq f N) (hpw : (0 ≤ a1 ∧ a1 < (Mq.1 40 5).toInt) ∧ (-1 ≤ a2 ∧ a2 ≤ (Mq.1 23 7).toInt) → ∀ S : Int64, (∀ l : Nat, l < 64 → b64 S l = hsX Mq (Mq.1 41 a1.toNat).toInt l (Mq.1 43 a1.toNat).toInt (upk a2 (Mq.1 23 7).toInt).toNat) → ∀ k t j : Nat, k < 8 → t < 8 → (j : Int) < (Mq.1 44 a1.toNat).toInt → (pf k).1 t j = if (j : Int) = a3 then (if (t : Int) = (k : Int) then 1 else 0) else wtB (b64 (S &&& Mq.2 11 t)) (Mq.1 45 (24 * a1.toNat + j)).toInt) (hh : ∀ k : Nat, k < 8 → (Mq.1 14 12).toInt = (((pf k).2.2 : Nat) : Int)) (hfix : ∀ k x : Nat, k < 8 → x < 8 → 0 < (Mq.1 20 x).toInt → (pf k).2.1 x = mcT (pf k) (f x) (N x)) (hk : ∀ x : Nat, x < 8 → 0 < (Mq.1 20 x).toInt → ∃ k : Nat, (k : Int) < (Mq.1 14 11).toInt ∧ orX Mq k = x) (hr : 0 ≤ a1 ∧ a1 < (Mq.1 40 5).toInt → ∀ j : Nat, (j : Int) < (Mq.1 44 a1.toNat).toInt → 0 ≤ (Mq.1 45 (24 * a1.toNat + j)).toInt ∧ (Mq.1 45 (24 * a1.toNat + j)).toInt ≤ 40) (hsc : 0 ≤ a1 ∧ a1 < (Mq.1 40 5).toInt → 0 < (Mq.1 20 ((Mq.1 42 a1.toNat).toInt).toNat).toInt) (hd : ∀ s t l : Nat, s < 8 → t < 8 → l < 64 → b64 (Mq.2 11 s) l = true → b64 (Mq.2 11 t) l = true → s = t) (hz : ∀ s l : Nat, s < 8 → 40 ≤ l → l < 64 → b64 (Mq.2 11 s) l = false) : Ctr ad yX6_filled cX6_filled 5 (some .int) 7 [.ref (ad 0), .int x1, .int x2, .int x3] Mq (fun v M' => ∃ (r : Int32) (a : Int), v = some (.int r) ∧ r.toInt = a ∧ ((¬ ((0 ≤ a1 ∧ a1 < (Mq.1 40 5).toInt) ∧ (-1 ≤ a2 ∧ a2 ≤ (Mq.1 23 7).toInt) ∧ (0 ≤ a3 ∧ a3 < (Mq.1 44 a1.toNat).toInt ∧ (Mq.1 45 (a1 * 24 + a3).toNat).toInt = 40)) ∧ a = -1) ∨ (((0 ≤ a1 ∧ a1 < (Mq.1 40 5).toInt) ∧ (-1 ≤ a2 ∧ a2 ≤ (Mq.1 23 7).toInt) ∧ (0 ≤ a3 ∧ a3 < (Mq.1 44 a1.toNat).toInt ∧ (Mq.1 45 (a1 * 24 + a3).toNat).toInt = 40)) ∧ ∃ S : Int64, (∀ l : Nat, l < 64 → b64 S l = hsX Mq (Mq.1 41 a1.toNat).toInt l (Mq.1 43 a1.toNat).toInt (upk a2 (Mq.1 23 7).toInt).toNat) ∧ FLR (GLb (fun s => S &&& Mq.2 11 s) (fun s => 0 < (pf s).2.1 ((Mq.1 42 a1.toNat).toInt).toNat 0 ((Mq.1 44 a1.toNat).toInt).toNat) 8) a)) ∧ Iv TX M' ∧ Fr W_X6_filled_R Mq M') := by
  refine ctr_of (L := [(0, .ref (ad 0)), (1, .int x1), (2, .int x2), (3, .int x3)]) (by decide) (Nat.le_of_ble_eq_true rfl) rfl ?_
  intro Γ X
  have X : gX Γ cX6_filled RX6 5 (some .int) 7 ad _ := X
  have frq0 : Fr W_X6_filled_R Mq Mq := Fr.rf
  have g1_12 := ig_1_12 Iq0
  have g23_2 := ig_23_2 Iq0
  have g23_7 := ig_23_7 Iq0
  have g40_5 := ig_40_5 Iq0
  have g0_7 := ig_0_7 Iq0
  refine g_aload_n X 0 rfl dX6_filled_0 ?_
  refine g_getr X f_X6_49 dX6_filled_1 ?_
  refine g_iload_n X 1 rfl dX6_filled_4 ?_
  refine g_callV X m_X6_251 (c_X3_isRecording ad Mq x1 t1) rfl (by decide) (Nat.le_of_ble_eq_true rfl) rfl dX6_filled_5 ?_
  rintro _ _ ⟨rq1, aq2, rfl, tq3, hq4, rfl⟩
  show G Γ Mq 8 [(0, .ref (ad 0)), (1, .int x1), (2, .int x2), (3, .int x3)] [.int rq1]
  refine g_if_eq X tq3 (tgt := 22) dX6_filled_8 (by decide) (fun cq5 => ?_) (fun cq5 => ?_)
  · have pq6 : ¬ (0 ≤ a1 ∧ a1 < ((Mq.1 40 5)).toInt) := by first | omega | (rcases hq4 with ⟨z1, z2⟩ | ⟨z1, z2⟩ <;> first | exact z2 | (exfalso; omega))
    refine g_iconst X (-1) dX6_filled_22 (by decide) ?_
    exact g_iret X dX6_filled_23 ⟨_, _, rfl, (show ((-1) : Int32).toInt = (-1) by decide), (Or.inl ⟨by omega, rfl⟩), Iq0, frq0⟩
  · have pq7 : (0 ≤ a1 ∧ a1 < ((Mq.1 40 5)).toInt) := by first | omega | (rcases hq4 with ⟨z1, z2⟩ | ⟨z1, z2⟩ <;> first | exact z2 | (exfalso; omega))
    refine g_aload_n X 0 rfl dX6_filled_11 ?_
    refine g_getr X f_X6_26 dX6_filled_12 ?_
    refine g_iload_n X 2 rfl dX6_filled_15 ?_
    refine g_callV X m_X6_195 (c_X0_isKnown ad Mq x2 t2) rfl (by decide) (Nat.le_of_ble_eq_true rfl) rfl dX6_filled_16 ?_
    rintro _ _ ⟨rq8, aq9, rfl, tq10, hq11, rfl⟩
    show G Γ Mq 19 [(0, .ref (ad 0)), (1, .int x1), (2, .int x2), (3, .int x3)] [.int rq8]
    refine g_if_ne X tq10 (tgt := 24) dX6_filled_19 (by decide) (fun cq12 => ?_) (fun cq12 => ?_)
    · have pq13 : (-1 ≤ a2 ∧ a2 ≤ ((Mq.1 23 7)).toInt) := by first | omega | (rcases hq11 with ⟨z1, z2⟩ | ⟨z1, z2⟩ <;> first | exact z2 | (exfalso; omega))
      refine g_aload_n X 0 rfl dX6_filled_24 ?_
      refine g_getr X f_X6_49 dX6_filled_25 ?_
      refine g_iload_n X 1 rfl dX6_filled_28 ?_
      refine g_iload_n X 3 rfl dX6_filled_29 ?_
      refine g_callV X m_X6_274 (c_X3_isLost_R ad Mq x1 t1 x3 t3 Iq0 (by omega)) rfl (by decide) (Nat.le_of_ble_eq_true rfl) rfl dX6_filled_30 ?_
      rintro _ _ ⟨rq14, aq15, rfl, tq16, hq17, rfl⟩
      have hlo := hq17
      show G Γ Mq 33 [(0, .ref (ad 0)), (1, .int x1), (2, .int x2), (3, .int x3)] [.int rq14]
      refine g_if_ne X tq16 (tgt := 38) dX6_filled_33 (by decide) (fun cq18 => ?_) (fun cq18 => ?_)
      · have pq19 : (0 ≤ a3 ∧ a3 < (Mq.1 44 a1.toNat).toInt ∧ (Mq.1 45 (a1 * 24 + a3).toNat).toInt = 40) := by first | omega | (rcases hq17 with ⟨z1, z2⟩ | ⟨z1, z2⟩ <;> first | exact z2 | (exfalso; omega))
        refine g_aload_n X 0 rfl dX6_filled_38 ?_
        refine g_iload_n X 1 rfl dX6_filled_39 ?_
        refine g_iload_n X 2 rfl dX6_filled_40 ?_
        refine g_callV X m_X6_254 (c_X6_takeRecording_R ad Mq x1 t1 x2 t2 Iq0 (by omega) (by omega) hy (hr (by omega))) rfl (by decide) (Nat.le_of_ble_eq_true rfl) rfl dX6_filled_41 ?_
        rintro _ Mq25 ⟨rfl, hq23, hq24, Iq26, frq27⟩
        have frq28 : Fr W_X6_filled_R Mq Mq25 := frq0.trans frq27 rfl
        have trq29 : (Mq25.1 23 2).toInt = (Mq.1 23 2).toInt := congrArg Int32.toInt (frq27.at 23 2 rfl)
        have trq30 : (Mq25.1 23 7).toInt = (Mq.1 23 7).toInt := congrArg Int32.toInt (frq27.at 23 7 rfl)
        obtain ⟨Sq, hst, htk1, htk2, htk3⟩ := hq24
        have fT := frq28
        have g42 := ig_42 Iq0 a1.toNat (by omega)
        have g44 := ig_44 Iq0 a1.toNat (by omega)
        have e42 : Mq25.1 42 a1.toNat = Mq.1 42 a1.toNat := fT.at 42 _ rfl
        have h11 : Mq25.2 11 = Mq.2 11 := funext (fun s => fT.atL 11 s rfl)
        show G Γ Mq25 44 [(0, .ref (ad 0)), (1, .int x1), (2, .int x2), (3, .int x3)] []
        refine g_aload_n X 0 rfl dX6_filled_44 ?_
        refine g_getr X f_X6_42 dX6_filled_45 ?_
        refine g_aload_n X 0 rfl dX6_filled_48 ?_
        refine g_getr X f_X6_49 dX6_filled_49 ?_
        refine g_getr X f_X6_257 dX6_filled_52 ?_
        refine g_iload_n X 1 rfl dX6_filled_55 ?_
        refine g_iald X la_42 t1 dX6_filled_56 (by omega) (x := Mq25.1 42 a1.toNat) rfl ?_
        have bq31 := ig_42 Iq26 a1.toNat (by omega)
        refine g_iload_n X 3 rfl dX6_filled_57 ?_
        refine g_callV X m_X6_277 (c_X1_onlyLine_R (pf := pf) (f := f) (N := N) ad Mq25 (Mq25.1 42 a1.toNat) rfl x3 t3 Iq26 (by rw [e42]; omega) (by omega) (RTX_fr hX fT (by decide)) (ROR_fr hO fT (by decide)) (fun k t j hk ht hj => by rw [htk1] at hj; have z := hpw (by omega) Sq hst k t j hk ht hj; rw [z]; by_cases q : (j : Int) = a3; (rw [if_pos q, if_pos q]; split <;> exact ⟨rfl, by omega⟩); (rw [if_neg q, if_neg q, htk3 t j ht (Or.inl hj)]; exact ⟨rfl, wtB_le _ _⟩)) (fun k hk => by rw [fT.at 14 12 rfl]; exact hh k hk) (fun k x hk hx h => hfix k x hk hx (by rw [← fT.at 20 x rfl]; exact h)) (by rw [fT.at 14 11 rfl, orX_fr fT (by decide), e42]; exact hk _ (by omega) (hsc (by omega))) (fun s t l hs ht hl u1 u2 => by rw [h11, htk2, b64_and, Bool.and_eq_true] at u1 u2; exact hd s t l hs ht hl u1.2 u2.2) (fun s l hs h4 h6 => by rw [h11, htk2, b64_and, hz s l hs h4 h6, Bool.and_false])) rfl (by decide) (Nat.le_of_ble_eq_true rfl) rfl dX6_filled_58 ?_
        rintro _ Mq36 ⟨rq32, aq33, rfl, tq34, hq35, Iq37, frq38⟩
        have frq39 : Fr W_X6_filled_R Mq Mq36 := frq28.trans frq38 rfl
        have trq40 : (Mq36.1 23 2).toInt = (Mq25.1 23 2).toInt := congrArg Int32.toInt (frq38.at 23 2 rfl)
        have trq41 : (Mq36.1 23 7).toInt = (Mq25.1 23 7).toInt := congrArg Int32.toInt (frq38.at 23 7 rfl)
        have hol := hq35
        rw [h11, htk2, htk1, e42] at hol
        show G Γ Mq36 61 [(0, .ref (ad 0)), (1, .int x1), (2, .int x2), (3, .int x3)] [.int rq32]
        refine g_istore X [(4, .int rq32), (0, .ref (ad 0)), (1, .int x1), (2, .int x2), (3, .int x3)] dX6_filled_61 (by decide) rfl ?_
        refine g_iload X 0 rfl dX6_filled_63 ?_
        refine g_iconst X (-1) dX6_filled_65 (by decide) ?_
        refine g_icmp_ne X tq34 (show ((-1) : Int32).toInt = (-1) by decide) (tgt := 74) dX6_filled_66 (by decide) (fun cq42 => ?_) (fun cq42 => ?_)
        · refine g_iload X 0 rfl dX6_filled_74 ?_
          exact g_iret X dX6_filled_76 ⟨_, _, rfl, tq34, (Or.inr ⟨by omega, Sq, hst, FLR_of hol (by omega)⟩), Iq37, frq39⟩
        · refine g_bipush X (-3) dX6_filled_69 (by decide) ?_
          refine g_goto X (tgt := 76) dX6_filled_71 (by decide) ?_
          exact g_iret X dX6_filled_76 ⟨_, _, rfl, (show ((-3) : Int32).toInt = (-3) by decide), (Or.inr ⟨by omega, Sq, hst, FLR_of hol (by omega)⟩), Iq37, frq39⟩
      · have pq43 : ¬ (0 ≤ a3 ∧ a3 < (Mq.1 44 a1.toNat).toInt ∧ (Mq.1 45 (a1 * 24 + a3).toNat).toInt = 40) := by first | omega | (rcases hq17 with ⟨z1, z2⟩ | ⟨z1, z2⟩ <;> first | exact z2 | (exfalso; omega))
        refine g_iconst X (-1) dX6_filled_36 (by decide) ?_
        exact g_iret X dX6_filled_37 ⟨_, _, rfl, (show ((-1) : Int32).toInt = (-1) by decide), (Or.inl ⟨by omega, rfl⟩), Iq0, frq0⟩
    · have pq44 : ¬ (-1 ≤ a2 ∧ a2 ≤ ((Mq.1 23 7)).toInt) := by first | omega | (rcases hq11 with ⟨z1, z2⟩ | ⟨z1, z2⟩ <;> first | exact z2 | (exfalso; omega))
      refine g_iconst X (-1) dX6_filled_22 (by decide) ?_
      exact g_iret X dX6_filled_23 ⟨_, _, rfl, (show ((-1) : Int32).toInt = (-1) by decide), (Or.inl ⟨by omega, rfl⟩), Iq0, frq0⟩
abbrev W_X7_filled_R : List (Nat × Nat) := [(71, 99), (72, 99), (73, 99), (74, 99), (75, 99), (76, 99), (85, 99), (47, 44), (78, 99)]
set_option maxHeartbeats 4000000 in
set_option maxRecDepth 4000 in
theorem c_X7_filled_R (ad : Nat → Nat) (Mq : Mem) (x1 : Int32) {a1 : Int} (t1 : x1.toInt = a1) (x2 : Int32) {a2 : Int} (t2 : x2.toInt = a2) (x3 : Int32) {a3 : Int} (t3 : x3.toInt = a3) (Iq0 : Iv TM Mq) {pf : Nat → RpT} (htl : 0 ≤ (Mq.1 47 23).toInt ∧ (Mq.1 47 23).toInt ≤ 1000000) (hG : ∀ x : Nat, x < 8 → 0 < tel Mq x → gsN (txt Mq x) (tsz Mq x).toNat = some ([], true)) (hpw : (0 ≤ a1 ∧ a1 < (Mq.1 47 59).toInt) ∧ (-1 ≤ a2 ∧ a2 ≤ (Mq.1 47 53).toInt) → ∀ k t j : Nat, k < 8 → t < 8 → (j : Int) < (Mq.1 89 a1.toNat).toInt → (pf k).1 t j = if (j : Int) = a3 then (if (t : Int) = (k : Int) then 1 else 0) else wqB (Bu Mq (Mq.1 86 a1.toNat).toInt (Mq.1 88 a1.toNat).toInt (upk a2 (Mq.1 47 53).toInt).toNat) ((Mq.1 47 12).toInt).toNat (Mq.1 90 (24 * a1.toNat + j)).toInt t) (hh : ∀ k : Nat, k < 8 → (Mq.1 47 24).toInt = (((pf k).2.2 : Nat) : Int)) (hfix : ∀ k x : Nat, k < 8 → x < 8 → 0 < tel Mq x → (pf k).2.1 x = mcT (pf k) (txt Mq x) (tsz Mq x).toNat) (hle : ∀ x : Nat, x < 8 → tel Mq x ≤ (Mq.1 47 23).toInt) (hsc : 0 ≤ a1 ∧ a1 < (Mq.1 47 59).toInt → 0 < tel Mq ((Mq.1 87 a1.toNat).toInt).toNat) (hsl : ∀ l : Nat, (l : Int) < (Mq.1 47 12).toInt → 0 ≤ (Mq.1 55 l).toInt ∧ (Mq.1 55 l).toInt ≤ 7) (cy0 : WFM Mq) : Ctr ad yX7_filled cX7_filled 6 (some .int) 6 [.ref (ad 47), .int x1, .int x2, .int x3] Mq (fun v M' => ∃ (r : Int32) (a : Int), v = some (.int r) ∧ r.toInt = a ∧ ((¬ ((0 ≤ a1 ∧ a1 < (Mq.1 47 59).toInt) ∧ (-1 ≤ a2 ∧ a2 ≤ (Mq.1 47 53).toInt) ∧ (0 ≤ a3 ∧ a3 < (Mq.1 89 a1.toNat).toInt ∧ (Mq.1 90 (24 * a1 + a3).toNat).toInt = 40)) ∧ a = -1) ∨ (((0 ≤ a1 ∧ a1 < (Mq.1 47 59).toInt) ∧ (-1 ≤ a2 ∧ a2 ≤ (Mq.1 47 53).toInt) ∧ (0 ≤ a3 ∧ a3 < (Mq.1 89 a1.toNat).toInt ∧ (Mq.1 90 (24 * a1 + a3).toNat).toInt = 40)) ∧ FLQ (fun l : Nat => hsM Mq (Mq.1 86 a1.toNat).toInt l (Mq.1 88 a1.toNat).toInt (upk a2 (Mq.1 47 53).toInt).toNat = true ∧ 0 < (pf ((Mq.1 55 l).toInt).toNat).2.1 ((Mq.1 87 a1.toNat).toInt).toNat 0 ((Mq.1 89 a1.toNat).toInt).toNat) (Mq.1 47 12).toInt a)) ∧ Iv TM M' ∧ Fr W_X7_filled_R Mq M') := by
  refine ctr_of (L := [(0, .ref (ad 47)), (1, .int x1), (2, .int x2), (3, .int x3)]) (by decide) (Nat.le_of_ble_eq_true rfl) rfl ?_
  intro Γ X
  have X : gX Γ cX7_filled RX7 6 (some .int) 6 ad _ := X
  have frq0 : Fr W_X7_filled_R Mq Mq := Fr.rf
  have g12 := ig_47_12 Iq0
  have g24 := ig_47_24 Iq0
  have g44 := ig_47_44 Iq0
  have g43 := ig_47_43 Iq0
  have g52 := ig_47_52 Iq0
  have g53 := ig_47_53 Iq0
  have g59 := ig_47_59 Iq0
  refine g_aload_n X 0 rfl dX7_filled_0 ?_
  refine g_iload_n X 1 rfl dX7_filled_1 ?_
  refine g_callV X m_X7_355 (c_X7_isRecording ad Mq x1 t1) rfl (by decide) (Nat.le_of_ble_eq_true rfl) rfl dX7_filled_2 ?_
  rintro _ _ ⟨rq1, aq2, rfl, tq3, hq4, rfl⟩
  show G Γ Mq 5 [(0, .ref (ad 47)), (1, .int x1), (2, .int x2), (3, .int x3)] [.int rq1]
  refine g_if_eq X tq3 (tgt := 50) dX7_filled_5 (by decide) (fun cq5 => ?_) (fun cq5 => ?_)
  · have pq6 : ¬ (0 ≤ a1 ∧ a1 < ((Mq.1 47 59)).toInt) := by first | omega | (rcases hq4 with ⟨z1, z2⟩ | ⟨z1, z2⟩ <;> first | exact z2 | (exfalso; omega))
    refine g_iconst X (-1) dX7_filled_50 (by decide) ?_
    exact g_iret X dX7_filled_51 ⟨_, _, rfl, (show ((-1) : Int32).toInt = (-1) by decide), (Or.inl ⟨by omega, rfl⟩), Iq0, frq0⟩
  · have pq7 : (0 ≤ a1 ∧ a1 < ((Mq.1 47 59)).toInt) := by first | omega | (rcases hq4 with ⟨z1, z2⟩ | ⟨z1, z2⟩ <;> first | exact z2 | (exfalso; omega))
    refine g_aload_n X 0 rfl dX7_filled_8 ?_
    refine g_iload_n X 2 rfl dX7_filled_9 ?_
    refine g_callV X m_X7_326 (c_X7_isKnown ad Mq x2 t2) rfl (by decide) (Nat.le_of_ble_eq_true rfl) rfl dX7_filled_10 ?_
    rintro _ _ ⟨rq8, aq9, rfl, tq10, hq11, rfl⟩
    show G Γ Mq 13 [(0, .ref (ad 47)), (1, .int x1), (2, .int x2), (3, .int x3)] [.int rq8]
    refine g_if_eq X tq10 (tgt := 50) dX7_filled_13 (by decide) (fun cq12 => ?_) (fun cq12 => ?_)
    · have pq13 : ¬ (-1 ≤ a2 ∧ a2 ≤ ((Mq.1 47 53)).toInt) := by first | omega | (rcases hq11 with ⟨z1, z2⟩ | ⟨z1, z2⟩ <;> first | exact z2 | (exfalso; omega))
      refine g_iconst X (-1) dX7_filled_50 (by decide) ?_
      exact g_iret X dX7_filled_51 ⟨_, _, rfl, (show ((-1) : Int32).toInt = (-1) by decide), (Or.inl ⟨by omega, rfl⟩), Iq0, frq0⟩
    · have pq14 : (-1 ≤ a2 ∧ a2 ≤ ((Mq.1 47 53)).toInt) := by first | omega | (rcases hq11 with ⟨z1, z2⟩ | ⟨z1, z2⟩ <;> first | exact z2 | (exfalso; omega))
      refine g_iload_n X 3 rfl dX7_filled_16 ?_
      refine g_i2l X dX7_filled_17 (fun zq15 eq16 => ?_)
      have tq17 : zq15.toInt = a3 := i2l_nw eq16 t3
      refine g_lconst X 0 dX7_filled_18 (by decide) ?_
      refine g_aload_n X 0 rfl dX7_filled_19 ?_
      refine g_getr X f_X7_138 dX7_filled_20 ?_
      refine g_iload_n X 1 rfl dX7_filled_23 ?_
      refine g_iald X la_89 t1 dX7_filled_24 (by omega) (x := Mq.1 89 a1.toNat) rfl ?_
      have bq18 := ig_89 Iq0 a1.toNat (by omega)
      refine g_iconst X 1 dX7_filled_25 (by decide) ?_
      refine g_isub X dX7_filled_26 (fun zq19 eq20 => ?_)
      have tq21 : zq19.toInt = ((Mq.1 89 a1.toNat).toInt) - 1 := sub_nw eq20 rfl (show (1 : Int32).toInt = 1 by decide) (by omega)
      refine g_i2l X dX7_filled_27 (fun zq22 eq23 => ?_)
      have tq24 : zq22.toInt = ((Mq.1 89 a1.toNat).toInt) - 1 := i2l_nw eq23 tq21
      refine g_callS X m_X7_152 (c_X7_isIn ad Mq zq15 tq17 0 (show (0 : Int64).toInt = 0 by decide) zq22 tq24) rfl (by decide) (Nat.le_of_ble_eq_true rfl) rfl dX7_filled_28 ?_
      rintro _ _ ⟨rq25, aq26, rfl, tq27, hq28, rfl⟩
      show G Γ Mq 31 [(0, .ref (ad 47)), (1, .int x1), (2, .int x2), (3, .int x3)] [.int rq25]
      refine g_if_eq X tq27 (tgt := 50) dX7_filled_31 (by decide) (fun cq29 => ?_) (fun cq29 => ?_)
      · have pq30 : ¬ (0 ≤ a3 ∧ a3 ≤ (((Mq.1 89 a1.toNat).toInt) - 1)) := by first | omega | (rcases hq28 with ⟨z1, z2⟩ | ⟨z1, z2⟩ <;> first | exact z2 | (exfalso; omega))
        refine g_iconst X (-1) dX7_filled_50 (by decide) ?_
        exact g_iret X dX7_filled_51 ⟨_, _, rfl, (show ((-1) : Int32).toInt = (-1) by decide), (Or.inl ⟨by omega, rfl⟩), Iq0, frq0⟩
      · have pq31 : (0 ≤ a3 ∧ a3 ≤ (((Mq.1 89 a1.toNat).toInt) - 1)) := by first | omega | (rcases hq28 with ⟨z1, z2⟩ | ⟨z1, z2⟩ <;> first | exact z2 | (exfalso; omega))
        refine g_aload_n X 0 rfl dX7_filled_34 ?_
        refine g_getr X f_X7_141 dX7_filled_35 ?_
        refine g_bipush X 24 dX7_filled_38 (by decide) ?_
        refine g_iload_n X 1 rfl dX7_filled_40 ?_
        refine g_imul X dX7_filled_41 (fun zq32 eq33 => ?_)
        have tq34 : zq32.toInt = 24 * a1 := mul_nw eq33 (show (24 : Int32).toInt = 24 by decide) t1 (by omega)
        refine g_iload_n X 3 rfl dX7_filled_42 ?_
        refine g_iadd X dX7_filled_43 (fun zq35 eq36 => ?_)
        have tq37 : zq35.toInt = (24 * a1) + a3 := add_nw eq36 tq34 t3 (by omega)
        refine g_iald X la_90 tq37 dX7_filled_44 (by omega) (x := Mq.1 90 (((24 * a1) + a3).toNat)) rfl ?_
        have bq38 := ig_90 Iq0 (((24 * a1) + a3).toNat) (by omega)
        refine g_bipush X 40 dX7_filled_45 (by decide) ?_
        refine g_icmp_eq X rfl (show (40 : Int32).toInt = 40 by decide) (tgt := 52) dX7_filled_47 (by decide) (fun cq39 => ?_) (fun cq39 => ?_)
        · refine g_aload_n X 0 rfl dX7_filled_52 ?_
          refine g_iload_n X 1 rfl dX7_filled_53 ?_
          refine g_iload_n X 2 rfl dX7_filled_54 ?_
          refine g_callV X m_X7_358 (c_X7_plays_R ad Mq x1 t1 x2 t2 Iq0 (by omega) (by omega)) rfl (by decide) (Nat.le_of_ble_eq_true rfl) rfl dX7_filled_55 ?_
          rintro _ Mq45 ⟨rfl, hq43, hq44, Iq46, frq47⟩
          have frq48 : Fr W_X7_filled_R Mq Mq45 := frq0.trans frq47 rfl
          have cyq49 : WFM Mq45 := WFM_fr cy0 frq47 rfl
          have trq50 : (Mq45.1 47 23).toInt = (Mq.1 47 23).toInt := congrArg Int32.toInt (frq47.at 47 23 rfl)
          have trq51 : (Mq45.1 47 12).toInt = (Mq.1 47 12).toInt := congrArg Int32.toInt (frq47.at 47 12 rfl)
          have hpl := hq44
          have g87 := ig_87 Iq0 a1.toNat (by omega)
          have g89 := ig_89 Iq0 a1.toNat (by omega)
          obtain ⟨Mt, hMt⟩ : ∃ x : Mem, x = Mq45 := ⟨_, rfl⟩
          rw [← hMt] at hpl
          show G Γ Mq45 58 [(0, .ref (ad 47)), (1, .int x1), (2, .int x2), (3, .int x3)] []
          refine g_iconst X (-1) dX7_filled_58 (by decide) ?_
          refine g_istore X [(4, .int (-1)), (0, .ref (ad 47)), (1, .int x1), (2, .int x2), (3, .int x3)] dX7_filled_59 (by decide) rfl ?_
          refine g_iconst X 0 dX7_filled_61 (by decide) ?_
          refine g_istore X [(5, .int 0), (4, .int (-1)), (0, .ref (ad 47)), (1, .int x1), (2, .int x2), (3, .int x3)] dX7_filled_62 (by decide) rfl ?_
          have lp64 : ∀ n : Nat, ∀ (y5_64 : Int32) (b5_64 : Int), y5_64.toInt = b5_64 → ∀ (y4_64 : Int32) (b4_64 : Int), y4_64.toInt = b4_64 → ∀ (M_64 : Mem), (0 ≤ b5_64 ∧ b5_64 ≤ (Mq.1 47 12).toInt) → (FLI (fun l : Nat => hsM Mq (Mq.1 86 a1.toNat).toInt l (Mq.1 88 a1.toNat).toInt (upk a2 (Mq.1 47 53).toInt).toNat = true ∧ 0 < (pf ((Mq.1 55 l).toInt).toNat).2.1 ((Mq.1 87 a1.toNat).toInt).toNat 0 ((Mq.1 89 a1.toNat).toInt).toNat) b5_64 b4_64) → (∀ j : Nat, j ≠ a3.toNat → M_64.1 78 j = Mt.1 78 j) → (M_64.1 85 = Mt.1 85) → ((M_64.1 47 44).toInt = (Mq.1 89 a1.toNat).toInt) → (Iv TM M_64) → (Fr W_X7_filled_R Mq M_64) → (WFM M_64) → ((Mq.1 47 12).toInt - b5_64).toNat < n → G Γ M_64 64 [(5, .int y5_64), (4, .int y4_64), (0, .ref (ad 47)), (1, .int x1), (2, .int x2), (3, .int x3)] [] := by
            intro n
            induction n with
            | zero => intro y5_64 b5_64 e5_64 y4_64 b4_64 e4_64 M_64 i1 i2 i3 i4 i5 I_64 fr_64 cy0_64 hm; exact absurd hm (Nat.not_lt_zero _)
            | succ n ih64 =>
              intro y5_64 b5_64 e5_64 y4_64 b4_64 e4_64 M_64 i1 i2 i3 i4 i5 I_64 fr_64 cy0_64 hm64
              have trq52 : (M_64.1 47 23).toInt = (Mq.1 47 23).toInt := congrArg Int32.toInt (fr_64.at 47 23 rfl)
              have trq53 : (M_64.1 47 12).toInt = (Mq.1 47 12).toInt := congrArg Int32.toInt (fr_64.at 47 12 rfl)
              refine g_iload X 0 rfl dX7_filled_64 ?_
              refine g_aload_n X 2 rfl dX7_filled_66 ?_
              refine g_geti X f_X7_147 dX7_filled_67 (x := M_64.1 47 12) rfl ?_
              have bq54 := ig_47_12 I_64
              refine g_icmp_ge X e5_64 rfl (tgt := 125) dX7_filled_70 (by decide) (fun cq55 => ?_) (fun cq55 => ?_)
              · refine g_iload X 1 rfl dX7_filled_125 ?_
                refine g_if_ge X e4_64 (tgt := 135) dX7_filled_127 (by decide) (fun cq56 => ?_) (fun cq56 => ?_)
                · refine g_iload X 1 rfl dX7_filled_135 ?_
                  exact g_iret X dX7_filled_137 ⟨_, _, rfl, e4_64, (Or.inr ⟨by omega, FLI_end i2 (by omega) (by omega)⟩), I_64, fr_64⟩
                · refine g_bipush X (-3) dX7_filled_130 (by decide) ?_
                  refine g_goto X (tgt := 137) dX7_filled_132 (by decide) ?_
                  exact g_iret X dX7_filled_137 ⟨_, _, rfl, (show ((-3) : Int32).toInt = (-3) by decide), (Or.inr ⟨by omega, FLI_end i2 (by omega) (by omega)⟩), I_64, fr_64⟩
              · refine g_aload_n X 2 rfl dX7_filled_73 ?_
                refine g_getr X f_X7_104 dX7_filled_74 ?_
                refine g_iload_n X 5 rfl dX7_filled_77 ?_
                refine g_iload X 0 rfl dX7_filled_78 ?_
                refine g_iast X la_78 t3 dX7_filled_80 (by omega) ?_
                have Iq57 : Iv TM (ui M_64 78 a3.toNat y5_64) := I_64.putA 0 40 e5_64 (by omega) rfl
                have frq58 : Fr W_X7_filled_R Mq (ui M_64 78 a3.toNat y5_64) := fr_64.ui rfl
                have cyq59 : WFM (ui M_64 78 a3.toNat y5_64) := WFM_fr cy0_64 (Fr.ui (W := [(78, 99)]) Fr.rf rfl) rfl
                have hs5 := hsl (b5_64).toNat (by omega)
                have h5 := hpl.1 (b5_64).toNat (by omega)
                rw [tn_cast i1.1] at h5
                have e85 : (M_64.1 85 (b5_64).toNat).toInt = (Mt.1 85 (b5_64).toNat).toInt := by rw [i4]
                have m78 : ∀ j : Nat, j ≠ a3.toNat → (ui M_64 78 a3.toNat y5_64).1 78 j = Mt.1 78 j := fun j hj => by rw [ui_nj hj]; exact i3 j hj
                have m85 : (ui M_64 78 a3.toNat y5_64).1 85 = Mt.1 85 := by rw [ui_cell (k := 78) (a := 85) (by decide)]; exact i4
                have n44 : ((ui M_64 78 a3.toNat y5_64).1 47 44).toInt = (Mq.1 89 a1.toNat).toInt := by rw [ui_cell (k := 78) (a := 47) (by decide)]; exact i5
                refine g_aload_n X 2 rfl dX7_filled_81 ?_
                refine g_getr X f_X7_126 dX7_filled_82 ?_
                refine g_iload X 0 rfl dX7_filled_85 ?_
                refine g_zald X la_85 e5_64 dX7_filled_87 (by omega) (x := M_64.1 85 b5_64.toNat) rfl ?_
                have bq60 := ig_85 I_64 b5_64.toNat (by omega)
                refine g_if_eq X rfl (tgt := 119) dX7_filled_88 (by decide) (fun cq61 => ?_) (fun cq61 => ?_)
                · refine g_iinc X 0 (fun v => [(5, .int v), (4, .int y4_64), (0, .ref (ad 47)), (1, .int x1), (2, .int x2), (3, .int x3)]) dX7_filled_119 rfl (by decide) (fun _ => rfl) (fun zq62 eq63 => ?_)
                  have tq64 : zq62.toInt = b5_64 + 1 := add_nw eq63 e5_64 (show (Int32.ofInt 1).toInt = 1 by decide) (by omega)
                  refine g_goto X (tgt := 64) dX7_filled_122 (by decide) ?_
                  refine g_sub [0, 1, 2, 3, 4, 5] rfl ?_
                  exact ih64 zq62 _ tq64 y4_64 _ e4_64 (ui M_64 78 a3.toNat y5_64) (by omega) (by first | exact FLI_skip i2 i1.1 (fun z => by have y := h5.mpr ⟨by omega, by have x := z.1; rw [tn_cast i1.1] at x; exact x⟩; omega) | exact FLI_skip i2 i1.1 (fun z => by have y := hgd.mpr z.2; omega) | exact FLI_take i2 i1.1 (by omega) ⟨by rw [tn_cast i1.1]; exact (h5.mp (by omega)).2, hgd.mp (by omega)⟩) (by first | exact m78 | exact k78) (by first | exact m85 | exact k85) (by first | exact k44 | exact n44) Iq57 frq58 cyq59 (by omega)
                · have fT := frq58
                  have etx : txt (ui M_64 78 a3.toNat y5_64) = txt Mq := by unfold txt; rw [row_fr fT (c := 61) (by decide)]
                  have ets : tsz (ui M_64 78 a3.toNat y5_64) = tsz Mq := by unfold tsz; rw [row_fr fT (c := 62) (by decide)]
                  have ete : tel (ui M_64 78 a3.toNat y5_64) = tel Mq := by unfold tel; rw [row_fr fT (c := 63) (by decide)]
                  have e87 : M_64.1 87 a1.toNat = Mq.1 87 a1.toNat := fr_64.at 87 _ rfl
                  have hwq : ∀ s j : Nat, s < 8 → (j : Int) < ((ui M_64 78 a3.toNat y5_64).1 47 44).toInt → wtR (ui M_64 78 a3.toNat y5_64) ((ui M_64 78 a3.toNat y5_64).1 78 j).toInt (s : Int) = (pf ((Mq.1 55 (b5_64).toNat).toInt).toNat).1 s j ∧ (pf ((Mq.1 55 (b5_64).toNat).toInt).toNat).1 s j ≤ 64 := fun s j hs hj => by rw [n44] at hj; have z := hpw (by omega) ((Mq.1 55 (b5_64).toNat).toInt).toNat s j (by omega) hs hj; by_cases q : (j : Int) = a3; (rw [if_pos q] at z; have w := wtR_pl (M := (ui M_64 78 a3.toNat y5_64)) (v := ((ui M_64 78 a3.toNat y5_64).1 78 j).toInt) (s := (s : Int)) (k := ((Mq.1 55 (b5_64).toNat).toInt).toNat) (l := (b5_64).toNat) (by rw [show j = a3.toNat by omega, ui_eq]; omega) (by omega) (by rw [m85]; omega) (by rw [fT.at 55 _ rfl]; omega); by_cases c : (s : Int) = ((((Mq.1 55 (b5_64).toNat).toInt).toNat : Nat) : Int); (rw [if_pos c] at w z; rw [z]; omega); (rw [if_neg c] at w z; rw [z]; omega)); (rw [if_neg q] at z; rw [z, m78 j (by omega), hpl.2.2 j hj]; exact wq_R (ig_47_12 Iq0) (by rw [m85]; exact hpl.1) fT (Fr.rf (W := [])) (by decide) (by decide) (ig_90 Iq0 _ (by omega)))
                  refine g_aload_n X 2 rfl dX7_filled_91 ?_
                  refine g_aload_n X 2 rfl dX7_filled_92 ?_
                  refine g_getr X f_X7_132 dX7_filled_93 ?_
                  refine g_iload_n X 3 rfl dX7_filled_96 ?_
                  refine g_iald X la_87 t1 dX7_filled_97 (by omega) (x := M_64.1 87 a1.toNat) rfl ?_
                  have bq65 := ig_87 I_64 a1.toNat (by omega)
                  refine g_callV X m_X7_346 (c_X7_runsOf_R (p := pf ((Mq.1 55 (b5_64).toNat).toInt).toNat) ad (ui M_64 78 a3.toNat y5_64) (M_64.1 87 a1.toNat) rfl Iq57 (by rw [e87]; omega) (by rw [fT.at 47 23 rfl]; exact htl) (by rw [ete, e87]; exact hsc (by omega)) (by rw [etx, ets, ete]; exact hG) hwq (by rw [fT.at 47 24 rfl]; exact hh _ (by omega)) (by rw [etx, ets, ete]; exact fun x hx h => hfix _ x (by omega) hx h) (by rw [ete, fT.at 47 23 rfl]; exact hle) cyq59) rfl (by decide) (Nat.le_of_ble_eq_true rfl) rfl dX7_filled_98 ?_
                  rintro _ Mq70 ⟨rq66, aq67, rfl, tq68, hq69, Iq71, frq72⟩
                  have frq73 : Fr W_X7_filled_R Mq Mq70 := frq58.trans frq72 rfl
                  have cyq74 : WFM Mq70 := WFM_fr cyq59 frq72 rfl
                  have trq75 : (Mq70.1 47 23).toInt = (M_64.1 47 23).toInt := congrArg Int32.toInt (frq72.at 47 23 rfl)
                  have trq76 : (Mq70.1 47 12).toInt = (M_64.1 47 12).toInt := congrArg Int32.toInt (frq72.at 47 12 rfl)
                  have hq77 : aq67 = ((cap ((pf ((Mq.1 55 (b5_64).toNat).toInt).toNat).2.1 ((M_64.1 87 a1.toNat).toInt).toNat 0 (((M_64.1 47 44)).toInt).toNat) : Nat) : Int) := hq69
                  clear hq69
                  have hrn := hq77
                  rw [i5, e87] at hrn
                  have hgd : aq67 ≠ 0 ↔ 0 < (pf ((Mq.1 55 (b5_64).toNat).toInt).toNat).2.1 ((Mq.1 87 a1.toNat).toInt).toNat 0 ((Mq.1 89 a1.toNat).toInt).toNat := by rw [hrn, ← cap_pos]; omega
                  have k78 : ∀ j : Nat, j ≠ a3.toNat → Mq70.1 78 j = Mt.1 78 j := fun j hj => by rw [row_fr frq72 (c := 78) (by decide), ui_nj hj]; exact i3 j hj
                  have k85 : Mq70.1 85 = Mt.1 85 := by rw [row_fr frq72 (c := 85) (by decide), ui_cell (k := 78) (a := 85) (by decide)]; exact i4
                  have k44 : (Mq70.1 47 44).toInt = (Mq.1 89 a1.toNat).toInt := by rw [frq72.at 47 44 rfl]; exact n44
                  show G Γ Mq70 101 [(5, .int y5_64), (4, .int y4_64), (0, .ref (ad 47)), (1, .int x1), (2, .int x2), (3, .int x3)] [.int rq66]
                  refine g_if_ne X tq68 (tgt := 107) dX7_filled_101 (by decide) (fun cq78 => ?_) (fun cq78 => ?_)
                  · refine g_iload X 1 rfl dX7_filled_107 ?_
                    refine g_if_lt X e4_64 (tgt := 115) dX7_filled_109 (by decide) (fun cq79 => ?_) (fun cq79 => ?_)
                    · refine g_iload X 0 rfl dX7_filled_115 ?_
                      refine g_istore X [(4, .int y5_64), (5, .int y5_64), (0, .ref (ad 47)), (1, .int x1), (2, .int x2), (3, .int x3)] dX7_filled_117 (by decide) rfl ?_
                      refine g_iinc X 1 (fun v => [(5, .int v), (4, .int y5_64), (0, .ref (ad 47)), (1, .int x1), (2, .int x2), (3, .int x3)]) dX7_filled_119 rfl (by decide) (fun _ => rfl) (fun zq80 eq81 => ?_)
                      have tq82 : zq80.toInt = b5_64 + 1 := add_nw eq81 e5_64 (show (Int32.ofInt 1).toInt = 1 by decide) (by omega)
                      refine g_goto X (tgt := 64) dX7_filled_122 (by decide) ?_
                      refine g_sub [0, 1, 2, 3, 4, 5] rfl ?_
                      exact ih64 zq80 _ tq82 y5_64 _ e5_64 Mq70 (by omega) (by first | exact FLI_skip i2 i1.1 (fun z => by have y := h5.mpr ⟨by omega, by have x := z.1; rw [tn_cast i1.1] at x; exact x⟩; omega) | exact FLI_skip i2 i1.1 (fun z => by have y := hgd.mpr z.2; omega) | exact FLI_take i2 i1.1 (by omega) ⟨by rw [tn_cast i1.1]; exact (h5.mp (by omega)).2, hgd.mp (by omega)⟩) (by first | exact m78 | exact k78) (by first | exact m85 | exact k85) (by first | exact k44 | exact n44) Iq71 frq73 cyq74 (by omega)
                    · refine g_bipush X (-3) dX7_filled_112 (by decide) ?_
                      exact g_iret X dX7_filled_114 ⟨_, _, rfl, (show ((-3) : Int32).toInt = (-3) by decide), (Or.inr ⟨by omega, FLI_two i2 ⟨i1.1, by omega⟩ (by omega) ⟨by rw [tn_cast i1.1]; exact (h5.mp (by omega)).2, hgd.mp (by omega)⟩⟩), Iq71, frq73⟩
                  · refine g_goto X (tgt := 119) dX7_filled_104 (by decide) ?_
                    refine g_iinc X 0 (fun v => [(5, .int v), (4, .int y4_64), (0, .ref (ad 47)), (1, .int x1), (2, .int x2), (3, .int x3)]) dX7_filled_119 rfl (by decide) (fun _ => rfl) (fun zq83 eq84 => ?_)
                    have tq85 : zq83.toInt = b5_64 + 1 := add_nw eq84 e5_64 (show (Int32.ofInt 1).toInt = 1 by decide) (by omega)
                    refine g_goto X (tgt := 64) dX7_filled_122 (by decide) ?_
                    refine g_sub [0, 1, 2, 3, 4, 5] rfl ?_
                    exact ih64 zq83 _ tq85 y4_64 _ e4_64 Mq70 (by omega) (by first | exact FLI_skip i2 i1.1 (fun z => by have y := h5.mpr ⟨by omega, by have x := z.1; rw [tn_cast i1.1] at x; exact x⟩; omega) | exact FLI_skip i2 i1.1 (fun z => by have y := hgd.mpr z.2; omega) | exact FLI_take i2 i1.1 (by omega) ⟨by rw [tn_cast i1.1]; exact (h5.mp (by omega)).2, hgd.mp (by omega)⟩) (by first | exact m78 | exact k78) (by first | exact m85 | exact k85) (by first | exact k44 | exact n44) Iq71 frq73 cyq74 (by omega)
          refine g_sub [0, 1, 2, 3, 4, 5] rfl ?_
          exact lp64 _ 0 _ (show (0 : Int32).toInt = 0 by decide) (-1) _ (show ((-1) : Int32).toInt = (-1) by decide) Mq45 (by omega) FLI_0 (fun _ _ => by rw [hMt]) (by rw [hMt]) (by rw [← hMt]; exact hpl.2.1) Iq46 frq48 cyq49 (Nat.lt_succ_self _)
        · refine g_iconst X (-1) dX7_filled_50 (by decide) ?_
          exact g_iret X dX7_filled_51 ⟨_, _, rfl, (show ((-1) : Int32).toInt = (-1) by decide), (Or.inl ⟨by omega, rfl⟩), Iq0, frq0⟩
end
