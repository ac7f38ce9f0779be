section
abbrev W_X7_plays_R : List (Nat × Nat) := [(47, 44), (78, 99), (85, 99)]
set_option maxHeartbeats 4000000 in
set_option maxRecDepth 4000 in
theorem c_X7_plays_R (ad : Nat → Nat) (Mq : Mem) (x1 : Int32) {a1 : Int} (t1 : x1.toInt = a1) (x2 : Int32) {a2 : Int} (t2 : x2.toInt = a2) (Iq0 : Iv TM Mq) (h1 : 0 ≤ a1 ∧ a1 < 12) (h2 : -1 ≤ a2 ∧ a2 ≤ (Mq.1 47 53).toInt) : Ctr ad yX7_plays cX7_plays 3 none 2 [.ref (ad 47), .int x1, .int x2] Mq (fun v M' => v = none ∧ (True) ∧ ((∀ l : Nat, l < 40 → ((M'.1 85 l).toInt ≠ 0 ↔ ((l : Int) < (Mq.1 47 12).toInt ∧ hsM Mq (Mq.1 86 a1.toNat).toInt l (Mq.1 88 a1.toNat).toInt (upk a2 (Mq.1 47 53).toInt).toNat = true))) ∧ (M'.1 47 44).toInt = (Mq.1 89 a1.toNat).toInt ∧ ∀ j : Nat, (j : Int) < (Mq.1 89 a1.toNat).toInt → M'.1 78 j = Mq.1 90 (24 * a1.toNat + j)) ∧ Iv TM M' ∧ Fr W_X7_plays_R Mq M') := by
  refine ctr_of (L := [(0, .ref (ad 47)), (1, .int x1), (2, .int x2)]) (by decide) (Nat.le_of_ble_eq_true rfl) rfl ?_
  intro Γ X
  have X : gX Γ cX7_plays RX7 3 none 2 ad _ := X
  have frq0 : Fr W_X7_plays_R Mq Mq := Fr.rf
  have g12 := ig_47_12 Iq0
  have g24 := ig_47_24 Iq0
  have g44 := ig_47_44 Iq0
  have g43 := ig_47_43 Iq0
  have g52 := ig_47_52 Iq0
  have g53 := ig_47_53 Iq0
  have g59 := ig_47_59 Iq0
  have g89 := ig_89 Iq0 a1.toNat (by omega)
  refine g_aload_n X 0 rfl dX7_plays_0 ?_
  refine g_aload_n X 0 rfl dX7_plays_1 ?_
  refine g_getr X f_X7_129 dX7_plays_2 ?_
  refine g_iload_n X 1 rfl dX7_plays_5 ?_
  refine g_iald X la_86 t1 dX7_plays_6 (by omega) (x := Mq.1 86 a1.toNat) rfl ?_
  refine g_aload_n X 0 rfl dX7_plays_7 ?_
  refine g_getr X f_X7_135 dX7_plays_8 ?_
  refine g_iload_n X 1 rfl dX7_plays_11 ?_
  refine g_iald X la_88 t1 dX7_plays_12 (by omega) (x := Mq.1 88 a1.toNat) rfl ?_
  refine g_aload_n X 0 rfl dX7_plays_13 ?_
  refine g_iload_n X 2 rfl dX7_plays_14 ?_
  refine g_callV X m_X7_329 (c_X7_upTo ad Mq x2 t2) rfl (by decide) (Nat.le_of_ble_eq_true rfl) rfl dX7_plays_15 ?_
  rintro _ _ ⟨rq1, aq2, rfl, tq3, hq4, rfl⟩
  have hup : aq2 = upk a2 (Mq.1 47 53).toInt := by first | exact hq4 | exact upk_of hq4
  show G Γ Mq 18 [(0, .ref (ad 47)), (1, .int x1), (2, .int x2)] [.int rq1, .int (Mq.1 88 a1.toNat), .int (Mq.1 86 a1.toNat), .ref (ad 47)]
  refine g_callV X m_X7_269 (c_X7_findStock_F ad Mq (Mq.1 86 a1.toNat) rfl (Mq.1 88 a1.toNat) rfl rq1 tq3 Iq0 (by rw [hup]; unfold upk; split <;> omega)) rfl (by decide) (Nat.le_of_ble_eq_true rfl) rfl dX7_plays_18 ?_
  rintro _ Mq10 ⟨rfl, hq8, hq9, Iq11, frq12⟩
  have frq13 : Fr W_X7_plays_R Mq Mq10 := frq0.trans frq12 rfl
  have hfs := hq9
  have f1 := frq12
  rw [hup] at hfs
  have e89 : (Mq10.1 89 a1.toNat).toInt = (Mq.1 89 a1.toNat).toInt := congrArg Int32.toInt (f1.at 89 _ rfl)
  show G Γ Mq10 21 [(0, .ref (ad 47)), (1, .int x1), (2, .int x2)] []
  refine g_aload_n X 0 rfl dX7_plays_21 ?_
  refine g_aload_n X 0 rfl dX7_plays_22 ?_
  refine g_getr X f_X7_141 dX7_plays_23 ?_
  refine g_bipush X 24 dX7_plays_26 (by decide) ?_
  refine g_iload_n X 1 rfl dX7_plays_28 ?_
  refine g_imul X dX7_plays_29 (fun zq14 eq15 => ?_)
  have tq16 : zq14.toInt = 24 * a1 := mul_nw eq15 (show (24 : Int32).toInt = 24 by decide) t1 (by omega)
  refine g_aload_n X 0 rfl dX7_plays_30 ?_
  refine g_getr X f_X7_138 dX7_plays_31 ?_
  refine g_iload_n X 1 rfl dX7_plays_34 ?_
  refine g_iald X la_89 t1 dX7_plays_35 (by omega) (x := Mq10.1 89 a1.toNat) rfl ?_
  have bq17 := ig_89 Iq11 a1.toNat (by omega)
  refine g_callV X m_X7_342 (c_X7_sees_90_R ad Mq10 zq14 tq16 (Mq10.1 89 a1.toNat) rfl Iq11 (by omega) (by omega)) rfl (by decide) (Nat.le_of_ble_eq_true rfl) rfl dX7_plays_36 ?_
  rintro _ Mq23 ⟨rfl, hq21, hq22, Iq24, frq25⟩
  have frq26 : Fr W_X7_plays_R Mq Mq23 := frq13.trans frq25 rfl
  have hse := hq22
  have f2 := frq25
  rw [e89] at hse
  show G Γ Mq23 39 [(0, .ref (ad 47)), (1, .int x1), (2, .int x2)] []
  exact g_vret X dX7_plays_39 ⟨rfl, trivial, (⟨fun l hl => by rw [f2.at 85 l rfl]; exact hfs l hl, hse.1, fun j hj => by rw [hse.2 j hj, f1.at 90 _ rfl, show (24 * a1).toNat + j = 24 * a1.toNat + j by omega]⟩), Iq24, frq26⟩
abbrev W_X7_heard_R : List (Nat × Nat) := [(71, 99), (72, 99), (73, 99), (74, 99), (75, 99), (76, 99), (85, 99), (47, 44), (78, 99)]
set_option maxHeartbeats 4000000 in
set_option maxRecDepth 4000 in
theorem c_X7_heard_R (ad : Nat → Nat) (Mq : Mem) (x1 : Int32) {a1 : Int} (t1 : x1.toInt = a1) (x2 : Int32) {a2 : Int} (t2 : x2.toInt = a2) (x3 : Int32) {a3 : Int} (t3 : x3.toInt = a3) (Iq0 : Iv TM Mq) {p : RpT} (htl : 0 ≤ (Mq.1 47 23).toInt ∧ (Mq.1 47 23).toInt ≤ 1000000) (hG : ∀ x : Nat, x < 8 → 0 < tel Mq x → gsN (txt Mq x) (tsz Mq x).toNat = some ([], true)) (hpw : (0 ≤ a1 ∧ a1 < (Mq.1 47 59).toInt) ∧ (-1 ≤ a2 ∧ a2 ≤ (Mq.1 47 53).toInt) → ∀ s j : Nat, s < 8 → (j : Int) < (Mq.1 89 a1.toNat).toInt → p.1 s j = wqB (Bu Mq (Mq.1 86 a1.toNat).toInt (Mq.1 88 a1.toNat).toInt (upk a2 (Mq.1 47 53).toInt).toNat) ((Mq.1 47 12).toInt).toNat (Mq.1 90 (24 * a1.toNat + j)).toInt s) (hh : (Mq.1 47 24).toInt = ((p.2.2 : Nat) : Int)) (hfix : ∀ x : Nat, x < 8 → 0 < tel Mq x → p.2.1 x = mcT p (txt Mq x) (tsz Mq x).toNat) (hle : ∀ x : Nat, x < 8 → tel Mq x ≤ (Mq.1 47 23).toInt) (hsc : 0 ≤ a1 ∧ a1 < (Mq.1 47 59).toInt → 0 < tel Mq ((Mq.1 87 a1.toNat).toInt).toNat) (cy0 : WFM Mq) : Ctr ad yX7_heard cX7_heard 7 (some .int) 6 [.ref (ad 47), .int x1, .int x2, .int x3] Mq (fun v M' => ∃ (r : Int32) (a : Int), v = some (.int r) ∧ r.toInt = a ∧ ((¬ ((0 ≤ a1 ∧ a1 < (Mq.1 47 59).toInt) ∧ (-1 ≤ a2 ∧ a2 ≤ (Mq.1 47 53).toInt)) ∧ a = -1) ∨ (((0 ≤ a1 ∧ a1 < (Mq.1 47 59).toInt) ∧ (-1 ≤ a2 ∧ a2 ≤ (Mq.1 47 53).toInt)) ∧ ((a3 = 0 ∧ ((0 < p.2.1 ((Mq.1 87 a1.toNat).toInt).toNat 0 ((Mq.1 89 a1.toNat).toInt).toNat ∧ a = 1) ∨ (¬ (0 < p.2.1 ((Mq.1 87 a1.toNat).toInt).toNat 0 ((Mq.1 89 a1.toNat).toInt).toNat) ∧ a = 0))) ∨ (a3 = 1 ∧ a = ((ctb (fun j => decide ((Mq.1 90 (24 * a1.toNat + j)).toInt ≠ 40) && !(decide ((Mq.1 90 (24 * a1.toNat + j)).toInt < (Mq.1 47 12).toInt) && hsM Mq (Mq.1 86 a1.toNat).toInt (Mq.1 90 (24 * a1.toNat + j)).toInt (Mq.1 88 a1.toNat).toInt (upk a2 (Mq.1 47 53).toInt).toNat)) ((Mq.1 89 a1.toNat).toInt).toNat : Nat) : Int)) ∨ (a3 = 2 ∧ a = ((ctb (fun j => decide ((Mq.1 90 (24 * a1.toNat + j)).toInt = 40)) ((Mq.1 89 a1.toNat).toInt).toNat : Nat) : Int)) ∨ (a3 = 3 ∧ a = (Mq.1 89 a1.toNat).toInt) ∨ (¬ (0 ≤ a3 ∧ a3 ≤ 3) ∧ a = -1)))) ∧ Iv TM M' ∧ Fr W_X7_heard_R Mq M') := by
  refine ctr_of (L := [(0, .ref (ad 47)), (1, .int x1), (2, .int x2), (3, .int x3)]) (by decide) (Nat.le_of_ble_eq_true rfl) rfl ?_
  intro Γ X
  have X : gX Γ cX7_heard RX7 7 (some .int) 6 ad _ := X
  have frq0 : Fr W_X7_heard_R Mq Mq := Fr.rf
  have g12 := ig_47_12 Iq0
  have g24 := ig_47_24 Iq0
  have g44 := ig_47_44 Iq0
  have g43 := ig_47_43 Iq0
  have g52 := ig_47_52 Iq0
  have g53 := ig_47_53 Iq0
  have g59 := ig_47_59 Iq0
  refine g_aload_n X 0 rfl dX7_heard_0 ?_
  refine g_iload_n X 1 rfl dX7_heard_1 ?_
  refine g_callV X m_X7_355 (c_X7_isRecording ad Mq x1 t1) rfl (by decide) (Nat.le_of_ble_eq_true rfl) rfl dX7_heard_2 ?_
  rintro _ _ ⟨rq1, aq2, rfl, tq3, hq4, rfl⟩
  show G Γ Mq 5 [(0, .ref (ad 47)), (1, .int x1), (2, .int x2), (3, .int x3)] [.int rq1]
  refine g_if_eq X tq3 (tgt := 28) dX7_heard_5 (by decide) (fun cq5 => ?_) (fun cq5 => ?_)
  · have pq6 : ¬ (0 ≤ a1 ∧ a1 < ((Mq.1 47 59)).toInt) := by first | omega | (rcases hq4 with ⟨z1, z2⟩ | ⟨z1, z2⟩ <;> first | exact z2 | (exfalso; omega))
    refine g_iconst X (-1) dX7_heard_28 (by decide) ?_
    exact g_iret X dX7_heard_29 ⟨_, _, rfl, (show ((-1) : Int32).toInt = (-1) by decide), (by first | exact Or.inl ⟨by omega, rfl⟩ | exact Or.inr ⟨by omega, Or.inr (Or.inr (Or.inr (Or.inr ⟨by omega, rfl⟩)))⟩ | (by_cases q : ((0 ≤ a1 ∧ a1 < (Mq.1 47 59).toInt) ∧ (-1 ≤ a2 ∧ a2 ≤ (Mq.1 47 53).toInt)); exact Or.inr ⟨q, Or.inr (Or.inr (Or.inr (Or.inr ⟨by omega, rfl⟩)))⟩; exact Or.inl ⟨q, rfl⟩)), Iq0, frq0⟩
  · have pq7 : (0 ≤ a1 ∧ a1 < ((Mq.1 47 59)).toInt) := by first | omega | (rcases hq4 with ⟨z1, z2⟩ | ⟨z1, z2⟩ <;> first | exact z2 | (exfalso; omega))
    refine g_aload_n X 0 rfl dX7_heard_8 ?_
    refine g_iload_n X 2 rfl dX7_heard_9 ?_
    refine g_callV X m_X7_326 (c_X7_isKnown ad Mq x2 t2) rfl (by decide) (Nat.le_of_ble_eq_true rfl) rfl dX7_heard_10 ?_
    rintro _ _ ⟨rq8, aq9, rfl, tq10, hq11, rfl⟩
    show G Γ Mq 13 [(0, .ref (ad 47)), (1, .int x1), (2, .int x2), (3, .int x3)] [.int rq8]
    refine g_if_eq X tq10 (tgt := 28) dX7_heard_13 (by decide) (fun cq12 => ?_) (fun cq12 => ?_)
    · have pq13 : ¬ (-1 ≤ a2 ∧ a2 ≤ ((Mq.1 47 53)).toInt) := by first | omega | (rcases hq11 with ⟨z1, z2⟩ | ⟨z1, z2⟩ <;> first | exact z2 | (exfalso; omega))
      refine g_iconst X (-1) dX7_heard_28 (by decide) ?_
      exact g_iret X dX7_heard_29 ⟨_, _, rfl, (show ((-1) : Int32).toInt = (-1) by decide), (by first | exact Or.inl ⟨by omega, rfl⟩ | exact Or.inr ⟨by omega, Or.inr (Or.inr (Or.inr (Or.inr ⟨by omega, rfl⟩)))⟩ | (by_cases q : ((0 ≤ a1 ∧ a1 < (Mq.1 47 59).toInt) ∧ (-1 ≤ a2 ∧ a2 ≤ (Mq.1 47 53).toInt)); exact Or.inr ⟨q, Or.inr (Or.inr (Or.inr (Or.inr ⟨by omega, rfl⟩)))⟩; exact Or.inl ⟨q, rfl⟩)), Iq0, frq0⟩
    · have pq14 : (-1 ≤ a2 ∧ a2 ≤ ((Mq.1 47 53)).toInt) := by first | omega | (rcases hq11 with ⟨z1, z2⟩ | ⟨z1, z2⟩ <;> first | exact z2 | (exfalso; omega))
      refine g_iload_n X 3 rfl dX7_heard_16 ?_
      refine g_i2l X dX7_heard_17 (fun zq15 eq16 => ?_)
      have tq17 : zq15.toInt = a3 := i2l_nw eq16 t3
      refine g_lconst X 0 dX7_heard_18 (by decide) ?_
      refine g_ldc2 X k_X7_235 dX7_heard_19 ?_
      refine g_callS X m_X7_152 (c_X7_isIn ad Mq zq15 tq17 0 (show (0 : Int64).toInt = 0 by decide) 3 (show (3 : Int64).toInt = 3 by decide)) rfl (by decide) (Nat.le_of_ble_eq_true rfl) rfl dX7_heard_22 ?_
      rintro _ _ ⟨rq18, aq19, rfl, tq20, hq21, rfl⟩
      show G Γ Mq 25 [(0, .ref (ad 47)), (1, .int x1), (2, .int x2), (3, .int x3)] [.int rq18]
      refine g_if_ne X tq20 (tgt := 30) dX7_heard_25 (by decide) (fun cq22 => ?_) (fun cq22 => ?_)
      · have pq23 : (0 ≤ a3 ∧ a3 ≤ 3) := by first | omega | (rcases hq21 with ⟨z1, z2⟩ | ⟨z1, z2⟩ <;> first | exact z2 | (exfalso; omega))
        refine g_aload_n X 0 rfl dX7_heard_30 ?_
        refine g_iload_n X 1 rfl dX7_heard_31 ?_
        refine g_iload_n X 2 rfl dX7_heard_32 ?_
        refine g_callV X m_X7_358 (c_X7_plays_R ad Mq x1 t1 x2 t2 Iq0 (by omega) (by omega)) rfl (by decide) (Nat.le_of_ble_eq_true rfl) rfl dX7_heard_33 ?_
        rintro _ Mq29 ⟨rfl, hq27, hq28, Iq30, frq31⟩
        have frq32 : Fr W_X7_heard_R Mq Mq29 := frq0.trans frq31 rfl
        have cyq33 : WFM Mq29 := WFM_fr cy0 frq31 rfl
        have trq34 : (Mq29.1 47 23).toInt = (Mq.1 47 23).toInt := congrArg Int32.toInt (frq31.at 47 23 rfl)
        have hpl := hq28
        have f1 := frq31
        have fT := frq32
        have etx : txt Mq29 = txt Mq := by unfold txt; rw [row_fr fT (c := 61) (by decide)]
        have ets : tsz Mq29 = tsz Mq := by unfold tsz; rw [row_fr fT (c := 62) (by decide)]
        have ete : tel Mq29 = tel Mq := by unfold tel; rw [row_fr fT (c := 63) (by decide)]
        have e87 : Mq29.1 87 a1.toNat = Mq.1 87 a1.toNat := fT.at 87 _ rfl
        have g87 := ig_87 Iq0 a1.toNat (by omega)
        have g89 := ig_89 Iq0 a1.toNat (by omega)
        have n44 := hpl.2.1
        show G Γ Mq29 36 [(0, .ref (ad 47)), (1, .int x1), (2, .int x2), (3, .int x3)] []
        refine g_iconst X 0 dX7_heard_36 (by decide) ?_
        refine g_istore X [(4, .int 0), (0, .ref (ad 47)), (1, .int x1), (2, .int x2), (3, .int x3)] dX7_heard_37 (by decide) rfl ?_
        refine g_iconst X 0 dX7_heard_39 (by decide) ?_
        refine g_istore X [(5, .int 0), (4, .int 0), (0, .ref (ad 47)), (1, .int x1), (2, .int x2), (3, .int x3)] dX7_heard_40 (by decide) rfl ?_
        refine g_iconst X 0 dX7_heard_42 (by decide) ?_
        refine g_istore X [(6, .int 0), (5, .int 0), (4, .int 0), (0, .ref (ad 47)), (1, .int x1), (2, .int x2), (3, .int x3)] dX7_heard_43 (by decide) rfl ?_
        have lp45 : ∀ n : Nat, ∀ (y6_45 : Int32) (b6_45 : Int), y6_45.toInt = b6_45 → ∀ (y5_45 : Int32) (b5_45 : Int), y5_45.toInt = b5_45 → ∀ (y4_45 : Int32) (b4_45 : Int), y4_45.toInt = b4_45 → (0 ≤ b6_45 ∧ b6_45 ≤ (Mq.1 89 a1.toNat).toInt) → (b4_45 = ((ctb (fun j => decide ((Mq.1 90 (24 * a1.toNat + j)).toInt ≠ 40) && !(decide ((Mq.1 90 (24 * a1.toNat + j)).toInt < (Mq.1 47 12).toInt) && hsM Mq (Mq.1 86 a1.toNat).toInt (Mq.1 90 (24 * a1.toNat + j)).toInt (Mq.1 88 a1.toNat).toInt (upk a2 (Mq.1 47 53).toInt).toNat)) (b6_45).toNat : Nat) : Int)) → (b5_45 = ((ctb (fun j => decide ((Mq.1 90 (24 * a1.toNat + j)).toInt = 40)) (b6_45).toNat : Nat) : Int)) → ((Mq.1 89 a1.toNat).toInt - b6_45).toNat < n → G Γ Mq29 45 [(6, .int y6_45), (5, .int y5_45), (4, .int y4_45), (0, .ref (ad 47)), (1, .int x1), (2, .int x2), (3, .int x3)] [] := by
          intro n
          induction n with
          | zero => intro y6_45 b6_45 e6_45 y5_45 b5_45 e5_45 y4_45 b4_45 e4_45 i1 i2 i3 hm; exact absurd hm (Nat.not_lt_zero _)
          | succ n ih45 =>
            intro y6_45 b6_45 e6_45 y5_45 b5_45 e5_45 y4_45 b4_45 e4_45 i1 i2 i3 hm45
            have hcl := ctb_le (fun j => decide ((Mq.1 90 (24 * a1.toNat + j)).toInt ≠ 40) && !(decide ((Mq.1 90 (24 * a1.toNat + j)).toInt < (Mq.1 47 12).toInt) && hsM Mq (Mq.1 86 a1.toNat).toInt (Mq.1 90 (24 * a1.toNat + j)).toInt (Mq.1 88 a1.toNat).toInt (upk a2 (Mq.1 47 53).toInt).toNat)) (b6_45).toNat
            have hcm := ctb_le (fun j => decide ((Mq.1 90 (24 * a1.toNat + j)).toInt = 40)) (b6_45).toNat
            refine g_iload X 0 rfl dX7_heard_45 ?_
            refine g_aload_n X 3 rfl dX7_heard_47 ?_
            refine g_geti X f_X7_282 dX7_heard_48 (x := Mq29.1 47 44) rfl ?_
            have bq35 := ig_47_44 Iq30
            refine g_icmp_ge X e6_45 rfl (tgt := 119) dX7_heard_51 (by decide) (fun cq36 => ?_) (fun cq36 => ?_)
            · refine g_iload_n X 6 rfl dX7_heard_119 ?_
              refine g_if_ne X t3 (tgt := 144) dX7_heard_120 (by decide) (fun cq37 => ?_) (fun cq37 => ?_)
              · refine g_iload_n X 6 rfl dX7_heard_144 ?_
                refine g_iconst X 1 dX7_heard_145 (by decide) ?_
                refine g_icmp_ne X t3 (show (1 : Int32).toInt = 1 by decide) (tgt := 154) dX7_heard_146 (by decide) (fun cq38 => ?_) (fun cq38 => ?_)
                · refine g_iload_n X 6 rfl dX7_heard_154 ?_
                  refine g_iconst X 2 dX7_heard_155 (by decide) ?_
                  refine g_icmp_ne X t3 (show (2 : Int32).toInt = 2 by decide) (tgt := 164) dX7_heard_156 (by decide) (fun cq39 => ?_) (fun cq39 => ?_)
                  · refine g_aload_n X 3 rfl dX7_heard_164 ?_
                    refine g_geti X f_X7_282 dX7_heard_165 (x := Mq29.1 47 44) rfl ?_
                    have bq40 := ig_47_44 Iq30
                    exact g_iret X dX7_heard_168 ⟨_, _, rfl, rfl, (Or.inr ⟨by omega, by first | exact Or.inl ⟨by omega, Or.inl ⟨hgd.mp (by omega), rfl⟩⟩ | exact Or.inl ⟨by omega, Or.inr ⟨fun z => by have y := hgd.mpr z; omega, rfl⟩⟩ | exact Or.inr (Or.inl ⟨by omega, by rw [show b6_45 = (Mq.1 89 a1.toNat).toInt by omega] at i2; exact i2⟩) | exact Or.inr (Or.inr (Or.inl ⟨by omega, by rw [show b6_45 = (Mq.1 89 a1.toNat).toInt by omega] at i3; exact i3⟩)) | exact Or.inr (Or.inr (Or.inr (Or.inl ⟨by omega, n44⟩)))⟩), Iq30, frq32⟩
                  · refine g_iload X 1 rfl dX7_heard_159 ?_
                    refine g_goto X (tgt := 168) dX7_heard_161 (by decide) ?_
                    exact g_iret X dX7_heard_168 ⟨_, _, rfl, e5_45, (Or.inr ⟨by omega, by first | exact Or.inl ⟨by omega, Or.inl ⟨hgd.mp (by omega), rfl⟩⟩ | exact Or.inl ⟨by omega, Or.inr ⟨fun z => by have y := hgd.mpr z; omega, rfl⟩⟩ | exact Or.inr (Or.inl ⟨by omega, by rw [show b6_45 = (Mq.1 89 a1.toNat).toInt by omega] at i2; exact i2⟩) | exact Or.inr (Or.inr (Or.inl ⟨by omega, by rw [show b6_45 = (Mq.1 89 a1.toNat).toInt by omega] at i3; exact i3⟩)) | exact Or.inr (Or.inr (Or.inr (Or.inl ⟨by omega, n44⟩)))⟩), Iq30, frq32⟩
                · refine g_iload X 2 rfl dX7_heard_149 ?_
                  refine g_goto X (tgt := 168) dX7_heard_151 (by decide) ?_
                  exact g_iret X dX7_heard_168 ⟨_, _, rfl, e4_45, (Or.inr ⟨by omega, by first | exact Or.inl ⟨by omega, Or.inl ⟨hgd.mp (by omega), rfl⟩⟩ | exact Or.inl ⟨by omega, Or.inr ⟨fun z => by have y := hgd.mpr z; omega, rfl⟩⟩ | exact Or.inr (Or.inl ⟨by omega, by rw [show b6_45 = (Mq.1 89 a1.toNat).toInt by omega] at i2; exact i2⟩) | exact Or.inr (Or.inr (Or.inl ⟨by omega, by rw [show b6_45 = (Mq.1 89 a1.toNat).toInt by omega] at i3; exact i3⟩)) | exact Or.inr (Or.inr (Or.inr (Or.inl ⟨by omega, n44⟩)))⟩), Iq30, frq32⟩
              · refine g_aload_n X 3 rfl dX7_heard_123 ?_
                refine g_aload_n X 3 rfl dX7_heard_124 ?_
                refine g_getr X f_X7_132 dX7_heard_125 ?_
                refine g_iload_n X 4 rfl dX7_heard_128 ?_
                refine g_iald X la_87 t1 dX7_heard_129 (by omega) (x := Mq29.1 87 a1.toNat) rfl ?_
                have bq41 := ig_87 Iq30 a1.toNat (by omega)
                refine g_callV X m_X7_346 (c_X7_runsOf_R (p := p) ad Mq29 (Mq29.1 87 a1.toNat) rfl Iq30 (by rw [e87]; omega) (by rw [fT.at 47 23 rfl]; exact htl) (by rw [ete, e87]; exact hsc (by omega)) (by rw [etx, ets, ete]; exact hG) (fun s j hs hj => by rw [n44] at hj; have z := hpw (by omega) s j hs hj; rw [hpl.2.2 j hj, z]; exact wq_R (ig_47_12 Iq0) hpl.1 f1 (Fr.rf (W := [])) (by decide) (by decide) (ig_90 Iq0 _ (by omega))) (by rw [fT.at 47 24 rfl]; exact hh) (by rw [etx, ets, ete]; exact hfix) (by rw [ete, fT.at 47 23 rfl]; exact hle) cyq33) rfl (by decide) (Nat.le_of_ble_eq_true rfl) rfl dX7_heard_130 ?_
                rintro _ Mq46 ⟨rq42, aq43, rfl, tq44, hq45, Iq47, frq48⟩
                have frq49 : Fr W_X7_heard_R Mq Mq46 := frq32.trans frq48 rfl
                have cyq50 : WFM Mq46 := WFM_fr cyq33 frq48 rfl
                have trq51 : (Mq46.1 47 23).toInt = (Mq29.1 47 23).toInt := congrArg Int32.toInt (frq48.at 47 23 rfl)
                have hrn := hq45
                rw [n44, e87] at hrn
                have hgd : 0 < aq43 ↔ 0 < p.2.1 ((Mq.1 87 a1.toNat).toInt).toNat 0 ((Mq.1 89 a1.toNat).toInt).toNat := by rw [hrn, ← cap_pos]; omega
                show G Γ Mq46 133 [(6, .int y6_45), (5, .int y5_45), (4, .int y4_45), (0, .ref (ad 47)), (1, .int x1), (2, .int x2), (3, .int x3)] [.int rq42]
                refine g_if_le X tq44 (tgt := 140) dX7_heard_133 (by decide) (fun cq52 => ?_) (fun cq52 => ?_)
                · refine g_iconst X 0 dX7_heard_140 (by decide) ?_
                  refine g_goto X (tgt := 168) dX7_heard_141 (by decide) ?_
                  exact g_iret X dX7_heard_168 ⟨_, _, rfl, (show (0 : Int32).toInt = 0 by decide), (Or.inr ⟨by omega, by first | exact Or.inl ⟨by omega, Or.inl ⟨hgd.mp (by omega), rfl⟩⟩ | exact Or.inl ⟨by omega, Or.inr ⟨fun z => by have y := hgd.mpr z; omega, rfl⟩⟩ | exact Or.inr (Or.inl ⟨by omega, by rw [show b6_45 = (Mq.1 89 a1.toNat).toInt by omega] at i2; exact i2⟩) | exact Or.inr (Or.inr (Or.inl ⟨by omega, by rw [show b6_45 = (Mq.1 89 a1.toNat).toInt by omega] at i3; exact i3⟩)) | exact Or.inr (Or.inr (Or.inr (Or.inl ⟨by omega, n44⟩)))⟩), Iq47, frq49⟩
                · refine g_iconst X 1 dX7_heard_136 (by decide) ?_
                  refine g_goto X (tgt := 168) dX7_heard_137 (by decide) ?_
                  exact g_iret X dX7_heard_168 ⟨_, _, rfl, (show (1 : Int32).toInt = 1 by decide), (Or.inr ⟨by omega, by first | exact Or.inl ⟨by omega, Or.inl ⟨hgd.mp (by omega), rfl⟩⟩ | exact Or.inl ⟨by omega, Or.inr ⟨fun z => by have y := hgd.mpr z; omega, rfl⟩⟩ | exact Or.inr (Or.inl ⟨by omega, by rw [show b6_45 = (Mq.1 89 a1.toNat).toInt by omega] at i2; exact i2⟩) | exact Or.inr (Or.inr (Or.inl ⟨by omega, by rw [show b6_45 = (Mq.1 89 a1.toNat).toInt by omega] at i3; exact i3⟩)) | exact Or.inr (Or.inr (Or.inr (Or.inl ⟨by omega, n44⟩)))⟩), Iq47, frq49⟩
            · have h78 : Mq29.1 78 (b6_45).toNat = Mq.1 90 (24 * a1.toNat + (b6_45).toNat) := hpl.2.2 _ (by omega)
              have h78i : (Mq29.1 78 (b6_45).toNat).toInt = (Mq.1 90 (24 * a1.toNat + (b6_45).toNat)).toInt := congrArg Int32.toInt h78
              have g90 := ig_90 Iq0 (24 * a1.toNat + (b6_45).toNat) (by omega)
              refine g_iload X 1 rfl dX7_heard_54 ?_
              refine g_aload_n X 3 rfl dX7_heard_56 ?_
              refine g_getr X f_X7_104 dX7_heard_57 ?_
              refine g_iload X 0 rfl dX7_heard_60 ?_
              refine g_iald X la_78 e6_45 dX7_heard_62 (by omega) (x := Mq29.1 78 b6_45.toNat) rfl ?_
              have bq53 := ig_78 Iq30 b6_45.toNat (by omega)
              refine g_bipush X 40 dX7_heard_63 (by decide) ?_
              refine g_icmp_ne X rfl (show (40 : Int32).toInt = 40 by decide) (tgt := 72) dX7_heard_65 (by decide) (fun cq54 => ?_) (fun cq54 => ?_)
              · refine g_iconst X 0 dX7_heard_72 (by decide) ?_
                refine g_iadd X dX7_heard_73 (fun zq55 eq56 => ?_)
                have tq57 : zq55.toInt = b5_45 + 0 := add_nw eq56 e5_45 (show (0 : Int32).toInt = 0 by decide) (by omega)
                refine g_istore X [(5, .int zq55), (6, .int y6_45), (4, .int y4_45), (0, .ref (ad 47)), (1, .int x1), (2, .int x2), (3, .int x3)] dX7_heard_74 (by decide) rfl ?_
                refine g_iload X 2 rfl dX7_heard_76 ?_
                refine g_aload_n X 3 rfl dX7_heard_78 ?_
                refine g_getr X f_X7_104 dX7_heard_79 ?_
                refine g_iload X 1 rfl dX7_heard_82 ?_
                refine g_iald X la_78 e6_45 dX7_heard_84 (by omega) (x := Mq29.1 78 b6_45.toNat) rfl ?_
                have bq58 := ig_78 Iq30 b6_45.toNat (by omega)
                refine g_bipush X 40 dX7_heard_85 (by decide) ?_
                refine g_icmp_eq X rfl (show (40 : Int32).toInt = 40 by decide) (tgt := 109) dX7_heard_87 (by decide) (fun cq59 => ?_) (fun cq59 => ?_)
                · refine g_iconst X 0 dX7_heard_109 (by decide) ?_
                  refine g_iadd X dX7_heard_110 (fun zq60 eq61 => ?_)
                  have tq62 : zq60.toInt = b4_45 + 0 := add_nw eq61 e4_45 (show (0 : Int32).toInt = 0 by decide) (by omega)
                  refine g_istore X [(4, .int zq60), (5, .int zq55), (6, .int y6_45), (0, .ref (ad 47)), (1, .int x1), (2, .int x2), (3, .int x3)] dX7_heard_111 (by decide) rfl ?_
                  refine g_iinc X 2 (fun v => [(6, .int v), (4, .int zq60), (5, .int zq55), (0, .ref (ad 47)), (1, .int x1), (2, .int x2), (3, .int x3)]) dX7_heard_113 rfl (by decide) (fun _ => rfl) (fun zq63 eq64 => ?_)
                  have tq65 : zq63.toInt = b6_45 + 1 := add_nw eq64 e6_45 (show (Int32.ofInt 1).toInt = 1 by decide) (by omega)
                  refine g_goto X (tgt := 45) dX7_heard_116 (by decide) ?_
                  refine g_sub [0, 2, 1, 3, 4, 5, 6] rfl ?_
                  exact ih45 zq63 _ tq65 zq55 _ tq57 zq60 _ tq62 (by omega) (by first | (exfalso; omega) | exact hk_y (g := fun j => (Mq.1 90 (24 * a1.toNat + j)).toInt) (L := (Mq.1 47 12).toInt) (H := fun x => hsM Mq (Mq.1 86 a1.toNat).toInt x (Mq.1 88 a1.toNat).toInt (upk a2 (Mq.1 47 53).toInt).toNat) i2 i1.1 (by omega) (fun z => by have y := h85.mpr z; omega) (by omega) | exact hk_n (g := fun j => (Mq.1 90 (24 * a1.toNat + j)).toInt) (L := (Mq.1 47 12).toInt) (H := fun x => hsM Mq (Mq.1 86 a1.toNat).toInt x (Mq.1 88 a1.toNat).toInt (upk a2 (Mq.1 47 53).toInt).toNat) i2 i1.1 (Or.inl (by omega)) (by omega) | exact hk_n (g := fun j => (Mq.1 90 (24 * a1.toNat + j)).toInt) (L := (Mq.1 47 12).toInt) (H := fun x => hsM Mq (Mq.1 86 a1.toNat).toInt x (Mq.1 88 a1.toNat).toInt (upk a2 (Mq.1 47 53).toInt).toNat) i2 i1.1 (Or.inr (h85.mp (by omega))) (by omega)) (by first | (exfalso; omega) | exact ctb_y i3 i1.1 (decide_eq_true (by omega)) (by omega) | exact ctb_n i3 i1.1 (decide_eq_false (by omega)) (by omega)) (by omega)
                · have h85 := hpl.1 (((Mq.1 90 (24 * a1.toNat + (b6_45).toNat)).toInt).toNat) (by omega)
                  rw [tn_cast g90.1] at h85
                  have e85 : Mq29.1 85 (((Mq29.1 78 (b6_45).toNat).toInt).toNat) = Mq29.1 85 (((Mq.1 90 (24 * a1.toNat + (b6_45).toNat)).toInt).toNat) := by rw [h78i]
                  have e85i := congrArg Int32.toInt e85
                  refine g_aload_n X 3 rfl dX7_heard_90 ?_
                  refine g_getr X f_X7_126 dX7_heard_91 ?_
                  refine g_aload_n X 3 rfl dX7_heard_94 ?_
                  refine g_getr X f_X7_104 dX7_heard_95 ?_
                  refine g_iload X 1 rfl dX7_heard_98 ?_
                  refine g_iald X la_78 e6_45 dX7_heard_100 (by omega) (x := Mq29.1 78 b6_45.toNat) rfl ?_
                  have bq66 := ig_78 Iq30 b6_45.toNat (by omega)
                  refine g_zald X la_85 rfl dX7_heard_101 (by omega) (x := Mq29.1 85 (((Mq29.1 78 b6_45.toNat).toInt).toNat)) rfl ?_
                  have bq67 := ig_85 Iq30 (((Mq29.1 78 b6_45.toNat).toInt).toNat) (by omega)
                  refine g_if_ne X rfl (tgt := 109) dX7_heard_102 (by decide) (fun cq68 => ?_) (fun cq68 => ?_)
                  · refine g_iconst X 0 dX7_heard_109 (by decide) ?_
                    refine g_iadd X dX7_heard_110 (fun zq69 eq70 => ?_)
                    have tq71 : zq69.toInt = b4_45 + 0 := add_nw eq70 e4_45 (show (0 : Int32).toInt = 0 by decide) (by omega)
                    refine g_istore X [(4, .int zq69), (5, .int zq55), (6, .int y6_45), (0, .ref (ad 47)), (1, .int x1), (2, .int x2), (3, .int x3)] dX7_heard_111 (by decide) rfl ?_
                    refine g_iinc X 2 (fun v => [(6, .int v), (4, .int zq69), (5, .int zq55), (0, .ref (ad 47)), (1, .int x1), (2, .int x2), (3, .int x3)]) dX7_heard_113 rfl (by decide) (fun _ => rfl) (fun zq72 eq73 => ?_)
                    have tq74 : zq72.toInt = b6_45 + 1 := add_nw eq73 e6_45 (show (Int32.ofInt 1).toInt = 1 by decide) (by omega)
                    refine g_goto X (tgt := 45) dX7_heard_116 (by decide) ?_
                    refine g_sub [0, 2, 1, 3, 4, 5, 6] rfl ?_
                    exact ih45 zq72 _ tq74 zq55 _ tq57 zq69 _ tq71 (by omega) (by first | (exfalso; omega) | exact hk_y (g := fun j => (Mq.1 90 (24 * a1.toNat + j)).toInt) (L := (Mq.1 47 12).toInt) (H := fun x => hsM Mq (Mq.1 86 a1.toNat).toInt x (Mq.1 88 a1.toNat).toInt (upk a2 (Mq.1 47 53).toInt).toNat) i2 i1.1 (by omega) (fun z => by have y := h85.mpr z; omega) (by omega) | exact hk_n (g := fun j => (Mq.1 90 (24 * a1.toNat + j)).toInt) (L := (Mq.1 47 12).toInt) (H := fun x => hsM Mq (Mq.1 86 a1.toNat).toInt x (Mq.1 88 a1.toNat).toInt (upk a2 (Mq.1 47 53).toInt).toNat) i2 i1.1 (Or.inl (by omega)) (by omega) | exact hk_n (g := fun j => (Mq.1 90 (24 * a1.toNat + j)).toInt) (L := (Mq.1 47 12).toInt) (H := fun x => hsM Mq (Mq.1 86 a1.toNat).toInt x (Mq.1 88 a1.toNat).toInt (upk a2 (Mq.1 47 53).toInt).toNat) i2 i1.1 (Or.inr (h85.mp (by omega))) (by omega)) (by first | (exfalso; omega) | exact ctb_y i3 i1.1 (decide_eq_true (by omega)) (by omega) | exact ctb_n i3 i1.1 (decide_eq_false (by omega)) (by omega)) (by omega)
                  · refine g_iconst X 1 dX7_heard_105 (by decide) ?_
                    refine g_goto X (tgt := 110) dX7_heard_106 (by decide) ?_
                    refine g_iadd X dX7_heard_110 (fun zq75 eq76 => ?_)
                    have tq77 : zq75.toInt = b4_45 + 1 := add_nw eq76 e4_45 (show (1 : Int32).toInt = 1 by decide) (by omega)
                    refine g_istore X [(4, .int zq75), (5, .int zq55), (6, .int y6_45), (0, .ref (ad 47)), (1, .int x1), (2, .int x2), (3, .int x3)] dX7_heard_111 (by decide) rfl ?_
                    refine g_iinc X 2 (fun v => [(6, .int v), (4, .int zq75), (5, .int zq55), (0, .ref (ad 47)), (1, .int x1), (2, .int x2), (3, .int x3)]) dX7_heard_113 rfl (by decide) (fun _ => rfl) (fun zq78 eq79 => ?_)
                    have tq80 : zq78.toInt = b6_45 + 1 := add_nw eq79 e6_45 (show (Int32.ofInt 1).toInt = 1 by decide) (by omega)
                    refine g_goto X (tgt := 45) dX7_heard_116 (by decide) ?_
                    refine g_sub [0, 2, 1, 3, 4, 5, 6] rfl ?_
                    exact ih45 zq78 _ tq80 zq55 _ tq57 zq75 _ tq77 (by omega) (by first | (exfalso; omega) | exact hk_y (g := fun j => (Mq.1 90 (24 * a1.toNat + j)).toInt) (L := (Mq.1 47 12).toInt) (H := fun x => hsM Mq (Mq.1 86 a1.toNat).toInt x (Mq.1 88 a1.toNat).toInt (upk a2 (Mq.1 47 53).toInt).toNat) i2 i1.1 (by omega) (fun z => by have y := h85.mpr z; omega) (by omega) | exact hk_n (g := fun j => (Mq.1 90 (24 * a1.toNat + j)).toInt) (L := (Mq.1 47 12).toInt) (H := fun x => hsM Mq (Mq.1 86 a1.toNat).toInt x (Mq.1 88 a1.toNat).toInt (upk a2 (Mq.1 47 53).toInt).toNat) i2 i1.1 (Or.inl (by omega)) (by omega) | exact hk_n (g := fun j => (Mq.1 90 (24 * a1.toNat + j)).toInt) (L := (Mq.1 47 12).toInt) (H := fun x => hsM Mq (Mq.1 86 a1.toNat).toInt x (Mq.1 88 a1.toNat).toInt (upk a2 (Mq.1 47 53).toInt).toNat) i2 i1.1 (Or.inr (h85.mp (by omega))) (by omega)) (by first | (exfalso; omega) | exact ctb_y i3 i1.1 (decide_eq_true (by omega)) (by omega) | exact ctb_n i3 i1.1 (decide_eq_false (by omega)) (by omega)) (by omega)
              · refine g_iconst X 1 dX7_heard_68 (by decide) ?_
                refine g_goto X (tgt := 73) dX7_heard_69 (by decide) ?_
                refine g_iadd X dX7_heard_73 (fun zq81 eq82 => ?_)
                have tq83 : zq81.toInt = b5_45 + 1 := add_nw eq82 e5_45 (show (1 : Int32).toInt = 1 by decide) (by omega)
                refine g_istore X [(5, .int zq81), (6, .int y6_45), (4, .int y4_45), (0, .ref (ad 47)), (1, .int x1), (2, .int x2), (3, .int x3)] dX7_heard_74 (by decide) rfl ?_
                refine g_iload X 2 rfl dX7_heard_76 ?_
                refine g_aload_n X 3 rfl dX7_heard_78 ?_
                refine g_getr X f_X7_104 dX7_heard_79 ?_
                refine g_iload X 1 rfl dX7_heard_82 ?_
                refine g_iald X la_78 e6_45 dX7_heard_84 (by omega) (x := Mq29.1 78 b6_45.toNat) rfl ?_
                have bq84 := ig_78 Iq30 b6_45.toNat (by omega)
                refine g_bipush X 40 dX7_heard_85 (by decide) ?_
                refine g_icmp_eq X rfl (show (40 : Int32).toInt = 40 by decide) (tgt := 109) dX7_heard_87 (by decide) (fun cq85 => ?_) (fun cq85 => ?_)
                · refine g_iconst X 0 dX7_heard_109 (by decide) ?_
                  refine g_iadd X dX7_heard_110 (fun zq86 eq87 => ?_)
                  have tq88 : zq86.toInt = b4_45 + 0 := add_nw eq87 e4_45 (show (0 : Int32).toInt = 0 by decide) (by omega)
                  refine g_istore X [(4, .int zq86), (5, .int zq81), (6, .int y6_45), (0, .ref (ad 47)), (1, .int x1), (2, .int x2), (3, .int x3)] dX7_heard_111 (by decide) rfl ?_
                  refine g_iinc X 2 (fun v => [(6, .int v), (4, .int zq86), (5, .int zq81), (0, .ref (ad 47)), (1, .int x1), (2, .int x2), (3, .int x3)]) dX7_heard_113 rfl (by decide) (fun _ => rfl) (fun zq89 eq90 => ?_)
                  have tq91 : zq89.toInt = b6_45 + 1 := add_nw eq90 e6_45 (show (Int32.ofInt 1).toInt = 1 by decide) (by omega)
                  refine g_goto X (tgt := 45) dX7_heard_116 (by decide) ?_
                  refine g_sub [0, 2, 1, 3, 4, 5, 6] rfl ?_
                  exact ih45 zq89 _ tq91 zq81 _ tq83 zq86 _ tq88 (by omega) (by first | (exfalso; omega) | exact hk_y (g := fun j => (Mq.1 90 (24 * a1.toNat + j)).toInt) (L := (Mq.1 47 12).toInt) (H := fun x => hsM Mq (Mq.1 86 a1.toNat).toInt x (Mq.1 88 a1.toNat).toInt (upk a2 (Mq.1 47 53).toInt).toNat) i2 i1.1 (by omega) (fun z => by have y := h85.mpr z; omega) (by omega) | exact hk_n (g := fun j => (Mq.1 90 (24 * a1.toNat + j)).toInt) (L := (Mq.1 47 12).toInt) (H := fun x => hsM Mq (Mq.1 86 a1.toNat).toInt x (Mq.1 88 a1.toNat).toInt (upk a2 (Mq.1 47 53).toInt).toNat) i2 i1.1 (Or.inl (by omega)) (by omega) | exact hk_n (g := fun j => (Mq.1 90 (24 * a1.toNat + j)).toInt) (L := (Mq.1 47 12).toInt) (H := fun x => hsM Mq (Mq.1 86 a1.toNat).toInt x (Mq.1 88 a1.toNat).toInt (upk a2 (Mq.1 47 53).toInt).toNat) i2 i1.1 (Or.inr (h85.mp (by omega))) (by omega)) (by first | (exfalso; omega) | exact ctb_y i3 i1.1 (decide_eq_true (by omega)) (by omega) | exact ctb_n i3 i1.1 (decide_eq_false (by omega)) (by omega)) (by omega)
                · have h85 := hpl.1 (((Mq.1 90 (24 * a1.toNat + (b6_45).toNat)).toInt).toNat) (by omega)
                  rw [tn_cast g90.1] at h85
                  have e85 : Mq29.1 85 (((Mq29.1 78 (b6_45).toNat).toInt).toNat) = Mq29.1 85 (((Mq.1 90 (24 * a1.toNat + (b6_45).toNat)).toInt).toNat) := by rw [h78i]
                  have e85i := congrArg Int32.toInt e85
                  refine g_aload_n X 3 rfl dX7_heard_90 ?_
                  refine g_getr X f_X7_126 dX7_heard_91 ?_
                  refine g_aload_n X 3 rfl dX7_heard_94 ?_
                  refine g_getr X f_X7_104 dX7_heard_95 ?_
                  refine g_iload X 1 rfl dX7_heard_98 ?_
                  refine g_iald X la_78 e6_45 dX7_heard_100 (by omega) (x := Mq29.1 78 b6_45.toNat) rfl ?_
                  have bq92 := ig_78 Iq30 b6_45.toNat (by omega)
                  refine g_zald X la_85 rfl dX7_heard_101 (by omega) (x := Mq29.1 85 (((Mq29.1 78 b6_45.toNat).toInt).toNat)) rfl ?_
                  have bq93 := ig_85 Iq30 (((Mq29.1 78 b6_45.toNat).toInt).toNat) (by omega)
                  refine g_if_ne X rfl (tgt := 109) dX7_heard_102 (by decide) (fun cq94 => ?_) (fun cq94 => ?_)
                  · refine g_iconst X 0 dX7_heard_109 (by decide) ?_
                    refine g_iadd X dX7_heard_110 (fun zq95 eq96 => ?_)
                    have tq97 : zq95.toInt = b4_45 + 0 := add_nw eq96 e4_45 (show (0 : Int32).toInt = 0 by decide) (by omega)
                    refine g_istore X [(4, .int zq95), (5, .int zq81), (6, .int y6_45), (0, .ref (ad 47)), (1, .int x1), (2, .int x2), (3, .int x3)] dX7_heard_111 (by decide) rfl ?_
                    refine g_iinc X 2 (fun v => [(6, .int v), (4, .int zq95), (5, .int zq81), (0, .ref (ad 47)), (1, .int x1), (2, .int x2), (3, .int x3)]) dX7_heard_113 rfl (by decide) (fun _ => rfl) (fun zq98 eq99 => ?_)
                    have tq100 : zq98.toInt = b6_45 + 1 := add_nw eq99 e6_45 (show (Int32.ofInt 1).toInt = 1 by decide) (by omega)
                    refine g_goto X (tgt := 45) dX7_heard_116 (by decide) ?_
                    refine g_sub [0, 2, 1, 3, 4, 5, 6] rfl ?_
                    exact ih45 zq98 _ tq100 zq81 _ tq83 zq95 _ tq97 (by omega) (by first | (exfalso; omega) | exact hk_y (g := fun j => (Mq.1 90 (24 * a1.toNat + j)).toInt) (L := (Mq.1 47 12).toInt) (H := fun x => hsM Mq (Mq.1 86 a1.toNat).toInt x (Mq.1 88 a1.toNat).toInt (upk a2 (Mq.1 47 53).toInt).toNat) i2 i1.1 (by omega) (fun z => by have y := h85.mpr z; omega) (by omega) | exact hk_n (g := fun j => (Mq.1 90 (24 * a1.toNat + j)).toInt) (L := (Mq.1 47 12).toInt) (H := fun x => hsM Mq (Mq.1 86 a1.toNat).toInt x (Mq.1 88 a1.toNat).toInt (upk a2 (Mq.1 47 53).toInt).toNat) i2 i1.1 (Or.inl (by omega)) (by omega) | exact hk_n (g := fun j => (Mq.1 90 (24 * a1.toNat + j)).toInt) (L := (Mq.1 47 12).toInt) (H := fun x => hsM Mq (Mq.1 86 a1.toNat).toInt x (Mq.1 88 a1.toNat).toInt (upk a2 (Mq.1 47 53).toInt).toNat) i2 i1.1 (Or.inr (h85.mp (by omega))) (by omega)) (by first | (exfalso; omega) | exact ctb_y i3 i1.1 (decide_eq_true (by omega)) (by omega) | exact ctb_n i3 i1.1 (decide_eq_false (by omega)) (by omega)) (by omega)
                  · refine g_iconst X 1 dX7_heard_105 (by decide) ?_
                    refine g_goto X (tgt := 110) dX7_heard_106 (by decide) ?_
                    refine g_iadd X dX7_heard_110 (fun zq101 eq102 => ?_)
                    have tq103 : zq101.toInt = b4_45 + 1 := add_nw eq102 e4_45 (show (1 : Int32).toInt = 1 by decide) (by omega)
                    refine g_istore X [(4, .int zq101), (5, .int zq81), (6, .int y6_45), (0, .ref (ad 47)), (1, .int x1), (2, .int x2), (3, .int x3)] dX7_heard_111 (by decide) rfl ?_
                    refine g_iinc X 2 (fun v => [(6, .int v), (4, .int zq101), (5, .int zq81), (0, .ref (ad 47)), (1, .int x1), (2, .int x2), (3, .int x3)]) dX7_heard_113 rfl (by decide) (fun _ => rfl) (fun zq104 eq105 => ?_)
                    have tq106 : zq104.toInt = b6_45 + 1 := add_nw eq105 e6_45 (show (Int32.ofInt 1).toInt = 1 by decide) (by omega)
                    refine g_goto X (tgt := 45) dX7_heard_116 (by decide) ?_
                    refine g_sub [0, 2, 1, 3, 4, 5, 6] rfl ?_
                    exact ih45 zq104 _ tq106 zq81 _ tq83 zq101 _ tq103 (by omega) (by first | (exfalso; omega) | exact hk_y (g := fun j => (Mq.1 90 (24 * a1.toNat + j)).toInt) (L := (Mq.1 47 12).toInt) (H := fun x => hsM Mq (Mq.1 86 a1.toNat).toInt x (Mq.1 88 a1.toNat).toInt (upk a2 (Mq.1 47 53).toInt).toNat) i2 i1.1 (by omega) (fun z => by have y := h85.mpr z; omega) (by omega) | exact hk_n (g := fun j => (Mq.1 90 (24 * a1.toNat + j)).toInt) (L := (Mq.1 47 12).toInt) (H := fun x => hsM Mq (Mq.1 86 a1.toNat).toInt x (Mq.1 88 a1.toNat).toInt (upk a2 (Mq.1 47 53).toInt).toNat) i2 i1.1 (Or.inl (by omega)) (by omega) | exact hk_n (g := fun j => (Mq.1 90 (24 * a1.toNat + j)).toInt) (L := (Mq.1 47 12).toInt) (H := fun x => hsM Mq (Mq.1 86 a1.toNat).toInt x (Mq.1 88 a1.toNat).toInt (upk a2 (Mq.1 47 53).toInt).toNat) i2 i1.1 (Or.inr (h85.mp (by omega))) (by omega)) (by first | (exfalso; omega) | exact ctb_y i3 i1.1 (decide_eq_true (by omega)) (by omega) | exact ctb_n i3 i1.1 (decide_eq_false (by omega)) (by omega)) (by omega)
        refine g_sub [0, 1, 2, 3, 4, 5, 6] rfl ?_
        exact lp45 _ 0 _ (show (0 : Int32).toInt = 0 by decide) 0 _ (show (0 : Int32).toInt = 0 by decide) 0 _ (show (0 : Int32).toInt = 0 by decide) (by omega) rfl rfl (Nat.lt_succ_self _)
      · have pq107 : ¬ (0 ≤ a3 ∧ a3 ≤ 3) := by first | omega | (rcases hq21 with ⟨z1, z2⟩ | ⟨z1, z2⟩ <;> first | exact z2 | (exfalso; omega))
        refine g_iconst X (-1) dX7_heard_28 (by decide) ?_
        exact g_iret X dX7_heard_29 ⟨_, _, rfl, (show ((-1) : Int32).toInt = (-1) by decide), (by first | exact Or.inl ⟨by omega, rfl⟩ | exact Or.inr ⟨by omega, Or.inr (Or.inr (Or.inr (Or.inr ⟨by omega, rfl⟩)))⟩ | (by_cases q : ((0 ≤ a1 ∧ a1 < (Mq.1 47 59).toInt) ∧ (-1 ≤ a2 ∧ a2 ≤ (Mq.1 47 53).toInt)); exact Or.inr ⟨q, Or.inr (Or.inr (Or.inr (Or.inr ⟨by omega, rfl⟩)))⟩; exact Or.inl ⟨q, rfl⟩)), Iq0, frq0⟩
end
