section
abbrev W_X6_runs_R : List (Nat × Nat) := [(30, 99), (37, 4), (37, 5), (39, 99), (37, 6), (38, 99)]
set_option maxHeartbeats 4000000 in
set_option maxRecDepth 4000 in
theorem c_X6_runs_R (ad : Nat → Nat) (Mq : Mem) (x1 : Int32) {a1 : Int} (t1 : x1.toInt = a1) (x2 : Int32) {a2 : Int} (t2 : x2.toInt = a2) (x3 : Int32) {a3 : Int} (t3 : x3.toInt = a3) (x4 : Int32) {a4 : Int} (t4 : x4.toInt = a4) (Iq0 : Iv TX Mq) {p : RpT} {f : Nat → Nat → Int} {N : Nat → Nat} (hy : ∀ k : Nat, k < 200 → 0 ≤ (Mq.1 28 k).toInt) (hX : RTX Mq f N) (hO : ROR Mq f N) (hpw : -1 ≤ a4 ∧ a4 ≤ (Mq.1 23 7).toInt → ∀ S : Int64, (∀ l : Nat, l < 64 → b64 S l = hsX Mq a2 l a3 (upk a4 (Mq.1 23 7).toInt).toNat) → ∀ s j : Nat, s < 8 → (j : Int) < (Mq.1 0 7).toInt → p.1 s j = wtB (b64 (S &&& Mq.2 11 s)) (Mq.1 46 j).toInt) (hh : (Mq.1 14 12).toInt = ((p.2.2 : Nat) : Int)) (hfix : ∀ x : Nat, x < 8 → 0 < (Mq.1 20 x).toInt → p.2.1 x = mcT p (f x) (N x)) (hk : ∀ x : Nat, x < 8 → 0 < (Mq.1 20 x).toInt → ∃ k : Nat, (k : Int) < (Mq.1 14 11).toInt ∧ orX Mq k = x) (hr : ∀ j : Nat, (j : Int) < (Mq.1 0 7).toInt → 0 ≤ (Mq.1 46 j).toInt ∧ (Mq.1 46 j).toInt ≤ 40) : Ctr ad yX6_runs cX6_runs 5 (some .int) 6 [.ref (ad 0), .int x1, .int x2, .int x3, .int x4] Mq (fun v M' => ∃ (r : Int32) (a : Int), v = some (.int r) ∧ r.toInt = a ∧ (((¬ ((0 ≤ a1 ∧ a1 < 8 ∧ 0 < (Mq.1 20 a1.toNat).toInt) ∧ (0 ≤ a2 ∧ a2 < (Mq.1 23 2).toInt) ∧ (-1 ≤ a4 ∧ a4 ≤ (Mq.1 23 7).toInt))) ∧ (a = -1)) ∨ (¬ (¬ ((0 ≤ a1 ∧ a1 < 8 ∧ 0 < (Mq.1 20 a1.toNat).toInt) ∧ (0 ≤ a2 ∧ a2 < (Mq.1 23 2).toInt) ∧ (-1 ≤ a4 ∧ a4 ≤ (Mq.1 23 7).toInt))) ∧ (¬ (0 ≤ a3 ∧ a3 ≤ 999)) ∧ (a = -2)) ∨ (¬ (¬ ((0 ≤ a1 ∧ a1 < 8 ∧ 0 < (Mq.1 20 a1.toNat).toInt) ∧ (0 ≤ a2 ∧ a2 < (Mq.1 23 2).toInt) ∧ (-1 ≤ a4 ∧ a4 ≤ (Mq.1 23 7).toInt))) ∧ ¬ (¬ (0 ≤ a3 ∧ a3 ≤ 999)) ∧ ((Mq.1 0 7).toInt = 0) ∧ (a = -3)) ∨ (¬ (¬ ((0 ≤ a1 ∧ a1 < 8 ∧ 0 < (Mq.1 20 a1.toNat).toInt) ∧ (0 ≤ a2 ∧ a2 < (Mq.1 23 2).toInt) ∧ (-1 ≤ a4 ∧ a4 ≤ (Mq.1 23 7).toInt))) ∧ ¬ (¬ (0 ≤ a3 ∧ a3 ≤ 999)) ∧ ¬ ((Mq.1 0 7).toInt = 0) ∧ (a = ((cap (p.2.1 a1.toNat 0 ((Mq.1 0 7).toInt).toNat) : Nat) : Int)))) ∧ Iv TX M' ∧ Fr W_X6_runs_R Mq M') := by
  refine ctr_of (L := [(0, .ref (ad 0)), (1, .int x1), (2, .int x2), (3, .int x3), (4, .int x4)]) (by decide) (Nat.le_of_ble_eq_true rfl) rfl ?_
  intro Γ X
  have X : gX Γ cX6_runs RX6 5 (some .int) 6 ad _ := X
  have frq0 : Fr W_X6_runs_R Mq Mq := Fr.rf
  have g1_12 := ig_1_12 Iq0
  have g23_2 := ig_23_2 Iq0
  have g23_7 := ig_23_7 Iq0
  have g40_5 := ig_40_5 Iq0
  have g0_7 := ig_0_7 Iq0
  refine g_aload_n X 0 rfl dX6_runs_0 ?_
  refine g_getr X f_X6_19 dX6_runs_1 ?_
  refine g_iload_n X 1 rfl dX6_runs_4 ?_
  refine g_callV X m_X6_156 (c_X2_isTold ad Mq x1 t1) rfl (by decide) (Nat.le_of_ble_eq_true rfl) rfl dX6_runs_5 ?_
  rintro _ _ ⟨rq1, aq2, rfl, tq3, hq4, rfl⟩
  show G Γ Mq 8 [(0, .ref (ad 0)), (1, .int x1), (2, .int x2), (3, .int x3), (4, .int x4)] [.int rq1]
  refine g_if_eq X tq3 (tgt := 34) dX6_runs_8 (by decide) (fun cq5 => ?_) (fun cq5 => ?_)
  · have pq6 : ¬ (0 ≤ a1 ∧ a1 < 8 ∧ 0 < (Mq.1 20 a1.toNat).toInt) := by first | omega | (rcases hq4 with ⟨z1, z2⟩ | ⟨z1, z2⟩ <;> first | exact z2 | (exfalso; omega))
    refine g_iconst X (-1) dX6_runs_34 (by decide) ?_
    exact g_iret X dX6_runs_35 ⟨_, _, rfl, (show ((-1) : Int32).toInt = (-1) by decide), (Or.inl ⟨by omega, rfl⟩), Iq0, frq0⟩
  · have pq7 : (0 ≤ a1 ∧ a1 < 8 ∧ 0 < (Mq.1 20 a1.toNat).toInt) := by first | omega | (rcases hq4 with ⟨z1, z2⟩ | ⟨z1, z2⟩ <;> first | exact z2 | (exfalso; omega))
    refine g_aload_n X 0 rfl dX6_runs_11 ?_
    refine g_getr X f_X6_26 dX6_runs_12 ?_
    refine g_iload_n X 2 rfl dX6_runs_15 ?_
    refine g_callV X m_X6_159 (c_X0_isSinger ad Mq x2 t2) rfl (by decide) (Nat.le_of_ble_eq_true rfl) rfl dX6_runs_16 ?_
    rintro _ _ ⟨rq8, aq9, rfl, tq10, hq11, rfl⟩
    show G Γ Mq 19 [(0, .ref (ad 0)), (1, .int x1), (2, .int x2), (3, .int x3), (4, .int x4)] [.int rq8]
    refine g_if_eq X tq10 (tgt := 34) dX6_runs_19 (by decide) (fun cq12 => ?_) (fun cq12 => ?_)
    · have pq13 : ¬ (0 ≤ a2 ∧ a2 < ((Mq.1 23 2)).toInt) := by first | omega | (rcases hq11 with ⟨z1, z2⟩ | ⟨z1, z2⟩ <;> first | exact z2 | (exfalso; omega))
      refine g_iconst X (-1) dX6_runs_34 (by decide) ?_
      exact g_iret X dX6_runs_35 ⟨_, _, rfl, (show ((-1) : Int32).toInt = (-1) by decide), (Or.inl ⟨by omega, rfl⟩), Iq0, frq0⟩
    · have pq14 : (0 ≤ a2 ∧ a2 < ((Mq.1 23 2)).toInt) := by first | omega | (rcases hq11 with ⟨z1, z2⟩ | ⟨z1, z2⟩ <;> first | exact z2 | (exfalso; omega))
      refine g_aload_n X 0 rfl dX6_runs_22 ?_
      refine g_getr X f_X6_26 dX6_runs_23 ?_
      refine g_iload X 4 rfl dX6_runs_26 ?_
      refine g_callV X m_X6_195 (c_X0_isKnown ad Mq x4 t4) rfl (by decide) (Nat.le_of_ble_eq_true rfl) rfl dX6_runs_28 ?_
      rintro _ _ ⟨rq15, aq16, rfl, tq17, hq18, rfl⟩
      show G Γ Mq 31 [(0, .ref (ad 0)), (1, .int x1), (2, .int x2), (3, .int x3), (4, .int x4)] [.int rq15]
      refine g_if_ne X tq17 (tgt := 36) dX6_runs_31 (by decide) (fun cq19 => ?_) (fun cq19 => ?_)
      · have pq20 : (-1 ≤ a4 ∧ a4 ≤ ((Mq.1 23 7)).toInt) := by first | omega | (rcases hq18 with ⟨z1, z2⟩ | ⟨z1, z2⟩ <;> first | exact z2 | (exfalso; omega))
        refine g_iload_n X 3 rfl dX6_runs_36 ?_
        refine g_callS X m_X6_162 (c_X6_isYear ad Mq x3 t3) rfl (by decide) (Nat.le_of_ble_eq_true rfl) rfl dX6_runs_37 ?_
        rintro _ _ ⟨rq21, aq22, rfl, tq23, hq24, rfl⟩
        show G Γ Mq 40 [(0, .ref (ad 0)), (1, .int x1), (2, .int x2), (3, .int x3), (4, .int x4)] [.int rq21]
        refine g_if_ne X tq23 (tgt := 46) dX6_runs_40 (by decide) (fun cq25 => ?_) (fun cq25 => ?_)
        · have pq26 : (0 ≤ a3 ∧ a3 ≤ 999) := by first | omega | (rcases hq24 with ⟨z1, z2⟩ | ⟨z1, z2⟩ <;> first | exact z2 | (exfalso; omega))
          refine g_aload_n X 0 rfl dX6_runs_46 ?_
          refine g_geti X f_X6_57 dX6_runs_47 (x := Mq.1 0 7) rfl ?_
          have bq27 := ig_0_7 Iq0
          refine g_if_ne X rfl (tgt := 56) dX6_runs_50 (by decide) (fun cq28 => ?_) (fun cq28 => ?_)
          · refine g_aload_n X 0 rfl dX6_runs_56 ?_
            refine g_getr X f_X6_42 dX6_runs_57 ?_
            refine g_aload_n X 0 rfl dX6_runs_60 ?_
            refine g_getr X f_X6_53 dX6_runs_61 ?_
            refine g_iconst X 0 dX6_runs_64 (by decide) ?_
            refine g_aload_n X 0 rfl dX6_runs_65 ?_
            refine g_geti X f_X6_57 dX6_runs_66 (x := Mq.1 0 7) rfl ?_
            have bq29 := ig_0_7 Iq0
            refine g_aload_n X 0 rfl dX6_runs_69 ?_
            refine g_getr X f_X6_26 dX6_runs_70 ?_
            refine g_iload_n X 2 rfl dX6_runs_73 ?_
            refine g_iload_n X 3 rfl dX6_runs_74 ?_
            refine g_iload X 4 rfl dX6_runs_75 ?_
            refine g_callV X m_X6_165 (c_X0_stockOf_E ad Mq x2 t2 x3 t3 x4 t4 Iq0 (by omega) hy) rfl (by decide) (Nat.le_of_ble_eq_true rfl) rfl dX6_runs_77 ?_
            rintro _ Mq34 ⟨rq30, aq31, rfl, tq32, hq33, Iq35, frq36⟩
            have frq37 : Fr W_X6_runs_R Mq Mq34 := frq0.trans frq36 rfl
            have trq38 : (Mq34.1 23 2).toInt = (Mq.1 23 2).toInt := congrArg Int32.toInt (frq36.at 23 2 rfl)
            have trq39 : (Mq34.1 23 7).toInt = (Mq.1 23 7).toInt := congrArg Int32.toInt (frq36.at 23 7 rfl)
            have hst := hq33
            have f1 := frq36
            show G Γ Mq34 80 [(0, .ref (ad 0)), (1, .int x1), (2, .int x2), (3, .int x3), (4, .int x4)] [.long rq30, .int (Mq.1 0 7), .int 0, .ref (ad 46), .ref (ad 37)]
            refine g_callV X m_X6_234 (c_X1_take_46_R ad Mq34 0 (show (0 : Int32).toInt = 0 by decide) (Mq.1 0 7) rfl rq30 tq32 Iq35 (by omega) (by omega) (fun j hj => by rw [f1.at 46 _ rfl, show (0 : Int).toNat + j = j from Nat.zero_add j]; exact hr j (by omega))) rfl (by decide) (Nat.le_of_ble_eq_true rfl) rfl dX6_runs_80 ?_
            rintro _ Mq45 ⟨rfl, hq43, hq44, Iq46, frq47⟩
            have frq48 : Fr W_X6_runs_R Mq Mq45 := frq37.trans frq47 rfl
            have trq49 : (Mq45.1 23 2).toInt = (Mq34.1 23 2).toInt := congrArg Int32.toInt (frq47.at 23 2 rfl)
            have trq50 : (Mq45.1 23 7).toInt = (Mq34.1 23 7).toInt := congrArg Int32.toInt (frq47.at 23 7 rfl)
            have htk := hq44
            have fT := frq48
            show G Γ Mq45 83 [(0, .ref (ad 0)), (1, .int x1), (2, .int x2), (3, .int x3), (4, .int x4)] []
            refine g_aload_n X 0 rfl dX6_runs_83 ?_
            refine g_getr X f_X6_42 dX6_runs_84 ?_
            refine g_iload_n X 1 rfl dX6_runs_87 ?_
            refine g_callV X m_X6_238 (c_X1_ways_R (p := p) (f := f) (N := N) ad Mq45 x1 t1 Iq46 (by omega) (RTX_fr hX fT (by decide)) (ROR_fr hO fT (by decide)) (fun s j hs hj => by rw [htk.1] at hj; have z := hpw (by omega) _ hst s j hs hj; refine ⟨?_, by rw [z]; exact wtB_le _ _⟩; rw [htk.2.2 s j hs (Or.inl hj)]; show ((wtB _ _ : Nat) : Int) = _; rw [f1.atL 11 s rfl, f1.at 46 _ rfl, show (0 : Int).toNat + j = j from Nat.zero_add j, z]) (by rw [fT.at 14 12 rfl]; exact hh) (fun x hx h => hfix x hx (by rw [← fT.at 20 x rfl]; exact h)) (by rw [fT.at 14 11 rfl, orX_fr fT (by decide)]; exact hk a1.toNat (by omega) (by omega))) rfl (by decide) (Nat.le_of_ble_eq_true rfl) rfl dX6_runs_88 ?_
            rintro _ Mq55 ⟨rq51, aq52, rfl, tq53, hq54, Iq56, frq57⟩
            have frq58 : Fr W_X6_runs_R Mq Mq55 := frq48.trans frq57 rfl
            have trq59 : (Mq55.1 23 2).toInt = (Mq45.1 23 2).toInt := congrArg Int32.toInt (frq57.at 23 2 rfl)
            have trq60 : (Mq55.1 23 7).toInt = (Mq45.1 23 7).toInt := congrArg Int32.toInt (frq57.at 23 7 rfl)
            have hrn := hq54
            rw [htk.1] at hrn
            show G Γ Mq55 91 [(0, .ref (ad 0)), (1, .int x1), (2, .int x2), (3, .int x3), (4, .int x4)] [.int rq51]
            exact g_iret X dX6_runs_91 ⟨_, _, rfl, tq53, (Or.inr (Or.inr (Or.inr ⟨by omega, by omega, by omega, hrn⟩))), Iq56, frq58⟩
          · refine g_bipush X (-3) dX6_runs_53 (by decide) ?_
            exact g_iret X dX6_runs_55 ⟨_, _, rfl, (show ((-3) : Int32).toInt = (-3) by decide), (Or.inr (Or.inr (Or.inl ⟨by omega, by omega, by omega, rfl⟩))), Iq0, frq0⟩
        · have pq61 : ¬ (0 ≤ a3 ∧ a3 ≤ 999) := by first | omega | (rcases hq24 with ⟨z1, z2⟩ | ⟨z1, z2⟩ <;> first | exact z2 | (exfalso; omega))
          refine g_bipush X (-2) dX6_runs_43 (by decide) ?_
          exact g_iret X dX6_runs_45 ⟨_, _, rfl, (show ((-2) : Int32).toInt = (-2) by decide), (Or.inr (Or.inl ⟨by omega, by omega, rfl⟩)), Iq0, frq0⟩
      · have pq62 : ¬ (-1 ≤ a4 ∧ a4 ≤ ((Mq.1 23 7)).toInt) := by first | omega | (rcases hq18 with ⟨z1, z2⟩ | ⟨z1, z2⟩ <;> first | exact z2 | (exfalso; omega))
        refine g_iconst X (-1) dX6_runs_34 (by decide) ?_
        exact g_iret X dX6_runs_35 ⟨_, _, rfl, (show ((-1) : Int32).toInt = (-1) by decide), (Or.inl ⟨by omega, rfl⟩), Iq0, frq0⟩
end
