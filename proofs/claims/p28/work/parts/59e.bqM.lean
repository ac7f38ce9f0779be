section
set_option maxHeartbeats 4000000 in
set_option maxRecDepth 4000 in
theorem c_X7_loan_E (ad : Nat → Nat) (Mq : Mem) (x1 : Int32) {a1 : Int} (t1 : x1.toInt = a1) (x2 : Int32) {a2 : Int} (t2 : x2.toInt = a2) (x3 : Int32) {a3 : Int} (t3 : x3.toInt = a3) (x4 : Int32) {a4 : Int} (t4 : x4.toInt = a4) (Iq0 : Iv TM Mq) : Ctr ad yX7_loan cX7_loan 12 (some .int) 3 [.ref (ad 47), .int x1, .int x2, .int x3, .int x4] Mq (fun v M' => ∃ (r : Int32) (a : Int), v = some (.int r) ∧ r.toInt = a ∧ (((¬ ((0 ≤ a1 ∧ a1 < (Mq.1 47 52).toInt) ∧ (0 ≤ a2 ∧ a2 < (Mq.1 47 52).toInt) ∧ (-1 ≤ a4 ∧ a4 ≤ (Mq.1 47 53).toInt))) ∧ (a = -1)) ∨ (¬ (¬ ((0 ≤ a1 ∧ a1 < (Mq.1 47 52).toInt) ∧ (0 ≤ a2 ∧ a2 < (Mq.1 47 52).toInt) ∧ (-1 ≤ a4 ∧ a4 ≤ (Mq.1 47 53).toInt))) ∧ (¬ (0 ≤ a3 ∧ a3 ≤ 999) ∨ a1 = a2) ∧ (a = -2)) ∨ (¬ (¬ ((0 ≤ a1 ∧ a1 < (Mq.1 47 52).toInt) ∧ (0 ≤ a2 ∧ a2 < (Mq.1 47 52).toInt) ∧ (-1 ≤ a4 ∧ a4 ≤ (Mq.1 47 53).toInt))) ∧ ¬ (¬ (0 ≤ a3 ∧ a3 ≤ 999) ∨ a1 = a2) ∧ (a = (ctb (loM Mq a1 a2 a3 (upk a4 (Mq.1 47 53).toInt).toNat (mstM Mq a1 a3 (upk a4 (Mq.1 47 53).toInt).toNat ((Mq.1 47 52).toInt).toNat) (mstM Mq a2 a3 (upk a4 (Mq.1 47 53).toInt).toNat ((Mq.1 47 52).toInt).toNat)) ((Mq.1 47 12).toInt).toNat : Nat)))) ∧ Mq = M') := by
  refine ctr_of (L := [(0, .ref (ad 47)), (1, .int x1), (2, .int x2), (3, .int x3), (4, .int x4)]) (by decide) (Nat.le_of_ble_eq_true rfl) rfl ?_
  intro Γ X
  have X : gX Γ cX7_loan RX7 12 (some .int) 3 ad _ := X
  have g11 := ig_47_11 Iq0
  have g12 := ig_47_12 Iq0
  have g14 := ig_47_14 Iq0
  have g32 := ig_47_32 Iq0
  have g43 := ig_47_43 Iq0
  have g44 := ig_47_44 Iq0
  have g52 := ig_47_52 Iq0
  have g53 := ig_47_53 Iq0
  have g59 := ig_47_59 Iq0
  refine g_aload_n X 0 rfl dX7_loan_0 ?_
  refine g_iload_n X 1 rfl dX7_loan_1 ?_
  refine g_callV X m_X7_260 (c_X7_isSinger ad Mq x1 t1) rfl (by decide) (Nat.le_of_ble_eq_true rfl) rfl dX7_loan_2 ?_
  rintro _ _ ⟨rq1, aq2, rfl, tq3, hq4, rfl⟩
  show G Γ Mq 5 [(0, .ref (ad 47)), (1, .int x1), (2, .int x2), (3, .int x3), (4, .int x4)] [.int rq1]
  refine g_if_eq X tq3 (tgt := 25) dX7_loan_5 (by decide) (fun cq5 => ?_) (fun cq5 => ?_)
  · have pq6 : ¬ (0 ≤ a1 ∧ a1 < ((Mq.1 47 52)).toInt) := by first | omega | (rcases hq4 with ⟨z1, z2⟩ | ⟨z1, z2⟩ <;> first | exact z2 | (exfalso; omega))
    refine g_iconst X (-1) dX7_loan_25 (by decide) ?_
    exact g_iret X dX7_loan_26 ⟨_, _, rfl, (show ((-1) : Int32).toInt = (-1) by decide), (by first | exact Or.inl ⟨by omega, rfl⟩ | exact Or.inr (Or.inl ⟨by omega, by omega, rfl⟩) | exact Or.inr (Or.inr ⟨by omega, by omega, (by have e : b9_76 = (Mq.1 47 12).toInt := (by omega); rw [e] at i2; rw [i2, hmA, hmB, hup])⟩)), rfl⟩
  · have pq7 : (0 ≤ a1 ∧ a1 < ((Mq.1 47 52)).toInt) := by first | omega | (rcases hq4 with ⟨z1, z2⟩ | ⟨z1, z2⟩ <;> first | exact z2 | (exfalso; omega))
    refine g_aload_n X 0 rfl dX7_loan_8 ?_
    refine g_iload_n X 2 rfl dX7_loan_9 ?_
    refine g_callV X m_X7_260 (c_X7_isSinger ad Mq x2 t2) rfl (by decide) (Nat.le_of_ble_eq_true rfl) rfl dX7_loan_10 ?_
    rintro _ _ ⟨rq8, aq9, rfl, tq10, hq11, rfl⟩
    show G Γ Mq 13 [(0, .ref (ad 47)), (1, .int x1), (2, .int x2), (3, .int x3), (4, .int x4)] [.int rq8]
    refine g_if_eq X tq10 (tgt := 25) dX7_loan_13 (by decide) (fun cq12 => ?_) (fun cq12 => ?_)
    · have pq13 : ¬ (0 ≤ a2 ∧ a2 < ((Mq.1 47 52)).toInt) := by first | omega | (rcases hq11 with ⟨z1, z2⟩ | ⟨z1, z2⟩ <;> first | exact z2 | (exfalso; omega))
      refine g_iconst X (-1) dX7_loan_25 (by decide) ?_
      exact g_iret X dX7_loan_26 ⟨_, _, rfl, (show ((-1) : Int32).toInt = (-1) by decide), (by first | exact Or.inl ⟨by omega, rfl⟩ | exact Or.inr (Or.inl ⟨by omega, by omega, rfl⟩) | exact Or.inr (Or.inr ⟨by omega, by omega, (by have e : b9_76 = (Mq.1 47 12).toInt := (by omega); rw [e] at i2; rw [i2, hmA, hmB, hup])⟩)), rfl⟩
    · have pq14 : (0 ≤ a2 ∧ a2 < ((Mq.1 47 52)).toInt) := by first | omega | (rcases hq11 with ⟨z1, z2⟩ | ⟨z1, z2⟩ <;> first | exact z2 | (exfalso; omega))
      refine g_aload_n X 0 rfl dX7_loan_16 ?_
      refine g_iload X 4 rfl dX7_loan_17 ?_
      refine g_callV X m_X7_326 (c_X7_isKnown ad Mq x4 t4) rfl (by decide) (Nat.le_of_ble_eq_true rfl) rfl dX7_loan_19 ?_
      rintro _ _ ⟨rq15, aq16, rfl, tq17, hq18, rfl⟩
      show G Γ Mq 22 [(0, .ref (ad 47)), (1, .int x1), (2, .int x2), (3, .int x3), (4, .int x4)] [.int rq15]
      refine g_if_ne X tq17 (tgt := 27) dX7_loan_22 (by decide) (fun cq19 => ?_) (fun cq19 => ?_)
      · have pq20 : (-1 ≤ a4 ∧ a4 ≤ ((Mq.1 47 53)).toInt) := by first | omega | (rcases hq18 with ⟨z1, z2⟩ | ⟨z1, z2⟩ <;> first | exact z2 | (exfalso; omega))
        refine g_iload_n X 3 rfl dX7_loan_27 ?_
        refine g_callS X m_X7_263 (c_X7_isYear ad Mq x3 t3) rfl (by decide) (Nat.le_of_ble_eq_true rfl) rfl dX7_loan_28 ?_
        rintro _ _ ⟨rq21, aq22, rfl, tq23, hq24, rfl⟩
        show G Γ Mq 31 [(0, .ref (ad 47)), (1, .int x1), (2, .int x2), (3, .int x3), (4, .int x4)] [.int rq21]
        refine g_if_eq X tq23 (tgt := 39) dX7_loan_31 (by decide) (fun cq25 => ?_) (fun cq25 => ?_)
        · have pq26 : ¬ (0 ≤ a3 ∧ a3 ≤ 999) := by first | omega | (rcases hq24 with ⟨z1, z2⟩ | ⟨z1, z2⟩ <;> first | exact z2 | (exfalso; omega))
          refine g_bipush X (-2) dX7_loan_39 (by decide) ?_
          exact g_iret X dX7_loan_41 ⟨_, _, rfl, (show ((-2) : Int32).toInt = (-2) by decide), (by first | exact Or.inl ⟨by omega, rfl⟩ | exact Or.inr (Or.inl ⟨by omega, by omega, rfl⟩) | exact Or.inr (Or.inr ⟨by omega, by omega, (by have e : b9_76 = (Mq.1 47 12).toInt := (by omega); rw [e] at i2; rw [i2, hmA, hmB, hup])⟩)), rfl⟩
        · have pq27 : (0 ≤ a3 ∧ a3 ≤ 999) := by first | omega | (rcases hq24 with ⟨z1, z2⟩ | ⟨z1, z2⟩ <;> first | exact z2 | (exfalso; omega))
          refine g_iload_n X 1 rfl dX7_loan_34 ?_
          refine g_iload_n X 2 rfl dX7_loan_35 ?_
          refine g_icmp_ne X t1 t2 (tgt := 42) dX7_loan_36 (by decide) (fun cq28 => ?_) (fun cq28 => ?_)
          · refine g_aload_n X 0 rfl dX7_loan_42 ?_
            refine g_iload X 4 rfl dX7_loan_43 ?_
            refine g_callV X m_X7_329 (c_X7_upTo ad Mq x4 t4) rfl (by decide) (Nat.le_of_ble_eq_true rfl) rfl dX7_loan_45 ?_
            rintro _ _ ⟨rq29, aq30, rfl, tq31, hq32, rfl⟩
            have hup := upk_of hq32
            show G Γ Mq 48 [(0, .ref (ad 47)), (1, .int x1), (2, .int x2), (3, .int x3), (4, .int x4)] [.int rq29]
            refine g_istore X [(5, .int rq29), (0, .ref (ad 47)), (1, .int x1), (2, .int x2), (3, .int x3), (4, .int x4)] dX7_loan_48 (by decide) rfl ?_
            refine g_aload_n X 1 rfl dX7_loan_50 ?_
            refine g_iload_n X 2 rfl dX7_loan_51 ?_
            refine g_iload_n X 4 rfl dX7_loan_52 ?_
            refine g_iload X 0 rfl dX7_loan_53 ?_
            refine g_callV X m_X7_336 (c_X7_masterOf_E ad Mq x1 t1 x3 t3 rq29 tq31 Iq0 (by omega) (by omega)) rfl (by decide) (Nat.le_of_ble_eq_true rfl) rfl dX7_loan_55 ?_
            rintro _ _ ⟨rq33, aq34, rfl, tq35, hq36, rfl⟩
            have hmA := hq36.1
            have hrA := hq36.2
            show G Γ Mq 58 [(5, .int rq29), (0, .ref (ad 47)), (1, .int x1), (2, .int x2), (3, .int x3), (4, .int x4)] [.int rq33]
            refine g_istore X [(6, .int rq33), (5, .int rq29), (0, .ref (ad 47)), (1, .int x1), (2, .int x2), (3, .int x3), (4, .int x4)] dX7_loan_58 (by decide) rfl ?_
            refine g_aload_n X 2 rfl dX7_loan_60 ?_
            refine g_iload_n X 4 rfl dX7_loan_61 ?_
            refine g_iload_n X 5 rfl dX7_loan_62 ?_
            refine g_iload X 1 rfl dX7_loan_63 ?_
            refine g_callV X m_X7_336 (c_X7_masterOf_E ad Mq x2 t2 x3 t3 rq29 tq31 Iq0 (by omega) (by omega)) rfl (by decide) (Nat.le_of_ble_eq_true rfl) rfl dX7_loan_65 ?_
            rintro _ _ ⟨rq37, aq38, rfl, tq39, hq40, rfl⟩
            have hmB := hq40.1
            have hrB := hq40.2
            show G Γ Mq 68 [(6, .int rq33), (5, .int rq29), (0, .ref (ad 47)), (1, .int x1), (2, .int x2), (3, .int x3), (4, .int x4)] [.int rq37]
            refine g_istore X [(7, .int rq37), (6, .int rq33), (5, .int rq29), (0, .ref (ad 47)), (1, .int x1), (2, .int x2), (3, .int x3), (4, .int x4)] dX7_loan_68 (by decide) rfl ?_
            refine g_iconst X 0 dX7_loan_70 (by decide) ?_
            refine g_istore X [(8, .int 0), (7, .int rq37), (6, .int rq33), (5, .int rq29), (0, .ref (ad 47)), (1, .int x1), (2, .int x2), (3, .int x3), (4, .int x4)] dX7_loan_71 (by decide) rfl ?_
            refine g_iconst X 0 dX7_loan_73 (by decide) ?_
            refine g_istore X [(9, .int 0), (8, .int 0), (7, .int rq37), (6, .int rq33), (5, .int rq29), (0, .ref (ad 47)), (1, .int x1), (2, .int x2), (3, .int x3), (4, .int x4)] dX7_loan_74 (by decide) rfl ?_
            have lp76 : ∀ n : Nat, ∀ (y9_76 : Int32) (b9_76 : Int), y9_76.toInt = b9_76 → ∀ (y8_76 : Int32) (b8_76 : Int), y8_76.toInt = b8_76 → (0 ≤ b9_76 ∧ b9_76 ≤ (Mq.1 47 12).toInt) → (b8_76 = (ctb (loM Mq a1 a2 a3 (aq30).toNat aq34 aq38) (b9_76).toNat : Nat)) → ((Mq.1 47 12).toInt - b9_76).toNat < n → G Γ Mq 76 [(9, .int y9_76), (8, .int y8_76), (7, .int rq37), (6, .int rq33), (5, .int rq29), (0, .ref (ad 47)), (1, .int x1), (2, .int x2), (3, .int x3), (4, .int x4)] [] := by
              intro n
              induction n with
              | zero => intro y9_76 b9_76 e9_76 y8_76 b8_76 e8_76 i1 i2 hm; exact absurd hm (Nat.not_lt_zero _)
              | succ n ih76 =>
                intro y9_76 b9_76 e9_76 y8_76 b8_76 e8_76 i1 i2 hm76
                have hcl := ctb_le (loM Mq a1 a2 a3 (aq30).toNat aq34 aq38) (b9_76).toNat
                refine g_iload X 0 rfl dX7_loan_76 ?_
                refine g_aload_n X 5 rfl dX7_loan_78 ?_
                refine g_geti X f_X7_147 dX7_loan_79 (x := Mq.1 47 12) rfl ?_
                have bq41 := ig_47_12 Iq0
                refine g_icmp_ge X e9_76 rfl (tgt := 210) dX7_loan_82 (by decide) (fun cq42 => ?_) (fun cq42 => ?_)
                · refine g_iload X 1 rfl dX7_loan_210 ?_
                  exact g_iret X dX7_loan_212 ⟨_, _, rfl, e8_76, (by first | exact Or.inl ⟨by omega, rfl⟩ | exact Or.inr (Or.inl ⟨by omega, by omega, rfl⟩) | exact Or.inr (Or.inr ⟨by omega, by omega, (by have e : b9_76 = (Mq.1 47 12).toInt := (by omega); rw [e] at i2; rw [i2, hmA, hmB, hup])⟩)), rfl⟩
                · refine g_aload_n X 5 rfl dX7_loan_85 ?_
                  refine g_getr X f_X7_37 dX7_loan_86 ?_
                  refine g_iload X 0 rfl dX7_loan_89 ?_
                  refine g_iald X la_57 e9_76 dX7_loan_91 (by omega) (x := Mq.1 57 b9_76.toNat) rfl ?_
                  refine g_iconst X 1 dX7_loan_92 (by decide) ?_
                  refine g_icmp_ne X rfl (show (1 : Int32).toInt = 1 by decide) (tgt := 126) dX7_loan_93 (by decide) (fun cq43 => ?_) (fun cq43 => ?_)
                  · refine g_iconst X 0 dX7_loan_126 (by decide) ?_
                    refine g_istore X [(10, .int 0), (9, .int y9_76), (8, .int y8_76), (7, .int rq37), (6, .int rq33), (5, .int rq29), (0, .ref (ad 47)), (1, .int x1), (2, .int x2), (3, .int x3), (4, .int x4)] dX7_loan_127 (by decide) rfl ?_
                    have hbo : ((0 : Int) = 1 ∧ (boM Mq a1 a2 a3 (aq30).toNat (b9_76).toNat = true)) ∨ ((0 : Int) = 0 ∧ ¬ (boM Mq a1 a2 a3 (aq30).toNat (b9_76).toNat = true)) := by first | exact Or.inr ⟨rfl, bo_n1 (by omega)⟩ | exact Or.inr ⟨rfl, bo_n2 i1.1 (by assumption)⟩ | exact Or.inr ⟨rfl, bo_n3 i1.1 (by assumption)⟩ | exact Or.inl ⟨rfl, bo_y i1.1 (by omega) (by assumption) (by assumption)⟩
                    refine g_iload X 4 rfl dX7_loan_129 ?_
                    refine g_if_lt X tq35 (tgt := 153) dX7_loan_131 (by decide) (fun cq44 => ?_) (fun cq44 => ?_)
                    · refine g_iload X 3 rfl dX7_loan_153 ?_
                      refine g_if_lt X tq39 (tgt := 181) dX7_loan_155 (by decide) (fun cq45 => ?_) (fun cq45 => ?_)
                      · refine g_iconst X 0 dX7_loan_181 (by decide) ?_
                        refine g_istore X [(11, .int 0), (10, .int 0), (9, .int y9_76), (8, .int y8_76), (7, .int rq37), (6, .int rq33), (5, .int rq29), (0, .ref (ad 47)), (1, .int x1), (2, .int x2), (3, .int x3), (4, .int x4)] dX7_loan_182 (by decide) rfl ?_
                        have hha : ((0 : Int) = 1 ∧ (haM Mq a1 a2 a3 (aq30).toNat aq34 aq38 (b9_76).toNat = true)) ∨ ((0 : Int) = 0 ∧ ¬ (haM Mq a1 a2 a3 (aq30).toNat aq34 aq38 (b9_76).toNat = true)) := by first | exact Or.inl ⟨rfl, ha_y1 i1.1 (by omega) (bb1 hbo (by omega)) (by assumption)⟩ | exact Or.inl ⟨rfl, ha_y2 i1.1 (by omega) (bb1 hbo (by omega)) (by assumption)⟩ | exact Or.inr ⟨rfl, ha_n i1.1 (by first | exact Or.inl (by omega) | exact Or.inr (Or.inl (bb0 hbo (by omega))) | exact Or.inr (Or.inr (by assumption))) (by first | exact Or.inl (by omega) | exact Or.inr (Or.inl (bb0 hbo (by omega))) | exact Or.inr (Or.inr (by assumption)))⟩
                        refine g_iload X 3 rfl dX7_loan_184 ?_
                        refine g_iload X 1 rfl dX7_loan_186 ?_
                        refine g_if_eq X (show (0 : Int32).toInt = 0 by decide) (tgt := 200) dX7_loan_188 (by decide) (fun cq46 => ?_) (fun cq46 => ?_)
                        · refine g_iconst X 0 dX7_loan_200 (by decide) ?_
                          refine g_iadd X dX7_loan_201 (fun zq47 eq48 => ?_)
                          have tq49 : zq47.toInt = b8_76 + 0 := add_nw eq48 e8_76 (show (0 : Int32).toInt = 0 by decide) (by omega)
                          refine g_istore X [(8, .int zq47), (11, .int 0), (10, .int 0), (9, .int y9_76), (7, .int rq37), (6, .int rq33), (5, .int rq29), (0, .ref (ad 47)), (1, .int x1), (2, .int x2), (3, .int x3), (4, .int x4)] dX7_loan_202 (by decide) rfl ?_
                          refine g_iinc X 3 (fun v => [(9, .int v), (8, .int zq47), (11, .int 0), (10, .int 0), (7, .int rq37), (6, .int rq33), (5, .int rq29), (0, .ref (ad 47)), (1, .int x1), (2, .int x2), (3, .int x3), (4, .int x4)]) dX7_loan_204 rfl (by decide) (fun _ => rfl) (fun zq50 eq51 => ?_)
                          have tq52 : zq50.toInt = b9_76 + 1 := add_nw eq51 e9_76 (show (Int32.ofInt 1).toInt = 1 by decide) (by omega)
                          refine g_goto X (tgt := 76) dX7_loan_207 (by decide) ?_
                          refine g_sub [0, 1, 4, 5, 6, 7, 8, 9, 10, 11] rfl ?_
                          exact ih76 zq50 _ tq52 zq47 _ tq49 (by omega) (by first | exact ctb_y i2 i1.1 (lo_y (bb1 hbo (by omega)) (bb0 hha (by omega))) (by omega) | exact ctb_n i2 i1.1 (lo_n1 (bb0 hbo (by omega))) (by omega) | exact ctb_n i2 i1.1 (lo_n2 (bb1 hha (by omega))) (by omega)) (by omega)
                        · exfalso; omega
                      · refine g_iload X 0 rfl dX7_loan_158 ?_
                        refine g_if_eq X (show (0 : Int32).toInt = 0 by decide) (tgt := 181) dX7_loan_160 (by decide) (fun cq53 => ?_) (fun cq53 => ?_)
                        · refine g_iconst X 0 dX7_loan_181 (by decide) ?_
                          refine g_istore X [(11, .int 0), (10, .int 0), (9, .int y9_76), (8, .int y8_76), (7, .int rq37), (6, .int rq33), (5, .int rq29), (0, .ref (ad 47)), (1, .int x1), (2, .int x2), (3, .int x3), (4, .int x4)] dX7_loan_182 (by decide) rfl ?_
                          have hha : ((0 : Int) = 1 ∧ (haM Mq a1 a2 a3 (aq30).toNat aq34 aq38 (b9_76).toNat = true)) ∨ ((0 : Int) = 0 ∧ ¬ (haM Mq a1 a2 a3 (aq30).toNat aq34 aq38 (b9_76).toNat = true)) := by first | exact Or.inl ⟨rfl, ha_y1 i1.1 (by omega) (bb1 hbo (by omega)) (by assumption)⟩ | exact Or.inl ⟨rfl, ha_y2 i1.1 (by omega) (bb1 hbo (by omega)) (by assumption)⟩ | exact Or.inr ⟨rfl, ha_n i1.1 (by first | exact Or.inl (by omega) | exact Or.inr (Or.inl (bb0 hbo (by omega))) | exact Or.inr (Or.inr (by assumption))) (by first | exact Or.inl (by omega) | exact Or.inr (Or.inl (bb0 hbo (by omega))) | exact Or.inr (Or.inr (by assumption)))⟩
                          refine g_iload X 3 rfl dX7_loan_184 ?_
                          refine g_iload X 1 rfl dX7_loan_186 ?_
                          refine g_if_eq X (show (0 : Int32).toInt = 0 by decide) (tgt := 200) dX7_loan_188 (by decide) (fun cq54 => ?_) (fun cq54 => ?_)
                          · refine g_iconst X 0 dX7_loan_200 (by decide) ?_
                            refine g_iadd X dX7_loan_201 (fun zq55 eq56 => ?_)
                            have tq57 : zq55.toInt = b8_76 + 0 := add_nw eq56 e8_76 (show (0 : Int32).toInt = 0 by decide) (by omega)
                            refine g_istore X [(8, .int zq55), (11, .int 0), (10, .int 0), (9, .int y9_76), (7, .int rq37), (6, .int rq33), (5, .int rq29), (0, .ref (ad 47)), (1, .int x1), (2, .int x2), (3, .int x3), (4, .int x4)] dX7_loan_202 (by decide) rfl ?_
                            refine g_iinc X 3 (fun v => [(9, .int v), (8, .int zq55), (11, .int 0), (10, .int 0), (7, .int rq37), (6, .int rq33), (5, .int rq29), (0, .ref (ad 47)), (1, .int x1), (2, .int x2), (3, .int x3), (4, .int x4)]) dX7_loan_204 rfl (by decide) (fun _ => rfl) (fun zq58 eq59 => ?_)
                            have tq60 : zq58.toInt = b9_76 + 1 := add_nw eq59 e9_76 (show (Int32.ofInt 1).toInt = 1 by decide) (by omega)
                            refine g_goto X (tgt := 76) dX7_loan_207 (by decide) ?_
                            refine g_sub [0, 1, 4, 5, 6, 7, 8, 9, 10, 11] rfl ?_
                            exact ih76 zq58 _ tq60 zq55 _ tq57 (by omega) (by first | exact ctb_y i2 i1.1 (lo_y (bb1 hbo (by omega)) (bb0 hha (by omega))) (by omega) | exact ctb_n i2 i1.1 (lo_n1 (bb0 hbo (by omega))) (by omega) | exact ctb_n i2 i1.1 (lo_n2 (bb1 hha (by omega))) (by omega)) (by omega)
                          · exfalso; omega
                        · exfalso; omega
                    · refine g_iload X 0 rfl dX7_loan_134 ?_
                      refine g_if_eq X (show (0 : Int32).toInt = 0 by decide) (tgt := 153) dX7_loan_136 (by decide) (fun cq61 => ?_) (fun cq61 => ?_)
                      · refine g_iload X 3 rfl dX7_loan_153 ?_
                        refine g_if_lt X tq39 (tgt := 181) dX7_loan_155 (by decide) (fun cq62 => ?_) (fun cq62 => ?_)
                        · refine g_iconst X 0 dX7_loan_181 (by decide) ?_
                          refine g_istore X [(11, .int 0), (10, .int 0), (9, .int y9_76), (8, .int y8_76), (7, .int rq37), (6, .int rq33), (5, .int rq29), (0, .ref (ad 47)), (1, .int x1), (2, .int x2), (3, .int x3), (4, .int x4)] dX7_loan_182 (by decide) rfl ?_
                          have hha : ((0 : Int) = 1 ∧ (haM Mq a1 a2 a3 (aq30).toNat aq34 aq38 (b9_76).toNat = true)) ∨ ((0 : Int) = 0 ∧ ¬ (haM Mq a1 a2 a3 (aq30).toNat aq34 aq38 (b9_76).toNat = true)) := by first | exact Or.inl ⟨rfl, ha_y1 i1.1 (by omega) (bb1 hbo (by omega)) (by assumption)⟩ | exact Or.inl ⟨rfl, ha_y2 i1.1 (by omega) (bb1 hbo (by omega)) (by assumption)⟩ | exact Or.inr ⟨rfl, ha_n i1.1 (by first | exact Or.inl (by omega) | exact Or.inr (Or.inl (bb0 hbo (by omega))) | exact Or.inr (Or.inr (by assumption))) (by first | exact Or.inl (by omega) | exact Or.inr (Or.inl (bb0 hbo (by omega))) | exact Or.inr (Or.inr (by assumption)))⟩
                          refine g_iload X 3 rfl dX7_loan_184 ?_
                          refine g_iload X 1 rfl dX7_loan_186 ?_
                          refine g_if_eq X (show (0 : Int32).toInt = 0 by decide) (tgt := 200) dX7_loan_188 (by decide) (fun cq63 => ?_) (fun cq63 => ?_)
                          · refine g_iconst X 0 dX7_loan_200 (by decide) ?_
                            refine g_iadd X dX7_loan_201 (fun zq64 eq65 => ?_)
                            have tq66 : zq64.toInt = b8_76 + 0 := add_nw eq65 e8_76 (show (0 : Int32).toInt = 0 by decide) (by omega)
                            refine g_istore X [(8, .int zq64), (11, .int 0), (10, .int 0), (9, .int y9_76), (7, .int rq37), (6, .int rq33), (5, .int rq29), (0, .ref (ad 47)), (1, .int x1), (2, .int x2), (3, .int x3), (4, .int x4)] dX7_loan_202 (by decide) rfl ?_
                            refine g_iinc X 3 (fun v => [(9, .int v), (8, .int zq64), (11, .int 0), (10, .int 0), (7, .int rq37), (6, .int rq33), (5, .int rq29), (0, .ref (ad 47)), (1, .int x1), (2, .int x2), (3, .int x3), (4, .int x4)]) dX7_loan_204 rfl (by decide) (fun _ => rfl) (fun zq67 eq68 => ?_)
                            have tq69 : zq67.toInt = b9_76 + 1 := add_nw eq68 e9_76 (show (Int32.ofInt 1).toInt = 1 by decide) (by omega)
                            refine g_goto X (tgt := 76) dX7_loan_207 (by decide) ?_
                            refine g_sub [0, 1, 4, 5, 6, 7, 8, 9, 10, 11] rfl ?_
                            exact ih76 zq67 _ tq69 zq64 _ tq66 (by omega) (by first | exact ctb_y i2 i1.1 (lo_y (bb1 hbo (by omega)) (bb0 hha (by omega))) (by omega) | exact ctb_n i2 i1.1 (lo_n1 (bb0 hbo (by omega))) (by omega) | exact ctb_n i2 i1.1 (lo_n2 (bb1 hha (by omega))) (by omega)) (by omega)
                          · exfalso; omega
                        · refine g_iload X 0 rfl dX7_loan_158 ?_
                          refine g_if_eq X (show (0 : Int32).toInt = 0 by decide) (tgt := 181) dX7_loan_160 (by decide) (fun cq70 => ?_) (fun cq70 => ?_)
                          · refine g_iconst X 0 dX7_loan_181 (by decide) ?_
                            refine g_istore X [(11, .int 0), (10, .int 0), (9, .int y9_76), (8, .int y8_76), (7, .int rq37), (6, .int rq33), (5, .int rq29), (0, .ref (ad 47)), (1, .int x1), (2, .int x2), (3, .int x3), (4, .int x4)] dX7_loan_182 (by decide) rfl ?_
                            have hha : ((0 : Int) = 1 ∧ (haM Mq a1 a2 a3 (aq30).toNat aq34 aq38 (b9_76).toNat = true)) ∨ ((0 : Int) = 0 ∧ ¬ (haM Mq a1 a2 a3 (aq30).toNat aq34 aq38 (b9_76).toNat = true)) := by first | exact Or.inl ⟨rfl, ha_y1 i1.1 (by omega) (bb1 hbo (by omega)) (by assumption)⟩ | exact Or.inl ⟨rfl, ha_y2 i1.1 (by omega) (bb1 hbo (by omega)) (by assumption)⟩ | exact Or.inr ⟨rfl, ha_n i1.1 (by first | exact Or.inl (by omega) | exact Or.inr (Or.inl (bb0 hbo (by omega))) | exact Or.inr (Or.inr (by assumption))) (by first | exact Or.inl (by omega) | exact Or.inr (Or.inl (bb0 hbo (by omega))) | exact Or.inr (Or.inr (by assumption)))⟩
                            refine g_iload X 3 rfl dX7_loan_184 ?_
                            refine g_iload X 1 rfl dX7_loan_186 ?_
                            refine g_if_eq X (show (0 : Int32).toInt = 0 by decide) (tgt := 200) dX7_loan_188 (by decide) (fun cq71 => ?_) (fun cq71 => ?_)
                            · refine g_iconst X 0 dX7_loan_200 (by decide) ?_
                              refine g_iadd X dX7_loan_201 (fun zq72 eq73 => ?_)
                              have tq74 : zq72.toInt = b8_76 + 0 := add_nw eq73 e8_76 (show (0 : Int32).toInt = 0 by decide) (by omega)
                              refine g_istore X [(8, .int zq72), (11, .int 0), (10, .int 0), (9, .int y9_76), (7, .int rq37), (6, .int rq33), (5, .int rq29), (0, .ref (ad 47)), (1, .int x1), (2, .int x2), (3, .int x3), (4, .int x4)] dX7_loan_202 (by decide) rfl ?_
                              refine g_iinc X 3 (fun v => [(9, .int v), (8, .int zq72), (11, .int 0), (10, .int 0), (7, .int rq37), (6, .int rq33), (5, .int rq29), (0, .ref (ad 47)), (1, .int x1), (2, .int x2), (3, .int x3), (4, .int x4)]) dX7_loan_204 rfl (by decide) (fun _ => rfl) (fun zq75 eq76 => ?_)
                              have tq77 : zq75.toInt = b9_76 + 1 := add_nw eq76 e9_76 (show (Int32.ofInt 1).toInt = 1 by decide) (by omega)
                              refine g_goto X (tgt := 76) dX7_loan_207 (by decide) ?_
                              refine g_sub [0, 1, 4, 5, 6, 7, 8, 9, 10, 11] rfl ?_
                              exact ih76 zq75 _ tq77 zq72 _ tq74 (by omega) (by first | exact ctb_y i2 i1.1 (lo_y (bb1 hbo (by omega)) (bb0 hha (by omega))) (by omega) | exact ctb_n i2 i1.1 (lo_n1 (bb0 hbo (by omega))) (by omega) | exact ctb_n i2 i1.1 (lo_n2 (bb1 hha (by omega))) (by omega)) (by omega)
                            · exfalso; omega
                          · exfalso; omega
                      · exfalso; omega
                  · refine g_aload_n X 5 rfl dX7_loan_96 ?_
                    refine g_iload_n X 6 rfl dX7_loan_97 ?_
                    refine g_iload X 0 rfl dX7_loan_98 ?_
                    refine g_iload_n X 8 rfl dX7_loan_100 ?_
                    refine g_iload X 4 rfl dX7_loan_101 ?_
                    refine g_callV X m_X7_322 (c_X7_hasLine_E ad Mq x1 t1 y9_76 e9_76 x3 t3 rq29 tq31 Iq0 (by omega)) rfl (by decide) (Nat.le_of_ble_eq_true rfl) rfl dX7_loan_103 ?_
                    rintro _ _ ⟨rq78, aq79, rfl, tq80, hq81, rfl⟩
                    show G Γ Mq 106 [(9, .int y9_76), (8, .int y8_76), (7, .int rq37), (6, .int rq33), (5, .int rq29), (0, .ref (ad 47)), (1, .int x1), (2, .int x2), (3, .int x3), (4, .int x4)] [.int rq78]
                    refine g_if_eq X tq80 (tgt := 126) dX7_loan_106 (by decide) (fun cq82 => ?_) (fun cq82 => ?_)
                    · have pq83 : ¬ (hsM Mq a1 b9_76 a3 aq30.toNat = true) := by first | omega | (rcases hq81 with ⟨z1, z2⟩ | ⟨z1, z2⟩ <;> first | exact z2 | (exfalso; omega))
                      refine g_iconst X 0 dX7_loan_126 (by decide) ?_
                      refine g_istore X [(10, .int 0), (9, .int y9_76), (8, .int y8_76), (7, .int rq37), (6, .int rq33), (5, .int rq29), (0, .ref (ad 47)), (1, .int x1), (2, .int x2), (3, .int x3), (4, .int x4)] dX7_loan_127 (by decide) rfl ?_
                      have hbo : ((0 : Int) = 1 ∧ (boM Mq a1 a2 a3 (aq30).toNat (b9_76).toNat = true)) ∨ ((0 : Int) = 0 ∧ ¬ (boM Mq a1 a2 a3 (aq30).toNat (b9_76).toNat = true)) := by first | exact Or.inr ⟨rfl, bo_n1 (by omega)⟩ | exact Or.inr ⟨rfl, bo_n2 i1.1 (by assumption)⟩ | exact Or.inr ⟨rfl, bo_n3 i1.1 (by assumption)⟩ | exact Or.inl ⟨rfl, bo_y i1.1 (by omega) (by assumption) (by assumption)⟩
                      refine g_iload X 4 rfl dX7_loan_129 ?_
                      refine g_if_lt X tq35 (tgt := 153) dX7_loan_131 (by decide) (fun cq84 => ?_) (fun cq84 => ?_)
                      · refine g_iload X 3 rfl dX7_loan_153 ?_
                        refine g_if_lt X tq39 (tgt := 181) dX7_loan_155 (by decide) (fun cq85 => ?_) (fun cq85 => ?_)
                        · refine g_iconst X 0 dX7_loan_181 (by decide) ?_
                          refine g_istore X [(11, .int 0), (10, .int 0), (9, .int y9_76), (8, .int y8_76), (7, .int rq37), (6, .int rq33), (5, .int rq29), (0, .ref (ad 47)), (1, .int x1), (2, .int x2), (3, .int x3), (4, .int x4)] dX7_loan_182 (by decide) rfl ?_
                          have hha : ((0 : Int) = 1 ∧ (haM Mq a1 a2 a3 (aq30).toNat aq34 aq38 (b9_76).toNat = true)) ∨ ((0 : Int) = 0 ∧ ¬ (haM Mq a1 a2 a3 (aq30).toNat aq34 aq38 (b9_76).toNat = true)) := by first | exact Or.inl ⟨rfl, ha_y1 i1.1 (by omega) (bb1 hbo (by omega)) (by assumption)⟩ | exact Or.inl ⟨rfl, ha_y2 i1.1 (by omega) (bb1 hbo (by omega)) (by assumption)⟩ | exact Or.inr ⟨rfl, ha_n i1.1 (by first | exact Or.inl (by omega) | exact Or.inr (Or.inl (bb0 hbo (by omega))) | exact Or.inr (Or.inr (by assumption))) (by first | exact Or.inl (by omega) | exact Or.inr (Or.inl (bb0 hbo (by omega))) | exact Or.inr (Or.inr (by assumption)))⟩
                          refine g_iload X 3 rfl dX7_loan_184 ?_
                          refine g_iload X 1 rfl dX7_loan_186 ?_
                          refine g_if_eq X (show (0 : Int32).toInt = 0 by decide) (tgt := 200) dX7_loan_188 (by decide) (fun cq86 => ?_) (fun cq86 => ?_)
                          · refine g_iconst X 0 dX7_loan_200 (by decide) ?_
                            refine g_iadd X dX7_loan_201 (fun zq87 eq88 => ?_)
                            have tq89 : zq87.toInt = b8_76 + 0 := add_nw eq88 e8_76 (show (0 : Int32).toInt = 0 by decide) (by omega)
                            refine g_istore X [(8, .int zq87), (11, .int 0), (10, .int 0), (9, .int y9_76), (7, .int rq37), (6, .int rq33), (5, .int rq29), (0, .ref (ad 47)), (1, .int x1), (2, .int x2), (3, .int x3), (4, .int x4)] dX7_loan_202 (by decide) rfl ?_
                            refine g_iinc X 3 (fun v => [(9, .int v), (8, .int zq87), (11, .int 0), (10, .int 0), (7, .int rq37), (6, .int rq33), (5, .int rq29), (0, .ref (ad 47)), (1, .int x1), (2, .int x2), (3, .int x3), (4, .int x4)]) dX7_loan_204 rfl (by decide) (fun _ => rfl) (fun zq90 eq91 => ?_)
                            have tq92 : zq90.toInt = b9_76 + 1 := add_nw eq91 e9_76 (show (Int32.ofInt 1).toInt = 1 by decide) (by omega)
                            refine g_goto X (tgt := 76) dX7_loan_207 (by decide) ?_
                            refine g_sub [0, 1, 4, 5, 6, 7, 8, 9, 10, 11] rfl ?_
                            exact ih76 zq90 _ tq92 zq87 _ tq89 (by omega) (by first | exact ctb_y i2 i1.1 (lo_y (bb1 hbo (by omega)) (bb0 hha (by omega))) (by omega) | exact ctb_n i2 i1.1 (lo_n1 (bb0 hbo (by omega))) (by omega) | exact ctb_n i2 i1.1 (lo_n2 (bb1 hha (by omega))) (by omega)) (by omega)
                          · exfalso; omega
                        · refine g_iload X 0 rfl dX7_loan_158 ?_
                          refine g_if_eq X (show (0 : Int32).toInt = 0 by decide) (tgt := 181) dX7_loan_160 (by decide) (fun cq93 => ?_) (fun cq93 => ?_)
                          · refine g_iconst X 0 dX7_loan_181 (by decide) ?_
                            refine g_istore X [(11, .int 0), (10, .int 0), (9, .int y9_76), (8, .int y8_76), (7, .int rq37), (6, .int rq33), (5, .int rq29), (0, .ref (ad 47)), (1, .int x1), (2, .int x2), (3, .int x3), (4, .int x4)] dX7_loan_182 (by decide) rfl ?_
                            have hha : ((0 : Int) = 1 ∧ (haM Mq a1 a2 a3 (aq30).toNat aq34 aq38 (b9_76).toNat = true)) ∨ ((0 : Int) = 0 ∧ ¬ (haM Mq a1 a2 a3 (aq30).toNat aq34 aq38 (b9_76).toNat = true)) := by first | exact Or.inl ⟨rfl, ha_y1 i1.1 (by omega) (bb1 hbo (by omega)) (by assumption)⟩ | exact Or.inl ⟨rfl, ha_y2 i1.1 (by omega) (bb1 hbo (by omega)) (by assumption)⟩ | exact Or.inr ⟨rfl, ha_n i1.1 (by first | exact Or.inl (by omega) | exact Or.inr (Or.inl (bb0 hbo (by omega))) | exact Or.inr (Or.inr (by assumption))) (by first | exact Or.inl (by omega) | exact Or.inr (Or.inl (bb0 hbo (by omega))) | exact Or.inr (Or.inr (by assumption)))⟩
                            refine g_iload X 3 rfl dX7_loan_184 ?_
                            refine g_iload X 1 rfl dX7_loan_186 ?_
                            refine g_if_eq X (show (0 : Int32).toInt = 0 by decide) (tgt := 200) dX7_loan_188 (by decide) (fun cq94 => ?_) (fun cq94 => ?_)
                            · refine g_iconst X 0 dX7_loan_200 (by decide) ?_
                              refine g_iadd X dX7_loan_201 (fun zq95 eq96 => ?_)
                              have tq97 : zq95.toInt = b8_76 + 0 := add_nw eq96 e8_76 (show (0 : Int32).toInt = 0 by decide) (by omega)
                              refine g_istore X [(8, .int zq95), (11, .int 0), (10, .int 0), (9, .int y9_76), (7, .int rq37), (6, .int rq33), (5, .int rq29), (0, .ref (ad 47)), (1, .int x1), (2, .int x2), (3, .int x3), (4, .int x4)] dX7_loan_202 (by decide) rfl ?_
                              refine g_iinc X 3 (fun v => [(9, .int v), (8, .int zq95), (11, .int 0), (10, .int 0), (7, .int rq37), (6, .int rq33), (5, .int rq29), (0, .ref (ad 47)), (1, .int x1), (2, .int x2), (3, .int x3), (4, .int x4)]) dX7_loan_204 rfl (by decide) (fun _ => rfl) (fun zq98 eq99 => ?_)
                              have tq100 : zq98.toInt = b9_76 + 1 := add_nw eq99 e9_76 (show (Int32.ofInt 1).toInt = 1 by decide) (by omega)
                              refine g_goto X (tgt := 76) dX7_loan_207 (by decide) ?_
                              refine g_sub [0, 1, 4, 5, 6, 7, 8, 9, 10, 11] rfl ?_
                              exact ih76 zq98 _ tq100 zq95 _ tq97 (by omega) (by first | exact ctb_y i2 i1.1 (lo_y (bb1 hbo (by omega)) (bb0 hha (by omega))) (by omega) | exact ctb_n i2 i1.1 (lo_n1 (bb0 hbo (by omega))) (by omega) | exact ctb_n i2 i1.1 (lo_n2 (bb1 hha (by omega))) (by omega)) (by omega)
                            · exfalso; omega
                          · exfalso; omega
                      · refine g_iload X 0 rfl dX7_loan_134 ?_
                        refine g_if_eq X (show (0 : Int32).toInt = 0 by decide) (tgt := 153) dX7_loan_136 (by decide) (fun cq101 => ?_) (fun cq101 => ?_)
                        · refine g_iload X 3 rfl dX7_loan_153 ?_
                          refine g_if_lt X tq39 (tgt := 181) dX7_loan_155 (by decide) (fun cq102 => ?_) (fun cq102 => ?_)
                          · refine g_iconst X 0 dX7_loan_181 (by decide) ?_
                            refine g_istore X [(11, .int 0), (10, .int 0), (9, .int y9_76), (8, .int y8_76), (7, .int rq37), (6, .int rq33), (5, .int rq29), (0, .ref (ad 47)), (1, .int x1), (2, .int x2), (3, .int x3), (4, .int x4)] dX7_loan_182 (by decide) rfl ?_
                            have hha : ((0 : Int) = 1 ∧ (haM Mq a1 a2 a3 (aq30).toNat aq34 aq38 (b9_76).toNat = true)) ∨ ((0 : Int) = 0 ∧ ¬ (haM Mq a1 a2 a3 (aq30).toNat aq34 aq38 (b9_76).toNat = true)) := by first | exact Or.inl ⟨rfl, ha_y1 i1.1 (by omega) (bb1 hbo (by omega)) (by assumption)⟩ | exact Or.inl ⟨rfl, ha_y2 i1.1 (by omega) (bb1 hbo (by omega)) (by assumption)⟩ | exact Or.inr ⟨rfl, ha_n i1.1 (by first | exact Or.inl (by omega) | exact Or.inr (Or.inl (bb0 hbo (by omega))) | exact Or.inr (Or.inr (by assumption))) (by first | exact Or.inl (by omega) | exact Or.inr (Or.inl (bb0 hbo (by omega))) | exact Or.inr (Or.inr (by assumption)))⟩
                            refine g_iload X 3 rfl dX7_loan_184 ?_
                            refine g_iload X 1 rfl dX7_loan_186 ?_
                            refine g_if_eq X (show (0 : Int32).toInt = 0 by decide) (tgt := 200) dX7_loan_188 (by decide) (fun cq103 => ?_) (fun cq103 => ?_)
                            · refine g_iconst X 0 dX7_loan_200 (by decide) ?_
                              refine g_iadd X dX7_loan_201 (fun zq104 eq105 => ?_)
                              have tq106 : zq104.toInt = b8_76 + 0 := add_nw eq105 e8_76 (show (0 : Int32).toInt = 0 by decide) (by omega)
                              refine g_istore X [(8, .int zq104), (11, .int 0), (10, .int 0), (9, .int y9_76), (7, .int rq37), (6, .int rq33), (5, .int rq29), (0, .ref (ad 47)), (1, .int x1), (2, .int x2), (3, .int x3), (4, .int x4)] dX7_loan_202 (by decide) rfl ?_
                              refine g_iinc X 3 (fun v => [(9, .int v), (8, .int zq104), (11, .int 0), (10, .int 0), (7, .int rq37), (6, .int rq33), (5, .int rq29), (0, .ref (ad 47)), (1, .int x1), (2, .int x2), (3, .int x3), (4, .int x4)]) dX7_loan_204 rfl (by decide) (fun _ => rfl) (fun zq107 eq108 => ?_)
                              have tq109 : zq107.toInt = b9_76 + 1 := add_nw eq108 e9_76 (show (Int32.ofInt 1).toInt = 1 by decide) (by omega)
                              refine g_goto X (tgt := 76) dX7_loan_207 (by decide) ?_
                              refine g_sub [0, 1, 4, 5, 6, 7, 8, 9, 10, 11] rfl ?_
                              exact ih76 zq107 _ tq109 zq104 _ tq106 (by omega) (by first | exact ctb_y i2 i1.1 (lo_y (bb1 hbo (by omega)) (bb0 hha (by omega))) (by omega) | exact ctb_n i2 i1.1 (lo_n1 (bb0 hbo (by omega))) (by omega) | exact ctb_n i2 i1.1 (lo_n2 (bb1 hha (by omega))) (by omega)) (by omega)
                            · exfalso; omega
                          · refine g_iload X 0 rfl dX7_loan_158 ?_
                            refine g_if_eq X (show (0 : Int32).toInt = 0 by decide) (tgt := 181) dX7_loan_160 (by decide) (fun cq110 => ?_) (fun cq110 => ?_)
                            · refine g_iconst X 0 dX7_loan_181 (by decide) ?_
                              refine g_istore X [(11, .int 0), (10, .int 0), (9, .int y9_76), (8, .int y8_76), (7, .int rq37), (6, .int rq33), (5, .int rq29), (0, .ref (ad 47)), (1, .int x1), (2, .int x2), (3, .int x3), (4, .int x4)] dX7_loan_182 (by decide) rfl ?_
                              have hha : ((0 : Int) = 1 ∧ (haM Mq a1 a2 a3 (aq30).toNat aq34 aq38 (b9_76).toNat = true)) ∨ ((0 : Int) = 0 ∧ ¬ (haM Mq a1 a2 a3 (aq30).toNat aq34 aq38 (b9_76).toNat = true)) := by first | exact Or.inl ⟨rfl, ha_y1 i1.1 (by omega) (bb1 hbo (by omega)) (by assumption)⟩ | exact Or.inl ⟨rfl, ha_y2 i1.1 (by omega) (bb1 hbo (by omega)) (by assumption)⟩ | exact Or.inr ⟨rfl, ha_n i1.1 (by first | exact Or.inl (by omega) | exact Or.inr (Or.inl (bb0 hbo (by omega))) | exact Or.inr (Or.inr (by assumption))) (by first | exact Or.inl (by omega) | exact Or.inr (Or.inl (bb0 hbo (by omega))) | exact Or.inr (Or.inr (by assumption)))⟩
                              refine g_iload X 3 rfl dX7_loan_184 ?_
                              refine g_iload X 1 rfl dX7_loan_186 ?_
                              refine g_if_eq X (show (0 : Int32).toInt = 0 by decide) (tgt := 200) dX7_loan_188 (by decide) (fun cq111 => ?_) (fun cq111 => ?_)
                              · refine g_iconst X 0 dX7_loan_200 (by decide) ?_
                                refine g_iadd X dX7_loan_201 (fun zq112 eq113 => ?_)
                                have tq114 : zq112.toInt = b8_76 + 0 := add_nw eq113 e8_76 (show (0 : Int32).toInt = 0 by decide) (by omega)
                                refine g_istore X [(8, .int zq112), (11, .int 0), (10, .int 0), (9, .int y9_76), (7, .int rq37), (6, .int rq33), (5, .int rq29), (0, .ref (ad 47)), (1, .int x1), (2, .int x2), (3, .int x3), (4, .int x4)] dX7_loan_202 (by decide) rfl ?_
                                refine g_iinc X 3 (fun v => [(9, .int v), (8, .int zq112), (11, .int 0), (10, .int 0), (7, .int rq37), (6, .int rq33), (5, .int rq29), (0, .ref (ad 47)), (1, .int x1), (2, .int x2), (3, .int x3), (4, .int x4)]) dX7_loan_204 rfl (by decide) (fun _ => rfl) (fun zq115 eq116 => ?_)
                                have tq117 : zq115.toInt = b9_76 + 1 := add_nw eq116 e9_76 (show (Int32.ofInt 1).toInt = 1 by decide) (by omega)
                                refine g_goto X (tgt := 76) dX7_loan_207 (by decide) ?_
                                refine g_sub [0, 1, 4, 5, 6, 7, 8, 9, 10, 11] rfl ?_
                                exact ih76 zq115 _ tq117 zq112 _ tq114 (by omega) (by first | exact ctb_y i2 i1.1 (lo_y (bb1 hbo (by omega)) (bb0 hha (by omega))) (by omega) | exact ctb_n i2 i1.1 (lo_n1 (bb0 hbo (by omega))) (by omega) | exact ctb_n i2 i1.1 (lo_n2 (bb1 hha (by omega))) (by omega)) (by omega)
                              · exfalso; omega
                            · exfalso; omega
                        · exfalso; omega
                    · have pq118 : (hsM Mq a1 b9_76 a3 aq30.toNat = true) := by first | omega | (rcases hq81 with ⟨z1, z2⟩ | ⟨z1, z2⟩ <;> first | exact z2 | (exfalso; omega))
                      refine g_aload_n X 5 rfl dX7_loan_109 ?_
                      refine g_iload_n X 7 rfl dX7_loan_110 ?_
                      refine g_iload X 0 rfl dX7_loan_111 ?_
                      refine g_iload_n X 8 rfl dX7_loan_113 ?_
                      refine g_iload X 4 rfl dX7_loan_114 ?_
                      refine g_callV X m_X7_322 (c_X7_hasLine_E ad Mq x2 t2 y9_76 e9_76 x3 t3 rq29 tq31 Iq0 (by omega)) rfl (by decide) (Nat.le_of_ble_eq_true rfl) rfl dX7_loan_116 ?_
                      rintro _ _ ⟨rq119, aq120, rfl, tq121, hq122, rfl⟩
                      show G Γ Mq 119 [(9, .int y9_76), (8, .int y8_76), (7, .int rq37), (6, .int rq33), (5, .int rq29), (0, .ref (ad 47)), (1, .int x1), (2, .int x2), (3, .int x3), (4, .int x4)] [.int rq119]
                      refine g_if_eq X tq121 (tgt := 126) dX7_loan_119 (by decide) (fun cq123 => ?_) (fun cq123 => ?_)
                      · have pq124 : ¬ (hsM Mq a2 b9_76 a3 aq30.toNat = true) := by first | omega | (rcases hq122 with ⟨z1, z2⟩ | ⟨z1, z2⟩ <;> first | exact z2 | (exfalso; omega))
                        refine g_iconst X 0 dX7_loan_126 (by decide) ?_
                        refine g_istore X [(10, .int 0), (9, .int y9_76), (8, .int y8_76), (7, .int rq37), (6, .int rq33), (5, .int rq29), (0, .ref (ad 47)), (1, .int x1), (2, .int x2), (3, .int x3), (4, .int x4)] dX7_loan_127 (by decide) rfl ?_
                        have hbo : ((0 : Int) = 1 ∧ (boM Mq a1 a2 a3 (aq30).toNat (b9_76).toNat = true)) ∨ ((0 : Int) = 0 ∧ ¬ (boM Mq a1 a2 a3 (aq30).toNat (b9_76).toNat = true)) := by first | exact Or.inr ⟨rfl, bo_n1 (by omega)⟩ | exact Or.inr ⟨rfl, bo_n2 i1.1 (by assumption)⟩ | exact Or.inr ⟨rfl, bo_n3 i1.1 (by assumption)⟩ | exact Or.inl ⟨rfl, bo_y i1.1 (by omega) (by assumption) (by assumption)⟩
                        refine g_iload X 4 rfl dX7_loan_129 ?_
                        refine g_if_lt X tq35 (tgt := 153) dX7_loan_131 (by decide) (fun cq125 => ?_) (fun cq125 => ?_)
                        · refine g_iload X 3 rfl dX7_loan_153 ?_
                          refine g_if_lt X tq39 (tgt := 181) dX7_loan_155 (by decide) (fun cq126 => ?_) (fun cq126 => ?_)
                          · refine g_iconst X 0 dX7_loan_181 (by decide) ?_
                            refine g_istore X [(11, .int 0), (10, .int 0), (9, .int y9_76), (8, .int y8_76), (7, .int rq37), (6, .int rq33), (5, .int rq29), (0, .ref (ad 47)), (1, .int x1), (2, .int x2), (3, .int x3), (4, .int x4)] dX7_loan_182 (by decide) rfl ?_
                            have hha : ((0 : Int) = 1 ∧ (haM Mq a1 a2 a3 (aq30).toNat aq34 aq38 (b9_76).toNat = true)) ∨ ((0 : Int) = 0 ∧ ¬ (haM Mq a1 a2 a3 (aq30).toNat aq34 aq38 (b9_76).toNat = true)) := by first | exact Or.inl ⟨rfl, ha_y1 i1.1 (by omega) (bb1 hbo (by omega)) (by assumption)⟩ | exact Or.inl ⟨rfl, ha_y2 i1.1 (by omega) (bb1 hbo (by omega)) (by assumption)⟩ | exact Or.inr ⟨rfl, ha_n i1.1 (by first | exact Or.inl (by omega) | exact Or.inr (Or.inl (bb0 hbo (by omega))) | exact Or.inr (Or.inr (by assumption))) (by first | exact Or.inl (by omega) | exact Or.inr (Or.inl (bb0 hbo (by omega))) | exact Or.inr (Or.inr (by assumption)))⟩
                            refine g_iload X 3 rfl dX7_loan_184 ?_
                            refine g_iload X 1 rfl dX7_loan_186 ?_
                            refine g_if_eq X (show (0 : Int32).toInt = 0 by decide) (tgt := 200) dX7_loan_188 (by decide) (fun cq127 => ?_) (fun cq127 => ?_)
                            · refine g_iconst X 0 dX7_loan_200 (by decide) ?_
                              refine g_iadd X dX7_loan_201 (fun zq128 eq129 => ?_)
                              have tq130 : zq128.toInt = b8_76 + 0 := add_nw eq129 e8_76 (show (0 : Int32).toInt = 0 by decide) (by omega)
                              refine g_istore X [(8, .int zq128), (11, .int 0), (10, .int 0), (9, .int y9_76), (7, .int rq37), (6, .int rq33), (5, .int rq29), (0, .ref (ad 47)), (1, .int x1), (2, .int x2), (3, .int x3), (4, .int x4)] dX7_loan_202 (by decide) rfl ?_
                              refine g_iinc X 3 (fun v => [(9, .int v), (8, .int zq128), (11, .int 0), (10, .int 0), (7, .int rq37), (6, .int rq33), (5, .int rq29), (0, .ref (ad 47)), (1, .int x1), (2, .int x2), (3, .int x3), (4, .int x4)]) dX7_loan_204 rfl (by decide) (fun _ => rfl) (fun zq131 eq132 => ?_)
                              have tq133 : zq131.toInt = b9_76 + 1 := add_nw eq132 e9_76 (show (Int32.ofInt 1).toInt = 1 by decide) (by omega)
                              refine g_goto X (tgt := 76) dX7_loan_207 (by decide) ?_
                              refine g_sub [0, 1, 4, 5, 6, 7, 8, 9, 10, 11] rfl ?_
                              exact ih76 zq131 _ tq133 zq128 _ tq130 (by omega) (by first | exact ctb_y i2 i1.1 (lo_y (bb1 hbo (by omega)) (bb0 hha (by omega))) (by omega) | exact ctb_n i2 i1.1 (lo_n1 (bb0 hbo (by omega))) (by omega) | exact ctb_n i2 i1.1 (lo_n2 (bb1 hha (by omega))) (by omega)) (by omega)
                            · exfalso; omega
                          · refine g_iload X 0 rfl dX7_loan_158 ?_
                            refine g_if_eq X (show (0 : Int32).toInt = 0 by decide) (tgt := 181) dX7_loan_160 (by decide) (fun cq134 => ?_) (fun cq134 => ?_)
                            · refine g_iconst X 0 dX7_loan_181 (by decide) ?_
                              refine g_istore X [(11, .int 0), (10, .int 0), (9, .int y9_76), (8, .int y8_76), (7, .int rq37), (6, .int rq33), (5, .int rq29), (0, .ref (ad 47)), (1, .int x1), (2, .int x2), (3, .int x3), (4, .int x4)] dX7_loan_182 (by decide) rfl ?_
                              have hha : ((0 : Int) = 1 ∧ (haM Mq a1 a2 a3 (aq30).toNat aq34 aq38 (b9_76).toNat = true)) ∨ ((0 : Int) = 0 ∧ ¬ (haM Mq a1 a2 a3 (aq30).toNat aq34 aq38 (b9_76).toNat = true)) := by first | exact Or.inl ⟨rfl, ha_y1 i1.1 (by omega) (bb1 hbo (by omega)) (by assumption)⟩ | exact Or.inl ⟨rfl, ha_y2 i1.1 (by omega) (bb1 hbo (by omega)) (by assumption)⟩ | exact Or.inr ⟨rfl, ha_n i1.1 (by first | exact Or.inl (by omega) | exact Or.inr (Or.inl (bb0 hbo (by omega))) | exact Or.inr (Or.inr (by assumption))) (by first | exact Or.inl (by omega) | exact Or.inr (Or.inl (bb0 hbo (by omega))) | exact Or.inr (Or.inr (by assumption)))⟩
                              refine g_iload X 3 rfl dX7_loan_184 ?_
                              refine g_iload X 1 rfl dX7_loan_186 ?_
                              refine g_if_eq X (show (0 : Int32).toInt = 0 by decide) (tgt := 200) dX7_loan_188 (by decide) (fun cq135 => ?_) (fun cq135 => ?_)
                              · refine g_iconst X 0 dX7_loan_200 (by decide) ?_
                                refine g_iadd X dX7_loan_201 (fun zq136 eq137 => ?_)
                                have tq138 : zq136.toInt = b8_76 + 0 := add_nw eq137 e8_76 (show (0 : Int32).toInt = 0 by decide) (by omega)
                                refine g_istore X [(8, .int zq136), (11, .int 0), (10, .int 0), (9, .int y9_76), (7, .int rq37), (6, .int rq33), (5, .int rq29), (0, .ref (ad 47)), (1, .int x1), (2, .int x2), (3, .int x3), (4, .int x4)] dX7_loan_202 (by decide) rfl ?_
                                refine g_iinc X 3 (fun v => [(9, .int v), (8, .int zq136), (11, .int 0), (10, .int 0), (7, .int rq37), (6, .int rq33), (5, .int rq29), (0, .ref (ad 47)), (1, .int x1), (2, .int x2), (3, .int x3), (4, .int x4)]) dX7_loan_204 rfl (by decide) (fun _ => rfl) (fun zq139 eq140 => ?_)
                                have tq141 : zq139.toInt = b9_76 + 1 := add_nw eq140 e9_76 (show (Int32.ofInt 1).toInt = 1 by decide) (by omega)
                                refine g_goto X (tgt := 76) dX7_loan_207 (by decide) ?_
                                refine g_sub [0, 1, 4, 5, 6, 7, 8, 9, 10, 11] rfl ?_
                                exact ih76 zq139 _ tq141 zq136 _ tq138 (by omega) (by first | exact ctb_y i2 i1.1 (lo_y (bb1 hbo (by omega)) (bb0 hha (by omega))) (by omega) | exact ctb_n i2 i1.1 (lo_n1 (bb0 hbo (by omega))) (by omega) | exact ctb_n i2 i1.1 (lo_n2 (bb1 hha (by omega))) (by omega)) (by omega)
                              · exfalso; omega
                            · exfalso; omega
                        · refine g_iload X 0 rfl dX7_loan_134 ?_
                          refine g_if_eq X (show (0 : Int32).toInt = 0 by decide) (tgt := 153) dX7_loan_136 (by decide) (fun cq142 => ?_) (fun cq142 => ?_)
                          · refine g_iload X 3 rfl dX7_loan_153 ?_
                            refine g_if_lt X tq39 (tgt := 181) dX7_loan_155 (by decide) (fun cq143 => ?_) (fun cq143 => ?_)
                            · refine g_iconst X 0 dX7_loan_181 (by decide) ?_
                              refine g_istore X [(11, .int 0), (10, .int 0), (9, .int y9_76), (8, .int y8_76), (7, .int rq37), (6, .int rq33), (5, .int rq29), (0, .ref (ad 47)), (1, .int x1), (2, .int x2), (3, .int x3), (4, .int x4)] dX7_loan_182 (by decide) rfl ?_
                              have hha : ((0 : Int) = 1 ∧ (haM Mq a1 a2 a3 (aq30).toNat aq34 aq38 (b9_76).toNat = true)) ∨ ((0 : Int) = 0 ∧ ¬ (haM Mq a1 a2 a3 (aq30).toNat aq34 aq38 (b9_76).toNat = true)) := by first | exact Or.inl ⟨rfl, ha_y1 i1.1 (by omega) (bb1 hbo (by omega)) (by assumption)⟩ | exact Or.inl ⟨rfl, ha_y2 i1.1 (by omega) (bb1 hbo (by omega)) (by assumption)⟩ | exact Or.inr ⟨rfl, ha_n i1.1 (by first | exact Or.inl (by omega) | exact Or.inr (Or.inl (bb0 hbo (by omega))) | exact Or.inr (Or.inr (by assumption))) (by first | exact Or.inl (by omega) | exact Or.inr (Or.inl (bb0 hbo (by omega))) | exact Or.inr (Or.inr (by assumption)))⟩
                              refine g_iload X 3 rfl dX7_loan_184 ?_
                              refine g_iload X 1 rfl dX7_loan_186 ?_
                              refine g_if_eq X (show (0 : Int32).toInt = 0 by decide) (tgt := 200) dX7_loan_188 (by decide) (fun cq144 => ?_) (fun cq144 => ?_)
                              · refine g_iconst X 0 dX7_loan_200 (by decide) ?_
                                refine g_iadd X dX7_loan_201 (fun zq145 eq146 => ?_)
                                have tq147 : zq145.toInt = b8_76 + 0 := add_nw eq146 e8_76 (show (0 : Int32).toInt = 0 by decide) (by omega)
                                refine g_istore X [(8, .int zq145), (11, .int 0), (10, .int 0), (9, .int y9_76), (7, .int rq37), (6, .int rq33), (5, .int rq29), (0, .ref (ad 47)), (1, .int x1), (2, .int x2), (3, .int x3), (4, .int x4)] dX7_loan_202 (by decide) rfl ?_
                                refine g_iinc X 3 (fun v => [(9, .int v), (8, .int zq145), (11, .int 0), (10, .int 0), (7, .int rq37), (6, .int rq33), (5, .int rq29), (0, .ref (ad 47)), (1, .int x1), (2, .int x2), (3, .int x3), (4, .int x4)]) dX7_loan_204 rfl (by decide) (fun _ => rfl) (fun zq148 eq149 => ?_)
                                have tq150 : zq148.toInt = b9_76 + 1 := add_nw eq149 e9_76 (show (Int32.ofInt 1).toInt = 1 by decide) (by omega)
                                refine g_goto X (tgt := 76) dX7_loan_207 (by decide) ?_
                                refine g_sub [0, 1, 4, 5, 6, 7, 8, 9, 10, 11] rfl ?_
                                exact ih76 zq148 _ tq150 zq145 _ tq147 (by omega) (by first | exact ctb_y i2 i1.1 (lo_y (bb1 hbo (by omega)) (bb0 hha (by omega))) (by omega) | exact ctb_n i2 i1.1 (lo_n1 (bb0 hbo (by omega))) (by omega) | exact ctb_n i2 i1.1 (lo_n2 (bb1 hha (by omega))) (by omega)) (by omega)
                              · exfalso; omega
                            · refine g_iload X 0 rfl dX7_loan_158 ?_
                              refine g_if_eq X (show (0 : Int32).toInt = 0 by decide) (tgt := 181) dX7_loan_160 (by decide) (fun cq151 => ?_) (fun cq151 => ?_)
                              · refine g_iconst X 0 dX7_loan_181 (by decide) ?_
                                refine g_istore X [(11, .int 0), (10, .int 0), (9, .int y9_76), (8, .int y8_76), (7, .int rq37), (6, .int rq33), (5, .int rq29), (0, .ref (ad 47)), (1, .int x1), (2, .int x2), (3, .int x3), (4, .int x4)] dX7_loan_182 (by decide) rfl ?_
                                have hha : ((0 : Int) = 1 ∧ (haM Mq a1 a2 a3 (aq30).toNat aq34 aq38 (b9_76).toNat = true)) ∨ ((0 : Int) = 0 ∧ ¬ (haM Mq a1 a2 a3 (aq30).toNat aq34 aq38 (b9_76).toNat = true)) := by first | exact Or.inl ⟨rfl, ha_y1 i1.1 (by omega) (bb1 hbo (by omega)) (by assumption)⟩ | exact Or.inl ⟨rfl, ha_y2 i1.1 (by omega) (bb1 hbo (by omega)) (by assumption)⟩ | exact Or.inr ⟨rfl, ha_n i1.1 (by first | exact Or.inl (by omega) | exact Or.inr (Or.inl (bb0 hbo (by omega))) | exact Or.inr (Or.inr (by assumption))) (by first | exact Or.inl (by omega) | exact Or.inr (Or.inl (bb0 hbo (by omega))) | exact Or.inr (Or.inr (by assumption)))⟩
                                refine g_iload X 3 rfl dX7_loan_184 ?_
                                refine g_iload X 1 rfl dX7_loan_186 ?_
                                refine g_if_eq X (show (0 : Int32).toInt = 0 by decide) (tgt := 200) dX7_loan_188 (by decide) (fun cq152 => ?_) (fun cq152 => ?_)
                                · refine g_iconst X 0 dX7_loan_200 (by decide) ?_
                                  refine g_iadd X dX7_loan_201 (fun zq153 eq154 => ?_)
                                  have tq155 : zq153.toInt = b8_76 + 0 := add_nw eq154 e8_76 (show (0 : Int32).toInt = 0 by decide) (by omega)
                                  refine g_istore X [(8, .int zq153), (11, .int 0), (10, .int 0), (9, .int y9_76), (7, .int rq37), (6, .int rq33), (5, .int rq29), (0, .ref (ad 47)), (1, .int x1), (2, .int x2), (3, .int x3), (4, .int x4)] dX7_loan_202 (by decide) rfl ?_
                                  refine g_iinc X 3 (fun v => [(9, .int v), (8, .int zq153), (11, .int 0), (10, .int 0), (7, .int rq37), (6, .int rq33), (5, .int rq29), (0, .ref (ad 47)), (1, .int x1), (2, .int x2), (3, .int x3), (4, .int x4)]) dX7_loan_204 rfl (by decide) (fun _ => rfl) (fun zq156 eq157 => ?_)
                                  have tq158 : zq156.toInt = b9_76 + 1 := add_nw eq157 e9_76 (show (Int32.ofInt 1).toInt = 1 by decide) (by omega)
                                  refine g_goto X (tgt := 76) dX7_loan_207 (by decide) ?_
                                  refine g_sub [0, 1, 4, 5, 6, 7, 8, 9, 10, 11] rfl ?_
                                  exact ih76 zq156 _ tq158 zq153 _ tq155 (by omega) (by first | exact ctb_y i2 i1.1 (lo_y (bb1 hbo (by omega)) (bb0 hha (by omega))) (by omega) | exact ctb_n i2 i1.1 (lo_n1 (bb0 hbo (by omega))) (by omega) | exact ctb_n i2 i1.1 (lo_n2 (bb1 hha (by omega))) (by omega)) (by omega)
                                · exfalso; omega
                              · exfalso; omega
                          · exfalso; omega
                      · have pq159 : (hsM Mq a2 b9_76 a3 aq30.toNat = true) := by first | omega | (rcases hq122 with ⟨z1, z2⟩ | ⟨z1, z2⟩ <;> first | exact z2 | (exfalso; omega))
                        refine g_iconst X 1 dX7_loan_122 (by decide) ?_
                        refine g_goto X (tgt := 127) dX7_loan_123 (by decide) ?_
                        refine g_istore X [(10, .int 1), (9, .int y9_76), (8, .int y8_76), (7, .int rq37), (6, .int rq33), (5, .int rq29), (0, .ref (ad 47)), (1, .int x1), (2, .int x2), (3, .int x3), (4, .int x4)] dX7_loan_127 (by decide) rfl ?_
                        have hbo : ((1 : Int) = 1 ∧ (boM Mq a1 a2 a3 (aq30).toNat (b9_76).toNat = true)) ∨ ((1 : Int) = 0 ∧ ¬ (boM Mq a1 a2 a3 (aq30).toNat (b9_76).toNat = true)) := by first | exact Or.inr ⟨rfl, bo_n1 (by omega)⟩ | exact Or.inr ⟨rfl, bo_n2 i1.1 (by assumption)⟩ | exact Or.inr ⟨rfl, bo_n3 i1.1 (by assumption)⟩ | exact Or.inl ⟨rfl, bo_y i1.1 (by omega) (by assumption) (by assumption)⟩
                        refine g_iload X 4 rfl dX7_loan_129 ?_
                        refine g_if_lt X tq35 (tgt := 153) dX7_loan_131 (by decide) (fun cq160 => ?_) (fun cq160 => ?_)
                        · refine g_iload X 3 rfl dX7_loan_153 ?_
                          refine g_if_lt X tq39 (tgt := 181) dX7_loan_155 (by decide) (fun cq161 => ?_) (fun cq161 => ?_)
                          · refine g_iconst X 0 dX7_loan_181 (by decide) ?_
                            refine g_istore X [(11, .int 0), (10, .int 1), (9, .int y9_76), (8, .int y8_76), (7, .int rq37), (6, .int rq33), (5, .int rq29), (0, .ref (ad 47)), (1, .int x1), (2, .int x2), (3, .int x3), (4, .int x4)] dX7_loan_182 (by decide) rfl ?_
                            have hha : ((0 : Int) = 1 ∧ (haM Mq a1 a2 a3 (aq30).toNat aq34 aq38 (b9_76).toNat = true)) ∨ ((0 : Int) = 0 ∧ ¬ (haM Mq a1 a2 a3 (aq30).toNat aq34 aq38 (b9_76).toNat = true)) := by first | exact Or.inl ⟨rfl, ha_y1 i1.1 (by omega) (bb1 hbo (by omega)) (by assumption)⟩ | exact Or.inl ⟨rfl, ha_y2 i1.1 (by omega) (bb1 hbo (by omega)) (by assumption)⟩ | exact Or.inr ⟨rfl, ha_n i1.1 (by first | exact Or.inl (by omega) | exact Or.inr (Or.inl (bb0 hbo (by omega))) | exact Or.inr (Or.inr (by assumption))) (by first | exact Or.inl (by omega) | exact Or.inr (Or.inl (bb0 hbo (by omega))) | exact Or.inr (Or.inr (by assumption)))⟩
                            refine g_iload X 3 rfl dX7_loan_184 ?_
                            refine g_iload X 1 rfl dX7_loan_186 ?_
                            refine g_if_eq X (show (1 : Int32).toInt = 1 by decide) (tgt := 200) dX7_loan_188 (by decide) (fun cq162 => ?_) (fun cq162 => ?_)
                            · exfalso; omega
                            · refine g_iload X 0 rfl dX7_loan_191 ?_
                              refine g_if_ne X (show (0 : Int32).toInt = 0 by decide) (tgt := 200) dX7_loan_193 (by decide) (fun cq163 => ?_) (fun cq163 => ?_)
                              · exfalso; omega
                              · refine g_iconst X 1 dX7_loan_196 (by decide) ?_
                                refine g_goto X (tgt := 201) dX7_loan_197 (by decide) ?_
                                refine g_iadd X dX7_loan_201 (fun zq164 eq165 => ?_)
                                have tq166 : zq164.toInt = b8_76 + 1 := add_nw eq165 e8_76 (show (1 : Int32).toInt = 1 by decide) (by omega)
                                refine g_istore X [(8, .int zq164), (11, .int 0), (10, .int 1), (9, .int y9_76), (7, .int rq37), (6, .int rq33), (5, .int rq29), (0, .ref (ad 47)), (1, .int x1), (2, .int x2), (3, .int x3), (4, .int x4)] dX7_loan_202 (by decide) rfl ?_
                                refine g_iinc X 3 (fun v => [(9, .int v), (8, .int zq164), (11, .int 0), (10, .int 1), (7, .int rq37), (6, .int rq33), (5, .int rq29), (0, .ref (ad 47)), (1, .int x1), (2, .int x2), (3, .int x3), (4, .int x4)]) dX7_loan_204 rfl (by decide) (fun _ => rfl) (fun zq167 eq168 => ?_)
                                have tq169 : zq167.toInt = b9_76 + 1 := add_nw eq168 e9_76 (show (Int32.ofInt 1).toInt = 1 by decide) (by omega)
                                refine g_goto X (tgt := 76) dX7_loan_207 (by decide) ?_
                                refine g_sub [0, 1, 4, 5, 6, 7, 8, 9, 10, 11] rfl ?_
                                exact ih76 zq167 _ tq169 zq164 _ tq166 (by omega) (by first | exact ctb_y i2 i1.1 (lo_y (bb1 hbo (by omega)) (bb0 hha (by omega))) (by omega) | exact ctb_n i2 i1.1 (lo_n1 (bb0 hbo (by omega))) (by omega) | exact ctb_n i2 i1.1 (lo_n2 (bb1 hha (by omega))) (by omega)) (by omega)
                          · refine g_iload X 0 rfl dX7_loan_158 ?_
                            refine g_if_eq X (show (1 : Int32).toInt = 1 by decide) (tgt := 181) dX7_loan_160 (by decide) (fun cq170 => ?_) (fun cq170 => ?_)
                            · exfalso; omega
                            · refine g_aload_n X 6 rfl dX7_loan_163 ?_
                              refine g_iload X 3 rfl dX7_loan_164 ?_
                              refine g_iload X 1 rfl dX7_loan_166 ?_
                              refine g_iload_n X 9 rfl dX7_loan_168 ?_
                              refine g_iload X 5 rfl dX7_loan_169 ?_
                              refine g_callV X m_X7_322 (c_X7_hasLine_E ad Mq rq37 tq39 y9_76 e9_76 x3 t3 rq29 tq31 Iq0 (by omega)) rfl (by decide) (Nat.le_of_ble_eq_true rfl) rfl dX7_loan_171 ?_
                              rintro _ _ ⟨rq171, aq172, rfl, tq173, hq174, rfl⟩
                              show G Γ Mq 174 [(10, .int 1), (9, .int y9_76), (8, .int y8_76), (7, .int rq37), (6, .int rq33), (5, .int rq29), (0, .ref (ad 47)), (1, .int x1), (2, .int x2), (3, .int x3), (4, .int x4)] [.int rq171]
                              refine g_if_eq X tq173 (tgt := 181) dX7_loan_174 (by decide) (fun cq175 => ?_) (fun cq175 => ?_)
                              · have pq176 : ¬ (hsM Mq aq38 b9_76 a3 aq30.toNat = true) := by first | omega | (rcases hq174 with ⟨z1, z2⟩ | ⟨z1, z2⟩ <;> first | exact z2 | (exfalso; omega))
                                refine g_iconst X 0 dX7_loan_181 (by decide) ?_
                                refine g_istore X [(11, .int 0), (10, .int 1), (9, .int y9_76), (8, .int y8_76), (7, .int rq37), (6, .int rq33), (5, .int rq29), (0, .ref (ad 47)), (1, .int x1), (2, .int x2), (3, .int x3), (4, .int x4)] dX7_loan_182 (by decide) rfl ?_
                                have hha : ((0 : Int) = 1 ∧ (haM Mq a1 a2 a3 (aq30).toNat aq34 aq38 (b9_76).toNat = true)) ∨ ((0 : Int) = 0 ∧ ¬ (haM Mq a1 a2 a3 (aq30).toNat aq34 aq38 (b9_76).toNat = true)) := by first | exact Or.inl ⟨rfl, ha_y1 i1.1 (by omega) (bb1 hbo (by omega)) (by assumption)⟩ | exact Or.inl ⟨rfl, ha_y2 i1.1 (by omega) (bb1 hbo (by omega)) (by assumption)⟩ | exact Or.inr ⟨rfl, ha_n i1.1 (by first | exact Or.inl (by omega) | exact Or.inr (Or.inl (bb0 hbo (by omega))) | exact Or.inr (Or.inr (by assumption))) (by first | exact Or.inl (by omega) | exact Or.inr (Or.inl (bb0 hbo (by omega))) | exact Or.inr (Or.inr (by assumption)))⟩
                                refine g_iload X 3 rfl dX7_loan_184 ?_
                                refine g_iload X 1 rfl dX7_loan_186 ?_
                                refine g_if_eq X (show (1 : Int32).toInt = 1 by decide) (tgt := 200) dX7_loan_188 (by decide) (fun cq177 => ?_) (fun cq177 => ?_)
                                · exfalso; omega
                                · refine g_iload X 0 rfl dX7_loan_191 ?_
                                  refine g_if_ne X (show (0 : Int32).toInt = 0 by decide) (tgt := 200) dX7_loan_193 (by decide) (fun cq178 => ?_) (fun cq178 => ?_)
                                  · exfalso; omega
                                  · refine g_iconst X 1 dX7_loan_196 (by decide) ?_
                                    refine g_goto X (tgt := 201) dX7_loan_197 (by decide) ?_
                                    refine g_iadd X dX7_loan_201 (fun zq179 eq180 => ?_)
                                    have tq181 : zq179.toInt = b8_76 + 1 := add_nw eq180 e8_76 (show (1 : Int32).toInt = 1 by decide) (by omega)
                                    refine g_istore X [(8, .int zq179), (11, .int 0), (10, .int 1), (9, .int y9_76), (7, .int rq37), (6, .int rq33), (5, .int rq29), (0, .ref (ad 47)), (1, .int x1), (2, .int x2), (3, .int x3), (4, .int x4)] dX7_loan_202 (by decide) rfl ?_
                                    refine g_iinc X 3 (fun v => [(9, .int v), (8, .int zq179), (11, .int 0), (10, .int 1), (7, .int rq37), (6, .int rq33), (5, .int rq29), (0, .ref (ad 47)), (1, .int x1), (2, .int x2), (3, .int x3), (4, .int x4)]) dX7_loan_204 rfl (by decide) (fun _ => rfl) (fun zq182 eq183 => ?_)
                                    have tq184 : zq182.toInt = b9_76 + 1 := add_nw eq183 e9_76 (show (Int32.ofInt 1).toInt = 1 by decide) (by omega)
                                    refine g_goto X (tgt := 76) dX7_loan_207 (by decide) ?_
                                    refine g_sub [0, 1, 4, 5, 6, 7, 8, 9, 10, 11] rfl ?_
                                    exact ih76 zq182 _ tq184 zq179 _ tq181 (by omega) (by first | exact ctb_y i2 i1.1 (lo_y (bb1 hbo (by omega)) (bb0 hha (by omega))) (by omega) | exact ctb_n i2 i1.1 (lo_n1 (bb0 hbo (by omega))) (by omega) | exact ctb_n i2 i1.1 (lo_n2 (bb1 hha (by omega))) (by omega)) (by omega)
                              · have pq185 : (hsM Mq aq38 b9_76 a3 aq30.toNat = true) := by first | omega | (rcases hq174 with ⟨z1, z2⟩ | ⟨z1, z2⟩ <;> first | exact z2 | (exfalso; omega))
                                refine g_iconst X 1 dX7_loan_177 (by decide) ?_
                                refine g_goto X (tgt := 182) dX7_loan_178 (by decide) ?_
                                refine g_istore X [(11, .int 1), (10, .int 1), (9, .int y9_76), (8, .int y8_76), (7, .int rq37), (6, .int rq33), (5, .int rq29), (0, .ref (ad 47)), (1, .int x1), (2, .int x2), (3, .int x3), (4, .int x4)] dX7_loan_182 (by decide) rfl ?_
                                have hha : ((1 : Int) = 1 ∧ (haM Mq a1 a2 a3 (aq30).toNat aq34 aq38 (b9_76).toNat = true)) ∨ ((1 : Int) = 0 ∧ ¬ (haM Mq a1 a2 a3 (aq30).toNat aq34 aq38 (b9_76).toNat = true)) := by first | exact Or.inl ⟨rfl, ha_y1 i1.1 (by omega) (bb1 hbo (by omega)) (by assumption)⟩ | exact Or.inl ⟨rfl, ha_y2 i1.1 (by omega) (bb1 hbo (by omega)) (by assumption)⟩ | exact Or.inr ⟨rfl, ha_n i1.1 (by first | exact Or.inl (by omega) | exact Or.inr (Or.inl (bb0 hbo (by omega))) | exact Or.inr (Or.inr (by assumption))) (by first | exact Or.inl (by omega) | exact Or.inr (Or.inl (bb0 hbo (by omega))) | exact Or.inr (Or.inr (by assumption)))⟩
                                refine g_iload X 3 rfl dX7_loan_184 ?_
                                refine g_iload X 1 rfl dX7_loan_186 ?_
                                refine g_if_eq X (show (1 : Int32).toInt = 1 by decide) (tgt := 200) dX7_loan_188 (by decide) (fun cq186 => ?_) (fun cq186 => ?_)
                                · exfalso; omega
                                · refine g_iload X 0 rfl dX7_loan_191 ?_
                                  refine g_if_ne X (show (1 : Int32).toInt = 1 by decide) (tgt := 200) dX7_loan_193 (by decide) (fun cq187 => ?_) (fun cq187 => ?_)
                                  · refine g_iconst X 0 dX7_loan_200 (by decide) ?_
                                    refine g_iadd X dX7_loan_201 (fun zq188 eq189 => ?_)
                                    have tq190 : zq188.toInt = b8_76 + 0 := add_nw eq189 e8_76 (show (0 : Int32).toInt = 0 by decide) (by omega)
                                    refine g_istore X [(8, .int zq188), (11, .int 1), (10, .int 1), (9, .int y9_76), (7, .int rq37), (6, .int rq33), (5, .int rq29), (0, .ref (ad 47)), (1, .int x1), (2, .int x2), (3, .int x3), (4, .int x4)] dX7_loan_202 (by decide) rfl ?_
                                    refine g_iinc X 3 (fun v => [(9, .int v), (8, .int zq188), (11, .int 1), (10, .int 1), (7, .int rq37), (6, .int rq33), (5, .int rq29), (0, .ref (ad 47)), (1, .int x1), (2, .int x2), (3, .int x3), (4, .int x4)]) dX7_loan_204 rfl (by decide) (fun _ => rfl) (fun zq191 eq192 => ?_)
                                    have tq193 : zq191.toInt = b9_76 + 1 := add_nw eq192 e9_76 (show (Int32.ofInt 1).toInt = 1 by decide) (by omega)
                                    refine g_goto X (tgt := 76) dX7_loan_207 (by decide) ?_
                                    refine g_sub [0, 1, 4, 5, 6, 7, 8, 9, 10, 11] rfl ?_
                                    exact ih76 zq191 _ tq193 zq188 _ tq190 (by omega) (by first | exact ctb_y i2 i1.1 (lo_y (bb1 hbo (by omega)) (bb0 hha (by omega))) (by omega) | exact ctb_n i2 i1.1 (lo_n1 (bb0 hbo (by omega))) (by omega) | exact ctb_n i2 i1.1 (lo_n2 (bb1 hha (by omega))) (by omega)) (by omega)
                                  · exfalso; omega
                        · refine g_iload X 0 rfl dX7_loan_134 ?_
                          refine g_if_eq X (show (1 : Int32).toInt = 1 by decide) (tgt := 153) dX7_loan_136 (by decide) (fun cq194 => ?_) (fun cq194 => ?_)
                          · exfalso; omega
                          · refine g_aload_n X 6 rfl dX7_loan_139 ?_
                            refine g_iload X 4 rfl dX7_loan_140 ?_
                            refine g_iload X 1 rfl dX7_loan_142 ?_
                            refine g_iload_n X 9 rfl dX7_loan_144 ?_
                            refine g_iload X 5 rfl dX7_loan_145 ?_
                            refine g_callV X m_X7_322 (c_X7_hasLine_E ad Mq rq33 tq35 y9_76 e9_76 x3 t3 rq29 tq31 Iq0 (by omega)) rfl (by decide) (Nat.le_of_ble_eq_true rfl) rfl dX7_loan_147 ?_
                            rintro _ _ ⟨rq195, aq196, rfl, tq197, hq198, rfl⟩
                            show G Γ Mq 150 [(10, .int 1), (9, .int y9_76), (8, .int y8_76), (7, .int rq37), (6, .int rq33), (5, .int rq29), (0, .ref (ad 47)), (1, .int x1), (2, .int x2), (3, .int x3), (4, .int x4)] [.int rq195]
                            refine g_if_ne X tq197 (tgt := 177) dX7_loan_150 (by decide) (fun cq199 => ?_) (fun cq199 => ?_)
                            · have pq200 : (hsM Mq aq34 b9_76 a3 aq30.toNat = true) := by first | omega | (rcases hq198 with ⟨z1, z2⟩ | ⟨z1, z2⟩ <;> first | exact z2 | (exfalso; omega))
                              refine g_iconst X 1 dX7_loan_177 (by decide) ?_
                              refine g_goto X (tgt := 182) dX7_loan_178 (by decide) ?_
                              refine g_istore X [(11, .int 1), (10, .int 1), (9, .int y9_76), (8, .int y8_76), (7, .int rq37), (6, .int rq33), (5, .int rq29), (0, .ref (ad 47)), (1, .int x1), (2, .int x2), (3, .int x3), (4, .int x4)] dX7_loan_182 (by decide) rfl ?_
                              have hha : ((1 : Int) = 1 ∧ (haM Mq a1 a2 a3 (aq30).toNat aq34 aq38 (b9_76).toNat = true)) ∨ ((1 : Int) = 0 ∧ ¬ (haM Mq a1 a2 a3 (aq30).toNat aq34 aq38 (b9_76).toNat = true)) := by first | exact Or.inl ⟨rfl, ha_y1 i1.1 (by omega) (bb1 hbo (by omega)) (by assumption)⟩ | exact Or.inl ⟨rfl, ha_y2 i1.1 (by omega) (bb1 hbo (by omega)) (by assumption)⟩ | exact Or.inr ⟨rfl, ha_n i1.1 (by first | exact Or.inl (by omega) | exact Or.inr (Or.inl (bb0 hbo (by omega))) | exact Or.inr (Or.inr (by assumption))) (by first | exact Or.inl (by omega) | exact Or.inr (Or.inl (bb0 hbo (by omega))) | exact Or.inr (Or.inr (by assumption)))⟩
                              refine g_iload X 3 rfl dX7_loan_184 ?_
                              refine g_iload X 1 rfl dX7_loan_186 ?_
                              refine g_if_eq X (show (1 : Int32).toInt = 1 by decide) (tgt := 200) dX7_loan_188 (by decide) (fun cq201 => ?_) (fun cq201 => ?_)
                              · exfalso; omega
                              · refine g_iload X 0 rfl dX7_loan_191 ?_
                                refine g_if_ne X (show (1 : Int32).toInt = 1 by decide) (tgt := 200) dX7_loan_193 (by decide) (fun cq202 => ?_) (fun cq202 => ?_)
                                · refine g_iconst X 0 dX7_loan_200 (by decide) ?_
                                  refine g_iadd X dX7_loan_201 (fun zq203 eq204 => ?_)
                                  have tq205 : zq203.toInt = b8_76 + 0 := add_nw eq204 e8_76 (show (0 : Int32).toInt = 0 by decide) (by omega)
                                  refine g_istore X [(8, .int zq203), (11, .int 1), (10, .int 1), (9, .int y9_76), (7, .int rq37), (6, .int rq33), (5, .int rq29), (0, .ref (ad 47)), (1, .int x1), (2, .int x2), (3, .int x3), (4, .int x4)] dX7_loan_202 (by decide) rfl ?_
                                  refine g_iinc X 3 (fun v => [(9, .int v), (8, .int zq203), (11, .int 1), (10, .int 1), (7, .int rq37), (6, .int rq33), (5, .int rq29), (0, .ref (ad 47)), (1, .int x1), (2, .int x2), (3, .int x3), (4, .int x4)]) dX7_loan_204 rfl (by decide) (fun _ => rfl) (fun zq206 eq207 => ?_)
                                  have tq208 : zq206.toInt = b9_76 + 1 := add_nw eq207 e9_76 (show (Int32.ofInt 1).toInt = 1 by decide) (by omega)
                                  refine g_goto X (tgt := 76) dX7_loan_207 (by decide) ?_
                                  refine g_sub [0, 1, 4, 5, 6, 7, 8, 9, 10, 11] rfl ?_
                                  exact ih76 zq206 _ tq208 zq203 _ tq205 (by omega) (by first | exact ctb_y i2 i1.1 (lo_y (bb1 hbo (by omega)) (bb0 hha (by omega))) (by omega) | exact ctb_n i2 i1.1 (lo_n1 (bb0 hbo (by omega))) (by omega) | exact ctb_n i2 i1.1 (lo_n2 (bb1 hha (by omega))) (by omega)) (by omega)
                                · exfalso; omega
                            · have pq209 : ¬ (hsM Mq aq34 b9_76 a3 aq30.toNat = true) := by first | omega | (rcases hq198 with ⟨z1, z2⟩ | ⟨z1, z2⟩ <;> first | exact z2 | (exfalso; omega))
                              refine g_iload X 3 rfl dX7_loan_153 ?_
                              refine g_if_lt X tq39 (tgt := 181) dX7_loan_155 (by decide) (fun cq210 => ?_) (fun cq210 => ?_)
                              · refine g_iconst X 0 dX7_loan_181 (by decide) ?_
                                refine g_istore X [(11, .int 0), (10, .int 1), (9, .int y9_76), (8, .int y8_76), (7, .int rq37), (6, .int rq33), (5, .int rq29), (0, .ref (ad 47)), (1, .int x1), (2, .int x2), (3, .int x3), (4, .int x4)] dX7_loan_182 (by decide) rfl ?_
                                have hha : ((0 : Int) = 1 ∧ (haM Mq a1 a2 a3 (aq30).toNat aq34 aq38 (b9_76).toNat = true)) ∨ ((0 : Int) = 0 ∧ ¬ (haM Mq a1 a2 a3 (aq30).toNat aq34 aq38 (b9_76).toNat = true)) := by first | exact Or.inl ⟨rfl, ha_y1 i1.1 (by omega) (bb1 hbo (by omega)) (by assumption)⟩ | exact Or.inl ⟨rfl, ha_y2 i1.1 (by omega) (bb1 hbo (by omega)) (by assumption)⟩ | exact Or.inr ⟨rfl, ha_n i1.1 (by first | exact Or.inl (by omega) | exact Or.inr (Or.inl (bb0 hbo (by omega))) | exact Or.inr (Or.inr (by assumption))) (by first | exact Or.inl (by omega) | exact Or.inr (Or.inl (bb0 hbo (by omega))) | exact Or.inr (Or.inr (by assumption)))⟩
                                refine g_iload X 3 rfl dX7_loan_184 ?_
                                refine g_iload X 1 rfl dX7_loan_186 ?_
                                refine g_if_eq X (show (1 : Int32).toInt = 1 by decide) (tgt := 200) dX7_loan_188 (by decide) (fun cq211 => ?_) (fun cq211 => ?_)
                                · exfalso; omega
                                · refine g_iload X 0 rfl dX7_loan_191 ?_
                                  refine g_if_ne X (show (0 : Int32).toInt = 0 by decide) (tgt := 200) dX7_loan_193 (by decide) (fun cq212 => ?_) (fun cq212 => ?_)
                                  · exfalso; omega
                                  · refine g_iconst X 1 dX7_loan_196 (by decide) ?_
                                    refine g_goto X (tgt := 201) dX7_loan_197 (by decide) ?_
                                    refine g_iadd X dX7_loan_201 (fun zq213 eq214 => ?_)
                                    have tq215 : zq213.toInt = b8_76 + 1 := add_nw eq214 e8_76 (show (1 : Int32).toInt = 1 by decide) (by omega)
                                    refine g_istore X [(8, .int zq213), (11, .int 0), (10, .int 1), (9, .int y9_76), (7, .int rq37), (6, .int rq33), (5, .int rq29), (0, .ref (ad 47)), (1, .int x1), (2, .int x2), (3, .int x3), (4, .int x4)] dX7_loan_202 (by decide) rfl ?_
                                    refine g_iinc X 3 (fun v => [(9, .int v), (8, .int zq213), (11, .int 0), (10, .int 1), (7, .int rq37), (6, .int rq33), (5, .int rq29), (0, .ref (ad 47)), (1, .int x1), (2, .int x2), (3, .int x3), (4, .int x4)]) dX7_loan_204 rfl (by decide) (fun _ => rfl) (fun zq216 eq217 => ?_)
                                    have tq218 : zq216.toInt = b9_76 + 1 := add_nw eq217 e9_76 (show (Int32.ofInt 1).toInt = 1 by decide) (by omega)
                                    refine g_goto X (tgt := 76) dX7_loan_207 (by decide) ?_
                                    refine g_sub [0, 1, 4, 5, 6, 7, 8, 9, 10, 11] rfl ?_
                                    exact ih76 zq216 _ tq218 zq213 _ tq215 (by omega) (by first | exact ctb_y i2 i1.1 (lo_y (bb1 hbo (by omega)) (bb0 hha (by omega))) (by omega) | exact ctb_n i2 i1.1 (lo_n1 (bb0 hbo (by omega))) (by omega) | exact ctb_n i2 i1.1 (lo_n2 (bb1 hha (by omega))) (by omega)) (by omega)
                              · refine g_iload X 0 rfl dX7_loan_158 ?_
                                refine g_if_eq X (show (1 : Int32).toInt = 1 by decide) (tgt := 181) dX7_loan_160 (by decide) (fun cq219 => ?_) (fun cq219 => ?_)
                                · exfalso; omega
                                · refine g_aload_n X 6 rfl dX7_loan_163 ?_
                                  refine g_iload X 3 rfl dX7_loan_164 ?_
                                  refine g_iload X 1 rfl dX7_loan_166 ?_
                                  refine g_iload_n X 9 rfl dX7_loan_168 ?_
                                  refine g_iload X 5 rfl dX7_loan_169 ?_
                                  refine g_callV X m_X7_322 (c_X7_hasLine_E ad Mq rq37 tq39 y9_76 e9_76 x3 t3 rq29 tq31 Iq0 (by omega)) rfl (by decide) (Nat.le_of_ble_eq_true rfl) rfl dX7_loan_171 ?_
                                  rintro _ _ ⟨rq220, aq221, rfl, tq222, hq223, rfl⟩
                                  show G Γ Mq 174 [(10, .int 1), (9, .int y9_76), (8, .int y8_76), (7, .int rq37), (6, .int rq33), (5, .int rq29), (0, .ref (ad 47)), (1, .int x1), (2, .int x2), (3, .int x3), (4, .int x4)] [.int rq220]
                                  refine g_if_eq X tq222 (tgt := 181) dX7_loan_174 (by decide) (fun cq224 => ?_) (fun cq224 => ?_)
                                  · have pq225 : ¬ (hsM Mq aq38 b9_76 a3 aq30.toNat = true) := by first | omega | (rcases hq223 with ⟨z1, z2⟩ | ⟨z1, z2⟩ <;> first | exact z2 | (exfalso; omega))
                                    refine g_iconst X 0 dX7_loan_181 (by decide) ?_
                                    refine g_istore X [(11, .int 0), (10, .int 1), (9, .int y9_76), (8, .int y8_76), (7, .int rq37), (6, .int rq33), (5, .int rq29), (0, .ref (ad 47)), (1, .int x1), (2, .int x2), (3, .int x3), (4, .int x4)] dX7_loan_182 (by decide) rfl ?_
                                    have hha : ((0 : Int) = 1 ∧ (haM Mq a1 a2 a3 (aq30).toNat aq34 aq38 (b9_76).toNat = true)) ∨ ((0 : Int) = 0 ∧ ¬ (haM Mq a1 a2 a3 (aq30).toNat aq34 aq38 (b9_76).toNat = true)) := by first | exact Or.inl ⟨rfl, ha_y1 i1.1 (by omega) (bb1 hbo (by omega)) (by assumption)⟩ | exact Or.inl ⟨rfl, ha_y2 i1.1 (by omega) (bb1 hbo (by omega)) (by assumption)⟩ | exact Or.inr ⟨rfl, ha_n i1.1 (by first | exact Or.inl (by omega) | exact Or.inr (Or.inl (bb0 hbo (by omega))) | exact Or.inr (Or.inr (by assumption))) (by first | exact Or.inl (by omega) | exact Or.inr (Or.inl (bb0 hbo (by omega))) | exact Or.inr (Or.inr (by assumption)))⟩
                                    refine g_iload X 3 rfl dX7_loan_184 ?_
                                    refine g_iload X 1 rfl dX7_loan_186 ?_
                                    refine g_if_eq X (show (1 : Int32).toInt = 1 by decide) (tgt := 200) dX7_loan_188 (by decide) (fun cq226 => ?_) (fun cq226 => ?_)
                                    · exfalso; omega
                                    · refine g_iload X 0 rfl dX7_loan_191 ?_
                                      refine g_if_ne X (show (0 : Int32).toInt = 0 by decide) (tgt := 200) dX7_loan_193 (by decide) (fun cq227 => ?_) (fun cq227 => ?_)
                                      · exfalso; omega
                                      · refine g_iconst X 1 dX7_loan_196 (by decide) ?_
                                        refine g_goto X (tgt := 201) dX7_loan_197 (by decide) ?_
                                        refine g_iadd X dX7_loan_201 (fun zq228 eq229 => ?_)
                                        have tq230 : zq228.toInt = b8_76 + 1 := add_nw eq229 e8_76 (show (1 : Int32).toInt = 1 by decide) (by omega)
                                        refine g_istore X [(8, .int zq228), (11, .int 0), (10, .int 1), (9, .int y9_76), (7, .int rq37), (6, .int rq33), (5, .int rq29), (0, .ref (ad 47)), (1, .int x1), (2, .int x2), (3, .int x3), (4, .int x4)] dX7_loan_202 (by decide) rfl ?_
                                        refine g_iinc X 3 (fun v => [(9, .int v), (8, .int zq228), (11, .int 0), (10, .int 1), (7, .int rq37), (6, .int rq33), (5, .int rq29), (0, .ref (ad 47)), (1, .int x1), (2, .int x2), (3, .int x3), (4, .int x4)]) dX7_loan_204 rfl (by decide) (fun _ => rfl) (fun zq231 eq232 => ?_)
                                        have tq233 : zq231.toInt = b9_76 + 1 := add_nw eq232 e9_76 (show (Int32.ofInt 1).toInt = 1 by decide) (by omega)
                                        refine g_goto X (tgt := 76) dX7_loan_207 (by decide) ?_
                                        refine g_sub [0, 1, 4, 5, 6, 7, 8, 9, 10, 11] rfl ?_
                                        exact ih76 zq231 _ tq233 zq228 _ tq230 (by omega) (by first | exact ctb_y i2 i1.1 (lo_y (bb1 hbo (by omega)) (bb0 hha (by omega))) (by omega) | exact ctb_n i2 i1.1 (lo_n1 (bb0 hbo (by omega))) (by omega) | exact ctb_n i2 i1.1 (lo_n2 (bb1 hha (by omega))) (by omega)) (by omega)
                                  · have pq234 : (hsM Mq aq38 b9_76 a3 aq30.toNat = true) := by first | omega | (rcases hq223 with ⟨z1, z2⟩ | ⟨z1, z2⟩ <;> first | exact z2 | (exfalso; omega))
                                    refine g_iconst X 1 dX7_loan_177 (by decide) ?_
                                    refine g_goto X (tgt := 182) dX7_loan_178 (by decide) ?_
                                    refine g_istore X [(11, .int 1), (10, .int 1), (9, .int y9_76), (8, .int y8_76), (7, .int rq37), (6, .int rq33), (5, .int rq29), (0, .ref (ad 47)), (1, .int x1), (2, .int x2), (3, .int x3), (4, .int x4)] dX7_loan_182 (by decide) rfl ?_
                                    have hha : ((1 : Int) = 1 ∧ (haM Mq a1 a2 a3 (aq30).toNat aq34 aq38 (b9_76).toNat = true)) ∨ ((1 : Int) = 0 ∧ ¬ (haM Mq a1 a2 a3 (aq30).toNat aq34 aq38 (b9_76).toNat = true)) := by first | exact Or.inl ⟨rfl, ha_y1 i1.1 (by omega) (bb1 hbo (by omega)) (by assumption)⟩ | exact Or.inl ⟨rfl, ha_y2 i1.1 (by omega) (bb1 hbo (by omega)) (by assumption)⟩ | exact Or.inr ⟨rfl, ha_n i1.1 (by first | exact Or.inl (by omega) | exact Or.inr (Or.inl (bb0 hbo (by omega))) | exact Or.inr (Or.inr (by assumption))) (by first | exact Or.inl (by omega) | exact Or.inr (Or.inl (bb0 hbo (by omega))) | exact Or.inr (Or.inr (by assumption)))⟩
                                    refine g_iload X 3 rfl dX7_loan_184 ?_
                                    refine g_iload X 1 rfl dX7_loan_186 ?_
                                    refine g_if_eq X (show (1 : Int32).toInt = 1 by decide) (tgt := 200) dX7_loan_188 (by decide) (fun cq235 => ?_) (fun cq235 => ?_)
                                    · exfalso; omega
                                    · refine g_iload X 0 rfl dX7_loan_191 ?_
                                      refine g_if_ne X (show (1 : Int32).toInt = 1 by decide) (tgt := 200) dX7_loan_193 (by decide) (fun cq236 => ?_) (fun cq236 => ?_)
                                      · refine g_iconst X 0 dX7_loan_200 (by decide) ?_
                                        refine g_iadd X dX7_loan_201 (fun zq237 eq238 => ?_)
                                        have tq239 : zq237.toInt = b8_76 + 0 := add_nw eq238 e8_76 (show (0 : Int32).toInt = 0 by decide) (by omega)
                                        refine g_istore X [(8, .int zq237), (11, .int 1), (10, .int 1), (9, .int y9_76), (7, .int rq37), (6, .int rq33), (5, .int rq29), (0, .ref (ad 47)), (1, .int x1), (2, .int x2), (3, .int x3), (4, .int x4)] dX7_loan_202 (by decide) rfl ?_
                                        refine g_iinc X 3 (fun v => [(9, .int v), (8, .int zq237), (11, .int 1), (10, .int 1), (7, .int rq37), (6, .int rq33), (5, .int rq29), (0, .ref (ad 47)), (1, .int x1), (2, .int x2), (3, .int x3), (4, .int x4)]) dX7_loan_204 rfl (by decide) (fun _ => rfl) (fun zq240 eq241 => ?_)
                                        have tq242 : zq240.toInt = b9_76 + 1 := add_nw eq241 e9_76 (show (Int32.ofInt 1).toInt = 1 by decide) (by omega)
                                        refine g_goto X (tgt := 76) dX7_loan_207 (by decide) ?_
                                        refine g_sub [0, 1, 4, 5, 6, 7, 8, 9, 10, 11] rfl ?_
                                        exact ih76 zq240 _ tq242 zq237 _ tq239 (by omega) (by first | exact ctb_y i2 i1.1 (lo_y (bb1 hbo (by omega)) (bb0 hha (by omega))) (by omega) | exact ctb_n i2 i1.1 (lo_n1 (bb0 hbo (by omega))) (by omega) | exact ctb_n i2 i1.1 (lo_n2 (bb1 hha (by omega))) (by omega)) (by omega)
                                      · exfalso; omega
            refine g_sub [0, 1, 2, 3, 4, 5, 6, 7, 8, 9] rfl ?_
            exact lp76 _ 0 _ (show (0 : Int32).toInt = 0 by decide) 0 _ (show (0 : Int32).toInt = 0 by decide) (by omega) rfl (Nat.lt_succ_self _)
          · refine g_bipush X (-2) dX7_loan_39 (by decide) ?_
            exact g_iret X dX7_loan_41 ⟨_, _, rfl, (show ((-2) : Int32).toInt = (-2) by decide), (by first | exact Or.inl ⟨by omega, rfl⟩ | exact Or.inr (Or.inl ⟨by omega, by omega, rfl⟩) | exact Or.inr (Or.inr ⟨by omega, by omega, (by have e : b9_76 = (Mq.1 47 12).toInt := (by omega); rw [e] at i2; rw [i2, hmA, hmB, hup])⟩)), rfl⟩
      · have pq243 : ¬ (-1 ≤ a4 ∧ a4 ≤ ((Mq.1 47 53)).toInt) := by first | omega | (rcases hq18 with ⟨z1, z2⟩ | ⟨z1, z2⟩ <;> first | exact z2 | (exfalso; omega))
        refine g_iconst X (-1) dX7_loan_25 (by decide) ?_
        exact g_iret X dX7_loan_26 ⟨_, _, rfl, (show ((-1) : Int32).toInt = (-1) by decide), (by first | exact Or.inl ⟨by omega, rfl⟩ | exact Or.inr (Or.inl ⟨by omega, by omega, rfl⟩) | exact Or.inr (Or.inr ⟨by omega, by omega, (by have e : b9_76 = (Mq.1 47 12).toInt := (by omega); rw [e] at i2; rw [i2, hmA, hmB, hup])⟩)), rfl⟩
set_option maxHeartbeats 4000000 in
set_option maxRecDepth 4000 in
theorem c_X7_whose_E (ad : Nat → Nat) (Mq : Mem) (x1 : Int32) {a1 : Int} (t1 : x1.toInt = a1) (x2 : Int32) {a2 : Int} (t2 : x2.toInt = a2) (x3 : Int32) {a3 : Int} (t3 : x3.toInt = a3) (Iq0 : Iv TM Mq) : Ctr ad yX7_whose cX7_whose 9 (some .int) 2 [.ref (ad 47), .int x1, .int x2, .int x3] Mq (fun v M' => ∃ (r : Int32) (a : Int), v = some (.int r) ∧ r.toInt = a ∧ (((¬ ((0 ≤ a1 ∧ a1 < (Mq.1 47 12).toInt) ∧ (-1 ≤ a3 ∧ a3 ≤ (Mq.1 47 53).toInt))) ∧ (a = -1)) ∨ (¬ (¬ ((0 ≤ a1 ∧ a1 < (Mq.1 47 12).toInt) ∧ (-1 ≤ a3 ∧ a3 ≤ (Mq.1 47 53).toInt))) ∧ (¬ (0 ≤ a2 ∧ a2 ≤ 999)) ∧ (a = -2)) ∨ (¬ (¬ ((0 ≤ a1 ∧ a1 < (Mq.1 47 12).toInt) ∧ (-1 ≤ a3 ∧ a3 ≤ (Mq.1 47 53).toInt))) ∧ ¬ (¬ (0 ≤ a2 ∧ a2 ≤ 999)) ∧ (a = (mbo (fun v => vil (eW Mq 80) (fun s : Nat => hsM Mq s a1 a2 (upk a3 (Mq.1 47 53).toInt).toNat) ((Mq.1 47 52).toInt).toNat v) 10).2))) ∧ Mq = M') := by
  refine ctr_of (L := [(0, .ref (ad 47)), (1, .int x1), (2, .int x2), (3, .int x3)]) (by decide) (Nat.le_of_ble_eq_true rfl) rfl ?_
  intro Γ X
  have X : gX Γ cX7_whose RX7 9 (some .int) 2 ad _ := X
  have g11 := ig_47_11 Iq0
  have g12 := ig_47_12 Iq0
  have g14 := ig_47_14 Iq0
  have g32 := ig_47_32 Iq0
  have g43 := ig_47_43 Iq0
  have g44 := ig_47_44 Iq0
  have g52 := ig_47_52 Iq0
  have g53 := ig_47_53 Iq0
  have g59 := ig_47_59 Iq0
  refine g_aload_n X 0 rfl dX7_whose_0 ?_
  refine g_iload_n X 1 rfl dX7_whose_1 ?_
  refine g_callV X m_X7_186 (c_X7_isLine ad Mq x1 t1) rfl (by decide) (Nat.le_of_ble_eq_true rfl) rfl dX7_whose_2 ?_
  rintro _ _ ⟨rq1, aq2, rfl, tq3, hq4, rfl⟩
  show G Γ Mq 5 [(0, .ref (ad 47)), (1, .int x1), (2, .int x2), (3, .int x3)] [.int rq1]
  refine g_if_eq X tq3 (tgt := 16) dX7_whose_5 (by decide) (fun cq5 => ?_) (fun cq5 => ?_)
  · have pq6 : ¬ (0 ≤ a1 ∧ a1 < ((Mq.1 47 12)).toInt) := by first | omega | (rcases hq4 with ⟨z1, z2⟩ | ⟨z1, z2⟩ <;> first | exact z2 | (exfalso; omega))
    refine g_iconst X (-1) dX7_whose_16 (by decide) ?_
    exact g_iret X dX7_whose_17 ⟨_, _, rfl, (show ((-1) : Int32).toInt = (-1) by decide), (by first | exact Or.inl ⟨by omega, rfl⟩ | exact Or.inr (Or.inl ⟨by omega, by omega, rfl⟩) | exact Or.inr (Or.inr ⟨by omega, by omega, (by have e : b6_38 = 10 := (by omega); rw [e] at i2; exact i2.2)⟩)), rfl⟩
  · have pq7 : (0 ≤ a1 ∧ a1 < ((Mq.1 47 12)).toInt) := by first | omega | (rcases hq4 with ⟨z1, z2⟩ | ⟨z1, z2⟩ <;> first | exact z2 | (exfalso; omega))
    refine g_aload_n X 0 rfl dX7_whose_8 ?_
    refine g_iload_n X 3 rfl dX7_whose_9 ?_
    refine g_callV X m_X7_326 (c_X7_isKnown ad Mq x3 t3) rfl (by decide) (Nat.le_of_ble_eq_true rfl) rfl dX7_whose_10 ?_
    rintro _ _ ⟨rq8, aq9, rfl, tq10, hq11, rfl⟩
    show G Γ Mq 13 [(0, .ref (ad 47)), (1, .int x1), (2, .int x2), (3, .int x3)] [.int rq8]
    refine g_if_ne X tq10 (tgt := 18) dX7_whose_13 (by decide) (fun cq12 => ?_) (fun cq12 => ?_)
    · have pq13 : (-1 ≤ a3 ∧ a3 ≤ ((Mq.1 47 53)).toInt) := by first | omega | (rcases hq11 with ⟨z1, z2⟩ | ⟨z1, z2⟩ <;> first | exact z2 | (exfalso; omega))
      refine g_iload_n X 2 rfl dX7_whose_18 ?_
      refine g_callS X m_X7_263 (c_X7_isYear ad Mq x2 t2) rfl (by decide) (Nat.le_of_ble_eq_true rfl) rfl dX7_whose_19 ?_
      rintro _ _ ⟨rq14, aq15, rfl, tq16, hq17, rfl⟩
      show G Γ Mq 22 [(0, .ref (ad 47)), (1, .int x1), (2, .int x2), (3, .int x3)] [.int rq14]
      refine g_if_ne X tq16 (tgt := 28) dX7_whose_22 (by decide) (fun cq18 => ?_) (fun cq18 => ?_)
      · have pq19 : (0 ≤ a2 ∧ a2 ≤ 999) := by first | omega | (rcases hq17 with ⟨z1, z2⟩ | ⟨z1, z2⟩ <;> first | exact z2 | (exfalso; omega))
        refine g_bipush X (-5) dX7_whose_28 (by decide) ?_
        refine g_istore X [(4, .int (-5)), (0, .ref (ad 47)), (1, .int x1), (2, .int x2), (3, .int x3)] dX7_whose_30 (by decide) rfl ?_
        refine g_iconst X 0 dX7_whose_32 (by decide) ?_
        refine g_istore X [(5, .int 0), (4, .int (-5)), (0, .ref (ad 47)), (1, .int x1), (2, .int x2), (3, .int x3)] dX7_whose_33 (by decide) rfl ?_
        refine g_iconst X 0 dX7_whose_35 (by decide) ?_
        refine g_istore X [(6, .int 0), (5, .int 0), (4, .int (-5)), (0, .ref (ad 47)), (1, .int x1), (2, .int x2), (3, .int x3)] dX7_whose_36 (by decide) rfl ?_
        have lp38 : ∀ n : Nat, ∀ (y6_38 : Int32) (b6_38 : Int), y6_38.toInt = b6_38 → ∀ (y5_38 : Int32) (b5_38 : Int), y5_38.toInt = b5_38 → ∀ (y4_38 : Int32) (b4_38 : Int), y4_38.toInt = b4_38 → (0 ≤ b6_38 ∧ b6_38 ≤ 10) → (b5_38 = (mbo (fun v => vil (eW Mq 80) (fun s : Nat => hsM Mq s a1 a2 (upk a3 (Mq.1 47 53).toInt).toNat) ((Mq.1 47 52).toInt).toNat v) (b6_38).toNat).1 ∧ b4_38 = (mbo (fun v => vil (eW Mq 80) (fun s : Nat => hsM Mq s a1 a2 (upk a3 (Mq.1 47 53).toInt).toNat) ((Mq.1 47 52).toInt).toNat v) (b6_38).toNat).2) → (10 - b6_38).toNat < n → G Γ Mq 38 [(6, .int y6_38), (5, .int y5_38), (4, .int y4_38), (0, .ref (ad 47)), (1, .int x1), (2, .int x2), (3, .int x3)] [] := by
          intro n
          induction n with
          | zero => intro y6_38 b6_38 e6_38 y5_38 b5_38 e5_38 y4_38 b4_38 e4_38 i1 i2 hm; exact absurd hm (Nat.not_lt_zero _)
          | succ n ih38 =>
            intro y6_38 b6_38 e6_38 y5_38 b5_38 e5_38 y4_38 b4_38 e4_38 i1 i2 hm38
            refine g_iload X 0 rfl dX7_whose_38 ?_
            refine g_bipush X 10 dX7_whose_40 (by decide) ?_
            refine g_icmp_ge X e6_38 (show (10 : Int32).toInt = 10 by decide) (tgt := 128) dX7_whose_42 (by decide) (fun cq20 => ?_) (fun cq20 => ?_)
            · refine g_iload X 2 rfl dX7_whose_128 ?_
              exact g_iret X dX7_whose_130 ⟨_, _, rfl, e4_38, (by first | exact Or.inl ⟨by omega, rfl⟩ | exact Or.inr (Or.inl ⟨by omega, by omega, rfl⟩) | exact Or.inr (Or.inr ⟨by omega, by omega, (by have e : b6_38 = 10 := (by omega); rw [e] at i2; exact i2.2)⟩)), rfl⟩
            · refine g_iconst X 0 dX7_whose_45 (by decide) ?_
              refine g_istore X [(7, .int 0), (6, .int y6_38), (5, .int y5_38), (4, .int y4_38), (0, .ref (ad 47)), (1, .int x1), (2, .int x2), (3, .int x3)] dX7_whose_46 (by decide) rfl ?_
              refine g_iconst X 0 dX7_whose_48 (by decide) ?_
              refine g_istore X [(8, .int 0), (7, .int 0), (6, .int y6_38), (5, .int y5_38), (4, .int y4_38), (0, .ref (ad 47)), (1, .int x1), (2, .int x2), (3, .int x3)] dX7_whose_49 (by decide) rfl ?_
              have lp51 : ∀ n : Nat, ∀ (y8_51 : Int32) (b8_51 : Int), y8_51.toInt = b8_51 → ∀ (y7_51 : Int32) (b7_51 : Int), y7_51.toInt = b7_51 → (0 ≤ b8_51 ∧ b8_51 ≤ (Mq.1 47 52).toInt) → (b7_51 = vil (eW Mq 80) (fun s : Nat => hsM Mq s a1 a2 (upk a3 (Mq.1 47 53).toInt).toNat) (b8_51).toNat (b6_38).toNat) → ((Mq.1 47 52).toInt - b8_51).toNat < n → G Γ Mq 51 [(8, .int y8_51), (7, .int y7_51), (6, .int y6_38), (5, .int y5_38), (4, .int y4_38), (0, .ref (ad 47)), (1, .int x1), (2, .int x2), (3, .int x3)] [] := by
                intro n
                induction n with
                | zero => intro y8_51 b8_51 e8_51 y7_51 b7_51 e7_51 j1 j2 hm; exact absurd hm (Nat.not_lt_zero _)
                | succ n ih51 =>
                  intro y8_51 b8_51 e8_51 y7_51 b7_51 e7_51 j1 j2 hm51
                  have hvr := vil_rng (eW Mq 80) (fun s : Nat => hsM Mq s a1 a2 (upk a3 (Mq.1 47 53).toInt).toNat) (b8_51).toNat (b6_38).toNat
                  have q80 : eW Mq 80 (b8_51).toNat = (Mq.1 80 (b8_51).toNat).toInt := rfl
                  refine g_iload X 0 rfl dX7_whose_51 ?_
                  refine g_aload_n X 5 rfl dX7_whose_53 ?_
                  refine g_geti X f_X7_313 dX7_whose_54 (x := Mq.1 47 52) rfl ?_
                  have bq21 := ig_47_52 Iq0
                  refine g_icmp_ge X e8_51 rfl (tgt := 104) dX7_whose_57 (by decide) (fun cq22 => ?_) (fun cq22 => ?_)
                  · refine g_iload X 1 rfl dX7_whose_104 ?_
                    refine g_iload X 3 rfl dX7_whose_106 ?_
                    refine g_icmp_gt X e7_51 e5_38 (tgt := 114) dX7_whose_108 (by decide) (fun cq23 => ?_) (fun cq23 => ?_)
                    · refine g_iload X 1 rfl dX7_whose_114 ?_
                      refine g_istore X [(5, .int y7_51), (8, .int y8_51), (7, .int y7_51), (6, .int y6_38), (4, .int y4_38), (0, .ref (ad 47)), (1, .int x1), (2, .int x2), (3, .int x3)] dX7_whose_116 (by decide) rfl ?_
                      refine g_iload X 3 rfl dX7_whose_118 ?_
                      refine g_istore X [(4, .int y6_38), (5, .int y7_51), (8, .int y8_51), (7, .int y7_51), (6, .int y6_38), (0, .ref (ad 47)), (1, .int x1), (2, .int x2), (3, .int x3)] dX7_whose_120 (by decide) rfl ?_
                      refine g_iinc X 4 (fun v => [(6, .int v), (4, .int y6_38), (5, .int y7_51), (8, .int y8_51), (7, .int y7_51), (0, .ref (ad 47)), (1, .int x1), (2, .int x2), (3, .int x3)]) dX7_whose_122 rfl (by decide) (fun _ => rfl) (fun zq24 eq25 => ?_)
                      have tq26 : zq24.toInt = b6_38 + 1 := add_nw eq25 e6_38 (show (Int32.ofInt 1).toInt = 1 by decide) (by omega)
                      refine g_goto X (tgt := 38) dX7_whose_125 (by decide) ?_
                      refine g_sub [0, 2, 1, 5, 6, 7, 8] rfl ?_
                      have hG : b7_51 = (fun v => vil (eW Mq 80) (fun s : Nat => hsM Mq s a1 a2 (upk a3 (Mq.1 47 53).toInt).toNat) ((Mq.1 47 52).toInt).toNat v) (b6_38).toNat := by rw [j2, show b8_51.toNat = ((Mq.1 47 52).toInt).toNat by omega]
                      exact ih38 zq24 _ tq26 y7_51 _ e7_51 y6_38 _ e6_38 (by omega) (by first | exact mbx_n (f := (fun v => vil (eW Mq 80) (fun s : Nat => hsM Mq s a1 a2 (upk a3 (Mq.1 47 53).toInt).toNat) ((Mq.1 47 52).toInt).toNat v)) i2 hG (by omega) (by omega) | exact mbx_y (f := (fun v => vil (eW Mq 80) (fun s : Nat => hsM Mq s a1 a2 (upk a3 (Mq.1 47 53).toInt).toNat) ((Mq.1 47 52).toInt).toNat v)) i2 i1.1 hG (by omega) (by omega)) (by omega)
                    · refine g_goto X (tgt := 122) dX7_whose_111 (by decide) ?_
                      refine g_iinc X 2 (fun v => [(6, .int v), (8, .int y8_51), (7, .int y7_51), (5, .int y5_38), (4, .int y4_38), (0, .ref (ad 47)), (1, .int x1), (2, .int x2), (3, .int x3)]) dX7_whose_122 rfl (by decide) (fun _ => rfl) (fun zq27 eq28 => ?_)
                      have tq29 : zq27.toInt = b6_38 + 1 := add_nw eq28 e6_38 (show (Int32.ofInt 1).toInt = 1 by decide) (by omega)
                      refine g_goto X (tgt := 38) dX7_whose_125 (by decide) ?_
                      refine g_sub [0, 3, 4, 5, 6, 7, 8] rfl ?_
                      have hG : b7_51 = (fun v => vil (eW Mq 80) (fun s : Nat => hsM Mq s a1 a2 (upk a3 (Mq.1 47 53).toInt).toNat) ((Mq.1 47 52).toInt).toNat v) (b6_38).toNat := by rw [j2, show b8_51.toNat = ((Mq.1 47 52).toInt).toNat by omega]
                      exact ih38 zq27 _ tq29 y5_38 _ e5_38 y4_38 _ e4_38 (by omega) (by first | exact mbx_n (f := (fun v => vil (eW Mq 80) (fun s : Nat => hsM Mq s a1 a2 (upk a3 (Mq.1 47 53).toInt).toNat) ((Mq.1 47 52).toInt).toNat v)) i2 hG (by omega) (by omega) | exact mbx_y (f := (fun v => vil (eW Mq 80) (fun s : Nat => hsM Mq s a1 a2 (upk a3 (Mq.1 47 53).toInt).toNat) ((Mq.1 47 52).toInt).toNat v)) i2 i1.1 hG (by omega) (by omega)) (by omega)
                  · refine g_iload X 1 rfl dX7_whose_60 ?_
                    refine g_aload_n X 5 rfl dX7_whose_62 ?_
                    refine g_getr X f_X7_110 dX7_whose_63 ?_
                    refine g_iload X 0 rfl dX7_whose_66 ?_
                    refine g_iald X la_80 e8_51 dX7_whose_68 (by omega) (x := Mq.1 80 b8_51.toNat) rfl ?_
                    refine g_iload X 2 rfl dX7_whose_69 ?_
                    refine g_icmp_ne X rfl e6_38 (tgt := 94) dX7_whose_71 (by decide) (fun cq30 => ?_) (fun cq30 => ?_)
                    · refine g_iconst X 0 dX7_whose_94 (by decide) ?_
                      refine g_iadd X dX7_whose_95 (fun zq31 eq32 => ?_)
                      have tq33 : zq31.toInt = b7_51 + 0 := add_nw eq32 e7_51 (show (0 : Int32).toInt = 0 by decide) (by omega)
                      refine g_istore X [(7, .int zq31), (8, .int y8_51), (6, .int y6_38), (5, .int y5_38), (4, .int y4_38), (0, .ref (ad 47)), (1, .int x1), (2, .int x2), (3, .int x3)] dX7_whose_96 (by decide) rfl ?_
                      refine g_iinc X 1 (fun v => [(8, .int v), (7, .int zq31), (6, .int y6_38), (5, .int y5_38), (4, .int y4_38), (0, .ref (ad 47)), (1, .int x1), (2, .int x2), (3, .int x3)]) dX7_whose_98 rfl (by decide) (fun _ => rfl) (fun zq34 eq35 => ?_)
                      have tq36 : zq34.toInt = b8_51 + 1 := add_nw eq35 e8_51 (show (Int32.ofInt 1).toInt = 1 by decide) (by omega)
                      refine g_goto X (tgt := 51) dX7_whose_101 (by decide) ?_
                      refine g_sub [0, 1, 2, 3, 4, 5, 6, 7, 8] rfl ?_
                      exact ih51 zq34 _ tq36 zq31 _ tq33 (by omega) (by first | exact vl_n j2 (Or.inl (by omega)) (by omega) | (rcases hhs with ⟨z1, z2⟩ | ⟨z1, z2⟩ <;> first | (exfalso; omega) | exact vl_y (hb := (fun s : Nat => hsM Mq s a1 a2 (upk a3 (Mq.1 47 53).toInt).toNat)) j2 (by omega) (by show hsM Mq (b8_51.toNat : Nat) a1 a2 (upk a3 (Mq.1 47 53).toInt).toNat = true; rw [tn_cast j1.1]; exact z2) (by omega) | exact vl_n (hb := (fun s : Nat => hsM Mq s a1 a2 (upk a3 (Mq.1 47 53).toInt).toNat)) j2 (Or.inr (by show ¬ (hsM Mq (b8_51.toNat : Nat) a1 a2 (upk a3 (Mq.1 47 53).toInt).toNat = true); rw [tn_cast j1.1]; exact z2)) (by omega))) (by omega)
                    · refine g_aload_n X 5 rfl dX7_whose_74 ?_
                      refine g_iload X 0 rfl dX7_whose_75 ?_
                      refine g_iload_n X 6 rfl dX7_whose_77 ?_
                      refine g_iload_n X 7 rfl dX7_whose_78 ?_
                      refine g_aload_n X 5 rfl dX7_whose_79 ?_
                      refine g_iload_n X 8 rfl dX7_whose_80 ?_
                      refine g_callV X m_X7_329 (c_X7_upTo ad Mq x3 t3) rfl (by decide) (Nat.le_of_ble_eq_true rfl) rfl dX7_whose_81 ?_
                      rintro _ _ ⟨rq37, aq38, rfl, tq39, hq40, rfl⟩
                      have hup := upk_of hq40
                      show G Γ Mq 84 [(8, .int y8_51), (7, .int y7_51), (6, .int y6_38), (5, .int y5_38), (4, .int y4_38), (0, .ref (ad 47)), (1, .int x1), (2, .int x2), (3, .int x3)] [.int rq37, .int x2, .int x1, .int y8_51, .ref (ad 47), .int y7_51]
                      refine g_callV X m_X7_322 (c_X7_hasLine_E ad Mq y8_51 e8_51 x1 t1 x2 t2 rq37 tq39 Iq0 (by omega)) rfl (by decide) (Nat.le_of_ble_eq_true rfl) rfl dX7_whose_84 ?_
                      rintro _ _ ⟨rq41, aq42, rfl, tq43, hq44, rfl⟩
                      have hhs := hq44
                      rw [hup] at hhs
                      show G Γ Mq 87 [(8, .int y8_51), (7, .int y7_51), (6, .int y6_38), (5, .int y5_38), (4, .int y4_38), (0, .ref (ad 47)), (1, .int x1), (2, .int x2), (3, .int x3)] [.int rq41, .int y7_51]
                      refine g_if_eq X tq43 (tgt := 94) dX7_whose_87 (by decide) (fun cq45 => ?_) (fun cq45 => ?_)
                      · have pq46 : ¬ (hsM Mq b8_51 a1 a2 aq38.toNat = true) := by first | omega | (rcases hq44 with ⟨z1, z2⟩ | ⟨z1, z2⟩ <;> first | exact z2 | (exfalso; omega))
                        refine g_iconst X 0 dX7_whose_94 (by decide) ?_
                        refine g_iadd X dX7_whose_95 (fun zq47 eq48 => ?_)
                        have tq49 : zq47.toInt = b7_51 + 0 := add_nw eq48 e7_51 (show (0 : Int32).toInt = 0 by decide) (by omega)
                        refine g_istore X [(7, .int zq47), (8, .int y8_51), (6, .int y6_38), (5, .int y5_38), (4, .int y4_38), (0, .ref (ad 47)), (1, .int x1), (2, .int x2), (3, .int x3)] dX7_whose_96 (by decide) rfl ?_
                        refine g_iinc X 1 (fun v => [(8, .int v), (7, .int zq47), (6, .int y6_38), (5, .int y5_38), (4, .int y4_38), (0, .ref (ad 47)), (1, .int x1), (2, .int x2), (3, .int x3)]) dX7_whose_98 rfl (by decide) (fun _ => rfl) (fun zq50 eq51 => ?_)
                        have tq52 : zq50.toInt = b8_51 + 1 := add_nw eq51 e8_51 (show (Int32.ofInt 1).toInt = 1 by decide) (by omega)
                        refine g_goto X (tgt := 51) dX7_whose_101 (by decide) ?_
                        refine g_sub [0, 1, 2, 3, 4, 5, 6, 7, 8] rfl ?_
                        exact ih51 zq50 _ tq52 zq47 _ tq49 (by omega) (by first | exact vl_n j2 (Or.inl (by omega)) (by omega) | (rcases hhs with ⟨z1, z2⟩ | ⟨z1, z2⟩ <;> first | (exfalso; omega) | exact vl_y (hb := (fun s : Nat => hsM Mq s a1 a2 (upk a3 (Mq.1 47 53).toInt).toNat)) j2 (by omega) (by show hsM Mq (b8_51.toNat : Nat) a1 a2 (upk a3 (Mq.1 47 53).toInt).toNat = true; rw [tn_cast j1.1]; exact z2) (by omega) | exact vl_n (hb := (fun s : Nat => hsM Mq s a1 a2 (upk a3 (Mq.1 47 53).toInt).toNat)) j2 (Or.inr (by show ¬ (hsM Mq (b8_51.toNat : Nat) a1 a2 (upk a3 (Mq.1 47 53).toInt).toNat = true); rw [tn_cast j1.1]; exact z2)) (by omega))) (by omega)
                      · have pq53 : (hsM Mq b8_51 a1 a2 aq38.toNat = true) := by first | omega | (rcases hq44 with ⟨z1, z2⟩ | ⟨z1, z2⟩ <;> first | exact z2 | (exfalso; omega))
                        refine g_iconst X 1 dX7_whose_90 (by decide) ?_
                        refine g_goto X (tgt := 95) dX7_whose_91 (by decide) ?_
                        refine g_iadd X dX7_whose_95 (fun zq54 eq55 => ?_)
                        have tq56 : zq54.toInt = b7_51 + 1 := add_nw eq55 e7_51 (show (1 : Int32).toInt = 1 by decide) (by omega)
                        refine g_istore X [(7, .int zq54), (8, .int y8_51), (6, .int y6_38), (5, .int y5_38), (4, .int y4_38), (0, .ref (ad 47)), (1, .int x1), (2, .int x2), (3, .int x3)] dX7_whose_96 (by decide) rfl ?_
                        refine g_iinc X 1 (fun v => [(8, .int v), (7, .int zq54), (6, .int y6_38), (5, .int y5_38), (4, .int y4_38), (0, .ref (ad 47)), (1, .int x1), (2, .int x2), (3, .int x3)]) dX7_whose_98 rfl (by decide) (fun _ => rfl) (fun zq57 eq58 => ?_)
                        have tq59 : zq57.toInt = b8_51 + 1 := add_nw eq58 e8_51 (show (Int32.ofInt 1).toInt = 1 by decide) (by omega)
                        refine g_goto X (tgt := 51) dX7_whose_101 (by decide) ?_
                        refine g_sub [0, 1, 2, 3, 4, 5, 6, 7, 8] rfl ?_
                        exact ih51 zq57 _ tq59 zq54 _ tq56 (by omega) (by first | exact vl_n j2 (Or.inl (by omega)) (by omega) | (rcases hhs with ⟨z1, z2⟩ | ⟨z1, z2⟩ <;> first | (exfalso; omega) | exact vl_y (hb := (fun s : Nat => hsM Mq s a1 a2 (upk a3 (Mq.1 47 53).toInt).toNat)) j2 (by omega) (by show hsM Mq (b8_51.toNat : Nat) a1 a2 (upk a3 (Mq.1 47 53).toInt).toNat = true; rw [tn_cast j1.1]; exact z2) (by omega) | exact vl_n (hb := (fun s : Nat => hsM Mq s a1 a2 (upk a3 (Mq.1 47 53).toInt).toNat)) j2 (Or.inr (by show ¬ (hsM Mq (b8_51.toNat : Nat) a1 a2 (upk a3 (Mq.1 47 53).toInt).toNat = true); rw [tn_cast j1.1]; exact z2)) (by omega))) (by omega)
              refine g_sub [0, 1, 2, 3, 4, 5, 6, 7, 8] rfl ?_
              exact lp51 _ 0 _ (show (0 : Int32).toInt = 0 by decide) 0 _ (show (0 : Int32).toInt = 0 by decide) (by omega) rfl (Nat.lt_succ_self _)
        refine g_sub [0, 1, 2, 3, 4, 5, 6] rfl ?_
        exact lp38 _ 0 _ (show (0 : Int32).toInt = 0 by decide) 0 _ (show (0 : Int32).toInt = 0 by decide) (-5) _ (show ((-5) : Int32).toInt = (-5) by decide) (by omega) ⟨rfl, rfl⟩ (Nat.lt_succ_self _)
      · have pq60 : ¬ (0 ≤ a2 ∧ a2 ≤ 999) := by first | omega | (rcases hq17 with ⟨z1, z2⟩ | ⟨z1, z2⟩ <;> first | exact z2 | (exfalso; omega))
        refine g_bipush X (-2) dX7_whose_25 (by decide) ?_
        exact g_iret X dX7_whose_27 ⟨_, _, rfl, (show ((-2) : Int32).toInt = (-2) by decide), (by first | exact Or.inl ⟨by omega, rfl⟩ | exact Or.inr (Or.inl ⟨by omega, by omega, rfl⟩) | exact Or.inr (Or.inr ⟨by omega, by omega, (by have e : b6_38 = 10 := (by omega); rw [e] at i2; exact i2.2)⟩)), rfl⟩
    · have pq61 : ¬ (-1 ≤ a3 ∧ a3 ≤ ((Mq.1 47 53)).toInt) := by first | omega | (rcases hq11 with ⟨z1, z2⟩ | ⟨z1, z2⟩ <;> first | exact z2 | (exfalso; omega))
      refine g_iconst X (-1) dX7_whose_16 (by decide) ?_
      exact g_iret X dX7_whose_17 ⟨_, _, rfl, (show ((-1) : Int32).toInt = (-1) by decide), (by first | exact Or.inl ⟨by omega, rfl⟩ | exact Or.inr (Or.inl ⟨by omega, by omega, rfl⟩) | exact Or.inr (Or.inr ⟨by omega, by omega, (by have e : b6_38 = 10 := (by omega); rw [e] at i2; exact i2.2)⟩)), rfl⟩
set_option maxHeartbeats 4000000 in
set_option maxRecDepth 4000 in
theorem c_X7_isForged_E (ad : Nat → Nat) (Mq : Mem) (x1 : Int32) {a1 : Int} (t1 : x1.toInt = a1) (x2 : Int32) {a2 : Int} (t2 : x2.toInt = a2) (x3 : Int32) {a3 : Int} (t3 : x3.toInt = a3) (x4 : Int32) {a4 : Int} (t4 : x4.toInt = a4) (Iq0 : Iv TM Mq) (h1 : 0 ≤ a1 ∧ a1 < (Mq.1 47 52).toInt) (h4 : a4 ≤ 200) : Ctr ad yX7_isForged cX7_isForged 7 (some .boolean) 3 [.ref (ad 47), .int x1, .int x2, .int x3, .int x4] Mq (fun v M' => ∃ (r : Int32) (a : Int), v = some (.int r) ∧ r.toInt = a ∧ ((a = 1 ∧ (nrM Mq a1 a2 a3 a4.toNat = false)) ∨ (a = 0 ∧ ¬ (nrM Mq a1 a2 a3 a4.toNat = false))) ∧ Mq = M') := by
  refine ctr_of (L := [(0, .ref (ad 47)), (1, .int x1), (2, .int x2), (3, .int x3), (4, .int x4)]) (by decide) (Nat.le_of_ble_eq_true rfl) rfl ?_
  intro Γ X
  have X : gX Γ cX7_isForged RX7 7 (some .boolean) 3 ad _ := X
  have g11 := ig_47_11 Iq0
  have g12 := ig_47_12 Iq0
  have g14 := ig_47_14 Iq0
  have g32 := ig_47_32 Iq0
  have g43 := ig_47_43 Iq0
  have g44 := ig_47_44 Iq0
  have g52 := ig_47_52 Iq0
  have g53 := ig_47_53 Iq0
  have g59 := ig_47_59 Iq0
  refine g_aload_n X 0 rfl dX7_isForged_0 ?_
  refine g_iload_n X 1 rfl dX7_isForged_1 ?_
  refine g_iload_n X 2 rfl dX7_isForged_2 ?_
  refine g_iload_n X 3 rfl dX7_isForged_3 ?_
  refine g_iload X 4 rfl dX7_isForged_4 ?_
  refine g_callV X m_X7_322 (c_X7_hasLine_E ad Mq x1 t1 x2 t2 x3 t3 x4 t4 Iq0 (by omega)) rfl (by decide) (Nat.le_of_ble_eq_true rfl) rfl dX7_isForged_6 ?_
  rintro _ _ ⟨rq1, aq2, rfl, tq3, hq4, rfl⟩
  show G Γ Mq 9 [(0, .ref (ad 47)), (1, .int x1), (2, .int x2), (3, .int x3), (4, .int x4)] [.int rq1]
  refine g_if_eq X tq3 (tgt := 14) dX7_isForged_9 (by decide) (fun cq5 => ?_) (fun cq5 => ?_)
  · have pq6 : ¬ (hsM Mq a1 a2 a3 a4.toNat = true) := by first | omega | (rcases hq4 with ⟨z1, z2⟩ | ⟨z1, z2⟩ <;> first | exact z2 | (exfalso; omega))
    refine g_iconst X 0 dX7_isForged_14 (by decide) ?_
    refine g_istore X [(5, .int 0), (0, .ref (ad 47)), (1, .int x1), (2, .int x2), (3, .int x3), (4, .int x4)] dX7_isForged_15 (by decide) rfl ?_
    have lp17 : ∀ n : Nat, ∀ (y5_17 : Int32) (b5_17 : Int), y5_17.toInt = b5_17 → (0 ≤ b5_17 ∧ b5_17 ≤ (Mq.1 47 52).toInt) → (nrF Mq a1 a2 a3 a4.toNat (b5_17).toNat = false) → ((Mq.1 47 52).toInt - b5_17).toNat < n → G Γ Mq 17 [(5, .int y5_17), (0, .ref (ad 47)), (1, .int x1), (2, .int x2), (3, .int x3), (4, .int x4)] [] := by
      intro n
      induction n with
      | zero => intro y5_17 b5_17 e5_17 i1 i2 hm; exact absurd hm (Nat.not_lt_zero _)
      | succ n ih17 =>
        intro y5_17 b5_17 e5_17 i1 i2 hm17
        refine g_iload X 0 rfl dX7_isForged_17 ?_
        refine g_aload_n X 1 rfl dX7_isForged_19 ?_
        refine g_geti X f_X7_313 dX7_isForged_20 (x := Mq.1 47 52) rfl ?_
        have bq7 := ig_47_52 Iq0
        refine g_icmp_ge X e5_17 rfl (tgt := 85) dX7_isForged_23 (by decide) (fun cq8 => ?_) (fun cq8 => ?_)
        · refine g_iconst X 1 dX7_isForged_85 (by decide) ?_
          exact g_zret X (b01 (show (1 : Int32).toInt = 1 by decide) (by omega)) dX7_isForged_86 ⟨_, _, rfl, (show (1 : Int32).toInt = 1 by decide), (by first | exact Or.inr ⟨rfl, nrM_f0 (by assumption)⟩ | exact Or.inr ⟨rfl, nrM_f1 (by omega) (bb1 hnp (by omega)) (by assumption)⟩ | exact Or.inl ⟨rfl, nrM_t (by assumption) i2 (by omega)⟩), rfl⟩
        · refine g_aload_n X 1 rfl dX7_isForged_26 ?_
          refine g_iload_n X 2 rfl dX7_isForged_27 ?_
          refine g_iload_n X 4 rfl dX7_isForged_28 ?_
          refine g_iload X 5 rfl dX7_isForged_29 ?_
          refine g_callV X m_X7_336 (c_X7_masterOf_E ad Mq x1 t1 x3 t3 x4 t4 Iq0 (by omega) (by omega)) rfl (by decide) (Nat.le_of_ble_eq_true rfl) rfl dX7_isForged_31 ?_
          rintro _ _ ⟨rq9, aq10, rfl, tq11, hq12, rfl⟩
          have hmA := hq12.1
          show G Γ Mq 34 [(5, .int y5_17), (0, .ref (ad 47)), (1, .int x1), (2, .int x2), (3, .int x3), (4, .int x4)] [.int rq9]
          refine g_iload X 0 rfl dX7_isForged_34 ?_
          refine g_icmp_eq X tq11 e5_17 (tgt := 52) dX7_isForged_36 (by decide) (fun cq13 => ?_) (fun cq13 => ?_)
          · refine g_iconst X 1 dX7_isForged_52 (by decide) ?_
            refine g_goto X (tgt := 57) dX7_isForged_53 (by decide) ?_
            refine g_istore X [(6, .int 1), (5, .int y5_17), (0, .ref (ad 47)), (1, .int x1), (2, .int x2), (3, .int x3), (4, .int x4)] dX7_isForged_57 (by decide) rfl ?_
            have hnp : ((1 : Int) = 1 ∧ (nrp Mq a1 a3 a4.toNat b5_17 = true)) ∨ ((1 : Int) = 0 ∧ ¬ (nrp Mq a1 a3 a4.toNat b5_17 = true)) := by first | exact Or.inl ⟨rfl, nrp_y (by omega)⟩ | exact Or.inr ⟨rfl, nrp_n (by omega) (by omega)⟩
            refine g_iload X 0 rfl dX7_isForged_59 ?_
            refine g_if_eq X (show (1 : Int32).toInt = 1 by decide) (tgt := 79) dX7_isForged_61 (by decide) (fun cq14 => ?_) (fun cq14 => ?_)
            · exfalso; omega
            · refine g_aload_n X 2 rfl dX7_isForged_64 ?_
              refine g_iload X 1 rfl dX7_isForged_65 ?_
              refine g_iload_n X 4 rfl dX7_isForged_67 ?_
              refine g_iload_n X 5 rfl dX7_isForged_68 ?_
              refine g_iload X 6 rfl dX7_isForged_69 ?_
              refine g_callV X m_X7_322 (c_X7_hasLine_E ad Mq y5_17 e5_17 x2 t2 x3 t3 x4 t4 Iq0 (by omega)) rfl (by decide) (Nat.le_of_ble_eq_true rfl) rfl dX7_isForged_71 ?_
              rintro _ _ ⟨rq15, aq16, rfl, tq17, hq18, rfl⟩
              show G Γ Mq 74 [(6, .int 1), (5, .int y5_17), (0, .ref (ad 47)), (1, .int x1), (2, .int x2), (3, .int x3), (4, .int x4)] [.int rq15]
              refine g_if_eq X tq17 (tgt := 79) dX7_isForged_74 (by decide) (fun cq19 => ?_) (fun cq19 => ?_)
              · have pq20 : ¬ (hsM Mq b5_17 a2 a3 a4.toNat = true) := by first | omega | (rcases hq18 with ⟨z1, z2⟩ | ⟨z1, z2⟩ <;> first | exact z2 | (exfalso; omega))
                refine g_iinc X 1 (fun v => [(5, .int v), (6, .int 1), (0, .ref (ad 47)), (1, .int x1), (2, .int x2), (3, .int x3), (4, .int x4)]) dX7_isForged_79 rfl (by decide) (fun _ => rfl) (fun zq21 eq22 => ?_)
                have tq23 : zq21.toInt = b5_17 + 1 := add_nw eq22 e5_17 (show (Int32.ofInt 1).toInt = 1 by decide) (by omega)
                refine g_goto X (tgt := 17) dX7_isForged_82 (by decide) ?_
                refine g_sub [0, 2, 3, 4, 5, 6] rfl ?_
                exact ih17 zq21 _ tq23 (by omega) (nrF_n i2 i1.1 (by first | exact Or.inl (bb0 hnp (by omega)) | exact Or.inr (by assumption)) (by omega)) (by omega)
              · have pq24 : (hsM Mq b5_17 a2 a3 a4.toNat = true) := by first | omega | (rcases hq18 with ⟨z1, z2⟩ | ⟨z1, z2⟩ <;> first | exact z2 | (exfalso; omega))
                refine g_iconst X 0 dX7_isForged_77 (by decide) ?_
                exact g_zret X (b01 (show (0 : Int32).toInt = 0 by decide) (by omega)) dX7_isForged_78 ⟨_, _, rfl, (show (0 : Int32).toInt = 0 by decide), (by first | exact Or.inr ⟨rfl, nrM_f0 (by assumption)⟩ | exact Or.inr ⟨rfl, nrM_f1 (by omega) (bb1 hnp (by omega)) (by assumption)⟩ | exact Or.inl ⟨rfl, nrM_t (by assumption) i2 (by omega)⟩), rfl⟩
          · refine g_aload_n X 1 rfl dX7_isForged_39 ?_
            refine g_iload X 0 rfl dX7_isForged_40 ?_
            refine g_iload_n X 4 rfl dX7_isForged_42 ?_
            refine g_iload X 5 rfl dX7_isForged_43 ?_
            refine g_callV X m_X7_336 (c_X7_masterOf_E ad Mq y5_17 e5_17 x3 t3 x4 t4 Iq0 (by omega) (by omega)) rfl (by decide) (Nat.le_of_ble_eq_true rfl) rfl dX7_isForged_45 ?_
            rintro _ _ ⟨rq25, aq26, rfl, tq27, hq28, rfl⟩
            have hmB := hq28.1
            show G Γ Mq 48 [(5, .int y5_17), (0, .ref (ad 47)), (1, .int x1), (2, .int x2), (3, .int x3), (4, .int x4)] [.int rq25]
            refine g_iload_n X 2 rfl dX7_isForged_48 ?_
            refine g_icmp_ne X tq27 t1 (tgt := 56) dX7_isForged_49 (by decide) (fun cq29 => ?_) (fun cq29 => ?_)
            · refine g_iconst X 0 dX7_isForged_56 (by decide) ?_
              refine g_istore X [(6, .int 0), (5, .int y5_17), (0, .ref (ad 47)), (1, .int x1), (2, .int x2), (3, .int x3), (4, .int x4)] dX7_isForged_57 (by decide) rfl ?_
              have hnp : ((0 : Int) = 1 ∧ (nrp Mq a1 a3 a4.toNat b5_17 = true)) ∨ ((0 : Int) = 0 ∧ ¬ (nrp Mq a1 a3 a4.toNat b5_17 = true)) := by first | exact Or.inl ⟨rfl, nrp_y (by omega)⟩ | exact Or.inr ⟨rfl, nrp_n (by omega) (by omega)⟩
              refine g_iload X 0 rfl dX7_isForged_59 ?_
              refine g_if_eq X (show (0 : Int32).toInt = 0 by decide) (tgt := 79) dX7_isForged_61 (by decide) (fun cq30 => ?_) (fun cq30 => ?_)
              · refine g_iinc X 1 (fun v => [(5, .int v), (6, .int 0), (0, .ref (ad 47)), (1, .int x1), (2, .int x2), (3, .int x3), (4, .int x4)]) dX7_isForged_79 rfl (by decide) (fun _ => rfl) (fun zq31 eq32 => ?_)
                have tq33 : zq31.toInt = b5_17 + 1 := add_nw eq32 e5_17 (show (Int32.ofInt 1).toInt = 1 by decide) (by omega)
                refine g_goto X (tgt := 17) dX7_isForged_82 (by decide) ?_
                refine g_sub [0, 2, 3, 4, 5, 6] rfl ?_
                exact ih17 zq31 _ tq33 (by omega) (nrF_n i2 i1.1 (by first | exact Or.inl (bb0 hnp (by omega)) | exact Or.inr (by assumption)) (by omega)) (by omega)
              · exfalso; omega
            · refine g_iconst X 1 dX7_isForged_52 (by decide) ?_
              refine g_goto X (tgt := 57) dX7_isForged_53 (by decide) ?_
              refine g_istore X [(6, .int 1), (5, .int y5_17), (0, .ref (ad 47)), (1, .int x1), (2, .int x2), (3, .int x3), (4, .int x4)] dX7_isForged_57 (by decide) rfl ?_
              have hnp : ((1 : Int) = 1 ∧ (nrp Mq a1 a3 a4.toNat b5_17 = true)) ∨ ((1 : Int) = 0 ∧ ¬ (nrp Mq a1 a3 a4.toNat b5_17 = true)) := by first | exact Or.inl ⟨rfl, nrp_y (by omega)⟩ | exact Or.inr ⟨rfl, nrp_n (by omega) (by omega)⟩
              refine g_iload X 0 rfl dX7_isForged_59 ?_
              refine g_if_eq X (show (1 : Int32).toInt = 1 by decide) (tgt := 79) dX7_isForged_61 (by decide) (fun cq34 => ?_) (fun cq34 => ?_)
              · exfalso; omega
              · refine g_aload_n X 2 rfl dX7_isForged_64 ?_
                refine g_iload X 1 rfl dX7_isForged_65 ?_
                refine g_iload_n X 4 rfl dX7_isForged_67 ?_
                refine g_iload_n X 5 rfl dX7_isForged_68 ?_
                refine g_iload X 6 rfl dX7_isForged_69 ?_
                refine g_callV X m_X7_322 (c_X7_hasLine_E ad Mq y5_17 e5_17 x2 t2 x3 t3 x4 t4 Iq0 (by omega)) rfl (by decide) (Nat.le_of_ble_eq_true rfl) rfl dX7_isForged_71 ?_
                rintro _ _ ⟨rq35, aq36, rfl, tq37, hq38, rfl⟩
                show G Γ Mq 74 [(6, .int 1), (5, .int y5_17), (0, .ref (ad 47)), (1, .int x1), (2, .int x2), (3, .int x3), (4, .int x4)] [.int rq35]
                refine g_if_eq X tq37 (tgt := 79) dX7_isForged_74 (by decide) (fun cq39 => ?_) (fun cq39 => ?_)
                · have pq40 : ¬ (hsM Mq b5_17 a2 a3 a4.toNat = true) := by first | omega | (rcases hq38 with ⟨z1, z2⟩ | ⟨z1, z2⟩ <;> first | exact z2 | (exfalso; omega))
                  refine g_iinc X 1 (fun v => [(5, .int v), (6, .int 1), (0, .ref (ad 47)), (1, .int x1), (2, .int x2), (3, .int x3), (4, .int x4)]) dX7_isForged_79 rfl (by decide) (fun _ => rfl) (fun zq41 eq42 => ?_)
                  have tq43 : zq41.toInt = b5_17 + 1 := add_nw eq42 e5_17 (show (Int32.ofInt 1).toInt = 1 by decide) (by omega)
                  refine g_goto X (tgt := 17) dX7_isForged_82 (by decide) ?_
                  refine g_sub [0, 2, 3, 4, 5, 6] rfl ?_
                  exact ih17 zq41 _ tq43 (by omega) (nrF_n i2 i1.1 (by first | exact Or.inl (bb0 hnp (by omega)) | exact Or.inr (by assumption)) (by omega)) (by omega)
                · have pq44 : (hsM Mq b5_17 a2 a3 a4.toNat = true) := by first | omega | (rcases hq38 with ⟨z1, z2⟩ | ⟨z1, z2⟩ <;> first | exact z2 | (exfalso; omega))
                  refine g_iconst X 0 dX7_isForged_77 (by decide) ?_
                  exact g_zret X (b01 (show (0 : Int32).toInt = 0 by decide) (by omega)) dX7_isForged_78 ⟨_, _, rfl, (show (0 : Int32).toInt = 0 by decide), (by first | exact Or.inr ⟨rfl, nrM_f0 (by assumption)⟩ | exact Or.inr ⟨rfl, nrM_f1 (by omega) (bb1 hnp (by omega)) (by assumption)⟩ | exact Or.inl ⟨rfl, nrM_t (by assumption) i2 (by omega)⟩), rfl⟩
    refine g_sub [0, 1, 2, 3, 4, 5] rfl ?_
    exact lp17 _ 0 _ (show (0 : Int32).toInt = 0 by decide) (by omega) rfl (Nat.lt_succ_self _)
  · have pq45 : (hsM Mq a1 a2 a3 a4.toNat = true) := by first | omega | (rcases hq4 with ⟨z1, z2⟩ | ⟨z1, z2⟩ <;> first | exact z2 | (exfalso; omega))
    refine g_iconst X 0 dX7_isForged_12 (by decide) ?_
    exact g_zret X (b01 (show (0 : Int32).toInt = 0 by decide) (by omega)) dX7_isForged_13 ⟨_, _, rfl, (show (0 : Int32).toInt = 0 by decide), (by first | exact Or.inr ⟨rfl, nrM_f0 (by assumption)⟩ | exact Or.inr ⟨rfl, nrM_f1 (by omega) (bb1 hnp (by omega)) (by assumption)⟩ | exact Or.inl ⟨rfl, nrM_t (by assumption) i2 (by omega)⟩), rfl⟩
set_option maxHeartbeats 4000000 in
set_option maxRecDepth 4000 in
theorem c_X7_forged_E (ad : Nat → Nat) (Mq : Mem) (x1 : Int32) {a1 : Int} (t1 : x1.toInt = a1) (x2 : Int32) {a2 : Int} (t2 : x2.toInt = a2) (x3 : Int32) {a3 : Int} (t3 : x3.toInt = a3) (Iq0 : Iv TM Mq) : Ctr ad yX7_forged cX7_forged 5 (some .int) 4 [.ref (ad 47), .int x1, .int x2, .int x3] Mq (fun v M' => ∃ (r : Int32) (a : Int), v = some (.int r) ∧ r.toInt = a ∧ (((¬ ((0 ≤ a1 ∧ a1 < (Mq.1 47 52).toInt) ∧ (-1 ≤ a3 ∧ a3 ≤ (Mq.1 47 53).toInt))) ∧ (a = -1)) ∨ (¬ (¬ ((0 ≤ a1 ∧ a1 < (Mq.1 47 52).toInt) ∧ (-1 ≤ a3 ∧ a3 ≤ (Mq.1 47 53).toInt))) ∧ (¬ (0 ≤ a2 ∧ a2 ≤ 999)) ∧ (a = -2)) ∨ (¬ (¬ ((0 ≤ a1 ∧ a1 < (Mq.1 47 52).toInt) ∧ (-1 ≤ a3 ∧ a3 ≤ (Mq.1 47 53).toInt))) ∧ ¬ (¬ (0 ≤ a2 ∧ a2 ≤ 999)) ∧ ((Mq.1 47 43).toInt = 0) ∧ (a = -3)) ∨ (¬ (¬ ((0 ≤ a1 ∧ a1 < (Mq.1 47 52).toInt) ∧ (-1 ≤ a3 ∧ a3 ≤ (Mq.1 47 53).toInt))) ∧ ¬ (¬ (0 ≤ a2 ∧ a2 ≤ 999)) ∧ ¬ ((Mq.1 47 43).toInt = 0) ∧ (fst5 (fun j => (Mq.1 77 j).toInt = 40 ∨ ¬ (nrM Mq a1 (Mq.1 77 j).toInt a2 (upk a3 (Mq.1 47 53).toInt).toNat = false)) ((Mq.1 47 43).toInt).toNat a))) ∧ Mq = M') := by
  refine ctr_of (L := [(0, .ref (ad 47)), (1, .int x1), (2, .int x2), (3, .int x3)]) (by decide) (Nat.le_of_ble_eq_true rfl) rfl ?_
  intro Γ X
  have X : gX Γ cX7_forged RX7 5 (some .int) 4 ad _ := X
  have g11 := ig_47_11 Iq0
  have g12 := ig_47_12 Iq0
  have g14 := ig_47_14 Iq0
  have g32 := ig_47_32 Iq0
  have g43 := ig_47_43 Iq0
  have g44 := ig_47_44 Iq0
  have g52 := ig_47_52 Iq0
  have g53 := ig_47_53 Iq0
  have g59 := ig_47_59 Iq0
  refine g_aload_n X 0 rfl dX7_forged_0 ?_
  refine g_iload_n X 1 rfl dX7_forged_1 ?_
  refine g_callV X m_X7_260 (c_X7_isSinger ad Mq x1 t1) rfl (by decide) (Nat.le_of_ble_eq_true rfl) rfl dX7_forged_2 ?_
  rintro _ _ ⟨rq1, aq2, rfl, tq3, hq4, rfl⟩
  show G Γ Mq 5 [(0, .ref (ad 47)), (1, .int x1), (2, .int x2), (3, .int x3)] [.int rq1]
  refine g_if_eq X tq3 (tgt := 16) dX7_forged_5 (by decide) (fun cq5 => ?_) (fun cq5 => ?_)
  · have pq6 : ¬ (0 ≤ a1 ∧ a1 < ((Mq.1 47 52)).toInt) := by first | omega | (rcases hq4 with ⟨z1, z2⟩ | ⟨z1, z2⟩ <;> first | exact z2 | (exfalso; omega))
    refine g_iconst X (-1) dX7_forged_16 (by decide) ?_
    exact g_iret X dX7_forged_17 ⟨_, _, rfl, (show ((-1) : Int32).toInt = (-1) by decide), (by first | exact Or.inl ⟨by omega, rfl⟩ | exact Or.inr (Or.inl ⟨by omega, by omega, rfl⟩) | exact Or.inr (Or.inr (Or.inl ⟨by omega, by omega, by omega, rfl⟩)) | exact Or.inr (Or.inr (Or.inr ⟨by omega, by omega, by omega, (by first | exact Or.inl ⟨rfl, fun j hj => i2 j (by omega)⟩ | exact Or.inr ⟨i1.1, by omega, (by rintro (z | z); exact absurd z (by assumption); exact z (bb1 hbb (by assumption))), fun j hj => i2 j (by omega)⟩)⟩))), rfl⟩
  · have pq7 : (0 ≤ a1 ∧ a1 < ((Mq.1 47 52)).toInt) := by first | omega | (rcases hq4 with ⟨z1, z2⟩ | ⟨z1, z2⟩ <;> first | exact z2 | (exfalso; omega))
    refine g_aload_n X 0 rfl dX7_forged_8 ?_
    refine g_iload_n X 3 rfl dX7_forged_9 ?_
    refine g_callV X m_X7_326 (c_X7_isKnown ad Mq x3 t3) rfl (by decide) (Nat.le_of_ble_eq_true rfl) rfl dX7_forged_10 ?_
    rintro _ _ ⟨rq8, aq9, rfl, tq10, hq11, rfl⟩
    show G Γ Mq 13 [(0, .ref (ad 47)), (1, .int x1), (2, .int x2), (3, .int x3)] [.int rq8]
    refine g_if_ne X tq10 (tgt := 18) dX7_forged_13 (by decide) (fun cq12 => ?_) (fun cq12 => ?_)
    · have pq13 : (-1 ≤ a3 ∧ a3 ≤ ((Mq.1 47 53)).toInt) := by first | omega | (rcases hq11 with ⟨z1, z2⟩ | ⟨z1, z2⟩ <;> first | exact z2 | (exfalso; omega))
      refine g_iload_n X 2 rfl dX7_forged_18 ?_
      refine g_callS X m_X7_263 (c_X7_isYear ad Mq x2 t2) rfl (by decide) (Nat.le_of_ble_eq_true rfl) rfl dX7_forged_19 ?_
      rintro _ _ ⟨rq14, aq15, rfl, tq16, hq17, rfl⟩
      show G Γ Mq 22 [(0, .ref (ad 47)), (1, .int x1), (2, .int x2), (3, .int x3)] [.int rq14]
      refine g_if_ne X tq16 (tgt := 28) dX7_forged_22 (by decide) (fun cq18 => ?_) (fun cq18 => ?_)
      · have pq19 : (0 ≤ a2 ∧ a2 ≤ 999) := by first | omega | (rcases hq17 with ⟨z1, z2⟩ | ⟨z1, z2⟩ <;> first | exact z2 | (exfalso; omega))
        refine g_aload_n X 0 rfl dX7_forged_28 ?_
        refine g_geti X f_X7_339 dX7_forged_29 (x := Mq.1 47 43) rfl ?_
        have bq20 := ig_47_43 Iq0
        refine g_if_ne X rfl (tgt := 38) dX7_forged_32 (by decide) (fun cq21 => ?_) (fun cq21 => ?_)
        · refine g_iconst X 0 dX7_forged_38 (by decide) ?_
          refine g_istore X [(4, .int 0), (0, .ref (ad 47)), (1, .int x1), (2, .int x2), (3, .int x3)] dX7_forged_39 (by decide) rfl ?_
          have lp41 : ∀ n : Nat, ∀ (y4_41 : Int32) (b4_41 : Int), y4_41.toInt = b4_41 → (0 ≤ b4_41 ∧ b4_41 ≤ (Mq.1 47 43).toInt) → (∀ j : Nat, (j : Int) < b4_41 → ((Mq.1 77 j).toInt = 40 ∨ ¬ (nrM Mq a1 (Mq.1 77 j).toInt a2 (upk a3 (Mq.1 47 53).toInt).toNat = false))) → ((Mq.1 47 43).toInt - b4_41).toNat < n → G Γ Mq 41 [(4, .int y4_41), (0, .ref (ad 47)), (1, .int x1), (2, .int x2), (3, .int x3)] [] := by
            intro n
            induction n with
            | zero => intro y4_41 b4_41 e4_41 i1 i2 hm; exact absurd hm (Nat.not_lt_zero _)
            | succ n ih41 =>
              intro y4_41 b4_41 e4_41 i1 i2 hm41
              refine g_iload X 0 rfl dX7_forged_41 ?_
              refine g_aload_n X 1 rfl dX7_forged_43 ?_
              refine g_geti X f_X7_339 dX7_forged_44 (x := Mq.1 47 43) rfl ?_
              have bq22 := ig_47_43 Iq0
              refine g_icmp_ge X e4_41 rfl (tgt := 92) dX7_forged_47 (by decide) (fun cq23 => ?_) (fun cq23 => ?_)
              · refine g_bipush X (-5) dX7_forged_92 (by decide) ?_
                exact g_iret X dX7_forged_94 ⟨_, _, rfl, (show ((-5) : Int32).toInt = (-5) by decide), (by first | exact Or.inl ⟨by omega, rfl⟩ | exact Or.inr (Or.inl ⟨by omega, by omega, rfl⟩) | exact Or.inr (Or.inr (Or.inl ⟨by omega, by omega, by omega, rfl⟩)) | exact Or.inr (Or.inr (Or.inr ⟨by omega, by omega, by omega, (by first | exact Or.inl ⟨rfl, fun j hj => i2 j (by omega)⟩ | exact Or.inr ⟨i1.1, by omega, (by rintro (z | z); exact absurd z (by assumption); exact z (bb1 hbb (by assumption))), fun j hj => i2 j (by omega)⟩)⟩))), rfl⟩
              · refine g_aload_n X 1 rfl dX7_forged_50 ?_
                refine g_getr X f_X7_101 dX7_forged_51 ?_
                refine g_iload X 0 rfl dX7_forged_54 ?_
                refine g_iald X la_77 e4_41 dX7_forged_56 (by omega) (x := Mq.1 77 b4_41.toNat) rfl ?_
                have bq24 := ig_77 Iq0 b4_41.toNat (by omega)
                refine g_bipush X 40 dX7_forged_57 (by decide) ?_
                refine g_icmp_eq X rfl (show (40 : Int32).toInt = 40 by decide) (tgt := 86) dX7_forged_59 (by decide) (fun cq25 => ?_) (fun cq25 => ?_)
                · refine g_iinc X 0 (fun v => [(4, .int v), (0, .ref (ad 47)), (1, .int x1), (2, .int x2), (3, .int x3)]) dX7_forged_86 rfl (by decide) (fun _ => rfl) (fun zq26 eq27 => ?_)
                  have tq28 : zq26.toInt = b4_41 + 1 := add_nw eq27 e4_41 (show (Int32.ofInt 1).toInt = 1 by decide) (by omega)
                  refine g_goto X (tgt := 41) dX7_forged_89 (by decide) ?_
                  refine g_sub [0, 1, 2, 3, 4] rfl ?_
                  exact ih41 zq26 _ tq28 (by omega) (ok_s (ok := fun j => (Mq.1 77 j).toInt = 40 ∨ ¬ (nrM Mq a1 (Mq.1 77 j).toInt a2 (upk a3 (Mq.1 47 53).toInt).toNat = false)) i2 (by first | exact Or.inl (by assumption) | exact Or.inr (bb0 hbb (by assumption))) i1.1) (by omega)
                · refine g_aload_n X 1 rfl dX7_forged_62 ?_
                  refine g_iload_n X 2 rfl dX7_forged_63 ?_
                  refine g_aload_n X 1 rfl dX7_forged_64 ?_
                  refine g_getr X f_X7_101 dX7_forged_65 ?_
                  refine g_iload X 0 rfl dX7_forged_68 ?_
                  refine g_iald X la_77 e4_41 dX7_forged_70 (by omega) (x := Mq.1 77 b4_41.toNat) rfl ?_
                  have bq29 := ig_77 Iq0 b4_41.toNat (by omega)
                  refine g_iload_n X 3 rfl dX7_forged_71 ?_
                  refine g_aload_n X 1 rfl dX7_forged_72 ?_
                  refine g_iload_n X 4 rfl dX7_forged_73 ?_
                  refine g_callV X m_X7_329 (c_X7_upTo ad Mq x3 t3) rfl (by decide) (Nat.le_of_ble_eq_true rfl) rfl dX7_forged_74 ?_
                  rintro _ _ ⟨rq30, aq31, rfl, tq32, hq33, rfl⟩
                  have hup := upk_of hq33
                  show G Γ Mq 77 [(4, .int y4_41), (0, .ref (ad 47)), (1, .int x1), (2, .int x2), (3, .int x3)] [.int rq30, .int x2, .int (Mq.1 77 b4_41.toNat), .int x1, .ref (ad 47)]
                  refine g_callV X m_X7_349 (c_X7_isForged_E ad Mq x1 t1 (Mq.1 77 b4_41.toNat) rfl x2 t2 rq30 tq32 Iq0 (by omega) (by omega)) rfl (by decide) (Nat.le_of_ble_eq_true rfl) rfl dX7_forged_77 ?_
                  rintro _ _ ⟨rq34, aq35, rfl, tq36, hq37, rfl⟩
                  have hbb := hq37
                  rw [hup] at hbb
                  show G Γ Mq 80 [(4, .int y4_41), (0, .ref (ad 47)), (1, .int x1), (2, .int x2), (3, .int x3)] [.int rq34]
                  refine g_if_eq X tq36 (tgt := 86) dX7_forged_80 (by decide) (fun cq38 => ?_) (fun cq38 => ?_)
                  · have pq39 : ¬ (nrM Mq a1 ((Mq.1 77 b4_41.toNat).toInt) a2 aq31.toNat = false) := by first | omega | (rcases hq37 with ⟨z1, z2⟩ | ⟨z1, z2⟩ <;> first | exact z2 | (exfalso; omega))
                    refine g_iinc X 0 (fun v => [(4, .int v), (0, .ref (ad 47)), (1, .int x1), (2, .int x2), (3, .int x3)]) dX7_forged_86 rfl (by decide) (fun _ => rfl) (fun zq40 eq41 => ?_)
                    have tq42 : zq40.toInt = b4_41 + 1 := add_nw eq41 e4_41 (show (Int32.ofInt 1).toInt = 1 by decide) (by omega)
                    refine g_goto X (tgt := 41) dX7_forged_89 (by decide) ?_
                    refine g_sub [0, 1, 2, 3, 4] rfl ?_
                    exact ih41 zq40 _ tq42 (by omega) (ok_s (ok := fun j => (Mq.1 77 j).toInt = 40 ∨ ¬ (nrM Mq a1 (Mq.1 77 j).toInt a2 (upk a3 (Mq.1 47 53).toInt).toNat = false)) i2 (by first | exact Or.inl (by assumption) | exact Or.inr (bb0 hbb (by assumption))) i1.1) (by omega)
                  · have pq43 : (nrM Mq a1 ((Mq.1 77 b4_41.toNat).toInt) a2 aq31.toNat = false) := by first | omega | (rcases hq37 with ⟨z1, z2⟩ | ⟨z1, z2⟩ <;> first | exact z2 | (exfalso; omega))
                    refine g_iload X 0 rfl dX7_forged_83 ?_
                    exact g_iret X dX7_forged_85 ⟨_, _, rfl, e4_41, (by first | exact Or.inl ⟨by omega, rfl⟩ | exact Or.inr (Or.inl ⟨by omega, by omega, rfl⟩) | exact Or.inr (Or.inr (Or.inl ⟨by omega, by omega, by omega, rfl⟩)) | exact Or.inr (Or.inr (Or.inr ⟨by omega, by omega, by omega, (by first | exact Or.inl ⟨rfl, fun j hj => i2 j (by omega)⟩ | exact Or.inr ⟨i1.1, by omega, (by rintro (z | z); exact absurd z (by assumption); exact z (bb1 hbb (by assumption))), fun j hj => i2 j (by omega)⟩)⟩))), rfl⟩
          refine g_sub [0, 1, 2, 3, 4] rfl ?_
          exact lp41 _ 0 _ (show (0 : Int32).toInt = 0 by decide) (by omega) (fun j hj => absurd hj (by omega)) (Nat.lt_succ_self _)
        · refine g_bipush X (-3) dX7_forged_35 (by decide) ?_
          exact g_iret X dX7_forged_37 ⟨_, _, rfl, (show ((-3) : Int32).toInt = (-3) by decide), (by first | exact Or.inl ⟨by omega, rfl⟩ | exact Or.inr (Or.inl ⟨by omega, by omega, rfl⟩) | exact Or.inr (Or.inr (Or.inl ⟨by omega, by omega, by omega, rfl⟩)) | exact Or.inr (Or.inr (Or.inr ⟨by omega, by omega, by omega, (by first | exact Or.inl ⟨rfl, fun j hj => i2 j (by omega)⟩ | exact Or.inr ⟨i1.1, by omega, (by rintro (z | z); exact absurd z (by assumption); exact z (bb1 hbb (by assumption))), fun j hj => i2 j (by omega)⟩)⟩))), rfl⟩
      · have pq44 : ¬ (0 ≤ a2 ∧ a2 ≤ 999) := by first | omega | (rcases hq17 with ⟨z1, z2⟩ | ⟨z1, z2⟩ <;> first | exact z2 | (exfalso; omega))
        refine g_bipush X (-2) dX7_forged_25 (by decide) ?_
        exact g_iret X dX7_forged_27 ⟨_, _, rfl, (show ((-2) : Int32).toInt = (-2) by decide), (by first | exact Or.inl ⟨by omega, rfl⟩ | exact Or.inr (Or.inl ⟨by omega, by omega, rfl⟩) | exact Or.inr (Or.inr (Or.inl ⟨by omega, by omega, by omega, rfl⟩)) | exact Or.inr (Or.inr (Or.inr ⟨by omega, by omega, by omega, (by first | exact Or.inl ⟨rfl, fun j hj => i2 j (by omega)⟩ | exact Or.inr ⟨i1.1, by omega, (by rintro (z | z); exact absurd z (by assumption); exact z (bb1 hbb (by assumption))), fun j hj => i2 j (by omega)⟩)⟩))), rfl⟩
    · have pq45 : ¬ (-1 ≤ a3 ∧ a3 ≤ ((Mq.1 47 53)).toInt) := by first | omega | (rcases hq11 with ⟨z1, z2⟩ | ⟨z1, z2⟩ <;> first | exact z2 | (exfalso; omega))
      refine g_iconst X (-1) dX7_forged_16 (by decide) ?_
      exact g_iret X dX7_forged_17 ⟨_, _, rfl, (show ((-1) : Int32).toInt = (-1) by decide), (by first | exact Or.inl ⟨by omega, rfl⟩ | exact Or.inr (Or.inl ⟨by omega, by omega, rfl⟩) | exact Or.inr (Or.inr (Or.inl ⟨by omega, by omega, by omega, rfl⟩)) | exact Or.inr (Or.inr (Or.inr ⟨by omega, by omega, by omega, (by first | exact Or.inl ⟨rfl, fun j hj => i2 j (by omega)⟩ | exact Or.inr ⟨i1.1, by omega, (by rintro (z | z); exact absurd z (by assumption); exact z (bb1 hbb (by assumption))), fun j hj => i2 j (by omega)⟩)⟩))), rfl⟩
end
