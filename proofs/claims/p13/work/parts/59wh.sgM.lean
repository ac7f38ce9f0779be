section
abbrev W_X7_findStock_F : List (Nat × Nat) := [(85, 99)]
set_option maxHeartbeats 4000000 in
set_option maxRecDepth 4000 in
theorem c_X7_findStock_F (ad : Nat → Nat) (Mq : Mem) (x1 : Int32) {a1 : Int} (t1 : x1.toInt = a1) (x2 : Int32) {a2 : Int} (t2 : x2.toInt = a2) (x3 : Int32) {a3 : Int} (t3 : x3.toInt = a3) (Iq0 : Iv TM Mq) (h3 : a3 ≤ 200) : Ctr ad yX7_findStock cX7_findStock 5 none 1 [.ref (ad 47), .int x1, .int x2, .int x3] Mq (fun v M' => v = none ∧ (True) ∧ (∀ l : Nat, l < 40 → ((M'.1 85 l).toInt ≠ 0 ↔ ((l : Int) < (Mq.1 47 12).toInt ∧ hsM Mq a1 l a2 a3.toNat = true))) ∧ Iv TM M' ∧ Fr W_X7_findStock_F Mq M') := by
  refine ctr_of (L := [(0, .ref (ad 47)), (1, .int x1), (2, .int x2), (3, .int x3)]) (by decide) (Nat.le_of_ble_eq_true rfl) rfl ?_
  intro Γ X
  have X : gX Γ cX7_findStock RX7 5 none 1 ad _ := X
  have frq0 : Fr W_X7_findStock_F Mq Mq := Fr.rf
  have g12 := ig_47_12 Iq0
  have g24 := ig_47_24 Iq0
  have g33 := ig_47_33 Iq0
  have g44 := ig_47_44 Iq0
  have g43 := ig_47_43 Iq0
  have g52 := ig_47_52 Iq0
  have g53 := ig_47_53 Iq0
  have g59 := ig_47_59 Iq0
  refine g_iconst X 0 dX7_findStock_0 (by decide) ?_
  refine g_istore X [(4, .int 0), (0, .ref (ad 47)), (1, .int x1), (2, .int x2), (3, .int x3)] dX7_findStock_1 (by decide) rfl ?_
  have lp3 : ∀ n : Nat, ∀ (y4_3 : Int32) (b4_3 : Int), y4_3.toInt = b4_3 → ∀ (M_3 : Mem), (0 ≤ b4_3 ∧ b4_3 ≤ 40) → (∀ l : Nat, (l : Int) < b4_3 → ((M_3.1 85 l).toInt ≠ 0 ↔ ((l : Int) < (Mq.1 47 12).toInt ∧ hsM Mq a1 l a2 a3.toNat = true))) → (Iv TM M_3) → (Fr W_X7_findStock_F Mq M_3) → (40 - b4_3).toNat < n → G Γ M_3 3 [(4, .int y4_3), (0, .ref (ad 47)), (1, .int x1), (2, .int x2), (3, .int x3)] [] := by
    intro n
    induction n with
    | zero => intro y4_3 b4_3 e4_3 M_3 i1 i2 I_3 fr_3 hm; exact absurd hm (Nat.not_lt_zero _)
    | succ n ih3 =>
      intro y4_3 b4_3 e4_3 M_3 i1 i2 I_3 fr_3 hm3
      have trq1 : (M_3.1 47 12).toInt = (Mq.1 47 12).toInt := congrArg Int32.toInt (fr_3.at 47 12 rfl)
      have hsq := hsM_fr fr_3 (by decide)
      refine g_iload X 0 rfl dX7_findStock_3 ?_
      refine g_bipush X 40 dX7_findStock_5 (by decide) ?_
      refine g_icmp_ge X e4_3 (show (40 : Int32).toInt = 40 by decide) (tgt := 49) dX7_findStock_7 (by decide) (fun cq2 => ?_) (fun cq2 => ?_)
      · exact g_vret X dX7_findStock_49 ⟨rfl, trivial, (fun l hl => i2 l (by omega)), I_3, fr_3⟩
      · refine g_aload_n X 1 rfl dX7_findStock_10 ?_
        refine g_getr X f_X7_126 dX7_findStock_11 ?_
        refine g_iload X 0 rfl dX7_findStock_14 ?_
        refine g_iload X 0 rfl dX7_findStock_16 ?_
        refine g_aload_n X 1 rfl dX7_findStock_18 ?_
        refine g_geti X f_X7_147 dX7_findStock_19 (x := M_3.1 47 12) rfl ?_
        have bq3 := ig_47_12 I_3
        refine g_icmp_ge X e4_3 rfl (tgt := 41) dX7_findStock_22 (by decide) (fun cq4 => ?_) (fun cq4 => ?_)
        · refine g_iconst X 0 dX7_findStock_41 (by decide) ?_
          refine g_zast X la_85 (b01 (show (0 : Int32).toInt = 0 by decide) (by omega)) e4_3 dX7_findStock_42 (by omega) ?_
          have ltq5 : (0 : Int32).toInt = 0 := by decide
          have Iq6 : Iv TM (ui M_3 85 b4_3.toNat 0) := I_3.putA 0 1 (show (0 : Int32).toInt = 0 by decide) (by omega) rfl
          have frq7 : Fr W_X7_findStock_F Mq (ui M_3 85 b4_3.toNat 0) := fr_3.ui rfl
          refine g_iinc X 0 (fun v => [(4, .int v), (0, .ref (ad 47)), (1, .int x1), (2, .int x2), (3, .int x3)]) dX7_findStock_43 rfl (by decide) (fun _ => rfl) (fun zq8 eq9 => ?_)
          have tq10 : zq8.toInt = b4_3 + 1 := add_nw eq9 e4_3 (show (Int32.ofInt 1).toInt = 1 by decide) (by omega)
          refine g_goto X (tgt := 3) dX7_findStock_46 (by decide) ?_
          refine g_sub [0, 1, 2, 3, 4] rfl ?_
          exact ih3 zq8 _ tq10 (ui M_3 85 b4_3.toNat 0) (by omega) (FS_step (P := fun l => ((l : Int) < (Mq.1 47 12).toInt ∧ hsM Mq a1 l a2 a3.toNat = true)) i2 i1.1 (by first | exact ⟨fun _ => ⟨by omega, by rw [tn_cast i1.1]; exact bb1 hbb (by omega)⟩, fun _ => by decide⟩ | exact ⟨fun z => absurd (by decide) z, fun z => absurd z.1 (by omega)⟩ | exact ⟨fun z => absurd (by decide) z, fun z => absurd (by have y := z.2; rw [tn_cast i1.1] at y; exact y) (bb0 hbb (by omega))⟩)) Iq6 frq7 (by omega)
        · refine g_aload_n X 1 rfl dX7_findStock_25 ?_
          refine g_iload_n X 2 rfl dX7_findStock_26 ?_
          refine g_iload X 0 rfl dX7_findStock_27 ?_
          refine g_iload_n X 3 rfl dX7_findStock_29 ?_
          refine g_iload_n X 4 rfl dX7_findStock_30 ?_
          refine g_callV X m_X7_322 (c_X7_hasLine_E ad M_3 x1 t1 y4_3 e4_3 x2 t2 x3 t3 I_3 (by omega)) rfl (by decide) (Nat.le_of_ble_eq_true rfl) rfl dX7_findStock_31 ?_
          rintro _ _ ⟨rq11, aq12, rfl, tq13, hq14, rfl⟩
          have hbb := hq14
          rw [hsq] at hbb
          show G Γ M_3 34 [(4, .int y4_3), (0, .ref (ad 47)), (1, .int x1), (2, .int x2), (3, .int x3)] [.int rq11, .int y4_3, .ref (ad 85)]
          refine g_if_eq X tq13 (tgt := 41) dX7_findStock_34 (by decide) (fun cq15 => ?_) (fun cq15 => ?_)
          · have pq16 : ¬ (hsM M_3 a1 b4_3 a2 a3.toNat = true) := by first | omega | (rcases hq14 with ⟨z1, z2⟩ | ⟨z1, z2⟩ <;> first | exact z2 | (exfalso; omega))
            refine g_iconst X 0 dX7_findStock_41 (by decide) ?_
            refine g_zast X la_85 (b01 (show (0 : Int32).toInt = 0 by decide) (by omega)) e4_3 dX7_findStock_42 (by omega) ?_
            have ltq17 : (0 : Int32).toInt = 0 := by decide
            have Iq18 : Iv TM (ui M_3 85 b4_3.toNat 0) := I_3.putA 0 1 (show (0 : Int32).toInt = 0 by decide) (by omega) rfl
            have frq19 : Fr W_X7_findStock_F Mq (ui M_3 85 b4_3.toNat 0) := fr_3.ui rfl
            refine g_iinc X 0 (fun v => [(4, .int v), (0, .ref (ad 47)), (1, .int x1), (2, .int x2), (3, .int x3)]) dX7_findStock_43 rfl (by decide) (fun _ => rfl) (fun zq20 eq21 => ?_)
            have tq22 : zq20.toInt = b4_3 + 1 := add_nw eq21 e4_3 (show (Int32.ofInt 1).toInt = 1 by decide) (by omega)
            refine g_goto X (tgt := 3) dX7_findStock_46 (by decide) ?_
            refine g_sub [0, 1, 2, 3, 4] rfl ?_
            exact ih3 zq20 _ tq22 (ui M_3 85 b4_3.toNat 0) (by omega) (FS_step (P := fun l => ((l : Int) < (Mq.1 47 12).toInt ∧ hsM Mq a1 l a2 a3.toNat = true)) i2 i1.1 (by first | exact ⟨fun _ => ⟨by omega, by rw [tn_cast i1.1]; exact bb1 hbb (by omega)⟩, fun _ => by decide⟩ | exact ⟨fun z => absurd (by decide) z, fun z => absurd z.1 (by omega)⟩ | exact ⟨fun z => absurd (by decide) z, fun z => absurd (by have y := z.2; rw [tn_cast i1.1] at y; exact y) (bb0 hbb (by omega))⟩)) Iq18 frq19 (by omega)
          · have pq23 : (hsM M_3 a1 b4_3 a2 a3.toNat = true) := by first | omega | (rcases hq14 with ⟨z1, z2⟩ | ⟨z1, z2⟩ <;> first | exact z2 | (exfalso; omega))
            refine g_iconst X 1 dX7_findStock_37 (by decide) ?_
            refine g_goto X (tgt := 42) dX7_findStock_38 (by decide) ?_
            refine g_zast X la_85 (b01 (show (1 : Int32).toInt = 1 by decide) (by omega)) e4_3 dX7_findStock_42 (by omega) ?_
            have ltq24 : (1 : Int32).toInt = 1 := by decide
            have Iq25 : Iv TM (ui M_3 85 b4_3.toNat 1) := I_3.putA 0 1 (show (1 : Int32).toInt = 1 by decide) (by omega) rfl
            have frq26 : Fr W_X7_findStock_F Mq (ui M_3 85 b4_3.toNat 1) := fr_3.ui rfl
            refine g_iinc X 0 (fun v => [(4, .int v), (0, .ref (ad 47)), (1, .int x1), (2, .int x2), (3, .int x3)]) dX7_findStock_43 rfl (by decide) (fun _ => rfl) (fun zq27 eq28 => ?_)
            have tq29 : zq27.toInt = b4_3 + 1 := add_nw eq28 e4_3 (show (Int32.ofInt 1).toInt = 1 by decide) (by omega)
            refine g_goto X (tgt := 3) dX7_findStock_46 (by decide) ?_
            refine g_sub [0, 1, 2, 3, 4] rfl ?_
            exact ih3 zq27 _ tq29 (ui M_3 85 b4_3.toNat 1) (by omega) (FS_step (P := fun l => ((l : Int) < (Mq.1 47 12).toInt ∧ hsM Mq a1 l a2 a3.toNat = true)) i2 i1.1 (by first | exact ⟨fun _ => ⟨by omega, by rw [tn_cast i1.1]; exact bb1 hbb (by omega)⟩, fun _ => by decide⟩ | exact ⟨fun z => absurd (by decide) z, fun z => absurd z.1 (by omega)⟩ | exact ⟨fun z => absurd (by decide) z, fun z => absurd (by have y := z.2; rw [tn_cast i1.1] at y; exact y) (bb0 hbb (by omega))⟩)) Iq25 frq26 (by omega)
  refine g_sub [0, 1, 2, 3, 4] rfl ?_
  exact lp3 _ 0 _ (show (0 : Int32).toInt = 0 by decide) Mq (by omega) (fun l hl => absurd hl (by omega)) Iq0 frq0 (Nat.lt_succ_self _)
set_option maxHeartbeats 4000000 in
set_option maxRecDepth 4000 in
theorem c_X7_lineOf_F (ad : Nat → Nat) (Mq : Mem) (x1 : Int32) {a1 : Int} (t1 : x1.toInt = a1) (x2 : Int32) {a2 : Int} (t2 : x2.toInt = a2) (Iq0 : Iv TM Mq) (h2 : 0 ≤ a2 ∧ a2 < cntL Mq a1 ((Mq.1 47 12).toInt).toNat) : Ctr ad yX7_lineOf cX7_lineOf 5 (some .int) 0 [.ref (ad 47), .int x1, .int x2] Mq (fun v M' => ∃ (r : Int32) (a : Int), v = some (.int r) ∧ r.toInt = a ∧ ((0 ≤ a ∧ a < 40) ∧ a = nthN (BM Mq a1) a2 40) ∧ Mq = M') := by
  refine ctr_of (L := [(0, .ref (ad 47)), (1, .int x1), (2, .int x2)]) (by decide) (Nat.le_of_ble_eq_true rfl) rfl ?_
  intro Γ X
  have X : gX Γ cX7_lineOf RX7 5 (some .int) 0 ad _ := X
  have g12 := ig_47_12 Iq0
  have g24 := ig_47_24 Iq0
  have g33 := ig_47_33 Iq0
  have g44 := ig_47_44 Iq0
  have g43 := ig_47_43 Iq0
  have g52 := ig_47_52 Iq0
  have g53 := ig_47_53 Iq0
  have g59 := ig_47_59 Iq0
  refine g_iload_n X 2 rfl dX7_lineOf_0 ?_
  refine g_istore_n X (i := 3) [(3, .int x2), (0, .ref (ad 47)), (1, .int x1), (2, .int x2)] dX7_lineOf_1 rfl (by decide) rfl ?_
  refine g_iconst X 0 dX7_lineOf_2 (by decide) ?_
  refine g_istore X [(4, .int 0), (3, .int x2), (0, .ref (ad 47)), (1, .int x1), (2, .int x2)] dX7_lineOf_3 (by decide) rfl ?_
  have lp5 : ∀ n : Nat, ∀ (y4_5 : Int32) (b4_5 : Int), y4_5.toInt = b4_5 → ∀ (y3_5 : Int32) (b3_5 : Int), y3_5.toInt = b3_5 → (0 ≤ b4_5) → (a2 - b3_5 = cntL Mq a1 (b4_5).toNat) → (0 ≤ b3_5) → (40 - b4_5).toNat < n → G Γ Mq 5 [(4, .int y4_5), (3, .int y3_5), (0, .ref (ad 47)), (1, .int x1), (2, .int x2)] [] := by
    intro n
    induction n with
    | zero => intro y4_5 b4_5 e4_5 y3_5 b3_5 e3_5 i1 i2 i3 hm; exact absurd hm (Nat.not_lt_zero _)
    | succ n ih5 =>
      intro y4_5 b4_5 e4_5 y3_5 b3_5 e3_5 i1 i2 i3 hm5
      have hlt := cntL_lt (show cntL Mq a1 (b4_5).toNat ≤ a2 by omega) h2.2
      have hc1 := cntL_rng Mq a1 ((Mq.1 47 12).toInt).toNat
      have hc2 := cntL_rng Mq a1 (b4_5).toNat
      refine g_aload_n X 2 rfl dX7_lineOf_5 ?_
      refine g_getr X f_X7_126 dX7_lineOf_6 ?_
      refine g_iload X 0 rfl dX7_lineOf_9 ?_
      refine g_zald X la_85 e4_5 dX7_lineOf_11 (by omega) (x := Mq.1 85 b4_5.toNat) rfl ?_
      have bq1 := ig_85 Iq0 b4_5.toNat (by omega)
      refine g_if_eq X rfl (tgt := 30) dX7_lineOf_12 (by decide) (fun cq2 => ?_) (fun cq2 => ?_)
      · refine g_iload_n X 1 rfl dX7_lineOf_30 ?_
        refine g_aload_n X 2 rfl dX7_lineOf_31 ?_
        refine g_getr X f_X7_126 dX7_lineOf_32 ?_
        refine g_iload X 0 rfl dX7_lineOf_35 ?_
        refine g_zald X la_85 e4_5 dX7_lineOf_37 (by omega) (x := Mq.1 85 b4_5.toNat) rfl ?_
        have bq3 := ig_85 Iq0 b4_5.toNat (by omega)
        refine g_if_eq X rfl (tgt := 56) dX7_lineOf_38 (by decide) (fun cq4 => ?_) (fun cq4 => ?_)
        · refine g_iconst X 0 dX7_lineOf_56 (by decide) ?_
          refine g_isub X dX7_lineOf_57 (fun zq5 eq6 => ?_)
          have tq7 : zq5.toInt = b3_5 - 0 := sub_nw eq6 e3_5 (show (0 : Int32).toInt = 0 by decide) (by omega)
          refine g_istore_n X (i := 3) [(3, .int zq5), (4, .int y4_5), (0, .ref (ad 47)), (1, .int x1), (2, .int x2)] dX7_lineOf_58 rfl (by decide) rfl ?_
          refine g_iinc X 1 (fun v => [(4, .int v), (3, .int zq5), (0, .ref (ad 47)), (1, .int x1), (2, .int x2)]) dX7_lineOf_59 rfl (by decide) (fun _ => rfl) (fun zq8 eq9 => ?_)
          have tq10 : zq8.toInt = b4_5 + 1 := add_nw eq9 e4_5 (show (Int32.ofInt 1).toInt = 1 by decide) (by omega)
          refine g_goto X (tgt := 5) dX7_lineOf_62 (by decide) ?_
          refine g_sub [0, 1, 2, 3, 4] rfl ?_
          exact ih5 zq8 _ tq10 zq5 _ tq7 (by omega) (by first | exact (by have := cntL_y i2 i1 (by omega) (by omega); omega) | exact (by have := cntL_n i2 i1 (by omega); omega)) (by omega) (by omega)
        · refine g_aload_n X 2 rfl dX7_lineOf_41 ?_
          refine g_getr X f_X7_31 dX7_lineOf_42 ?_
          refine g_iload X 0 rfl dX7_lineOf_45 ?_
          refine g_iald X la_55 e4_5 dX7_lineOf_47 (by omega) (x := Mq.1 55 b4_5.toNat) rfl ?_
          refine g_iload_n X 3 rfl dX7_lineOf_48 ?_
          refine g_icmp_ne X rfl t1 (tgt := 56) dX7_lineOf_49 (by decide) (fun cq11 => ?_) (fun cq11 => ?_)
          · refine g_iconst X 0 dX7_lineOf_56 (by decide) ?_
            refine g_isub X dX7_lineOf_57 (fun zq12 eq13 => ?_)
            have tq14 : zq12.toInt = b3_5 - 0 := sub_nw eq13 e3_5 (show (0 : Int32).toInt = 0 by decide) (by omega)
            refine g_istore_n X (i := 3) [(3, .int zq12), (4, .int y4_5), (0, .ref (ad 47)), (1, .int x1), (2, .int x2)] dX7_lineOf_58 rfl (by decide) rfl ?_
            refine g_iinc X 1 (fun v => [(4, .int v), (3, .int zq12), (0, .ref (ad 47)), (1, .int x1), (2, .int x2)]) dX7_lineOf_59 rfl (by decide) (fun _ => rfl) (fun zq15 eq16 => ?_)
            have tq17 : zq15.toInt = b4_5 + 1 := add_nw eq16 e4_5 (show (Int32.ofInt 1).toInt = 1 by decide) (by omega)
            refine g_goto X (tgt := 5) dX7_lineOf_62 (by decide) ?_
            refine g_sub [0, 1, 2, 3, 4] rfl ?_
            exact ih5 zq15 _ tq17 zq12 _ tq14 (by omega) (by first | exact (by have := cntL_y i2 i1 (by omega) (by omega); omega) | exact (by have := cntL_n i2 i1 (by omega); omega)) (by omega) (by omega)
          · refine g_iconst X 1 dX7_lineOf_52 (by decide) ?_
            refine g_goto X (tgt := 57) dX7_lineOf_53 (by decide) ?_
            refine g_isub X dX7_lineOf_57 (fun zq18 eq19 => ?_)
            have tq20 : zq18.toInt = b3_5 - 1 := sub_nw eq19 e3_5 (show (1 : Int32).toInt = 1 by decide) (by omega)
            refine g_istore_n X (i := 3) [(3, .int zq18), (4, .int y4_5), (0, .ref (ad 47)), (1, .int x1), (2, .int x2)] dX7_lineOf_58 rfl (by decide) rfl ?_
            refine g_iinc X 1 (fun v => [(4, .int v), (3, .int zq18), (0, .ref (ad 47)), (1, .int x1), (2, .int x2)]) dX7_lineOf_59 rfl (by decide) (fun _ => rfl) (fun zq21 eq22 => ?_)
            have tq23 : zq21.toInt = b4_5 + 1 := add_nw eq22 e4_5 (show (Int32.ofInt 1).toInt = 1 by decide) (by omega)
            refine g_goto X (tgt := 5) dX7_lineOf_62 (by decide) ?_
            refine g_sub [0, 1, 2, 3, 4] rfl ?_
            exact ih5 zq21 _ tq23 zq18 _ tq20 (by omega) (by first | exact (by have := cntL_y i2 i1 (by omega) (by omega); omega) | exact (by have := cntL_n i2 i1 (by omega); omega)) (by omega) (by omega)
      · refine g_aload_n X 2 rfl dX7_lineOf_15 ?_
        refine g_getr X f_X7_31 dX7_lineOf_16 ?_
        refine g_iload X 0 rfl dX7_lineOf_19 ?_
        refine g_iald X la_55 e4_5 dX7_lineOf_21 (by omega) (x := Mq.1 55 b4_5.toNat) rfl ?_
        refine g_iload_n X 3 rfl dX7_lineOf_22 ?_
        refine g_icmp_ne X rfl t1 (tgt := 30) dX7_lineOf_23 (by decide) (fun cq24 => ?_) (fun cq24 => ?_)
        · refine g_iload_n X 1 rfl dX7_lineOf_30 ?_
          refine g_aload_n X 2 rfl dX7_lineOf_31 ?_
          refine g_getr X f_X7_126 dX7_lineOf_32 ?_
          refine g_iload X 0 rfl dX7_lineOf_35 ?_
          refine g_zald X la_85 e4_5 dX7_lineOf_37 (by omega) (x := Mq.1 85 b4_5.toNat) rfl ?_
          have bq25 := ig_85 Iq0 b4_5.toNat (by omega)
          refine g_if_eq X rfl (tgt := 56) dX7_lineOf_38 (by decide) (fun cq26 => ?_) (fun cq26 => ?_)
          · refine g_iconst X 0 dX7_lineOf_56 (by decide) ?_
            refine g_isub X dX7_lineOf_57 (fun zq27 eq28 => ?_)
            have tq29 : zq27.toInt = b3_5 - 0 := sub_nw eq28 e3_5 (show (0 : Int32).toInt = 0 by decide) (by omega)
            refine g_istore_n X (i := 3) [(3, .int zq27), (4, .int y4_5), (0, .ref (ad 47)), (1, .int x1), (2, .int x2)] dX7_lineOf_58 rfl (by decide) rfl ?_
            refine g_iinc X 1 (fun v => [(4, .int v), (3, .int zq27), (0, .ref (ad 47)), (1, .int x1), (2, .int x2)]) dX7_lineOf_59 rfl (by decide) (fun _ => rfl) (fun zq30 eq31 => ?_)
            have tq32 : zq30.toInt = b4_5 + 1 := add_nw eq31 e4_5 (show (Int32.ofInt 1).toInt = 1 by decide) (by omega)
            refine g_goto X (tgt := 5) dX7_lineOf_62 (by decide) ?_
            refine g_sub [0, 1, 2, 3, 4] rfl ?_
            exact ih5 zq30 _ tq32 zq27 _ tq29 (by omega) (by first | exact (by have := cntL_y i2 i1 (by omega) (by omega); omega) | exact (by have := cntL_n i2 i1 (by omega); omega)) (by omega) (by omega)
          · refine g_aload_n X 2 rfl dX7_lineOf_41 ?_
            refine g_getr X f_X7_31 dX7_lineOf_42 ?_
            refine g_iload X 0 rfl dX7_lineOf_45 ?_
            refine g_iald X la_55 e4_5 dX7_lineOf_47 (by omega) (x := Mq.1 55 b4_5.toNat) rfl ?_
            refine g_iload_n X 3 rfl dX7_lineOf_48 ?_
            refine g_icmp_ne X rfl t1 (tgt := 56) dX7_lineOf_49 (by decide) (fun cq33 => ?_) (fun cq33 => ?_)
            · refine g_iconst X 0 dX7_lineOf_56 (by decide) ?_
              refine g_isub X dX7_lineOf_57 (fun zq34 eq35 => ?_)
              have tq36 : zq34.toInt = b3_5 - 0 := sub_nw eq35 e3_5 (show (0 : Int32).toInt = 0 by decide) (by omega)
              refine g_istore_n X (i := 3) [(3, .int zq34), (4, .int y4_5), (0, .ref (ad 47)), (1, .int x1), (2, .int x2)] dX7_lineOf_58 rfl (by decide) rfl ?_
              refine g_iinc X 1 (fun v => [(4, .int v), (3, .int zq34), (0, .ref (ad 47)), (1, .int x1), (2, .int x2)]) dX7_lineOf_59 rfl (by decide) (fun _ => rfl) (fun zq37 eq38 => ?_)
              have tq39 : zq37.toInt = b4_5 + 1 := add_nw eq38 e4_5 (show (Int32.ofInt 1).toInt = 1 by decide) (by omega)
              refine g_goto X (tgt := 5) dX7_lineOf_62 (by decide) ?_
              refine g_sub [0, 1, 2, 3, 4] rfl ?_
              exact ih5 zq37 _ tq39 zq34 _ tq36 (by omega) (by first | exact (by have := cntL_y i2 i1 (by omega) (by omega); omega) | exact (by have := cntL_n i2 i1 (by omega); omega)) (by omega) (by omega)
            · refine g_iconst X 1 dX7_lineOf_52 (by decide) ?_
              refine g_goto X (tgt := 57) dX7_lineOf_53 (by decide) ?_
              refine g_isub X dX7_lineOf_57 (fun zq40 eq41 => ?_)
              have tq42 : zq40.toInt = b3_5 - 1 := sub_nw eq41 e3_5 (show (1 : Int32).toInt = 1 by decide) (by omega)
              refine g_istore_n X (i := 3) [(3, .int zq40), (4, .int y4_5), (0, .ref (ad 47)), (1, .int x1), (2, .int x2)] dX7_lineOf_58 rfl (by decide) rfl ?_
              refine g_iinc X 1 (fun v => [(4, .int v), (3, .int zq40), (0, .ref (ad 47)), (1, .int x1), (2, .int x2)]) dX7_lineOf_59 rfl (by decide) (fun _ => rfl) (fun zq43 eq44 => ?_)
              have tq45 : zq43.toInt = b4_5 + 1 := add_nw eq44 e4_5 (show (Int32.ofInt 1).toInt = 1 by decide) (by omega)
              refine g_goto X (tgt := 5) dX7_lineOf_62 (by decide) ?_
              refine g_sub [0, 1, 2, 3, 4] rfl ?_
              exact ih5 zq43 _ tq45 zq40 _ tq42 (by omega) (by first | exact (by have := cntL_y i2 i1 (by omega) (by omega); omega) | exact (by have := cntL_n i2 i1 (by omega); omega)) (by omega) (by omega)
        · refine g_iload_n X 1 rfl dX7_lineOf_26 ?_
          refine g_if_le X e3_5 (tgt := 65) dX7_lineOf_27 (by decide) (fun cq46 => ?_) (fun cq46 => ?_)
          · refine g_iload X 0 rfl dX7_lineOf_65 ?_
            exact g_iret X dX7_lineOf_67 ⟨_, _, rfl, e4_5, ⟨⟨by omega, by omega⟩, (by rw [nthN_of (BM_y (by omega) (by omega)) (show ((ctb (BM Mq a1) (b4_5).toNat : Nat) : Int) = a2 by rw [← cntL_ctb]; omega) 40 (by omega)]; omega)⟩, rfl⟩
          · refine g_iload_n X 1 rfl dX7_lineOf_30 ?_
            refine g_aload_n X 2 rfl dX7_lineOf_31 ?_
            refine g_getr X f_X7_126 dX7_lineOf_32 ?_
            refine g_iload X 0 rfl dX7_lineOf_35 ?_
            refine g_zald X la_85 e4_5 dX7_lineOf_37 (by omega) (x := Mq.1 85 b4_5.toNat) rfl ?_
            have bq47 := ig_85 Iq0 b4_5.toNat (by omega)
            refine g_if_eq X rfl (tgt := 56) dX7_lineOf_38 (by decide) (fun cq48 => ?_) (fun cq48 => ?_)
            · refine g_iconst X 0 dX7_lineOf_56 (by decide) ?_
              refine g_isub X dX7_lineOf_57 (fun zq49 eq50 => ?_)
              have tq51 : zq49.toInt = b3_5 - 0 := sub_nw eq50 e3_5 (show (0 : Int32).toInt = 0 by decide) (by omega)
              refine g_istore_n X (i := 3) [(3, .int zq49), (4, .int y4_5), (0, .ref (ad 47)), (1, .int x1), (2, .int x2)] dX7_lineOf_58 rfl (by decide) rfl ?_
              refine g_iinc X 1 (fun v => [(4, .int v), (3, .int zq49), (0, .ref (ad 47)), (1, .int x1), (2, .int x2)]) dX7_lineOf_59 rfl (by decide) (fun _ => rfl) (fun zq52 eq53 => ?_)
              have tq54 : zq52.toInt = b4_5 + 1 := add_nw eq53 e4_5 (show (Int32.ofInt 1).toInt = 1 by decide) (by omega)
              refine g_goto X (tgt := 5) dX7_lineOf_62 (by decide) ?_
              refine g_sub [0, 1, 2, 3, 4] rfl ?_
              exact ih5 zq52 _ tq54 zq49 _ tq51 (by omega) (by first | exact (by have := cntL_y i2 i1 (by omega) (by omega); omega) | exact (by have := cntL_n i2 i1 (by omega); omega)) (by omega) (by omega)
            · refine g_aload_n X 2 rfl dX7_lineOf_41 ?_
              refine g_getr X f_X7_31 dX7_lineOf_42 ?_
              refine g_iload X 0 rfl dX7_lineOf_45 ?_
              refine g_iald X la_55 e4_5 dX7_lineOf_47 (by omega) (x := Mq.1 55 b4_5.toNat) rfl ?_
              refine g_iload_n X 3 rfl dX7_lineOf_48 ?_
              refine g_icmp_ne X rfl t1 (tgt := 56) dX7_lineOf_49 (by decide) (fun cq55 => ?_) (fun cq55 => ?_)
              · refine g_iconst X 0 dX7_lineOf_56 (by decide) ?_
                refine g_isub X dX7_lineOf_57 (fun zq56 eq57 => ?_)
                have tq58 : zq56.toInt = b3_5 - 0 := sub_nw eq57 e3_5 (show (0 : Int32).toInt = 0 by decide) (by omega)
                refine g_istore_n X (i := 3) [(3, .int zq56), (4, .int y4_5), (0, .ref (ad 47)), (1, .int x1), (2, .int x2)] dX7_lineOf_58 rfl (by decide) rfl ?_
                refine g_iinc X 1 (fun v => [(4, .int v), (3, .int zq56), (0, .ref (ad 47)), (1, .int x1), (2, .int x2)]) dX7_lineOf_59 rfl (by decide) (fun _ => rfl) (fun zq59 eq60 => ?_)
                have tq61 : zq59.toInt = b4_5 + 1 := add_nw eq60 e4_5 (show (Int32.ofInt 1).toInt = 1 by decide) (by omega)
                refine g_goto X (tgt := 5) dX7_lineOf_62 (by decide) ?_
                refine g_sub [0, 1, 2, 3, 4] rfl ?_
                exact ih5 zq59 _ tq61 zq56 _ tq58 (by omega) (by first | exact (by have := cntL_y i2 i1 (by omega) (by omega); omega) | exact (by have := cntL_n i2 i1 (by omega); omega)) (by omega) (by omega)
              · refine g_iconst X 1 dX7_lineOf_52 (by decide) ?_
                refine g_goto X (tgt := 57) dX7_lineOf_53 (by decide) ?_
                refine g_isub X dX7_lineOf_57 (fun zq62 eq63 => ?_)
                have tq64 : zq62.toInt = b3_5 - 1 := sub_nw eq63 e3_5 (show (1 : Int32).toInt = 1 by decide) (by omega)
                refine g_istore_n X (i := 3) [(3, .int zq62), (4, .int y4_5), (0, .ref (ad 47)), (1, .int x1), (2, .int x2)] dX7_lineOf_58 rfl (by decide) rfl ?_
                refine g_iinc X 1 (fun v => [(4, .int v), (3, .int zq62), (0, .ref (ad 47)), (1, .int x1), (2, .int x2)]) dX7_lineOf_59 rfl (by decide) (fun _ => rfl) (fun zq65 eq66 => ?_)
                have tq67 : zq65.toInt = b4_5 + 1 := add_nw eq66 e4_5 (show (Int32.ofInt 1).toInt = 1 by decide) (by omega)
                refine g_goto X (tgt := 5) dX7_lineOf_62 (by decide) ?_
                refine g_sub [0, 1, 2, 3, 4] rfl ?_
                exact ih5 zq65 _ tq67 zq62 _ tq64 (by omega) (by first | exact (by have := cntL_y i2 i1 (by omega) (by omega); omega) | exact (by have := cntL_n i2 i1 (by omega); omega)) (by omega) (by omega)
  refine g_sub [0, 1, 2, 3, 4] rfl ?_
  exact lp5 _ 0 _ (show (0 : Int32).toInt = 0 by decide) x2 _ t2 (by omega) (show a2 - a2 = 0 by omega) (by omega) (Nat.lt_succ_self _)
abbrev W_X7_chooses_F : List (Nat × Nat) := [(47, 34)]
set_option maxHeartbeats 4000000 in
set_option maxRecDepth 4000 in
theorem c_X7_chooses_F (ad : Nat → Nat) (Mq : Mem) (x1 : Int32) {a1 : Int} (t1 : x1.toInt = a1) (Iq0 : Iv TM Mq) (h1 : 1 ≤ a1) (h0 : 0 ≤ (Mq.2 47 34).toInt) (cy0 : 0 ≤ (Mq.2 47 34).toInt) : Ctr ad yX7_chooses cX7_chooses 3 (some .int) 0 [.ref (ad 47), .int x1] Mq (fun v M' => ∃ (r : Int32) (a : Int), v = some (.int r) ∧ r.toInt = a ∧ (a = (Mq.2 47 34).toInt % a1 ∧ 0 ≤ a ∧ a < a1) ∧ (0 ≤ (M'.2 47 34).toInt) ∧ ((M'.2 47 34).toInt = (Mq.2 47 34).toInt / a1) ∧ Iv TM M' ∧ Fr W_X7_chooses_F Mq M') := by
  refine ctr_of (L := [(0, .ref (ad 47)), (1, .int x1)]) (by decide) (Nat.le_of_ble_eq_true rfl) rfl ?_
  intro Γ X
  have X : gX Γ cX7_chooses RX7 3 (some .int) 0 ad _ := X
  have frq0 : Fr W_X7_chooses_F Mq Mq := Fr.rf
  have g12 := ig_47_12 Iq0
  have g24 := ig_47_24 Iq0
  have g33 := ig_47_33 Iq0
  have g44 := ig_47_44 Iq0
  have g43 := ig_47_43 Iq0
  have g52 := ig_47_52 Iq0
  have g53 := ig_47_53 Iq0
  have g59 := ig_47_59 Iq0
  have m1 := Int.emod_nonneg (Mq.2 47 34).toInt (show a1 ≠ 0 by omega)
  have m2 := Int.emod_lt_of_pos (Mq.2 47 34).toInt (show 0 < a1 by omega)
  refine g_aload_n X 0 rfl dX7_chooses_0 ?_
  refine g_getl X f_X7_237 dX7_chooses_1 (x := Mq.2 47 34) rfl ?_
  refine g_iload_n X 1 rfl dX7_chooses_4 ?_
  refine g_i2l X dX7_chooses_5 (fun zq1 eq2 => ?_)
  have tq3 : zq1.toInt = a1 := i2l_nw eq2 t1
  refine g_lrem X dX7_chooses_6 (ne0L tq3 (by omega)) (fun zq4 eq5 => ?_)
  have kb1 := lrem_ex eq5 rfl tq3 (by omega)
  refine g_l2i X dX7_chooses_7 (fun zq6 eq7 => ?_)
  have kb2 : zq6.toInt = zq4.toInt := l2i_nw eq7 rfl (by have := i_rng x1; omega)
  refine g_istore_n X (i := 2) [(2, .int zq6), (0, .ref (ad 47)), (1, .int x1)] dX7_chooses_8 rfl (by decide) rfl ?_
  refine g_aload_n X 1 rfl dX7_chooses_9 ?_
  refine g_dup X dX7_chooses_10 rfl ?_
  refine g_getl X f_X7_237 dX7_chooses_11 (x := Mq.2 47 34) rfl ?_
  refine g_iload_n X 2 rfl dX7_chooses_14 ?_
  refine g_i2l X dX7_chooses_15 (fun zq8 eq9 => ?_)
  have tq10 : zq8.toInt = a1 := i2l_nw eq9 t1
  refine g_ldiv X dX7_chooses_16 (ne0L tq10 (by omega)) (fun zq11 eq12 => ?_)
  have kb3 := ldiv_ex eq12 rfl tq10 (by omega)
  have kb4 := Int.ediv_nonneg h0 (show 0 ≤ a1 by omega)
  refine g_putl X p_X7_237 dX7_chooses_17 ?_
  have Iq13 : Iv TM (ul Mq 47 34 zq11) := Iq0.long
  have frq14 : Fr W_X7_chooses_F Mq (ul Mq 47 34 zq11) := frq0.ul rfl
  have cyq15 : 0 ≤ ((ul Mq 47 34 zq11).2 47 34).toInt := (by rw [ul_eq]; omega)
  refine g_iload_n X 0 rfl dX7_chooses_20 ?_
  exact g_iret X dX7_chooses_21 ⟨_, _, rfl, rfl, (by omega), cyq15, (by rw [ul_eq]; exact kb3), Iq13, frq14⟩
set_option maxHeartbeats 4000000 in
set_option maxRecDepth 4000 in
theorem c_X7_behind_F (ad : Nat → Nat) (Mq : Mem) (x1 : Int32) {a1 : Int} (t1 : x1.toInt = a1) (x2 : Int32) {a2 : Int} (t2 : x2.toInt = a2) (Iq0 : Iv TM Mq) {S0 : List Int} (h1 : 0 ≤ a1 ∧ a1 ≤ 7) (hw : skN (txt Mq a1.toNat) ((Mq.1 62 a1.toNat).toInt).toNat = some []) (h2 : 0 ≤ a2 ∧ a2 < ((Mq.1 62 a1.toNat).toInt)) (hS : skN (txt Mq a1.toNat) a2.toNat = some S0) (hO : (Mq.1 61 (60 * a1 + a2).toNat).toInt = 91 ∨ (Mq.1 61 (60 * a1 + a2).toNat).toInt = 123 ∨ (Mq.1 61 (60 * a1 + a2).toNat).toInt = 40) (hV : gsN (txt Mq a1.toNat) ((Mq.1 62 a1.toNat).toInt).toNat = some ([], true)) : Ctr ad yX7_behind cX7_behind 6 (some .int) 0 [.ref (ad 47), .int x1, .int x2] Mq (fun v M' => ∃ (r : Int32) (a : Int), v = some (.int r) ∧ r.toInt = a ∧ ((0 ≤ a ∧ a < ((Mq.1 62 a1.toNat).toInt) ∧ ∃ s2, skN (txt Mq a1.toNat) (a.toNat + 1) = some s2 ∧ (s2 = S0 ∨ s2 = 124 :: S0)) ∧ MA (txt Mq a1.toNat) a2.toNat a.toNat) ∧ Mq = M') := by
  refine ctr_of (L := [(0, .ref (ad 47)), (1, .int x1), (2, .int x2)]) (by decide) (Nat.le_of_ble_eq_true rfl) rfl ?_
  intro Γ X
  have X : gX Γ cX7_behind RX7 6 (some .int) 0 ad _ := X
  have g12 := ig_47_12 Iq0
  have g24 := ig_47_24 Iq0
  have g33 := ig_47_33 Iq0
  have g44 := ig_47_44 Iq0
  have g43 := ig_47_43 Iq0
  have g52 := ig_47_52 Iq0
  have g53 := ig_47_53 Iq0
  have g59 := ig_47_59 Iq0
  have g12 := ig_47_12 Iq0
  have g24 := ig_47_24 Iq0
  have g44 := ig_47_44 Iq0
  have g43 := ig_47_43 Iq0
  have g53 := ig_47_53 Iq0
  have g59 := ig_47_59 Iq0
  have g62 := ig_62 Iq0 a1.toNat (by omega)
  refine g_iconst X 0 dX7_behind_0 (by decide) ?_
  refine g_istore_n X (i := 3) [(3, .int 0), (0, .ref (ad 47)), (1, .int x1), (2, .int x2)] dX7_behind_1 rfl (by decide) rfl ?_
  refine g_iload_n X 3 rfl dX7_behind_2 ?_
  refine g_istore X [(4, .int x2), (3, .int 0), (0, .ref (ad 47)), (1, .int x1), (2, .int x2)] dX7_behind_3 (by decide) rfl ?_
  have lp5 : ∀ n : Nat, ∀ (y4_5 : Int32) (b4_5 : Int), y4_5.toInt = b4_5 → ∀ (y3_5 : Int32) (b3_5 : Int), y3_5.toInt = b3_5 → (BI (txt Mq a1.toNat) ((Mq.1 62 a1.toNat).toInt).toNat S0 b4_5 b3_5) → ((b4_5 = a2 ∧ b3_5 = 0) ∨ 1 ≤ b3_5) → ((b4_5 = a2 ∧ b3_5 = 0) ∨ BHI (txt Mq a1.toNat) a2.toNat (psN (txt Mq a1.toNat) a2.toNat) b4_5 b3_5) → (((Mq.1 62 a1.toNat).toInt) - b4_5).toNat < n → G Γ Mq 5 [(4, .int y4_5), (3, .int y3_5), (0, .ref (ad 47)), (1, .int x1), (2, .int x2)] [] := by
    intro n
    induction n with
    | zero => intro y4_5 b4_5 e4_5 y3_5 b3_5 e3_5 i1 i2 i3 hm; exact absurd hm (Nat.not_lt_zero _)
    | succ n ih5 =>
      intro y4_5 b4_5 e4_5 y3_5 b3_5 e3_5 i1 i2 i3 hm5
      have hb1 := i1.1
      have hb2 := i1.2.1
      have hbd := BI_d i1
      have htx := txt_at (M := Mq) (x := a1) (k := b4_5) (by omega) (by omega)
      have hO2 : b4_5 = a2 → ((Mq.1 61 (60 * a1 + b4_5).toNat).toInt = 91 ∨ (Mq.1 61 (60 * a1 + b4_5).toNat).toInt = 123 ∨ (Mq.1 61 (60 * a1 + b4_5).toNat).toInt = 40) := fun e => by rw [e]; exact hO
      refine g_aload_n X 2 rfl dX7_behind_5 ?_
      refine g_getr X f_X7_49 dX7_behind_6 ?_
      refine g_bipush X 60 dX7_behind_9 (by decide) ?_
      refine g_iload_n X 3 rfl dX7_behind_11 ?_
      refine g_imul X dX7_behind_12 (fun zq1 eq2 => ?_)
      have tq3 : zq1.toInt = 60 * a1 := mul_nw eq2 (show (60 : Int32).toInt = 60 by decide) t1 (by omega)
      refine g_iload X 0 rfl dX7_behind_13 ?_
      refine g_iadd X dX7_behind_15 (fun zq4 eq5 => ?_)
      have tq6 : zq4.toInt = (60 * a1) + b4_5 := add_nw eq5 tq3 e4_5 (by omega)
      refine g_iald X la_61 tq6 dX7_behind_16 (by omega) (x := Mq.1 61 (((60 * a1) + b4_5).toNat)) rfl ?_
      refine g_istore X [(5, .int (Mq.1 61 (((60 * a1) + b4_5).toNat))), (4, .int y4_5), (3, .int y3_5), (0, .ref (ad 47)), (1, .int x1), (2, .int x2)] dX7_behind_17 (by decide) rfl ?_
      refine g_iload X 0 rfl dX7_behind_19 ?_
      refine g_bipush X 91 dX7_behind_21 (by decide) ?_
      refine g_icmp_eq X rfl (show (91 : Int32).toInt = 91 by decide) (tgt := 40) dX7_behind_23 (by decide) (fun cq7 => ?_) (fun cq7 => ?_)
      · refine g_iinc X 2 (fun v => [(3, .int v), (5, .int (Mq.1 61 (((60 * a1) + b4_5).toNat))), (4, .int y4_5), (0, .ref (ad 47)), (1, .int x1), (2, .int x2)]) dX7_behind_40 rfl (by decide) (fun _ => rfl) (fun zq8 eq9 => ?_)
        have tq10 : zq8.toInt = b3_5 + 1 := add_nw eq9 e3_5 (show (Int32.ofInt 1).toInt = 1 by decide) (by omega)
        refine g_iload X 1 rfl dX7_behind_43 ?_
        refine g_bipush X 124 dX7_behind_45 (by decide) ?_
        refine g_icmp_ne X rfl (show (124 : Int32).toInt = 124 by decide) (tgt := 58) dX7_behind_47 (by decide) (fun cq11 => ?_) (fun cq11 => ?_)
        · refine g_iload X 1 rfl dX7_behind_58 ?_
          refine g_bipush X 93 dX7_behind_60 (by decide) ?_
          refine g_icmp_eq X rfl (show (93 : Int32).toInt = 93 by decide) (tgt := 79) dX7_behind_62 (by decide) (fun cq12 => ?_) (fun cq12 => ?_)
          · refine g_iinc X 0 (fun v => [(3, .int v), (5, .int (Mq.1 61 (((60 * a1) + b4_5).toNat))), (4, .int y4_5), (0, .ref (ad 47)), (1, .int x1), (2, .int x2)]) dX7_behind_79 rfl (by decide) (fun _ => rfl) (fun zq13 eq14 => ?_)
            have tq15 : zq13.toInt = (b3_5 + 1) + (-1) := add_nw eq14 tq10 (show (Int32.ofInt (-1)).toInt = (-1) by decide) (by omega)
            refine g_iload_n X 0 rfl dX7_behind_82 ?_
            refine g_if_ne X tq15 (tgt := 89) dX7_behind_83 (by decide) (fun cq16 => ?_) (fun cq16 => ?_)
            · refine g_iinc X 2 (fun v => [(4, .int v), (3, .int zq13), (5, .int (Mq.1 61 (((60 * a1) + b4_5).toNat))), (0, .ref (ad 47)), (1, .int x1), (2, .int x2)]) dX7_behind_89 rfl (by decide) (fun _ => rfl) (fun zq17 eq18 => ?_)
              have tq19 : zq17.toInt = b4_5 + 1 := add_nw eq18 e4_5 (show (Int32.ofInt 1).toInt = 1 by decide) (by omega)
              refine g_goto X (tgt := 5) dX7_behind_92 (by decide) ?_
              refine g_sub [0, 1, 3, 4, 5] rfl ?_
              exact ih5 zq17 _ tq19 zq13 _ tq15 (BI_next hw i1 (by rw [htx]; unfold dlt; (repeat' split) <;> omega) (by omega)) (by omega) (BHN hV rfl i3 hO2 ⟨hb1, by omega⟩ htx (by omega)) (by omega)
            · refine g_iload X 2 rfl dX7_behind_86 ?_
              exact g_iret X dX7_behind_88 ⟨_, _, rfl, e4_5, ⟨⟨by omega, by omega, (by first | exact ⟨_, (BI_bar hw ((show b3_5 = 1 by omega) ▸ i1) (by rw [htx]; omega)).2, Or.inr rfl⟩ | exact ⟨_, (BI_last hw i1 (by rw [htx]; unfold dlt; (repeat' split) <;> omega) (by omega)).2, Or.inl rfl⟩)⟩, BHMA rfl i3 htx (by omega) (by omega)⟩, rfl⟩
          · refine g_iload X 1 rfl dX7_behind_65 ?_
            refine g_bipush X 125 dX7_behind_67 (by decide) ?_
            refine g_icmp_eq X rfl (show (125 : Int32).toInt = 125 by decide) (tgt := 79) dX7_behind_69 (by decide) (fun cq20 => ?_) (fun cq20 => ?_)
            · refine g_iinc X 0 (fun v => [(3, .int v), (5, .int (Mq.1 61 (((60 * a1) + b4_5).toNat))), (4, .int y4_5), (0, .ref (ad 47)), (1, .int x1), (2, .int x2)]) dX7_behind_79 rfl (by decide) (fun _ => rfl) (fun zq21 eq22 => ?_)
              have tq23 : zq21.toInt = (b3_5 + 1) + (-1) := add_nw eq22 tq10 (show (Int32.ofInt (-1)).toInt = (-1) by decide) (by omega)
              refine g_iload_n X 0 rfl dX7_behind_82 ?_
              refine g_if_ne X tq23 (tgt := 89) dX7_behind_83 (by decide) (fun cq24 => ?_) (fun cq24 => ?_)
              · refine g_iinc X 2 (fun v => [(4, .int v), (3, .int zq21), (5, .int (Mq.1 61 (((60 * a1) + b4_5).toNat))), (0, .ref (ad 47)), (1, .int x1), (2, .int x2)]) dX7_behind_89 rfl (by decide) (fun _ => rfl) (fun zq25 eq26 => ?_)
                have tq27 : zq25.toInt = b4_5 + 1 := add_nw eq26 e4_5 (show (Int32.ofInt 1).toInt = 1 by decide) (by omega)
                refine g_goto X (tgt := 5) dX7_behind_92 (by decide) ?_
                refine g_sub [0, 1, 3, 4, 5] rfl ?_
                exact ih5 zq25 _ tq27 zq21 _ tq23 (BI_next hw i1 (by rw [htx]; unfold dlt; (repeat' split) <;> omega) (by omega)) (by omega) (BHN hV rfl i3 hO2 ⟨hb1, by omega⟩ htx (by omega)) (by omega)
              · refine g_iload X 2 rfl dX7_behind_86 ?_
                exact g_iret X dX7_behind_88 ⟨_, _, rfl, e4_5, ⟨⟨by omega, by omega, (by first | exact ⟨_, (BI_bar hw ((show b3_5 = 1 by omega) ▸ i1) (by rw [htx]; omega)).2, Or.inr rfl⟩ | exact ⟨_, (BI_last hw i1 (by rw [htx]; unfold dlt; (repeat' split) <;> omega) (by omega)).2, Or.inl rfl⟩)⟩, BHMA rfl i3 htx (by omega) (by omega)⟩, rfl⟩
            · refine g_iload X 1 rfl dX7_behind_72 ?_
              refine g_bipush X 41 dX7_behind_74 (by decide) ?_
              refine g_icmp_ne X rfl (show (41 : Int32).toInt = 41 by decide) (tgt := 89) dX7_behind_76 (by decide) (fun cq28 => ?_) (fun cq28 => ?_)
              · refine g_iinc X 2 (fun v => [(4, .int v), (3, .int zq8), (5, .int (Mq.1 61 (((60 * a1) + b4_5).toNat))), (0, .ref (ad 47)), (1, .int x1), (2, .int x2)]) dX7_behind_89 rfl (by decide) (fun _ => rfl) (fun zq29 eq30 => ?_)
                have tq31 : zq29.toInt = b4_5 + 1 := add_nw eq30 e4_5 (show (Int32.ofInt 1).toInt = 1 by decide) (by omega)
                refine g_goto X (tgt := 5) dX7_behind_92 (by decide) ?_
                refine g_sub [0, 1, 3, 4, 5] rfl ?_
                exact ih5 zq29 _ tq31 zq8 _ tq10 (BI_next hw i1 (by rw [htx]; unfold dlt; (repeat' split) <;> omega) (by omega)) (by omega) (BHN hV rfl i3 hO2 ⟨hb1, by omega⟩ htx (by omega)) (by omega)
              · refine g_iinc X 0 (fun v => [(3, .int v), (5, .int (Mq.1 61 (((60 * a1) + b4_5).toNat))), (4, .int y4_5), (0, .ref (ad 47)), (1, .int x1), (2, .int x2)]) dX7_behind_79 rfl (by decide) (fun _ => rfl) (fun zq32 eq33 => ?_)
                have tq34 : zq32.toInt = (b3_5 + 1) + (-1) := add_nw eq33 tq10 (show (Int32.ofInt (-1)).toInt = (-1) by decide) (by omega)
                refine g_iload_n X 0 rfl dX7_behind_82 ?_
                refine g_if_ne X tq34 (tgt := 89) dX7_behind_83 (by decide) (fun cq35 => ?_) (fun cq35 => ?_)
                · refine g_iinc X 2 (fun v => [(4, .int v), (3, .int zq32), (5, .int (Mq.1 61 (((60 * a1) + b4_5).toNat))), (0, .ref (ad 47)), (1, .int x1), (2, .int x2)]) dX7_behind_89 rfl (by decide) (fun _ => rfl) (fun zq36 eq37 => ?_)
                  have tq38 : zq36.toInt = b4_5 + 1 := add_nw eq37 e4_5 (show (Int32.ofInt 1).toInt = 1 by decide) (by omega)
                  refine g_goto X (tgt := 5) dX7_behind_92 (by decide) ?_
                  refine g_sub [0, 1, 3, 4, 5] rfl ?_
                  exact ih5 zq36 _ tq38 zq32 _ tq34 (BI_next hw i1 (by rw [htx]; unfold dlt; (repeat' split) <;> omega) (by omega)) (by omega) (BHN hV rfl i3 hO2 ⟨hb1, by omega⟩ htx (by omega)) (by omega)
                · refine g_iload X 2 rfl dX7_behind_86 ?_
                  exact g_iret X dX7_behind_88 ⟨_, _, rfl, e4_5, ⟨⟨by omega, by omega, (by first | exact ⟨_, (BI_bar hw ((show b3_5 = 1 by omega) ▸ i1) (by rw [htx]; omega)).2, Or.inr rfl⟩ | exact ⟨_, (BI_last hw i1 (by rw [htx]; unfold dlt; (repeat' split) <;> omega) (by omega)).2, Or.inl rfl⟩)⟩, BHMA rfl i3 htx (by omega) (by omega)⟩, rfl⟩
        · refine g_iload_n X 0 rfl dX7_behind_50 ?_
          refine g_iconst X 1 dX7_behind_51 (by decide) ?_
          refine g_icmp_ne X tq10 (show (1 : Int32).toInt = 1 by decide) (tgt := 58) dX7_behind_52 (by decide) (fun cq39 => ?_) (fun cq39 => ?_)
          · refine g_iload X 1 rfl dX7_behind_58 ?_
            refine g_bipush X 93 dX7_behind_60 (by decide) ?_
            refine g_icmp_eq X rfl (show (93 : Int32).toInt = 93 by decide) (tgt := 79) dX7_behind_62 (by decide) (fun cq40 => ?_) (fun cq40 => ?_)
            · refine g_iinc X 0 (fun v => [(3, .int v), (5, .int (Mq.1 61 (((60 * a1) + b4_5).toNat))), (4, .int y4_5), (0, .ref (ad 47)), (1, .int x1), (2, .int x2)]) dX7_behind_79 rfl (by decide) (fun _ => rfl) (fun zq41 eq42 => ?_)
              have tq43 : zq41.toInt = (b3_5 + 1) + (-1) := add_nw eq42 tq10 (show (Int32.ofInt (-1)).toInt = (-1) by decide) (by omega)
              refine g_iload_n X 0 rfl dX7_behind_82 ?_
              refine g_if_ne X tq43 (tgt := 89) dX7_behind_83 (by decide) (fun cq44 => ?_) (fun cq44 => ?_)
              · refine g_iinc X 2 (fun v => [(4, .int v), (3, .int zq41), (5, .int (Mq.1 61 (((60 * a1) + b4_5).toNat))), (0, .ref (ad 47)), (1, .int x1), (2, .int x2)]) dX7_behind_89 rfl (by decide) (fun _ => rfl) (fun zq45 eq46 => ?_)
                have tq47 : zq45.toInt = b4_5 + 1 := add_nw eq46 e4_5 (show (Int32.ofInt 1).toInt = 1 by decide) (by omega)
                refine g_goto X (tgt := 5) dX7_behind_92 (by decide) ?_
                refine g_sub [0, 1, 3, 4, 5] rfl ?_
                exact ih5 zq45 _ tq47 zq41 _ tq43 (BI_next hw i1 (by rw [htx]; unfold dlt; (repeat' split) <;> omega) (by omega)) (by omega) (BHN hV rfl i3 hO2 ⟨hb1, by omega⟩ htx (by omega)) (by omega)
              · refine g_iload X 2 rfl dX7_behind_86 ?_
                exact g_iret X dX7_behind_88 ⟨_, _, rfl, e4_5, ⟨⟨by omega, by omega, (by first | exact ⟨_, (BI_bar hw ((show b3_5 = 1 by omega) ▸ i1) (by rw [htx]; omega)).2, Or.inr rfl⟩ | exact ⟨_, (BI_last hw i1 (by rw [htx]; unfold dlt; (repeat' split) <;> omega) (by omega)).2, Or.inl rfl⟩)⟩, BHMA rfl i3 htx (by omega) (by omega)⟩, rfl⟩
            · refine g_iload X 1 rfl dX7_behind_65 ?_
              refine g_bipush X 125 dX7_behind_67 (by decide) ?_
              refine g_icmp_eq X rfl (show (125 : Int32).toInt = 125 by decide) (tgt := 79) dX7_behind_69 (by decide) (fun cq48 => ?_) (fun cq48 => ?_)
              · refine g_iinc X 0 (fun v => [(3, .int v), (5, .int (Mq.1 61 (((60 * a1) + b4_5).toNat))), (4, .int y4_5), (0, .ref (ad 47)), (1, .int x1), (2, .int x2)]) dX7_behind_79 rfl (by decide) (fun _ => rfl) (fun zq49 eq50 => ?_)
                have tq51 : zq49.toInt = (b3_5 + 1) + (-1) := add_nw eq50 tq10 (show (Int32.ofInt (-1)).toInt = (-1) by decide) (by omega)
                refine g_iload_n X 0 rfl dX7_behind_82 ?_
                refine g_if_ne X tq51 (tgt := 89) dX7_behind_83 (by decide) (fun cq52 => ?_) (fun cq52 => ?_)
                · refine g_iinc X 2 (fun v => [(4, .int v), (3, .int zq49), (5, .int (Mq.1 61 (((60 * a1) + b4_5).toNat))), (0, .ref (ad 47)), (1, .int x1), (2, .int x2)]) dX7_behind_89 rfl (by decide) (fun _ => rfl) (fun zq53 eq54 => ?_)
                  have tq55 : zq53.toInt = b4_5 + 1 := add_nw eq54 e4_5 (show (Int32.ofInt 1).toInt = 1 by decide) (by omega)
                  refine g_goto X (tgt := 5) dX7_behind_92 (by decide) ?_
                  refine g_sub [0, 1, 3, 4, 5] rfl ?_
                  exact ih5 zq53 _ tq55 zq49 _ tq51 (BI_next hw i1 (by rw [htx]; unfold dlt; (repeat' split) <;> omega) (by omega)) (by omega) (BHN hV rfl i3 hO2 ⟨hb1, by omega⟩ htx (by omega)) (by omega)
                · refine g_iload X 2 rfl dX7_behind_86 ?_
                  exact g_iret X dX7_behind_88 ⟨_, _, rfl, e4_5, ⟨⟨by omega, by omega, (by first | exact ⟨_, (BI_bar hw ((show b3_5 = 1 by omega) ▸ i1) (by rw [htx]; omega)).2, Or.inr rfl⟩ | exact ⟨_, (BI_last hw i1 (by rw [htx]; unfold dlt; (repeat' split) <;> omega) (by omega)).2, Or.inl rfl⟩)⟩, BHMA rfl i3 htx (by omega) (by omega)⟩, rfl⟩
              · refine g_iload X 1 rfl dX7_behind_72 ?_
                refine g_bipush X 41 dX7_behind_74 (by decide) ?_
                refine g_icmp_ne X rfl (show (41 : Int32).toInt = 41 by decide) (tgt := 89) dX7_behind_76 (by decide) (fun cq56 => ?_) (fun cq56 => ?_)
                · refine g_iinc X 2 (fun v => [(4, .int v), (3, .int zq8), (5, .int (Mq.1 61 (((60 * a1) + b4_5).toNat))), (0, .ref (ad 47)), (1, .int x1), (2, .int x2)]) dX7_behind_89 rfl (by decide) (fun _ => rfl) (fun zq57 eq58 => ?_)
                  have tq59 : zq57.toInt = b4_5 + 1 := add_nw eq58 e4_5 (show (Int32.ofInt 1).toInt = 1 by decide) (by omega)
                  refine g_goto X (tgt := 5) dX7_behind_92 (by decide) ?_
                  refine g_sub [0, 1, 3, 4, 5] rfl ?_
                  exact ih5 zq57 _ tq59 zq8 _ tq10 (BI_next hw i1 (by rw [htx]; unfold dlt; (repeat' split) <;> omega) (by omega)) (by omega) (BHN hV rfl i3 hO2 ⟨hb1, by omega⟩ htx (by omega)) (by omega)
                · refine g_iinc X 0 (fun v => [(3, .int v), (5, .int (Mq.1 61 (((60 * a1) + b4_5).toNat))), (4, .int y4_5), (0, .ref (ad 47)), (1, .int x1), (2, .int x2)]) dX7_behind_79 rfl (by decide) (fun _ => rfl) (fun zq60 eq61 => ?_)
                  have tq62 : zq60.toInt = (b3_5 + 1) + (-1) := add_nw eq61 tq10 (show (Int32.ofInt (-1)).toInt = (-1) by decide) (by omega)
                  refine g_iload_n X 0 rfl dX7_behind_82 ?_
                  refine g_if_ne X tq62 (tgt := 89) dX7_behind_83 (by decide) (fun cq63 => ?_) (fun cq63 => ?_)
                  · refine g_iinc X 2 (fun v => [(4, .int v), (3, .int zq60), (5, .int (Mq.1 61 (((60 * a1) + b4_5).toNat))), (0, .ref (ad 47)), (1, .int x1), (2, .int x2)]) dX7_behind_89 rfl (by decide) (fun _ => rfl) (fun zq64 eq65 => ?_)
                    have tq66 : zq64.toInt = b4_5 + 1 := add_nw eq65 e4_5 (show (Int32.ofInt 1).toInt = 1 by decide) (by omega)
                    refine g_goto X (tgt := 5) dX7_behind_92 (by decide) ?_
                    refine g_sub [0, 1, 3, 4, 5] rfl ?_
                    exact ih5 zq64 _ tq66 zq60 _ tq62 (BI_next hw i1 (by rw [htx]; unfold dlt; (repeat' split) <;> omega) (by omega)) (by omega) (BHN hV rfl i3 hO2 ⟨hb1, by omega⟩ htx (by omega)) (by omega)
                  · refine g_iload X 2 rfl dX7_behind_86 ?_
                    exact g_iret X dX7_behind_88 ⟨_, _, rfl, e4_5, ⟨⟨by omega, by omega, (by first | exact ⟨_, (BI_bar hw ((show b3_5 = 1 by omega) ▸ i1) (by rw [htx]; omega)).2, Or.inr rfl⟩ | exact ⟨_, (BI_last hw i1 (by rw [htx]; unfold dlt; (repeat' split) <;> omega) (by omega)).2, Or.inl rfl⟩)⟩, BHMA rfl i3 htx (by omega) (by omega)⟩, rfl⟩
          · refine g_iload X 2 rfl dX7_behind_55 ?_
            exact g_iret X dX7_behind_57 ⟨_, _, rfl, e4_5, ⟨⟨by omega, by omega, (by first | exact ⟨_, (BI_bar hw ((show b3_5 = 1 by omega) ▸ i1) (by rw [htx]; omega)).2, Or.inr rfl⟩ | exact ⟨_, (BI_last hw i1 (by rw [htx]; unfold dlt; (repeat' split) <;> omega) (by omega)).2, Or.inl rfl⟩)⟩, BHMA rfl i3 htx (by omega) (by omega)⟩, rfl⟩
      · refine g_iload X 0 rfl dX7_behind_26 ?_
        refine g_bipush X 123 dX7_behind_28 (by decide) ?_
        refine g_icmp_eq X rfl (show (123 : Int32).toInt = 123 by decide) (tgt := 40) dX7_behind_30 (by decide) (fun cq67 => ?_) (fun cq67 => ?_)
        · refine g_iinc X 2 (fun v => [(3, .int v), (5, .int (Mq.1 61 (((60 * a1) + b4_5).toNat))), (4, .int y4_5), (0, .ref (ad 47)), (1, .int x1), (2, .int x2)]) dX7_behind_40 rfl (by decide) (fun _ => rfl) (fun zq68 eq69 => ?_)
          have tq70 : zq68.toInt = b3_5 + 1 := add_nw eq69 e3_5 (show (Int32.ofInt 1).toInt = 1 by decide) (by omega)
          refine g_iload X 1 rfl dX7_behind_43 ?_
          refine g_bipush X 124 dX7_behind_45 (by decide) ?_
          refine g_icmp_ne X rfl (show (124 : Int32).toInt = 124 by decide) (tgt := 58) dX7_behind_47 (by decide) (fun cq71 => ?_) (fun cq71 => ?_)
          · refine g_iload X 1 rfl dX7_behind_58 ?_
            refine g_bipush X 93 dX7_behind_60 (by decide) ?_
            refine g_icmp_eq X rfl (show (93 : Int32).toInt = 93 by decide) (tgt := 79) dX7_behind_62 (by decide) (fun cq72 => ?_) (fun cq72 => ?_)
            · refine g_iinc X 0 (fun v => [(3, .int v), (5, .int (Mq.1 61 (((60 * a1) + b4_5).toNat))), (4, .int y4_5), (0, .ref (ad 47)), (1, .int x1), (2, .int x2)]) dX7_behind_79 rfl (by decide) (fun _ => rfl) (fun zq73 eq74 => ?_)
              have tq75 : zq73.toInt = (b3_5 + 1) + (-1) := add_nw eq74 tq70 (show (Int32.ofInt (-1)).toInt = (-1) by decide) (by omega)
              refine g_iload_n X 0 rfl dX7_behind_82 ?_
              refine g_if_ne X tq75 (tgt := 89) dX7_behind_83 (by decide) (fun cq76 => ?_) (fun cq76 => ?_)
              · refine g_iinc X 2 (fun v => [(4, .int v), (3, .int zq73), (5, .int (Mq.1 61 (((60 * a1) + b4_5).toNat))), (0, .ref (ad 47)), (1, .int x1), (2, .int x2)]) dX7_behind_89 rfl (by decide) (fun _ => rfl) (fun zq77 eq78 => ?_)
                have tq79 : zq77.toInt = b4_5 + 1 := add_nw eq78 e4_5 (show (Int32.ofInt 1).toInt = 1 by decide) (by omega)
                refine g_goto X (tgt := 5) dX7_behind_92 (by decide) ?_
                refine g_sub [0, 1, 3, 4, 5] rfl ?_
                exact ih5 zq77 _ tq79 zq73 _ tq75 (BI_next hw i1 (by rw [htx]; unfold dlt; (repeat' split) <;> omega) (by omega)) (by omega) (BHN hV rfl i3 hO2 ⟨hb1, by omega⟩ htx (by omega)) (by omega)
              · refine g_iload X 2 rfl dX7_behind_86 ?_
                exact g_iret X dX7_behind_88 ⟨_, _, rfl, e4_5, ⟨⟨by omega, by omega, (by first | exact ⟨_, (BI_bar hw ((show b3_5 = 1 by omega) ▸ i1) (by rw [htx]; omega)).2, Or.inr rfl⟩ | exact ⟨_, (BI_last hw i1 (by rw [htx]; unfold dlt; (repeat' split) <;> omega) (by omega)).2, Or.inl rfl⟩)⟩, BHMA rfl i3 htx (by omega) (by omega)⟩, rfl⟩
            · refine g_iload X 1 rfl dX7_behind_65 ?_
              refine g_bipush X 125 dX7_behind_67 (by decide) ?_
              refine g_icmp_eq X rfl (show (125 : Int32).toInt = 125 by decide) (tgt := 79) dX7_behind_69 (by decide) (fun cq80 => ?_) (fun cq80 => ?_)
              · refine g_iinc X 0 (fun v => [(3, .int v), (5, .int (Mq.1 61 (((60 * a1) + b4_5).toNat))), (4, .int y4_5), (0, .ref (ad 47)), (1, .int x1), (2, .int x2)]) dX7_behind_79 rfl (by decide) (fun _ => rfl) (fun zq81 eq82 => ?_)
                have tq83 : zq81.toInt = (b3_5 + 1) + (-1) := add_nw eq82 tq70 (show (Int32.ofInt (-1)).toInt = (-1) by decide) (by omega)
                refine g_iload_n X 0 rfl dX7_behind_82 ?_
                refine g_if_ne X tq83 (tgt := 89) dX7_behind_83 (by decide) (fun cq84 => ?_) (fun cq84 => ?_)
                · refine g_iinc X 2 (fun v => [(4, .int v), (3, .int zq81), (5, .int (Mq.1 61 (((60 * a1) + b4_5).toNat))), (0, .ref (ad 47)), (1, .int x1), (2, .int x2)]) dX7_behind_89 rfl (by decide) (fun _ => rfl) (fun zq85 eq86 => ?_)
                  have tq87 : zq85.toInt = b4_5 + 1 := add_nw eq86 e4_5 (show (Int32.ofInt 1).toInt = 1 by decide) (by omega)
                  refine g_goto X (tgt := 5) dX7_behind_92 (by decide) ?_
                  refine g_sub [0, 1, 3, 4, 5] rfl ?_
                  exact ih5 zq85 _ tq87 zq81 _ tq83 (BI_next hw i1 (by rw [htx]; unfold dlt; (repeat' split) <;> omega) (by omega)) (by omega) (BHN hV rfl i3 hO2 ⟨hb1, by omega⟩ htx (by omega)) (by omega)
                · refine g_iload X 2 rfl dX7_behind_86 ?_
                  exact g_iret X dX7_behind_88 ⟨_, _, rfl, e4_5, ⟨⟨by omega, by omega, (by first | exact ⟨_, (BI_bar hw ((show b3_5 = 1 by omega) ▸ i1) (by rw [htx]; omega)).2, Or.inr rfl⟩ | exact ⟨_, (BI_last hw i1 (by rw [htx]; unfold dlt; (repeat' split) <;> omega) (by omega)).2, Or.inl rfl⟩)⟩, BHMA rfl i3 htx (by omega) (by omega)⟩, rfl⟩
              · refine g_iload X 1 rfl dX7_behind_72 ?_
                refine g_bipush X 41 dX7_behind_74 (by decide) ?_
                refine g_icmp_ne X rfl (show (41 : Int32).toInt = 41 by decide) (tgt := 89) dX7_behind_76 (by decide) (fun cq88 => ?_) (fun cq88 => ?_)
                · refine g_iinc X 2 (fun v => [(4, .int v), (3, .int zq68), (5, .int (Mq.1 61 (((60 * a1) + b4_5).toNat))), (0, .ref (ad 47)), (1, .int x1), (2, .int x2)]) dX7_behind_89 rfl (by decide) (fun _ => rfl) (fun zq89 eq90 => ?_)
                  have tq91 : zq89.toInt = b4_5 + 1 := add_nw eq90 e4_5 (show (Int32.ofInt 1).toInt = 1 by decide) (by omega)
                  refine g_goto X (tgt := 5) dX7_behind_92 (by decide) ?_
                  refine g_sub [0, 1, 3, 4, 5] rfl ?_
                  exact ih5 zq89 _ tq91 zq68 _ tq70 (BI_next hw i1 (by rw [htx]; unfold dlt; (repeat' split) <;> omega) (by omega)) (by omega) (BHN hV rfl i3 hO2 ⟨hb1, by omega⟩ htx (by omega)) (by omega)
                · refine g_iinc X 0 (fun v => [(3, .int v), (5, .int (Mq.1 61 (((60 * a1) + b4_5).toNat))), (4, .int y4_5), (0, .ref (ad 47)), (1, .int x1), (2, .int x2)]) dX7_behind_79 rfl (by decide) (fun _ => rfl) (fun zq92 eq93 => ?_)
                  have tq94 : zq92.toInt = (b3_5 + 1) + (-1) := add_nw eq93 tq70 (show (Int32.ofInt (-1)).toInt = (-1) by decide) (by omega)
                  refine g_iload_n X 0 rfl dX7_behind_82 ?_
                  refine g_if_ne X tq94 (tgt := 89) dX7_behind_83 (by decide) (fun cq95 => ?_) (fun cq95 => ?_)
                  · refine g_iinc X 2 (fun v => [(4, .int v), (3, .int zq92), (5, .int (Mq.1 61 (((60 * a1) + b4_5).toNat))), (0, .ref (ad 47)), (1, .int x1), (2, .int x2)]) dX7_behind_89 rfl (by decide) (fun _ => rfl) (fun zq96 eq97 => ?_)
                    have tq98 : zq96.toInt = b4_5 + 1 := add_nw eq97 e4_5 (show (Int32.ofInt 1).toInt = 1 by decide) (by omega)
                    refine g_goto X (tgt := 5) dX7_behind_92 (by decide) ?_
                    refine g_sub [0, 1, 3, 4, 5] rfl ?_
                    exact ih5 zq96 _ tq98 zq92 _ tq94 (BI_next hw i1 (by rw [htx]; unfold dlt; (repeat' split) <;> omega) (by omega)) (by omega) (BHN hV rfl i3 hO2 ⟨hb1, by omega⟩ htx (by omega)) (by omega)
                  · refine g_iload X 2 rfl dX7_behind_86 ?_
                    exact g_iret X dX7_behind_88 ⟨_, _, rfl, e4_5, ⟨⟨by omega, by omega, (by first | exact ⟨_, (BI_bar hw ((show b3_5 = 1 by omega) ▸ i1) (by rw [htx]; omega)).2, Or.inr rfl⟩ | exact ⟨_, (BI_last hw i1 (by rw [htx]; unfold dlt; (repeat' split) <;> omega) (by omega)).2, Or.inl rfl⟩)⟩, BHMA rfl i3 htx (by omega) (by omega)⟩, rfl⟩
          · refine g_iload_n X 0 rfl dX7_behind_50 ?_
            refine g_iconst X 1 dX7_behind_51 (by decide) ?_
            refine g_icmp_ne X tq70 (show (1 : Int32).toInt = 1 by decide) (tgt := 58) dX7_behind_52 (by decide) (fun cq99 => ?_) (fun cq99 => ?_)
            · refine g_iload X 1 rfl dX7_behind_58 ?_
              refine g_bipush X 93 dX7_behind_60 (by decide) ?_
              refine g_icmp_eq X rfl (show (93 : Int32).toInt = 93 by decide) (tgt := 79) dX7_behind_62 (by decide) (fun cq100 => ?_) (fun cq100 => ?_)
              · refine g_iinc X 0 (fun v => [(3, .int v), (5, .int (Mq.1 61 (((60 * a1) + b4_5).toNat))), (4, .int y4_5), (0, .ref (ad 47)), (1, .int x1), (2, .int x2)]) dX7_behind_79 rfl (by decide) (fun _ => rfl) (fun zq101 eq102 => ?_)
                have tq103 : zq101.toInt = (b3_5 + 1) + (-1) := add_nw eq102 tq70 (show (Int32.ofInt (-1)).toInt = (-1) by decide) (by omega)
                refine g_iload_n X 0 rfl dX7_behind_82 ?_
                refine g_if_ne X tq103 (tgt := 89) dX7_behind_83 (by decide) (fun cq104 => ?_) (fun cq104 => ?_)
                · refine g_iinc X 2 (fun v => [(4, .int v), (3, .int zq101), (5, .int (Mq.1 61 (((60 * a1) + b4_5).toNat))), (0, .ref (ad 47)), (1, .int x1), (2, .int x2)]) dX7_behind_89 rfl (by decide) (fun _ => rfl) (fun zq105 eq106 => ?_)
                  have tq107 : zq105.toInt = b4_5 + 1 := add_nw eq106 e4_5 (show (Int32.ofInt 1).toInt = 1 by decide) (by omega)
                  refine g_goto X (tgt := 5) dX7_behind_92 (by decide) ?_
                  refine g_sub [0, 1, 3, 4, 5] rfl ?_
                  exact ih5 zq105 _ tq107 zq101 _ tq103 (BI_next hw i1 (by rw [htx]; unfold dlt; (repeat' split) <;> omega) (by omega)) (by omega) (BHN hV rfl i3 hO2 ⟨hb1, by omega⟩ htx (by omega)) (by omega)
                · refine g_iload X 2 rfl dX7_behind_86 ?_
                  exact g_iret X dX7_behind_88 ⟨_, _, rfl, e4_5, ⟨⟨by omega, by omega, (by first | exact ⟨_, (BI_bar hw ((show b3_5 = 1 by omega) ▸ i1) (by rw [htx]; omega)).2, Or.inr rfl⟩ | exact ⟨_, (BI_last hw i1 (by rw [htx]; unfold dlt; (repeat' split) <;> omega) (by omega)).2, Or.inl rfl⟩)⟩, BHMA rfl i3 htx (by omega) (by omega)⟩, rfl⟩
              · refine g_iload X 1 rfl dX7_behind_65 ?_
                refine g_bipush X 125 dX7_behind_67 (by decide) ?_
                refine g_icmp_eq X rfl (show (125 : Int32).toInt = 125 by decide) (tgt := 79) dX7_behind_69 (by decide) (fun cq108 => ?_) (fun cq108 => ?_)
                · refine g_iinc X 0 (fun v => [(3, .int v), (5, .int (Mq.1 61 (((60 * a1) + b4_5).toNat))), (4, .int y4_5), (0, .ref (ad 47)), (1, .int x1), (2, .int x2)]) dX7_behind_79 rfl (by decide) (fun _ => rfl) (fun zq109 eq110 => ?_)
                  have tq111 : zq109.toInt = (b3_5 + 1) + (-1) := add_nw eq110 tq70 (show (Int32.ofInt (-1)).toInt = (-1) by decide) (by omega)
                  refine g_iload_n X 0 rfl dX7_behind_82 ?_
                  refine g_if_ne X tq111 (tgt := 89) dX7_behind_83 (by decide) (fun cq112 => ?_) (fun cq112 => ?_)
                  · refine g_iinc X 2 (fun v => [(4, .int v), (3, .int zq109), (5, .int (Mq.1 61 (((60 * a1) + b4_5).toNat))), (0, .ref (ad 47)), (1, .int x1), (2, .int x2)]) dX7_behind_89 rfl (by decide) (fun _ => rfl) (fun zq113 eq114 => ?_)
                    have tq115 : zq113.toInt = b4_5 + 1 := add_nw eq114 e4_5 (show (Int32.ofInt 1).toInt = 1 by decide) (by omega)
                    refine g_goto X (tgt := 5) dX7_behind_92 (by decide) ?_
                    refine g_sub [0, 1, 3, 4, 5] rfl ?_
                    exact ih5 zq113 _ tq115 zq109 _ tq111 (BI_next hw i1 (by rw [htx]; unfold dlt; (repeat' split) <;> omega) (by omega)) (by omega) (BHN hV rfl i3 hO2 ⟨hb1, by omega⟩ htx (by omega)) (by omega)
                  · refine g_iload X 2 rfl dX7_behind_86 ?_
                    exact g_iret X dX7_behind_88 ⟨_, _, rfl, e4_5, ⟨⟨by omega, by omega, (by first | exact ⟨_, (BI_bar hw ((show b3_5 = 1 by omega) ▸ i1) (by rw [htx]; omega)).2, Or.inr rfl⟩ | exact ⟨_, (BI_last hw i1 (by rw [htx]; unfold dlt; (repeat' split) <;> omega) (by omega)).2, Or.inl rfl⟩)⟩, BHMA rfl i3 htx (by omega) (by omega)⟩, rfl⟩
                · refine g_iload X 1 rfl dX7_behind_72 ?_
                  refine g_bipush X 41 dX7_behind_74 (by decide) ?_
                  refine g_icmp_ne X rfl (show (41 : Int32).toInt = 41 by decide) (tgt := 89) dX7_behind_76 (by decide) (fun cq116 => ?_) (fun cq116 => ?_)
                  · refine g_iinc X 2 (fun v => [(4, .int v), (3, .int zq68), (5, .int (Mq.1 61 (((60 * a1) + b4_5).toNat))), (0, .ref (ad 47)), (1, .int x1), (2, .int x2)]) dX7_behind_89 rfl (by decide) (fun _ => rfl) (fun zq117 eq118 => ?_)
                    have tq119 : zq117.toInt = b4_5 + 1 := add_nw eq118 e4_5 (show (Int32.ofInt 1).toInt = 1 by decide) (by omega)
                    refine g_goto X (tgt := 5) dX7_behind_92 (by decide) ?_
                    refine g_sub [0, 1, 3, 4, 5] rfl ?_
                    exact ih5 zq117 _ tq119 zq68 _ tq70 (BI_next hw i1 (by rw [htx]; unfold dlt; (repeat' split) <;> omega) (by omega)) (by omega) (BHN hV rfl i3 hO2 ⟨hb1, by omega⟩ htx (by omega)) (by omega)
                  · refine g_iinc X 0 (fun v => [(3, .int v), (5, .int (Mq.1 61 (((60 * a1) + b4_5).toNat))), (4, .int y4_5), (0, .ref (ad 47)), (1, .int x1), (2, .int x2)]) dX7_behind_79 rfl (by decide) (fun _ => rfl) (fun zq120 eq121 => ?_)
                    have tq122 : zq120.toInt = (b3_5 + 1) + (-1) := add_nw eq121 tq70 (show (Int32.ofInt (-1)).toInt = (-1) by decide) (by omega)
                    refine g_iload_n X 0 rfl dX7_behind_82 ?_
                    refine g_if_ne X tq122 (tgt := 89) dX7_behind_83 (by decide) (fun cq123 => ?_) (fun cq123 => ?_)
                    · refine g_iinc X 2 (fun v => [(4, .int v), (3, .int zq120), (5, .int (Mq.1 61 (((60 * a1) + b4_5).toNat))), (0, .ref (ad 47)), (1, .int x1), (2, .int x2)]) dX7_behind_89 rfl (by decide) (fun _ => rfl) (fun zq124 eq125 => ?_)
                      have tq126 : zq124.toInt = b4_5 + 1 := add_nw eq125 e4_5 (show (Int32.ofInt 1).toInt = 1 by decide) (by omega)
                      refine g_goto X (tgt := 5) dX7_behind_92 (by decide) ?_
                      refine g_sub [0, 1, 3, 4, 5] rfl ?_
                      exact ih5 zq124 _ tq126 zq120 _ tq122 (BI_next hw i1 (by rw [htx]; unfold dlt; (repeat' split) <;> omega) (by omega)) (by omega) (BHN hV rfl i3 hO2 ⟨hb1, by omega⟩ htx (by omega)) (by omega)
                    · refine g_iload X 2 rfl dX7_behind_86 ?_
                      exact g_iret X dX7_behind_88 ⟨_, _, rfl, e4_5, ⟨⟨by omega, by omega, (by first | exact ⟨_, (BI_bar hw ((show b3_5 = 1 by omega) ▸ i1) (by rw [htx]; omega)).2, Or.inr rfl⟩ | exact ⟨_, (BI_last hw i1 (by rw [htx]; unfold dlt; (repeat' split) <;> omega) (by omega)).2, Or.inl rfl⟩)⟩, BHMA rfl i3 htx (by omega) (by omega)⟩, rfl⟩
            · refine g_iload X 2 rfl dX7_behind_55 ?_
              exact g_iret X dX7_behind_57 ⟨_, _, rfl, e4_5, ⟨⟨by omega, by omega, (by first | exact ⟨_, (BI_bar hw ((show b3_5 = 1 by omega) ▸ i1) (by rw [htx]; omega)).2, Or.inr rfl⟩ | exact ⟨_, (BI_last hw i1 (by rw [htx]; unfold dlt; (repeat' split) <;> omega) (by omega)).2, Or.inl rfl⟩)⟩, BHMA rfl i3 htx (by omega) (by omega)⟩, rfl⟩
        · refine g_iload X 0 rfl dX7_behind_33 ?_
          refine g_bipush X 40 dX7_behind_35 (by decide) ?_
          refine g_icmp_ne X rfl (show (40 : Int32).toInt = 40 by decide) (tgt := 43) dX7_behind_37 (by decide) (fun cq127 => ?_) (fun cq127 => ?_)
          · refine g_iload X 0 rfl dX7_behind_43 ?_
            refine g_bipush X 124 dX7_behind_45 (by decide) ?_
            refine g_icmp_ne X rfl (show (124 : Int32).toInt = 124 by decide) (tgt := 58) dX7_behind_47 (by decide) (fun cq128 => ?_) (fun cq128 => ?_)
            · refine g_iload X 0 rfl dX7_behind_58 ?_
              refine g_bipush X 93 dX7_behind_60 (by decide) ?_
              refine g_icmp_eq X rfl (show (93 : Int32).toInt = 93 by decide) (tgt := 79) dX7_behind_62 (by decide) (fun cq129 => ?_) (fun cq129 => ?_)
              · refine g_iinc X 2 (fun v => [(3, .int v), (5, .int (Mq.1 61 (((60 * a1) + b4_5).toNat))), (4, .int y4_5), (0, .ref (ad 47)), (1, .int x1), (2, .int x2)]) dX7_behind_79 rfl (by decide) (fun _ => rfl) (fun zq130 eq131 => ?_)
                have tq132 : zq130.toInt = b3_5 + (-1) := add_nw eq131 e3_5 (show (Int32.ofInt (-1)).toInt = (-1) by decide) (by omega)
                refine g_iload_n X 0 rfl dX7_behind_82 ?_
                refine g_if_ne X tq132 (tgt := 89) dX7_behind_83 (by decide) (fun cq133 => ?_) (fun cq133 => ?_)
                · refine g_iinc X 2 (fun v => [(4, .int v), (3, .int zq130), (5, .int (Mq.1 61 (((60 * a1) + b4_5).toNat))), (0, .ref (ad 47)), (1, .int x1), (2, .int x2)]) dX7_behind_89 rfl (by decide) (fun _ => rfl) (fun zq134 eq135 => ?_)
                  have tq136 : zq134.toInt = b4_5 + 1 := add_nw eq135 e4_5 (show (Int32.ofInt 1).toInt = 1 by decide) (by omega)
                  refine g_goto X (tgt := 5) dX7_behind_92 (by decide) ?_
                  refine g_sub [0, 1, 3, 4, 5] rfl ?_
                  exact ih5 zq134 _ tq136 zq130 _ tq132 (BI_next hw i1 (by rw [htx]; unfold dlt; (repeat' split) <;> omega) (by omega)) (by omega) (BHN hV rfl i3 hO2 ⟨hb1, by omega⟩ htx (by omega)) (by omega)
                · refine g_iload X 2 rfl dX7_behind_86 ?_
                  exact g_iret X dX7_behind_88 ⟨_, _, rfl, e4_5, ⟨⟨by omega, by omega, (by first | exact ⟨_, (BI_bar hw ((show b3_5 = 1 by omega) ▸ i1) (by rw [htx]; omega)).2, Or.inr rfl⟩ | exact ⟨_, (BI_last hw i1 (by rw [htx]; unfold dlt; (repeat' split) <;> omega) (by omega)).2, Or.inl rfl⟩)⟩, BHMA rfl i3 htx (by omega) (by omega)⟩, rfl⟩
              · refine g_iload X 0 rfl dX7_behind_65 ?_
                refine g_bipush X 125 dX7_behind_67 (by decide) ?_
                refine g_icmp_eq X rfl (show (125 : Int32).toInt = 125 by decide) (tgt := 79) dX7_behind_69 (by decide) (fun cq137 => ?_) (fun cq137 => ?_)
                · refine g_iinc X 2 (fun v => [(3, .int v), (5, .int (Mq.1 61 (((60 * a1) + b4_5).toNat))), (4, .int y4_5), (0, .ref (ad 47)), (1, .int x1), (2, .int x2)]) dX7_behind_79 rfl (by decide) (fun _ => rfl) (fun zq138 eq139 => ?_)
                  have tq140 : zq138.toInt = b3_5 + (-1) := add_nw eq139 e3_5 (show (Int32.ofInt (-1)).toInt = (-1) by decide) (by omega)
                  refine g_iload_n X 0 rfl dX7_behind_82 ?_
                  refine g_if_ne X tq140 (tgt := 89) dX7_behind_83 (by decide) (fun cq141 => ?_) (fun cq141 => ?_)
                  · refine g_iinc X 2 (fun v => [(4, .int v), (3, .int zq138), (5, .int (Mq.1 61 (((60 * a1) + b4_5).toNat))), (0, .ref (ad 47)), (1, .int x1), (2, .int x2)]) dX7_behind_89 rfl (by decide) (fun _ => rfl) (fun zq142 eq143 => ?_)
                    have tq144 : zq142.toInt = b4_5 + 1 := add_nw eq143 e4_5 (show (Int32.ofInt 1).toInt = 1 by decide) (by omega)
                    refine g_goto X (tgt := 5) dX7_behind_92 (by decide) ?_
                    refine g_sub [0, 1, 3, 4, 5] rfl ?_
                    exact ih5 zq142 _ tq144 zq138 _ tq140 (BI_next hw i1 (by rw [htx]; unfold dlt; (repeat' split) <;> omega) (by omega)) (by omega) (BHN hV rfl i3 hO2 ⟨hb1, by omega⟩ htx (by omega)) (by omega)
                  · refine g_iload X 2 rfl dX7_behind_86 ?_
                    exact g_iret X dX7_behind_88 ⟨_, _, rfl, e4_5, ⟨⟨by omega, by omega, (by first | exact ⟨_, (BI_bar hw ((show b3_5 = 1 by omega) ▸ i1) (by rw [htx]; omega)).2, Or.inr rfl⟩ | exact ⟨_, (BI_last hw i1 (by rw [htx]; unfold dlt; (repeat' split) <;> omega) (by omega)).2, Or.inl rfl⟩)⟩, BHMA rfl i3 htx (by omega) (by omega)⟩, rfl⟩
                · refine g_iload X 0 rfl dX7_behind_72 ?_
                  refine g_bipush X 41 dX7_behind_74 (by decide) ?_
                  refine g_icmp_ne X rfl (show (41 : Int32).toInt = 41 by decide) (tgt := 89) dX7_behind_76 (by decide) (fun cq145 => ?_) (fun cq145 => ?_)
                  · refine g_iinc X 1 (fun v => [(4, .int v), (5, .int (Mq.1 61 (((60 * a1) + b4_5).toNat))), (3, .int y3_5), (0, .ref (ad 47)), (1, .int x1), (2, .int x2)]) dX7_behind_89 rfl (by decide) (fun _ => rfl) (fun zq146 eq147 => ?_)
                    have tq148 : zq146.toInt = b4_5 + 1 := add_nw eq147 e4_5 (show (Int32.ofInt 1).toInt = 1 by decide) (by omega)
                    refine g_goto X (tgt := 5) dX7_behind_92 (by decide) ?_
                    refine g_sub [0, 2, 3, 4, 5] rfl ?_
                    exact ih5 zq146 _ tq148 y3_5 _ e3_5 (BI_next hw i1 (by rw [htx]; unfold dlt; (repeat' split) <;> omega) (by omega)) (by omega) (BHN hV rfl i3 hO2 ⟨hb1, by omega⟩ htx (by omega)) (by omega)
                  · refine g_iinc X 2 (fun v => [(3, .int v), (5, .int (Mq.1 61 (((60 * a1) + b4_5).toNat))), (4, .int y4_5), (0, .ref (ad 47)), (1, .int x1), (2, .int x2)]) dX7_behind_79 rfl (by decide) (fun _ => rfl) (fun zq149 eq150 => ?_)
                    have tq151 : zq149.toInt = b3_5 + (-1) := add_nw eq150 e3_5 (show (Int32.ofInt (-1)).toInt = (-1) by decide) (by omega)
                    refine g_iload_n X 0 rfl dX7_behind_82 ?_
                    refine g_if_ne X tq151 (tgt := 89) dX7_behind_83 (by decide) (fun cq152 => ?_) (fun cq152 => ?_)
                    · refine g_iinc X 2 (fun v => [(4, .int v), (3, .int zq149), (5, .int (Mq.1 61 (((60 * a1) + b4_5).toNat))), (0, .ref (ad 47)), (1, .int x1), (2, .int x2)]) dX7_behind_89 rfl (by decide) (fun _ => rfl) (fun zq153 eq154 => ?_)
                      have tq155 : zq153.toInt = b4_5 + 1 := add_nw eq154 e4_5 (show (Int32.ofInt 1).toInt = 1 by decide) (by omega)
                      refine g_goto X (tgt := 5) dX7_behind_92 (by decide) ?_
                      refine g_sub [0, 1, 3, 4, 5] rfl ?_
                      exact ih5 zq153 _ tq155 zq149 _ tq151 (BI_next hw i1 (by rw [htx]; unfold dlt; (repeat' split) <;> omega) (by omega)) (by omega) (BHN hV rfl i3 hO2 ⟨hb1, by omega⟩ htx (by omega)) (by omega)
                    · refine g_iload X 2 rfl dX7_behind_86 ?_
                      exact g_iret X dX7_behind_88 ⟨_, _, rfl, e4_5, ⟨⟨by omega, by omega, (by first | exact ⟨_, (BI_bar hw ((show b3_5 = 1 by omega) ▸ i1) (by rw [htx]; omega)).2, Or.inr rfl⟩ | exact ⟨_, (BI_last hw i1 (by rw [htx]; unfold dlt; (repeat' split) <;> omega) (by omega)).2, Or.inl rfl⟩)⟩, BHMA rfl i3 htx (by omega) (by omega)⟩, rfl⟩
            · refine g_iload_n X 2 rfl dX7_behind_50 ?_
              refine g_iconst X 1 dX7_behind_51 (by decide) ?_
              refine g_icmp_ne X e3_5 (show (1 : Int32).toInt = 1 by decide) (tgt := 58) dX7_behind_52 (by decide) (fun cq156 => ?_) (fun cq156 => ?_)
              · refine g_iload X 0 rfl dX7_behind_58 ?_
                refine g_bipush X 93 dX7_behind_60 (by decide) ?_
                refine g_icmp_eq X rfl (show (93 : Int32).toInt = 93 by decide) (tgt := 79) dX7_behind_62 (by decide) (fun cq157 => ?_) (fun cq157 => ?_)
                · refine g_iinc X 2 (fun v => [(3, .int v), (5, .int (Mq.1 61 (((60 * a1) + b4_5).toNat))), (4, .int y4_5), (0, .ref (ad 47)), (1, .int x1), (2, .int x2)]) dX7_behind_79 rfl (by decide) (fun _ => rfl) (fun zq158 eq159 => ?_)
                  have tq160 : zq158.toInt = b3_5 + (-1) := add_nw eq159 e3_5 (show (Int32.ofInt (-1)).toInt = (-1) by decide) (by omega)
                  refine g_iload_n X 0 rfl dX7_behind_82 ?_
                  refine g_if_ne X tq160 (tgt := 89) dX7_behind_83 (by decide) (fun cq161 => ?_) (fun cq161 => ?_)
                  · refine g_iinc X 2 (fun v => [(4, .int v), (3, .int zq158), (5, .int (Mq.1 61 (((60 * a1) + b4_5).toNat))), (0, .ref (ad 47)), (1, .int x1), (2, .int x2)]) dX7_behind_89 rfl (by decide) (fun _ => rfl) (fun zq162 eq163 => ?_)
                    have tq164 : zq162.toInt = b4_5 + 1 := add_nw eq163 e4_5 (show (Int32.ofInt 1).toInt = 1 by decide) (by omega)
                    refine g_goto X (tgt := 5) dX7_behind_92 (by decide) ?_
                    refine g_sub [0, 1, 3, 4, 5] rfl ?_
                    exact ih5 zq162 _ tq164 zq158 _ tq160 (BI_next hw i1 (by rw [htx]; unfold dlt; (repeat' split) <;> omega) (by omega)) (by omega) (BHN hV rfl i3 hO2 ⟨hb1, by omega⟩ htx (by omega)) (by omega)
                  · refine g_iload X 2 rfl dX7_behind_86 ?_
                    exact g_iret X dX7_behind_88 ⟨_, _, rfl, e4_5, ⟨⟨by omega, by omega, (by first | exact ⟨_, (BI_bar hw ((show b3_5 = 1 by omega) ▸ i1) (by rw [htx]; omega)).2, Or.inr rfl⟩ | exact ⟨_, (BI_last hw i1 (by rw [htx]; unfold dlt; (repeat' split) <;> omega) (by omega)).2, Or.inl rfl⟩)⟩, BHMA rfl i3 htx (by omega) (by omega)⟩, rfl⟩
                · refine g_iload X 0 rfl dX7_behind_65 ?_
                  refine g_bipush X 125 dX7_behind_67 (by decide) ?_
                  refine g_icmp_eq X rfl (show (125 : Int32).toInt = 125 by decide) (tgt := 79) dX7_behind_69 (by decide) (fun cq165 => ?_) (fun cq165 => ?_)
                  · refine g_iinc X 2 (fun v => [(3, .int v), (5, .int (Mq.1 61 (((60 * a1) + b4_5).toNat))), (4, .int y4_5), (0, .ref (ad 47)), (1, .int x1), (2, .int x2)]) dX7_behind_79 rfl (by decide) (fun _ => rfl) (fun zq166 eq167 => ?_)
                    have tq168 : zq166.toInt = b3_5 + (-1) := add_nw eq167 e3_5 (show (Int32.ofInt (-1)).toInt = (-1) by decide) (by omega)
                    refine g_iload_n X 0 rfl dX7_behind_82 ?_
                    refine g_if_ne X tq168 (tgt := 89) dX7_behind_83 (by decide) (fun cq169 => ?_) (fun cq169 => ?_)
                    · refine g_iinc X 2 (fun v => [(4, .int v), (3, .int zq166), (5, .int (Mq.1 61 (((60 * a1) + b4_5).toNat))), (0, .ref (ad 47)), (1, .int x1), (2, .int x2)]) dX7_behind_89 rfl (by decide) (fun _ => rfl) (fun zq170 eq171 => ?_)
                      have tq172 : zq170.toInt = b4_5 + 1 := add_nw eq171 e4_5 (show (Int32.ofInt 1).toInt = 1 by decide) (by omega)
                      refine g_goto X (tgt := 5) dX7_behind_92 (by decide) ?_
                      refine g_sub [0, 1, 3, 4, 5] rfl ?_
                      exact ih5 zq170 _ tq172 zq166 _ tq168 (BI_next hw i1 (by rw [htx]; unfold dlt; (repeat' split) <;> omega) (by omega)) (by omega) (BHN hV rfl i3 hO2 ⟨hb1, by omega⟩ htx (by omega)) (by omega)
                    · refine g_iload X 2 rfl dX7_behind_86 ?_
                      exact g_iret X dX7_behind_88 ⟨_, _, rfl, e4_5, ⟨⟨by omega, by omega, (by first | exact ⟨_, (BI_bar hw ((show b3_5 = 1 by omega) ▸ i1) (by rw [htx]; omega)).2, Or.inr rfl⟩ | exact ⟨_, (BI_last hw i1 (by rw [htx]; unfold dlt; (repeat' split) <;> omega) (by omega)).2, Or.inl rfl⟩)⟩, BHMA rfl i3 htx (by omega) (by omega)⟩, rfl⟩
                  · refine g_iload X 0 rfl dX7_behind_72 ?_
                    refine g_bipush X 41 dX7_behind_74 (by decide) ?_
                    refine g_icmp_ne X rfl (show (41 : Int32).toInt = 41 by decide) (tgt := 89) dX7_behind_76 (by decide) (fun cq173 => ?_) (fun cq173 => ?_)
                    · refine g_iinc X 1 (fun v => [(4, .int v), (5, .int (Mq.1 61 (((60 * a1) + b4_5).toNat))), (3, .int y3_5), (0, .ref (ad 47)), (1, .int x1), (2, .int x2)]) dX7_behind_89 rfl (by decide) (fun _ => rfl) (fun zq174 eq175 => ?_)
                      have tq176 : zq174.toInt = b4_5 + 1 := add_nw eq175 e4_5 (show (Int32.ofInt 1).toInt = 1 by decide) (by omega)
                      refine g_goto X (tgt := 5) dX7_behind_92 (by decide) ?_
                      refine g_sub [0, 2, 3, 4, 5] rfl ?_
                      exact ih5 zq174 _ tq176 y3_5 _ e3_5 (BI_next hw i1 (by rw [htx]; unfold dlt; (repeat' split) <;> omega) (by omega)) (by omega) (BHN hV rfl i3 hO2 ⟨hb1, by omega⟩ htx (by omega)) (by omega)
                    · refine g_iinc X 2 (fun v => [(3, .int v), (5, .int (Mq.1 61 (((60 * a1) + b4_5).toNat))), (4, .int y4_5), (0, .ref (ad 47)), (1, .int x1), (2, .int x2)]) dX7_behind_79 rfl (by decide) (fun _ => rfl) (fun zq177 eq178 => ?_)
                      have tq179 : zq177.toInt = b3_5 + (-1) := add_nw eq178 e3_5 (show (Int32.ofInt (-1)).toInt = (-1) by decide) (by omega)
                      refine g_iload_n X 0 rfl dX7_behind_82 ?_
                      refine g_if_ne X tq179 (tgt := 89) dX7_behind_83 (by decide) (fun cq180 => ?_) (fun cq180 => ?_)
                      · refine g_iinc X 2 (fun v => [(4, .int v), (3, .int zq177), (5, .int (Mq.1 61 (((60 * a1) + b4_5).toNat))), (0, .ref (ad 47)), (1, .int x1), (2, .int x2)]) dX7_behind_89 rfl (by decide) (fun _ => rfl) (fun zq181 eq182 => ?_)
                        have tq183 : zq181.toInt = b4_5 + 1 := add_nw eq182 e4_5 (show (Int32.ofInt 1).toInt = 1 by decide) (by omega)
                        refine g_goto X (tgt := 5) dX7_behind_92 (by decide) ?_
                        refine g_sub [0, 1, 3, 4, 5] rfl ?_
                        exact ih5 zq181 _ tq183 zq177 _ tq179 (BI_next hw i1 (by rw [htx]; unfold dlt; (repeat' split) <;> omega) (by omega)) (by omega) (BHN hV rfl i3 hO2 ⟨hb1, by omega⟩ htx (by omega)) (by omega)
                      · refine g_iload X 2 rfl dX7_behind_86 ?_
                        exact g_iret X dX7_behind_88 ⟨_, _, rfl, e4_5, ⟨⟨by omega, by omega, (by first | exact ⟨_, (BI_bar hw ((show b3_5 = 1 by omega) ▸ i1) (by rw [htx]; omega)).2, Or.inr rfl⟩ | exact ⟨_, (BI_last hw i1 (by rw [htx]; unfold dlt; (repeat' split) <;> omega) (by omega)).2, Or.inl rfl⟩)⟩, BHMA rfl i3 htx (by omega) (by omega)⟩, rfl⟩
              · refine g_iload X 1 rfl dX7_behind_55 ?_
                exact g_iret X dX7_behind_57 ⟨_, _, rfl, e4_5, ⟨⟨by omega, by omega, (by first | exact ⟨_, (BI_bar hw ((show b3_5 = 1 by omega) ▸ i1) (by rw [htx]; omega)).2, Or.inr rfl⟩ | exact ⟨_, (BI_last hw i1 (by rw [htx]; unfold dlt; (repeat' split) <;> omega) (by omega)).2, Or.inl rfl⟩)⟩, BHMA rfl i3 htx (by omega) (by omega)⟩, rfl⟩
          · refine g_iinc X 2 (fun v => [(3, .int v), (5, .int (Mq.1 61 (((60 * a1) + b4_5).toNat))), (4, .int y4_5), (0, .ref (ad 47)), (1, .int x1), (2, .int x2)]) dX7_behind_40 rfl (by decide) (fun _ => rfl) (fun zq184 eq185 => ?_)
            have tq186 : zq184.toInt = b3_5 + 1 := add_nw eq185 e3_5 (show (Int32.ofInt 1).toInt = 1 by decide) (by omega)
            refine g_iload X 1 rfl dX7_behind_43 ?_
            refine g_bipush X 124 dX7_behind_45 (by decide) ?_
            refine g_icmp_ne X rfl (show (124 : Int32).toInt = 124 by decide) (tgt := 58) dX7_behind_47 (by decide) (fun cq187 => ?_) (fun cq187 => ?_)
            · refine g_iload X 1 rfl dX7_behind_58 ?_
              refine g_bipush X 93 dX7_behind_60 (by decide) ?_
              refine g_icmp_eq X rfl (show (93 : Int32).toInt = 93 by decide) (tgt := 79) dX7_behind_62 (by decide) (fun cq188 => ?_) (fun cq188 => ?_)
              · refine g_iinc X 0 (fun v => [(3, .int v), (5, .int (Mq.1 61 (((60 * a1) + b4_5).toNat))), (4, .int y4_5), (0, .ref (ad 47)), (1, .int x1), (2, .int x2)]) dX7_behind_79 rfl (by decide) (fun _ => rfl) (fun zq189 eq190 => ?_)
                have tq191 : zq189.toInt = (b3_5 + 1) + (-1) := add_nw eq190 tq186 (show (Int32.ofInt (-1)).toInt = (-1) by decide) (by omega)
                refine g_iload_n X 0 rfl dX7_behind_82 ?_
                refine g_if_ne X tq191 (tgt := 89) dX7_behind_83 (by decide) (fun cq192 => ?_) (fun cq192 => ?_)
                · refine g_iinc X 2 (fun v => [(4, .int v), (3, .int zq189), (5, .int (Mq.1 61 (((60 * a1) + b4_5).toNat))), (0, .ref (ad 47)), (1, .int x1), (2, .int x2)]) dX7_behind_89 rfl (by decide) (fun _ => rfl) (fun zq193 eq194 => ?_)
                  have tq195 : zq193.toInt = b4_5 + 1 := add_nw eq194 e4_5 (show (Int32.ofInt 1).toInt = 1 by decide) (by omega)
                  refine g_goto X (tgt := 5) dX7_behind_92 (by decide) ?_
                  refine g_sub [0, 1, 3, 4, 5] rfl ?_
                  exact ih5 zq193 _ tq195 zq189 _ tq191 (BI_next hw i1 (by rw [htx]; unfold dlt; (repeat' split) <;> omega) (by omega)) (by omega) (BHN hV rfl i3 hO2 ⟨hb1, by omega⟩ htx (by omega)) (by omega)
                · refine g_iload X 2 rfl dX7_behind_86 ?_
                  exact g_iret X dX7_behind_88 ⟨_, _, rfl, e4_5, ⟨⟨by omega, by omega, (by first | exact ⟨_, (BI_bar hw ((show b3_5 = 1 by omega) ▸ i1) (by rw [htx]; omega)).2, Or.inr rfl⟩ | exact ⟨_, (BI_last hw i1 (by rw [htx]; unfold dlt; (repeat' split) <;> omega) (by omega)).2, Or.inl rfl⟩)⟩, BHMA rfl i3 htx (by omega) (by omega)⟩, rfl⟩
              · refine g_iload X 1 rfl dX7_behind_65 ?_
                refine g_bipush X 125 dX7_behind_67 (by decide) ?_
                refine g_icmp_eq X rfl (show (125 : Int32).toInt = 125 by decide) (tgt := 79) dX7_behind_69 (by decide) (fun cq196 => ?_) (fun cq196 => ?_)
                · refine g_iinc X 0 (fun v => [(3, .int v), (5, .int (Mq.1 61 (((60 * a1) + b4_5).toNat))), (4, .int y4_5), (0, .ref (ad 47)), (1, .int x1), (2, .int x2)]) dX7_behind_79 rfl (by decide) (fun _ => rfl) (fun zq197 eq198 => ?_)
                  have tq199 : zq197.toInt = (b3_5 + 1) + (-1) := add_nw eq198 tq186 (show (Int32.ofInt (-1)).toInt = (-1) by decide) (by omega)
                  refine g_iload_n X 0 rfl dX7_behind_82 ?_
                  refine g_if_ne X tq199 (tgt := 89) dX7_behind_83 (by decide) (fun cq200 => ?_) (fun cq200 => ?_)
                  · refine g_iinc X 2 (fun v => [(4, .int v), (3, .int zq197), (5, .int (Mq.1 61 (((60 * a1) + b4_5).toNat))), (0, .ref (ad 47)), (1, .int x1), (2, .int x2)]) dX7_behind_89 rfl (by decide) (fun _ => rfl) (fun zq201 eq202 => ?_)
                    have tq203 : zq201.toInt = b4_5 + 1 := add_nw eq202 e4_5 (show (Int32.ofInt 1).toInt = 1 by decide) (by omega)
                    refine g_goto X (tgt := 5) dX7_behind_92 (by decide) ?_
                    refine g_sub [0, 1, 3, 4, 5] rfl ?_
                    exact ih5 zq201 _ tq203 zq197 _ tq199 (BI_next hw i1 (by rw [htx]; unfold dlt; (repeat' split) <;> omega) (by omega)) (by omega) (BHN hV rfl i3 hO2 ⟨hb1, by omega⟩ htx (by omega)) (by omega)
                  · refine g_iload X 2 rfl dX7_behind_86 ?_
                    exact g_iret X dX7_behind_88 ⟨_, _, rfl, e4_5, ⟨⟨by omega, by omega, (by first | exact ⟨_, (BI_bar hw ((show b3_5 = 1 by omega) ▸ i1) (by rw [htx]; omega)).2, Or.inr rfl⟩ | exact ⟨_, (BI_last hw i1 (by rw [htx]; unfold dlt; (repeat' split) <;> omega) (by omega)).2, Or.inl rfl⟩)⟩, BHMA rfl i3 htx (by omega) (by omega)⟩, rfl⟩
                · refine g_iload X 1 rfl dX7_behind_72 ?_
                  refine g_bipush X 41 dX7_behind_74 (by decide) ?_
                  refine g_icmp_ne X rfl (show (41 : Int32).toInt = 41 by decide) (tgt := 89) dX7_behind_76 (by decide) (fun cq204 => ?_) (fun cq204 => ?_)
                  · refine g_iinc X 2 (fun v => [(4, .int v), (3, .int zq184), (5, .int (Mq.1 61 (((60 * a1) + b4_5).toNat))), (0, .ref (ad 47)), (1, .int x1), (2, .int x2)]) dX7_behind_89 rfl (by decide) (fun _ => rfl) (fun zq205 eq206 => ?_)
                    have tq207 : zq205.toInt = b4_5 + 1 := add_nw eq206 e4_5 (show (Int32.ofInt 1).toInt = 1 by decide) (by omega)
                    refine g_goto X (tgt := 5) dX7_behind_92 (by decide) ?_
                    refine g_sub [0, 1, 3, 4, 5] rfl ?_
                    exact ih5 zq205 _ tq207 zq184 _ tq186 (BI_next hw i1 (by rw [htx]; unfold dlt; (repeat' split) <;> omega) (by omega)) (by omega) (BHN hV rfl i3 hO2 ⟨hb1, by omega⟩ htx (by omega)) (by omega)
                  · refine g_iinc X 0 (fun v => [(3, .int v), (5, .int (Mq.1 61 (((60 * a1) + b4_5).toNat))), (4, .int y4_5), (0, .ref (ad 47)), (1, .int x1), (2, .int x2)]) dX7_behind_79 rfl (by decide) (fun _ => rfl) (fun zq208 eq209 => ?_)
                    have tq210 : zq208.toInt = (b3_5 + 1) + (-1) := add_nw eq209 tq186 (show (Int32.ofInt (-1)).toInt = (-1) by decide) (by omega)
                    refine g_iload_n X 0 rfl dX7_behind_82 ?_
                    refine g_if_ne X tq210 (tgt := 89) dX7_behind_83 (by decide) (fun cq211 => ?_) (fun cq211 => ?_)
                    · refine g_iinc X 2 (fun v => [(4, .int v), (3, .int zq208), (5, .int (Mq.1 61 (((60 * a1) + b4_5).toNat))), (0, .ref (ad 47)), (1, .int x1), (2, .int x2)]) dX7_behind_89 rfl (by decide) (fun _ => rfl) (fun zq212 eq213 => ?_)
                      have tq214 : zq212.toInt = b4_5 + 1 := add_nw eq213 e4_5 (show (Int32.ofInt 1).toInt = 1 by decide) (by omega)
                      refine g_goto X (tgt := 5) dX7_behind_92 (by decide) ?_
                      refine g_sub [0, 1, 3, 4, 5] rfl ?_
                      exact ih5 zq212 _ tq214 zq208 _ tq210 (BI_next hw i1 (by rw [htx]; unfold dlt; (repeat' split) <;> omega) (by omega)) (by omega) (BHN hV rfl i3 hO2 ⟨hb1, by omega⟩ htx (by omega)) (by omega)
                    · refine g_iload X 2 rfl dX7_behind_86 ?_
                      exact g_iret X dX7_behind_88 ⟨_, _, rfl, e4_5, ⟨⟨by omega, by omega, (by first | exact ⟨_, (BI_bar hw ((show b3_5 = 1 by omega) ▸ i1) (by rw [htx]; omega)).2, Or.inr rfl⟩ | exact ⟨_, (BI_last hw i1 (by rw [htx]; unfold dlt; (repeat' split) <;> omega) (by omega)).2, Or.inl rfl⟩)⟩, BHMA rfl i3 htx (by omega) (by omega)⟩, rfl⟩
            · refine g_iload_n X 0 rfl dX7_behind_50 ?_
              refine g_iconst X 1 dX7_behind_51 (by decide) ?_
              refine g_icmp_ne X tq186 (show (1 : Int32).toInt = 1 by decide) (tgt := 58) dX7_behind_52 (by decide) (fun cq215 => ?_) (fun cq215 => ?_)
              · refine g_iload X 1 rfl dX7_behind_58 ?_
                refine g_bipush X 93 dX7_behind_60 (by decide) ?_
                refine g_icmp_eq X rfl (show (93 : Int32).toInt = 93 by decide) (tgt := 79) dX7_behind_62 (by decide) (fun cq216 => ?_) (fun cq216 => ?_)
                · refine g_iinc X 0 (fun v => [(3, .int v), (5, .int (Mq.1 61 (((60 * a1) + b4_5).toNat))), (4, .int y4_5), (0, .ref (ad 47)), (1, .int x1), (2, .int x2)]) dX7_behind_79 rfl (by decide) (fun _ => rfl) (fun zq217 eq218 => ?_)
                  have tq219 : zq217.toInt = (b3_5 + 1) + (-1) := add_nw eq218 tq186 (show (Int32.ofInt (-1)).toInt = (-1) by decide) (by omega)
                  refine g_iload_n X 0 rfl dX7_behind_82 ?_
                  refine g_if_ne X tq219 (tgt := 89) dX7_behind_83 (by decide) (fun cq220 => ?_) (fun cq220 => ?_)
                  · refine g_iinc X 2 (fun v => [(4, .int v), (3, .int zq217), (5, .int (Mq.1 61 (((60 * a1) + b4_5).toNat))), (0, .ref (ad 47)), (1, .int x1), (2, .int x2)]) dX7_behind_89 rfl (by decide) (fun _ => rfl) (fun zq221 eq222 => ?_)
                    have tq223 : zq221.toInt = b4_5 + 1 := add_nw eq222 e4_5 (show (Int32.ofInt 1).toInt = 1 by decide) (by omega)
                    refine g_goto X (tgt := 5) dX7_behind_92 (by decide) ?_
                    refine g_sub [0, 1, 3, 4, 5] rfl ?_
                    exact ih5 zq221 _ tq223 zq217 _ tq219 (BI_next hw i1 (by rw [htx]; unfold dlt; (repeat' split) <;> omega) (by omega)) (by omega) (BHN hV rfl i3 hO2 ⟨hb1, by omega⟩ htx (by omega)) (by omega)
                  · refine g_iload X 2 rfl dX7_behind_86 ?_
                    exact g_iret X dX7_behind_88 ⟨_, _, rfl, e4_5, ⟨⟨by omega, by omega, (by first | exact ⟨_, (BI_bar hw ((show b3_5 = 1 by omega) ▸ i1) (by rw [htx]; omega)).2, Or.inr rfl⟩ | exact ⟨_, (BI_last hw i1 (by rw [htx]; unfold dlt; (repeat' split) <;> omega) (by omega)).2, Or.inl rfl⟩)⟩, BHMA rfl i3 htx (by omega) (by omega)⟩, rfl⟩
                · refine g_iload X 1 rfl dX7_behind_65 ?_
                  refine g_bipush X 125 dX7_behind_67 (by decide) ?_
                  refine g_icmp_eq X rfl (show (125 : Int32).toInt = 125 by decide) (tgt := 79) dX7_behind_69 (by decide) (fun cq224 => ?_) (fun cq224 => ?_)
                  · refine g_iinc X 0 (fun v => [(3, .int v), (5, .int (Mq.1 61 (((60 * a1) + b4_5).toNat))), (4, .int y4_5), (0, .ref (ad 47)), (1, .int x1), (2, .int x2)]) dX7_behind_79 rfl (by decide) (fun _ => rfl) (fun zq225 eq226 => ?_)
                    have tq227 : zq225.toInt = (b3_5 + 1) + (-1) := add_nw eq226 tq186 (show (Int32.ofInt (-1)).toInt = (-1) by decide) (by omega)
                    refine g_iload_n X 0 rfl dX7_behind_82 ?_
                    refine g_if_ne X tq227 (tgt := 89) dX7_behind_83 (by decide) (fun cq228 => ?_) (fun cq228 => ?_)
                    · refine g_iinc X 2 (fun v => [(4, .int v), (3, .int zq225), (5, .int (Mq.1 61 (((60 * a1) + b4_5).toNat))), (0, .ref (ad 47)), (1, .int x1), (2, .int x2)]) dX7_behind_89 rfl (by decide) (fun _ => rfl) (fun zq229 eq230 => ?_)
                      have tq231 : zq229.toInt = b4_5 + 1 := add_nw eq230 e4_5 (show (Int32.ofInt 1).toInt = 1 by decide) (by omega)
                      refine g_goto X (tgt := 5) dX7_behind_92 (by decide) ?_
                      refine g_sub [0, 1, 3, 4, 5] rfl ?_
                      exact ih5 zq229 _ tq231 zq225 _ tq227 (BI_next hw i1 (by rw [htx]; unfold dlt; (repeat' split) <;> omega) (by omega)) (by omega) (BHN hV rfl i3 hO2 ⟨hb1, by omega⟩ htx (by omega)) (by omega)
                    · refine g_iload X 2 rfl dX7_behind_86 ?_
                      exact g_iret X dX7_behind_88 ⟨_, _, rfl, e4_5, ⟨⟨by omega, by omega, (by first | exact ⟨_, (BI_bar hw ((show b3_5 = 1 by omega) ▸ i1) (by rw [htx]; omega)).2, Or.inr rfl⟩ | exact ⟨_, (BI_last hw i1 (by rw [htx]; unfold dlt; (repeat' split) <;> omega) (by omega)).2, Or.inl rfl⟩)⟩, BHMA rfl i3 htx (by omega) (by omega)⟩, rfl⟩
                  · refine g_iload X 1 rfl dX7_behind_72 ?_
                    refine g_bipush X 41 dX7_behind_74 (by decide) ?_
                    refine g_icmp_ne X rfl (show (41 : Int32).toInt = 41 by decide) (tgt := 89) dX7_behind_76 (by decide) (fun cq232 => ?_) (fun cq232 => ?_)
                    · refine g_iinc X 2 (fun v => [(4, .int v), (3, .int zq184), (5, .int (Mq.1 61 (((60 * a1) + b4_5).toNat))), (0, .ref (ad 47)), (1, .int x1), (2, .int x2)]) dX7_behind_89 rfl (by decide) (fun _ => rfl) (fun zq233 eq234 => ?_)
                      have tq235 : zq233.toInt = b4_5 + 1 := add_nw eq234 e4_5 (show (Int32.ofInt 1).toInt = 1 by decide) (by omega)
                      refine g_goto X (tgt := 5) dX7_behind_92 (by decide) ?_
                      refine g_sub [0, 1, 3, 4, 5] rfl ?_
                      exact ih5 zq233 _ tq235 zq184 _ tq186 (BI_next hw i1 (by rw [htx]; unfold dlt; (repeat' split) <;> omega) (by omega)) (by omega) (BHN hV rfl i3 hO2 ⟨hb1, by omega⟩ htx (by omega)) (by omega)
                    · refine g_iinc X 0 (fun v => [(3, .int v), (5, .int (Mq.1 61 (((60 * a1) + b4_5).toNat))), (4, .int y4_5), (0, .ref (ad 47)), (1, .int x1), (2, .int x2)]) dX7_behind_79 rfl (by decide) (fun _ => rfl) (fun zq236 eq237 => ?_)
                      have tq238 : zq236.toInt = (b3_5 + 1) + (-1) := add_nw eq237 tq186 (show (Int32.ofInt (-1)).toInt = (-1) by decide) (by omega)
                      refine g_iload_n X 0 rfl dX7_behind_82 ?_
                      refine g_if_ne X tq238 (tgt := 89) dX7_behind_83 (by decide) (fun cq239 => ?_) (fun cq239 => ?_)
                      · refine g_iinc X 2 (fun v => [(4, .int v), (3, .int zq236), (5, .int (Mq.1 61 (((60 * a1) + b4_5).toNat))), (0, .ref (ad 47)), (1, .int x1), (2, .int x2)]) dX7_behind_89 rfl (by decide) (fun _ => rfl) (fun zq240 eq241 => ?_)
                        have tq242 : zq240.toInt = b4_5 + 1 := add_nw eq241 e4_5 (show (Int32.ofInt 1).toInt = 1 by decide) (by omega)
                        refine g_goto X (tgt := 5) dX7_behind_92 (by decide) ?_
                        refine g_sub [0, 1, 3, 4, 5] rfl ?_
                        exact ih5 zq240 _ tq242 zq236 _ tq238 (BI_next hw i1 (by rw [htx]; unfold dlt; (repeat' split) <;> omega) (by omega)) (by omega) (BHN hV rfl i3 hO2 ⟨hb1, by omega⟩ htx (by omega)) (by omega)
                      · refine g_iload X 2 rfl dX7_behind_86 ?_
                        exact g_iret X dX7_behind_88 ⟨_, _, rfl, e4_5, ⟨⟨by omega, by omega, (by first | exact ⟨_, (BI_bar hw ((show b3_5 = 1 by omega) ▸ i1) (by rw [htx]; omega)).2, Or.inr rfl⟩ | exact ⟨_, (BI_last hw i1 (by rw [htx]; unfold dlt; (repeat' split) <;> omega) (by omega)).2, Or.inl rfl⟩)⟩, BHMA rfl i3 htx (by omega) (by omega)⟩, rfl⟩
              · refine g_iload X 2 rfl dX7_behind_55 ?_
                exact g_iret X dX7_behind_57 ⟨_, _, rfl, e4_5, ⟨⟨by omega, by omega, (by first | exact ⟨_, (BI_bar hw ((show b3_5 = 1 by omega) ▸ i1) (by rw [htx]; omega)).2, Or.inr rfl⟩ | exact ⟨_, (BI_last hw i1 (by rw [htx]; unfold dlt; (repeat' split) <;> omega) (by omega)).2, Or.inl rfl⟩)⟩, BHMA rfl i3 htx (by omega) (by omega)⟩, rfl⟩
  refine g_sub [0, 1, 2, 3, 4] rfl ?_
  exact lp5 _ x2 _ t2 0 _ (show (0 : Int32).toInt = 0 by decide) ⟨h2.1, by omega, [], hS, rfl⟩ (by omega) (Or.inl ⟨rfl, rfl⟩) (Nat.lt_succ_self _)
set_option maxHeartbeats 4000000 in
set_option maxRecDepth 4000 in
theorem c_X7_endFrom_F (ad : Nat → Nat) (Mq : Mem) (x1 : Int32) {a1 : Int} (t1 : x1.toInt = a1) (x2 : Int32) {a2 : Int} (t2 : x2.toInt = a2) (Iq0 : Iv TM Mq) {S0 : List Int} (h1 : 0 ≤ a1 ∧ a1 ≤ 7) (hw : skN (txt Mq a1.toNat) ((Mq.1 62 a1.toNat).toInt).toNat = some []) (h2 : 0 ≤ a2 ∧ a2 < ((Mq.1 62 a1.toNat).toInt)) (hS : skN (txt Mq a1.toNat) (a2.toNat + 1) = some (124 :: S0)) (hV : gsN (txt Mq a1.toNat) ((Mq.1 62 a1.toNat).toInt).toNat = some ([], true)) (hB : (txt Mq a1.toNat) a2.toNat = 124) : Ctr ad yX7_endFrom cX7_endFrom 6 (some .int) 0 [.ref (ad 47), .int x1, .int x2] Mq (fun v M' => ∃ (r : Int32) (a : Int), v = some (.int r) ∧ r.toInt = a ∧ ((0 ≤ a ∧ a2 < a ∧ a < ((Mq.1 62 a1.toNat).toInt) ∧ skN (txt Mq a1.toNat) (a.toNat + 1) = some S0) ∧ MA (txt Mq a1.toNat) a2.toNat a.toNat) ∧ Mq = M') := by
  refine ctr_of (L := [(0, .ref (ad 47)), (1, .int x1), (2, .int x2)]) (by decide) (Nat.le_of_ble_eq_true rfl) rfl ?_
  intro Γ X
  have X : gX Γ cX7_endFrom RX7 6 (some .int) 0 ad _ := X
  have g12 := ig_47_12 Iq0
  have g24 := ig_47_24 Iq0
  have g33 := ig_47_33 Iq0
  have g44 := ig_47_44 Iq0
  have g43 := ig_47_43 Iq0
  have g52 := ig_47_52 Iq0
  have g53 := ig_47_53 Iq0
  have g59 := ig_47_59 Iq0
  have g12 := ig_47_12 Iq0
  have g24 := ig_47_24 Iq0
  have g44 := ig_47_44 Iq0
  have g43 := ig_47_43 Iq0
  have g53 := ig_47_53 Iq0
  have g59 := ig_47_59 Iq0
  have g62 := ig_62 Iq0 a1.toNat (by omega)
  have hB0 : BI (txt Mq a1.toNat) ((Mq.1 62 a1.toNat).toInt).toNat S0 (a2 + 1) 1 := BI_of hw h2.1 (by omega) hS
  refine g_iconst X 1 dX7_endFrom_0 (by decide) ?_
  refine g_istore_n X (i := 3) [(3, .int 1), (0, .ref (ad 47)), (1, .int x1), (2, .int x2)] dX7_endFrom_1 rfl (by decide) rfl ?_
  refine g_iload_n X 3 rfl dX7_endFrom_2 ?_
  refine g_iconst X 1 dX7_endFrom_3 (by decide) ?_
  refine g_iadd X dX7_endFrom_4 (fun zq1 eq2 => ?_)
  have tq3 : zq1.toInt = a2 + 1 := add_nw eq2 t2 (show (1 : Int32).toInt = 1 by decide) (by omega)
  refine g_istore X [(4, .int zq1), (3, .int 1), (0, .ref (ad 47)), (1, .int x1), (2, .int x2)] dX7_endFrom_5 (by decide) rfl ?_
  have lp7 : ∀ n : Nat, ∀ (y4_7 : Int32) (b4_7 : Int), y4_7.toInt = b4_7 → ∀ (y3_7 : Int32) (b3_7 : Int), y3_7.toInt = b3_7 → (BI (txt Mq a1.toNat) ((Mq.1 62 a1.toNat).toInt).toNat S0 b4_7 b3_7) → (1 ≤ b3_7 ∧ a2 < b4_7) → (BHI (txt Mq a1.toNat) a2.toNat (psN (txt Mq a1.toNat) a2.toNat).tail b4_7 b3_7) → (((Mq.1 62 a1.toNat).toInt) - b4_7).toNat < n → G Γ Mq 7 [(4, .int y4_7), (3, .int y3_7), (0, .ref (ad 47)), (1, .int x1), (2, .int x2)] [] := by
    intro n
    induction n with
    | zero => intro y4_7 b4_7 e4_7 y3_7 b3_7 e3_7 i1 i2 i3 hm; exact absurd hm (Nat.not_lt_zero _)
    | succ n ih7 =>
      intro y4_7 b4_7 e4_7 y3_7 b3_7 e3_7 i1 i2 i3 hm7
      have hb1 := i1.1
      have hb2 := i1.2.1
      have hbd := BI_d i1
      have htx := txt_at (M := Mq) (x := a1) (k := b4_7) (by omega) (by omega)
      refine g_aload_n X 2 rfl dX7_endFrom_7 ?_
      refine g_getr X f_X7_49 dX7_endFrom_8 ?_
      refine g_bipush X 60 dX7_endFrom_11 (by decide) ?_
      refine g_iload_n X 3 rfl dX7_endFrom_13 ?_
      refine g_imul X dX7_endFrom_14 (fun zq4 eq5 => ?_)
      have tq6 : zq4.toInt = 60 * a1 := mul_nw eq5 (show (60 : Int32).toInt = 60 by decide) t1 (by omega)
      refine g_iload X 0 rfl dX7_endFrom_15 ?_
      refine g_iadd X dX7_endFrom_17 (fun zq7 eq8 => ?_)
      have tq9 : zq7.toInt = (60 * a1) + b4_7 := add_nw eq8 tq6 e4_7 (by omega)
      refine g_iald X la_61 tq9 dX7_endFrom_18 (by omega) (x := Mq.1 61 (((60 * a1) + b4_7).toNat)) rfl ?_
      refine g_istore X [(5, .int (Mq.1 61 (((60 * a1) + b4_7).toNat))), (4, .int y4_7), (3, .int y3_7), (0, .ref (ad 47)), (1, .int x1), (2, .int x2)] dX7_endFrom_19 (by decide) rfl ?_
      refine g_iload X 0 rfl dX7_endFrom_21 ?_
      refine g_bipush X 91 dX7_endFrom_23 (by decide) ?_
      refine g_icmp_eq X rfl (show (91 : Int32).toInt = 91 by decide) (tgt := 42) dX7_endFrom_25 (by decide) (fun cq10 => ?_) (fun cq10 => ?_)
      · refine g_iinc X 2 (fun v => [(3, .int v), (5, .int (Mq.1 61 (((60 * a1) + b4_7).toNat))), (4, .int y4_7), (0, .ref (ad 47)), (1, .int x1), (2, .int x2)]) dX7_endFrom_42 rfl (by decide) (fun _ => rfl) (fun zq11 eq12 => ?_)
        have tq13 : zq11.toInt = b3_7 + 1 := add_nw eq12 e3_7 (show (Int32.ofInt 1).toInt = 1 by decide) (by omega)
        refine g_iload X 1 rfl dX7_endFrom_45 ?_
        refine g_bipush X 93 dX7_endFrom_47 (by decide) ?_
        refine g_icmp_eq X rfl (show (93 : Int32).toInt = 93 by decide) (tgt := 66) dX7_endFrom_49 (by decide) (fun cq14 => ?_) (fun cq14 => ?_)
        · refine g_iinc X 0 (fun v => [(3, .int v), (5, .int (Mq.1 61 (((60 * a1) + b4_7).toNat))), (4, .int y4_7), (0, .ref (ad 47)), (1, .int x1), (2, .int x2)]) dX7_endFrom_66 rfl (by decide) (fun _ => rfl) (fun zq15 eq16 => ?_)
          have tq17 : zq15.toInt = (b3_7 + 1) + (-1) := add_nw eq16 tq13 (show (Int32.ofInt (-1)).toInt = (-1) by decide) (by omega)
          refine g_iload_n X 0 rfl dX7_endFrom_69 ?_
          refine g_if_ne X tq17 (tgt := 76) dX7_endFrom_70 (by decide) (fun cq18 => ?_) (fun cq18 => ?_)
          · refine g_iinc X 2 (fun v => [(4, .int v), (3, .int zq15), (5, .int (Mq.1 61 (((60 * a1) + b4_7).toNat))), (0, .ref (ad 47)), (1, .int x1), (2, .int x2)]) dX7_endFrom_76 rfl (by decide) (fun _ => rfl) (fun zq19 eq20 => ?_)
            have tq21 : zq19.toInt = b4_7 + 1 := add_nw eq20 e4_7 (show (Int32.ofInt 1).toInt = 1 by decide) (by omega)
            refine g_goto X (tgt := 7) dX7_endFrom_79 (by decide) ?_
            refine g_sub [0, 1, 3, 4, 5] rfl ?_
            exact ih7 zq19 _ tq21 zq15 _ tq17 (BI_next hw i1 (by rw [htx]; unfold dlt; (repeat' split) <;> omega) (by omega)) (by omega) (BHE hV i3 hB ⟨hb1, by omega⟩ htx (by omega)) (by omega)
          · refine g_iload X 2 rfl dX7_endFrom_73 ?_
            exact g_iret X dX7_endFrom_75 ⟨_, _, rfl, e4_7, ⟨⟨by omega, by omega, by omega, (BI_last hw i1 (by rw [htx]; unfold dlt; (repeat' split) <;> omega) (by omega)).2⟩, BHI_MA i3 htx (by omega) (by omega)⟩, rfl⟩
        · refine g_iload X 1 rfl dX7_endFrom_52 ?_
          refine g_bipush X 125 dX7_endFrom_54 (by decide) ?_
          refine g_icmp_eq X rfl (show (125 : Int32).toInt = 125 by decide) (tgt := 66) dX7_endFrom_56 (by decide) (fun cq22 => ?_) (fun cq22 => ?_)
          · refine g_iinc X 0 (fun v => [(3, .int v), (5, .int (Mq.1 61 (((60 * a1) + b4_7).toNat))), (4, .int y4_7), (0, .ref (ad 47)), (1, .int x1), (2, .int x2)]) dX7_endFrom_66 rfl (by decide) (fun _ => rfl) (fun zq23 eq24 => ?_)
            have tq25 : zq23.toInt = (b3_7 + 1) + (-1) := add_nw eq24 tq13 (show (Int32.ofInt (-1)).toInt = (-1) by decide) (by omega)
            refine g_iload_n X 0 rfl dX7_endFrom_69 ?_
            refine g_if_ne X tq25 (tgt := 76) dX7_endFrom_70 (by decide) (fun cq26 => ?_) (fun cq26 => ?_)
            · refine g_iinc X 2 (fun v => [(4, .int v), (3, .int zq23), (5, .int (Mq.1 61 (((60 * a1) + b4_7).toNat))), (0, .ref (ad 47)), (1, .int x1), (2, .int x2)]) dX7_endFrom_76 rfl (by decide) (fun _ => rfl) (fun zq27 eq28 => ?_)
              have tq29 : zq27.toInt = b4_7 + 1 := add_nw eq28 e4_7 (show (Int32.ofInt 1).toInt = 1 by decide) (by omega)
              refine g_goto X (tgt := 7) dX7_endFrom_79 (by decide) ?_
              refine g_sub [0, 1, 3, 4, 5] rfl ?_
              exact ih7 zq27 _ tq29 zq23 _ tq25 (BI_next hw i1 (by rw [htx]; unfold dlt; (repeat' split) <;> omega) (by omega)) (by omega) (BHE hV i3 hB ⟨hb1, by omega⟩ htx (by omega)) (by omega)
            · refine g_iload X 2 rfl dX7_endFrom_73 ?_
              exact g_iret X dX7_endFrom_75 ⟨_, _, rfl, e4_7, ⟨⟨by omega, by omega, by omega, (BI_last hw i1 (by rw [htx]; unfold dlt; (repeat' split) <;> omega) (by omega)).2⟩, BHI_MA i3 htx (by omega) (by omega)⟩, rfl⟩
          · refine g_iload X 1 rfl dX7_endFrom_59 ?_
            refine g_bipush X 41 dX7_endFrom_61 (by decide) ?_
            refine g_icmp_ne X rfl (show (41 : Int32).toInt = 41 by decide) (tgt := 69) dX7_endFrom_63 (by decide) (fun cq30 => ?_) (fun cq30 => ?_)
            · refine g_iload_n X 0 rfl dX7_endFrom_69 ?_
              refine g_if_ne X tq13 (tgt := 76) dX7_endFrom_70 (by decide) (fun cq31 => ?_) (fun cq31 => ?_)
              · refine g_iinc X 2 (fun v => [(4, .int v), (3, .int zq11), (5, .int (Mq.1 61 (((60 * a1) + b4_7).toNat))), (0, .ref (ad 47)), (1, .int x1), (2, .int x2)]) dX7_endFrom_76 rfl (by decide) (fun _ => rfl) (fun zq32 eq33 => ?_)
                have tq34 : zq32.toInt = b4_7 + 1 := add_nw eq33 e4_7 (show (Int32.ofInt 1).toInt = 1 by decide) (by omega)
                refine g_goto X (tgt := 7) dX7_endFrom_79 (by decide) ?_
                refine g_sub [0, 1, 3, 4, 5] rfl ?_
                exact ih7 zq32 _ tq34 zq11 _ tq13 (BI_next hw i1 (by rw [htx]; unfold dlt; (repeat' split) <;> omega) (by omega)) (by omega) (BHE hV i3 hB ⟨hb1, by omega⟩ htx (by omega)) (by omega)
              · refine g_iload X 2 rfl dX7_endFrom_73 ?_
                exact g_iret X dX7_endFrom_75 ⟨_, _, rfl, e4_7, ⟨⟨by omega, by omega, by omega, (BI_last hw i1 (by rw [htx]; unfold dlt; (repeat' split) <;> omega) (by omega)).2⟩, BHI_MA i3 htx (by omega) (by omega)⟩, rfl⟩
            · refine g_iinc X 0 (fun v => [(3, .int v), (5, .int (Mq.1 61 (((60 * a1) + b4_7).toNat))), (4, .int y4_7), (0, .ref (ad 47)), (1, .int x1), (2, .int x2)]) dX7_endFrom_66 rfl (by decide) (fun _ => rfl) (fun zq35 eq36 => ?_)
              have tq37 : zq35.toInt = (b3_7 + 1) + (-1) := add_nw eq36 tq13 (show (Int32.ofInt (-1)).toInt = (-1) by decide) (by omega)
              refine g_iload_n X 0 rfl dX7_endFrom_69 ?_
              refine g_if_ne X tq37 (tgt := 76) dX7_endFrom_70 (by decide) (fun cq38 => ?_) (fun cq38 => ?_)
              · refine g_iinc X 2 (fun v => [(4, .int v), (3, .int zq35), (5, .int (Mq.1 61 (((60 * a1) + b4_7).toNat))), (0, .ref (ad 47)), (1, .int x1), (2, .int x2)]) dX7_endFrom_76 rfl (by decide) (fun _ => rfl) (fun zq39 eq40 => ?_)
                have tq41 : zq39.toInt = b4_7 + 1 := add_nw eq40 e4_7 (show (Int32.ofInt 1).toInt = 1 by decide) (by omega)
                refine g_goto X (tgt := 7) dX7_endFrom_79 (by decide) ?_
                refine g_sub [0, 1, 3, 4, 5] rfl ?_
                exact ih7 zq39 _ tq41 zq35 _ tq37 (BI_next hw i1 (by rw [htx]; unfold dlt; (repeat' split) <;> omega) (by omega)) (by omega) (BHE hV i3 hB ⟨hb1, by omega⟩ htx (by omega)) (by omega)
              · refine g_iload X 2 rfl dX7_endFrom_73 ?_
                exact g_iret X dX7_endFrom_75 ⟨_, _, rfl, e4_7, ⟨⟨by omega, by omega, by omega, (BI_last hw i1 (by rw [htx]; unfold dlt; (repeat' split) <;> omega) (by omega)).2⟩, BHI_MA i3 htx (by omega) (by omega)⟩, rfl⟩
      · refine g_iload X 0 rfl dX7_endFrom_28 ?_
        refine g_bipush X 123 dX7_endFrom_30 (by decide) ?_
        refine g_icmp_eq X rfl (show (123 : Int32).toInt = 123 by decide) (tgt := 42) dX7_endFrom_32 (by decide) (fun cq42 => ?_) (fun cq42 => ?_)
        · refine g_iinc X 2 (fun v => [(3, .int v), (5, .int (Mq.1 61 (((60 * a1) + b4_7).toNat))), (4, .int y4_7), (0, .ref (ad 47)), (1, .int x1), (2, .int x2)]) dX7_endFrom_42 rfl (by decide) (fun _ => rfl) (fun zq43 eq44 => ?_)
          have tq45 : zq43.toInt = b3_7 + 1 := add_nw eq44 e3_7 (show (Int32.ofInt 1).toInt = 1 by decide) (by omega)
          refine g_iload X 1 rfl dX7_endFrom_45 ?_
          refine g_bipush X 93 dX7_endFrom_47 (by decide) ?_
          refine g_icmp_eq X rfl (show (93 : Int32).toInt = 93 by decide) (tgt := 66) dX7_endFrom_49 (by decide) (fun cq46 => ?_) (fun cq46 => ?_)
          · refine g_iinc X 0 (fun v => [(3, .int v), (5, .int (Mq.1 61 (((60 * a1) + b4_7).toNat))), (4, .int y4_7), (0, .ref (ad 47)), (1, .int x1), (2, .int x2)]) dX7_endFrom_66 rfl (by decide) (fun _ => rfl) (fun zq47 eq48 => ?_)
            have tq49 : zq47.toInt = (b3_7 + 1) + (-1) := add_nw eq48 tq45 (show (Int32.ofInt (-1)).toInt = (-1) by decide) (by omega)
            refine g_iload_n X 0 rfl dX7_endFrom_69 ?_
            refine g_if_ne X tq49 (tgt := 76) dX7_endFrom_70 (by decide) (fun cq50 => ?_) (fun cq50 => ?_)
            · refine g_iinc X 2 (fun v => [(4, .int v), (3, .int zq47), (5, .int (Mq.1 61 (((60 * a1) + b4_7).toNat))), (0, .ref (ad 47)), (1, .int x1), (2, .int x2)]) dX7_endFrom_76 rfl (by decide) (fun _ => rfl) (fun zq51 eq52 => ?_)
              have tq53 : zq51.toInt = b4_7 + 1 := add_nw eq52 e4_7 (show (Int32.ofInt 1).toInt = 1 by decide) (by omega)
              refine g_goto X (tgt := 7) dX7_endFrom_79 (by decide) ?_
              refine g_sub [0, 1, 3, 4, 5] rfl ?_
              exact ih7 zq51 _ tq53 zq47 _ tq49 (BI_next hw i1 (by rw [htx]; unfold dlt; (repeat' split) <;> omega) (by omega)) (by omega) (BHE hV i3 hB ⟨hb1, by omega⟩ htx (by omega)) (by omega)
            · refine g_iload X 2 rfl dX7_endFrom_73 ?_
              exact g_iret X dX7_endFrom_75 ⟨_, _, rfl, e4_7, ⟨⟨by omega, by omega, by omega, (BI_last hw i1 (by rw [htx]; unfold dlt; (repeat' split) <;> omega) (by omega)).2⟩, BHI_MA i3 htx (by omega) (by omega)⟩, rfl⟩
          · refine g_iload X 1 rfl dX7_endFrom_52 ?_
            refine g_bipush X 125 dX7_endFrom_54 (by decide) ?_
            refine g_icmp_eq X rfl (show (125 : Int32).toInt = 125 by decide) (tgt := 66) dX7_endFrom_56 (by decide) (fun cq54 => ?_) (fun cq54 => ?_)
            · refine g_iinc X 0 (fun v => [(3, .int v), (5, .int (Mq.1 61 (((60 * a1) + b4_7).toNat))), (4, .int y4_7), (0, .ref (ad 47)), (1, .int x1), (2, .int x2)]) dX7_endFrom_66 rfl (by decide) (fun _ => rfl) (fun zq55 eq56 => ?_)
              have tq57 : zq55.toInt = (b3_7 + 1) + (-1) := add_nw eq56 tq45 (show (Int32.ofInt (-1)).toInt = (-1) by decide) (by omega)
              refine g_iload_n X 0 rfl dX7_endFrom_69 ?_
              refine g_if_ne X tq57 (tgt := 76) dX7_endFrom_70 (by decide) (fun cq58 => ?_) (fun cq58 => ?_)
              · refine g_iinc X 2 (fun v => [(4, .int v), (3, .int zq55), (5, .int (Mq.1 61 (((60 * a1) + b4_7).toNat))), (0, .ref (ad 47)), (1, .int x1), (2, .int x2)]) dX7_endFrom_76 rfl (by decide) (fun _ => rfl) (fun zq59 eq60 => ?_)
                have tq61 : zq59.toInt = b4_7 + 1 := add_nw eq60 e4_7 (show (Int32.ofInt 1).toInt = 1 by decide) (by omega)
                refine g_goto X (tgt := 7) dX7_endFrom_79 (by decide) ?_
                refine g_sub [0, 1, 3, 4, 5] rfl ?_
                exact ih7 zq59 _ tq61 zq55 _ tq57 (BI_next hw i1 (by rw [htx]; unfold dlt; (repeat' split) <;> omega) (by omega)) (by omega) (BHE hV i3 hB ⟨hb1, by omega⟩ htx (by omega)) (by omega)
              · refine g_iload X 2 rfl dX7_endFrom_73 ?_
                exact g_iret X dX7_endFrom_75 ⟨_, _, rfl, e4_7, ⟨⟨by omega, by omega, by omega, (BI_last hw i1 (by rw [htx]; unfold dlt; (repeat' split) <;> omega) (by omega)).2⟩, BHI_MA i3 htx (by omega) (by omega)⟩, rfl⟩
            · refine g_iload X 1 rfl dX7_endFrom_59 ?_
              refine g_bipush X 41 dX7_endFrom_61 (by decide) ?_
              refine g_icmp_ne X rfl (show (41 : Int32).toInt = 41 by decide) (tgt := 69) dX7_endFrom_63 (by decide) (fun cq62 => ?_) (fun cq62 => ?_)
              · refine g_iload_n X 0 rfl dX7_endFrom_69 ?_
                refine g_if_ne X tq45 (tgt := 76) dX7_endFrom_70 (by decide) (fun cq63 => ?_) (fun cq63 => ?_)
                · refine g_iinc X 2 (fun v => [(4, .int v), (3, .int zq43), (5, .int (Mq.1 61 (((60 * a1) + b4_7).toNat))), (0, .ref (ad 47)), (1, .int x1), (2, .int x2)]) dX7_endFrom_76 rfl (by decide) (fun _ => rfl) (fun zq64 eq65 => ?_)
                  have tq66 : zq64.toInt = b4_7 + 1 := add_nw eq65 e4_7 (show (Int32.ofInt 1).toInt = 1 by decide) (by omega)
                  refine g_goto X (tgt := 7) dX7_endFrom_79 (by decide) ?_
                  refine g_sub [0, 1, 3, 4, 5] rfl ?_
                  exact ih7 zq64 _ tq66 zq43 _ tq45 (BI_next hw i1 (by rw [htx]; unfold dlt; (repeat' split) <;> omega) (by omega)) (by omega) (BHE hV i3 hB ⟨hb1, by omega⟩ htx (by omega)) (by omega)
                · refine g_iload X 2 rfl dX7_endFrom_73 ?_
                  exact g_iret X dX7_endFrom_75 ⟨_, _, rfl, e4_7, ⟨⟨by omega, by omega, by omega, (BI_last hw i1 (by rw [htx]; unfold dlt; (repeat' split) <;> omega) (by omega)).2⟩, BHI_MA i3 htx (by omega) (by omega)⟩, rfl⟩
              · refine g_iinc X 0 (fun v => [(3, .int v), (5, .int (Mq.1 61 (((60 * a1) + b4_7).toNat))), (4, .int y4_7), (0, .ref (ad 47)), (1, .int x1), (2, .int x2)]) dX7_endFrom_66 rfl (by decide) (fun _ => rfl) (fun zq67 eq68 => ?_)
                have tq69 : zq67.toInt = (b3_7 + 1) + (-1) := add_nw eq68 tq45 (show (Int32.ofInt (-1)).toInt = (-1) by decide) (by omega)
                refine g_iload_n X 0 rfl dX7_endFrom_69 ?_
                refine g_if_ne X tq69 (tgt := 76) dX7_endFrom_70 (by decide) (fun cq70 => ?_) (fun cq70 => ?_)
                · refine g_iinc X 2 (fun v => [(4, .int v), (3, .int zq67), (5, .int (Mq.1 61 (((60 * a1) + b4_7).toNat))), (0, .ref (ad 47)), (1, .int x1), (2, .int x2)]) dX7_endFrom_76 rfl (by decide) (fun _ => rfl) (fun zq71 eq72 => ?_)
                  have tq73 : zq71.toInt = b4_7 + 1 := add_nw eq72 e4_7 (show (Int32.ofInt 1).toInt = 1 by decide) (by omega)
                  refine g_goto X (tgt := 7) dX7_endFrom_79 (by decide) ?_
                  refine g_sub [0, 1, 3, 4, 5] rfl ?_
                  exact ih7 zq71 _ tq73 zq67 _ tq69 (BI_next hw i1 (by rw [htx]; unfold dlt; (repeat' split) <;> omega) (by omega)) (by omega) (BHE hV i3 hB ⟨hb1, by omega⟩ htx (by omega)) (by omega)
                · refine g_iload X 2 rfl dX7_endFrom_73 ?_
                  exact g_iret X dX7_endFrom_75 ⟨_, _, rfl, e4_7, ⟨⟨by omega, by omega, by omega, (BI_last hw i1 (by rw [htx]; unfold dlt; (repeat' split) <;> omega) (by omega)).2⟩, BHI_MA i3 htx (by omega) (by omega)⟩, rfl⟩
        · refine g_iload X 0 rfl dX7_endFrom_35 ?_
          refine g_bipush X 40 dX7_endFrom_37 (by decide) ?_
          refine g_icmp_ne X rfl (show (40 : Int32).toInt = 40 by decide) (tgt := 45) dX7_endFrom_39 (by decide) (fun cq74 => ?_) (fun cq74 => ?_)
          · refine g_iload X 0 rfl dX7_endFrom_45 ?_
            refine g_bipush X 93 dX7_endFrom_47 (by decide) ?_
            refine g_icmp_eq X rfl (show (93 : Int32).toInt = 93 by decide) (tgt := 66) dX7_endFrom_49 (by decide) (fun cq75 => ?_) (fun cq75 => ?_)
            · refine g_iinc X 2 (fun v => [(3, .int v), (5, .int (Mq.1 61 (((60 * a1) + b4_7).toNat))), (4, .int y4_7), (0, .ref (ad 47)), (1, .int x1), (2, .int x2)]) dX7_endFrom_66 rfl (by decide) (fun _ => rfl) (fun zq76 eq77 => ?_)
              have tq78 : zq76.toInt = b3_7 + (-1) := add_nw eq77 e3_7 (show (Int32.ofInt (-1)).toInt = (-1) by decide) (by omega)
              refine g_iload_n X 0 rfl dX7_endFrom_69 ?_
              refine g_if_ne X tq78 (tgt := 76) dX7_endFrom_70 (by decide) (fun cq79 => ?_) (fun cq79 => ?_)
              · refine g_iinc X 2 (fun v => [(4, .int v), (3, .int zq76), (5, .int (Mq.1 61 (((60 * a1) + b4_7).toNat))), (0, .ref (ad 47)), (1, .int x1), (2, .int x2)]) dX7_endFrom_76 rfl (by decide) (fun _ => rfl) (fun zq80 eq81 => ?_)
                have tq82 : zq80.toInt = b4_7 + 1 := add_nw eq81 e4_7 (show (Int32.ofInt 1).toInt = 1 by decide) (by omega)
                refine g_goto X (tgt := 7) dX7_endFrom_79 (by decide) ?_
                refine g_sub [0, 1, 3, 4, 5] rfl ?_
                exact ih7 zq80 _ tq82 zq76 _ tq78 (BI_next hw i1 (by rw [htx]; unfold dlt; (repeat' split) <;> omega) (by omega)) (by omega) (BHE hV i3 hB ⟨hb1, by omega⟩ htx (by omega)) (by omega)
              · refine g_iload X 2 rfl dX7_endFrom_73 ?_
                exact g_iret X dX7_endFrom_75 ⟨_, _, rfl, e4_7, ⟨⟨by omega, by omega, by omega, (BI_last hw i1 (by rw [htx]; unfold dlt; (repeat' split) <;> omega) (by omega)).2⟩, BHI_MA i3 htx (by omega) (by omega)⟩, rfl⟩
            · refine g_iload X 0 rfl dX7_endFrom_52 ?_
              refine g_bipush X 125 dX7_endFrom_54 (by decide) ?_
              refine g_icmp_eq X rfl (show (125 : Int32).toInt = 125 by decide) (tgt := 66) dX7_endFrom_56 (by decide) (fun cq83 => ?_) (fun cq83 => ?_)
              · refine g_iinc X 2 (fun v => [(3, .int v), (5, .int (Mq.1 61 (((60 * a1) + b4_7).toNat))), (4, .int y4_7), (0, .ref (ad 47)), (1, .int x1), (2, .int x2)]) dX7_endFrom_66 rfl (by decide) (fun _ => rfl) (fun zq84 eq85 => ?_)
                have tq86 : zq84.toInt = b3_7 + (-1) := add_nw eq85 e3_7 (show (Int32.ofInt (-1)).toInt = (-1) by decide) (by omega)
                refine g_iload_n X 0 rfl dX7_endFrom_69 ?_
                refine g_if_ne X tq86 (tgt := 76) dX7_endFrom_70 (by decide) (fun cq87 => ?_) (fun cq87 => ?_)
                · refine g_iinc X 2 (fun v => [(4, .int v), (3, .int zq84), (5, .int (Mq.1 61 (((60 * a1) + b4_7).toNat))), (0, .ref (ad 47)), (1, .int x1), (2, .int x2)]) dX7_endFrom_76 rfl (by decide) (fun _ => rfl) (fun zq88 eq89 => ?_)
                  have tq90 : zq88.toInt = b4_7 + 1 := add_nw eq89 e4_7 (show (Int32.ofInt 1).toInt = 1 by decide) (by omega)
                  refine g_goto X (tgt := 7) dX7_endFrom_79 (by decide) ?_
                  refine g_sub [0, 1, 3, 4, 5] rfl ?_
                  exact ih7 zq88 _ tq90 zq84 _ tq86 (BI_next hw i1 (by rw [htx]; unfold dlt; (repeat' split) <;> omega) (by omega)) (by omega) (BHE hV i3 hB ⟨hb1, by omega⟩ htx (by omega)) (by omega)
                · refine g_iload X 2 rfl dX7_endFrom_73 ?_
                  exact g_iret X dX7_endFrom_75 ⟨_, _, rfl, e4_7, ⟨⟨by omega, by omega, by omega, (BI_last hw i1 (by rw [htx]; unfold dlt; (repeat' split) <;> omega) (by omega)).2⟩, BHI_MA i3 htx (by omega) (by omega)⟩, rfl⟩
              · refine g_iload X 0 rfl dX7_endFrom_59 ?_
                refine g_bipush X 41 dX7_endFrom_61 (by decide) ?_
                refine g_icmp_ne X rfl (show (41 : Int32).toInt = 41 by decide) (tgt := 69) dX7_endFrom_63 (by decide) (fun cq91 => ?_) (fun cq91 => ?_)
                · refine g_iload_n X 2 rfl dX7_endFrom_69 ?_
                  refine g_if_ne X e3_7 (tgt := 76) dX7_endFrom_70 (by decide) (fun cq92 => ?_) (fun cq92 => ?_)
                  · refine g_iinc X 1 (fun v => [(4, .int v), (5, .int (Mq.1 61 (((60 * a1) + b4_7).toNat))), (3, .int y3_7), (0, .ref (ad 47)), (1, .int x1), (2, .int x2)]) dX7_endFrom_76 rfl (by decide) (fun _ => rfl) (fun zq93 eq94 => ?_)
                    have tq95 : zq93.toInt = b4_7 + 1 := add_nw eq94 e4_7 (show (Int32.ofInt 1).toInt = 1 by decide) (by omega)
                    refine g_goto X (tgt := 7) dX7_endFrom_79 (by decide) ?_
                    refine g_sub [0, 2, 3, 4, 5] rfl ?_
                    exact ih7 zq93 _ tq95 y3_7 _ e3_7 (BI_next hw i1 (by rw [htx]; unfold dlt; (repeat' split) <;> omega) (by omega)) (by omega) (BHE hV i3 hB ⟨hb1, by omega⟩ htx (by omega)) (by omega)
                  · refine g_iload X 1 rfl dX7_endFrom_73 ?_
                    exact g_iret X dX7_endFrom_75 ⟨_, _, rfl, e4_7, ⟨⟨by omega, by omega, by omega, (BI_last hw i1 (by rw [htx]; unfold dlt; (repeat' split) <;> omega) (by omega)).2⟩, BHI_MA i3 htx (by omega) (by omega)⟩, rfl⟩
                · refine g_iinc X 2 (fun v => [(3, .int v), (5, .int (Mq.1 61 (((60 * a1) + b4_7).toNat))), (4, .int y4_7), (0, .ref (ad 47)), (1, .int x1), (2, .int x2)]) dX7_endFrom_66 rfl (by decide) (fun _ => rfl) (fun zq96 eq97 => ?_)
                  have tq98 : zq96.toInt = b3_7 + (-1) := add_nw eq97 e3_7 (show (Int32.ofInt (-1)).toInt = (-1) by decide) (by omega)
                  refine g_iload_n X 0 rfl dX7_endFrom_69 ?_
                  refine g_if_ne X tq98 (tgt := 76) dX7_endFrom_70 (by decide) (fun cq99 => ?_) (fun cq99 => ?_)
                  · refine g_iinc X 2 (fun v => [(4, .int v), (3, .int zq96), (5, .int (Mq.1 61 (((60 * a1) + b4_7).toNat))), (0, .ref (ad 47)), (1, .int x1), (2, .int x2)]) dX7_endFrom_76 rfl (by decide) (fun _ => rfl) (fun zq100 eq101 => ?_)
                    have tq102 : zq100.toInt = b4_7 + 1 := add_nw eq101 e4_7 (show (Int32.ofInt 1).toInt = 1 by decide) (by omega)
                    refine g_goto X (tgt := 7) dX7_endFrom_79 (by decide) ?_
                    refine g_sub [0, 1, 3, 4, 5] rfl ?_
                    exact ih7 zq100 _ tq102 zq96 _ tq98 (BI_next hw i1 (by rw [htx]; unfold dlt; (repeat' split) <;> omega) (by omega)) (by omega) (BHE hV i3 hB ⟨hb1, by omega⟩ htx (by omega)) (by omega)
                  · refine g_iload X 2 rfl dX7_endFrom_73 ?_
                    exact g_iret X dX7_endFrom_75 ⟨_, _, rfl, e4_7, ⟨⟨by omega, by omega, by omega, (BI_last hw i1 (by rw [htx]; unfold dlt; (repeat' split) <;> omega) (by omega)).2⟩, BHI_MA i3 htx (by omega) (by omega)⟩, rfl⟩
          · refine g_iinc X 2 (fun v => [(3, .int v), (5, .int (Mq.1 61 (((60 * a1) + b4_7).toNat))), (4, .int y4_7), (0, .ref (ad 47)), (1, .int x1), (2, .int x2)]) dX7_endFrom_42 rfl (by decide) (fun _ => rfl) (fun zq103 eq104 => ?_)
            have tq105 : zq103.toInt = b3_7 + 1 := add_nw eq104 e3_7 (show (Int32.ofInt 1).toInt = 1 by decide) (by omega)
            refine g_iload X 1 rfl dX7_endFrom_45 ?_
            refine g_bipush X 93 dX7_endFrom_47 (by decide) ?_
            refine g_icmp_eq X rfl (show (93 : Int32).toInt = 93 by decide) (tgt := 66) dX7_endFrom_49 (by decide) (fun cq106 => ?_) (fun cq106 => ?_)
            · refine g_iinc X 0 (fun v => [(3, .int v), (5, .int (Mq.1 61 (((60 * a1) + b4_7).toNat))), (4, .int y4_7), (0, .ref (ad 47)), (1, .int x1), (2, .int x2)]) dX7_endFrom_66 rfl (by decide) (fun _ => rfl) (fun zq107 eq108 => ?_)
              have tq109 : zq107.toInt = (b3_7 + 1) + (-1) := add_nw eq108 tq105 (show (Int32.ofInt (-1)).toInt = (-1) by decide) (by omega)
              refine g_iload_n X 0 rfl dX7_endFrom_69 ?_
              refine g_if_ne X tq109 (tgt := 76) dX7_endFrom_70 (by decide) (fun cq110 => ?_) (fun cq110 => ?_)
              · refine g_iinc X 2 (fun v => [(4, .int v), (3, .int zq107), (5, .int (Mq.1 61 (((60 * a1) + b4_7).toNat))), (0, .ref (ad 47)), (1, .int x1), (2, .int x2)]) dX7_endFrom_76 rfl (by decide) (fun _ => rfl) (fun zq111 eq112 => ?_)
                have tq113 : zq111.toInt = b4_7 + 1 := add_nw eq112 e4_7 (show (Int32.ofInt 1).toInt = 1 by decide) (by omega)
                refine g_goto X (tgt := 7) dX7_endFrom_79 (by decide) ?_
                refine g_sub [0, 1, 3, 4, 5] rfl ?_
                exact ih7 zq111 _ tq113 zq107 _ tq109 (BI_next hw i1 (by rw [htx]; unfold dlt; (repeat' split) <;> omega) (by omega)) (by omega) (BHE hV i3 hB ⟨hb1, by omega⟩ htx (by omega)) (by omega)
              · refine g_iload X 2 rfl dX7_endFrom_73 ?_
                exact g_iret X dX7_endFrom_75 ⟨_, _, rfl, e4_7, ⟨⟨by omega, by omega, by omega, (BI_last hw i1 (by rw [htx]; unfold dlt; (repeat' split) <;> omega) (by omega)).2⟩, BHI_MA i3 htx (by omega) (by omega)⟩, rfl⟩
            · refine g_iload X 1 rfl dX7_endFrom_52 ?_
              refine g_bipush X 125 dX7_endFrom_54 (by decide) ?_
              refine g_icmp_eq X rfl (show (125 : Int32).toInt = 125 by decide) (tgt := 66) dX7_endFrom_56 (by decide) (fun cq114 => ?_) (fun cq114 => ?_)
              · refine g_iinc X 0 (fun v => [(3, .int v), (5, .int (Mq.1 61 (((60 * a1) + b4_7).toNat))), (4, .int y4_7), (0, .ref (ad 47)), (1, .int x1), (2, .int x2)]) dX7_endFrom_66 rfl (by decide) (fun _ => rfl) (fun zq115 eq116 => ?_)
                have tq117 : zq115.toInt = (b3_7 + 1) + (-1) := add_nw eq116 tq105 (show (Int32.ofInt (-1)).toInt = (-1) by decide) (by omega)
                refine g_iload_n X 0 rfl dX7_endFrom_69 ?_
                refine g_if_ne X tq117 (tgt := 76) dX7_endFrom_70 (by decide) (fun cq118 => ?_) (fun cq118 => ?_)
                · refine g_iinc X 2 (fun v => [(4, .int v), (3, .int zq115), (5, .int (Mq.1 61 (((60 * a1) + b4_7).toNat))), (0, .ref (ad 47)), (1, .int x1), (2, .int x2)]) dX7_endFrom_76 rfl (by decide) (fun _ => rfl) (fun zq119 eq120 => ?_)
                  have tq121 : zq119.toInt = b4_7 + 1 := add_nw eq120 e4_7 (show (Int32.ofInt 1).toInt = 1 by decide) (by omega)
                  refine g_goto X (tgt := 7) dX7_endFrom_79 (by decide) ?_
                  refine g_sub [0, 1, 3, 4, 5] rfl ?_
                  exact ih7 zq119 _ tq121 zq115 _ tq117 (BI_next hw i1 (by rw [htx]; unfold dlt; (repeat' split) <;> omega) (by omega)) (by omega) (BHE hV i3 hB ⟨hb1, by omega⟩ htx (by omega)) (by omega)
                · refine g_iload X 2 rfl dX7_endFrom_73 ?_
                  exact g_iret X dX7_endFrom_75 ⟨_, _, rfl, e4_7, ⟨⟨by omega, by omega, by omega, (BI_last hw i1 (by rw [htx]; unfold dlt; (repeat' split) <;> omega) (by omega)).2⟩, BHI_MA i3 htx (by omega) (by omega)⟩, rfl⟩
              · refine g_iload X 1 rfl dX7_endFrom_59 ?_
                refine g_bipush X 41 dX7_endFrom_61 (by decide) ?_
                refine g_icmp_ne X rfl (show (41 : Int32).toInt = 41 by decide) (tgt := 69) dX7_endFrom_63 (by decide) (fun cq122 => ?_) (fun cq122 => ?_)
                · refine g_iload_n X 0 rfl dX7_endFrom_69 ?_
                  refine g_if_ne X tq105 (tgt := 76) dX7_endFrom_70 (by decide) (fun cq123 => ?_) (fun cq123 => ?_)
                  · refine g_iinc X 2 (fun v => [(4, .int v), (3, .int zq103), (5, .int (Mq.1 61 (((60 * a1) + b4_7).toNat))), (0, .ref (ad 47)), (1, .int x1), (2, .int x2)]) dX7_endFrom_76 rfl (by decide) (fun _ => rfl) (fun zq124 eq125 => ?_)
                    have tq126 : zq124.toInt = b4_7 + 1 := add_nw eq125 e4_7 (show (Int32.ofInt 1).toInt = 1 by decide) (by omega)
                    refine g_goto X (tgt := 7) dX7_endFrom_79 (by decide) ?_
                    refine g_sub [0, 1, 3, 4, 5] rfl ?_
                    exact ih7 zq124 _ tq126 zq103 _ tq105 (BI_next hw i1 (by rw [htx]; unfold dlt; (repeat' split) <;> omega) (by omega)) (by omega) (BHE hV i3 hB ⟨hb1, by omega⟩ htx (by omega)) (by omega)
                  · refine g_iload X 2 rfl dX7_endFrom_73 ?_
                    exact g_iret X dX7_endFrom_75 ⟨_, _, rfl, e4_7, ⟨⟨by omega, by omega, by omega, (BI_last hw i1 (by rw [htx]; unfold dlt; (repeat' split) <;> omega) (by omega)).2⟩, BHI_MA i3 htx (by omega) (by omega)⟩, rfl⟩
                · refine g_iinc X 0 (fun v => [(3, .int v), (5, .int (Mq.1 61 (((60 * a1) + b4_7).toNat))), (4, .int y4_7), (0, .ref (ad 47)), (1, .int x1), (2, .int x2)]) dX7_endFrom_66 rfl (by decide) (fun _ => rfl) (fun zq127 eq128 => ?_)
                  have tq129 : zq127.toInt = (b3_7 + 1) + (-1) := add_nw eq128 tq105 (show (Int32.ofInt (-1)).toInt = (-1) by decide) (by omega)
                  refine g_iload_n X 0 rfl dX7_endFrom_69 ?_
                  refine g_if_ne X tq129 (tgt := 76) dX7_endFrom_70 (by decide) (fun cq130 => ?_) (fun cq130 => ?_)
                  · refine g_iinc X 2 (fun v => [(4, .int v), (3, .int zq127), (5, .int (Mq.1 61 (((60 * a1) + b4_7).toNat))), (0, .ref (ad 47)), (1, .int x1), (2, .int x2)]) dX7_endFrom_76 rfl (by decide) (fun _ => rfl) (fun zq131 eq132 => ?_)
                    have tq133 : zq131.toInt = b4_7 + 1 := add_nw eq132 e4_7 (show (Int32.ofInt 1).toInt = 1 by decide) (by omega)
                    refine g_goto X (tgt := 7) dX7_endFrom_79 (by decide) ?_
                    refine g_sub [0, 1, 3, 4, 5] rfl ?_
                    exact ih7 zq131 _ tq133 zq127 _ tq129 (BI_next hw i1 (by rw [htx]; unfold dlt; (repeat' split) <;> omega) (by omega)) (by omega) (BHE hV i3 hB ⟨hb1, by omega⟩ htx (by omega)) (by omega)
                  · refine g_iload X 2 rfl dX7_endFrom_73 ?_
                    exact g_iret X dX7_endFrom_75 ⟨_, _, rfl, e4_7, ⟨⟨by omega, by omega, by omega, (BI_last hw i1 (by rw [htx]; unfold dlt; (repeat' split) <;> omega) (by omega)).2⟩, BHI_MA i3 htx (by omega) (by omega)⟩, rfl⟩
  refine g_sub [0, 1, 2, 3, 4] rfl ?_
  exact lp7 _ zq1 _ tq3 1 _ (show (1 : Int32).toInt = 1 by decide) hB0 (by omega) (BHI_1 h2.1 rfl hB) (Nat.lt_succ_self _)
end
