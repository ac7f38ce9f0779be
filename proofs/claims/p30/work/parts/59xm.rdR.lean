section
abbrev W_X7_runsOf_R : List (Nat × Nat) := [(71, 99), (72, 99), (73, 99), (74, 99), (75, 99), (76, 99)]
set_option maxHeartbeats 4000000 in
set_option maxRecDepth 4000 in
theorem c_X7_runsOf_R (ad : Nat → Nat) (Mq : Mem) (x1 : Int32) {a1 : Int} (t1 : x1.toInt = a1) (Iq0 : Iv TM Mq) {p : RpT} (h1 : 0 ≤ a1 ∧ a1 ≤ 7) (htl : 0 ≤ (Mq.1 47 23).toInt ∧ (Mq.1 47 23).toInt ≤ 1000000) (ht : 0 < tel Mq a1.toNat) (hG : ∀ x : Nat, x < 8 → 0 < tel Mq x → gsN (txt Mq x) (tsz Mq x).toNat = some ([], true)) (hwt : ∀ s j : Nat, s < 8 → (j : Int) < (Mq.1 47 44).toInt → wtR Mq (Mq.1 78 j).toInt (s : Int) = p.1 s j ∧ p.1 s j ≤ 64) (hh : (Mq.1 47 24).toInt = ((p.2.2 : Nat) : Int)) (hfix : ∀ x : Nat, x < 8 → 0 < tel Mq x → p.2.1 x = mcT p (txt Mq x) (tsz Mq x).toNat) (hle : ∀ x : Nat, x < 8 → tel Mq x ≤ (Mq.1 47 23).toInt) (cy0 : WFM Mq) : Ctr ad yX7_runsOf cX7_runsOf 4 (some .int) 5 [.ref (ad 47), .int x1] Mq (fun v M' => ∃ (r : Int32) (a : Int), v = some (.int r) ∧ r.toInt = a ∧ (a = ((cap (p.2.1 a1.toNat 0 ((Mq.1 47 44).toInt).toNat) : Nat) : Int)) ∧ Iv TM M' ∧ Fr W_X7_runsOf_R Mq M') := by
  refine ctr_of (L := [(0, .ref (ad 47)), (1, .int x1)]) (by decide) (Nat.le_of_ble_eq_true rfl) rfl ?_
  intro Γ X
  have X : gX Γ cX7_runsOf RX7 4 (some .int) 5 ad _ := X
  have frq0 : Fr W_X7_runsOf_R Mq Mq := Fr.rf
  have g12 := ig_47_12 Iq0
  have g24 := ig_47_24 Iq0
  have g44 := ig_47_44 Iq0
  have g43 := ig_47_43 Iq0
  have g52 := ig_47_52 Iq0
  have g53 := ig_47_53 Iq0
  have g59 := ig_47_59 Iq0
  have hn : ((Mq.1 47 44).toInt).toNat < 25 := by omega
  refine g_iconst X 1 dX7_runsOf_0 (by decide) ?_
  refine g_istore_n X (i := 2) [(2, .int 1), (0, .ref (ad 47)), (1, .int x1)] dX7_runsOf_1 rfl (by decide) rfl ?_
  have lp2 : ∀ n : Nat, ∀ (y2_2 : Int32) (b2_2 : Int), y2_2.toInt = b2_2 → ∀ (M_2 : Mem), (1 ≤ b2_2) → (TDM (M_2.1 71) ((Mq.1 47 44).toInt).toNat (tel Mq) p.2.1 (tel Mq a1.toNat) b2_2 0) → (Iv TM M_2) → (Fr W_X7_runsOf_R Mq M_2) → (WFM M_2) → ((Mq.1 47 23).toInt + 1 - b2_2).toNat < n → G Γ M_2 2 [(2, .int y2_2), (0, .ref (ad 47)), (1, .int x1)] [] := by
    intro n
    induction n with
    | zero => intro y2_2 b2_2 e2_2 M_2 i1 i2 I_2 fr_2 cy0_2 hm; exact absurd hm (Nat.not_lt_zero _)
    | succ n ih2 =>
      intro y2_2 b2_2 e2_2 M_2 i1 i2 I_2 fr_2 cy0_2 hm2
      have trq1 : (M_2.1 47 23).toInt = (Mq.1 47 23).toInt := congrArg Int32.toInt (fr_2.at 47 23 rfl)
      have p44 : (M_2.1 47 44).toInt = (Mq.1 47 44).toInt := congrArg Int32.toInt (fr_2.at 47 44 rfl)
      refine g_iload_n X 0 rfl dX7_runsOf_2 ?_
      refine g_aload_n X 1 rfl dX7_runsOf_3 ?_
      refine g_geti X f_X7_232 dX7_runsOf_4 (x := M_2.1 47 23) rfl ?_
      refine g_icmp_gt X e2_2 rfl (tgt := 55) dX7_runsOf_7 (by decide) (fun cq2 => ?_) (fun cq2 => ?_)
      · refine g_aload_n X 1 rfl dX7_runsOf_55 ?_
        refine g_getr X f_X7_83 dX7_runsOf_56 ?_
        refine g_sipush X 625 dX7_runsOf_59 (by decide) ?_
        refine g_iload_n X 2 rfl dX7_runsOf_62 ?_
        refine g_imul X dX7_runsOf_63 (fun zq3 eq4 => ?_)
        have tq5 : zq3.toInt = 625 * a1 := mul_nw eq4 (show (625 : Int32).toInt = 625 by decide) t1 (by omega)
        refine g_aload_n X 1 rfl dX7_runsOf_64 ?_
        refine g_geti X f_X7_282 dX7_runsOf_65 (x := M_2.1 47 44) rfl ?_
        have bq6 := ig_47_44 I_2
        refine g_iadd X dX7_runsOf_68 (fun zq7 eq8 => ?_)
        have tq9 : zq7.toInt = (625 * a1) + ((M_2.1 47 44).toInt) := add_nw eq8 tq5 rfl (by omega)
        refine g_iald X la_71 tq9 dX7_runsOf_69 (by omega) (x := M_2.1 71 (((625 * a1) + ((M_2.1 47 44).toInt)).toNat)) rfl ?_
        exact g_iret X dX7_runsOf_70 ⟨_, _, rfl, rfl, (by have z := i2 a1.toNat (by omega) ht (Or.inl (by have u := hle a1.toNat (by omega); omega)) (Int.le_refl _) 0 ((Mq.1 47 44).toInt).toNat (Nat.zero_le _) (Nat.le_refl _); rw [← z, p44, show (625 * a1 + (Mq.1 47 44).toInt).toNat = 625 * a1.toNat + (25 * 0 + ((Mq.1 47 44).toInt).toNat) by omega]), I_2, fr_2⟩
      · refine g_iconst X 0 dX7_runsOf_10 (by decide) ?_
        refine g_istore_n X (i := 3) [(3, .int 0), (2, .int y2_2), (0, .ref (ad 47)), (1, .int x1)] dX7_runsOf_11 rfl (by decide) rfl ?_
        have lp12 : ∀ n : Nat, ∀ (y3_12 : Int32) (b3_12 : Int), y3_12.toInt = b3_12 → ∀ (M_12 : Mem), (0 ≤ b3_12 ∧ b3_12 ≤ 8) → (TDM (M_12.1 71) ((Mq.1 47 44).toInt).toNat (tel Mq) p.2.1 (tel Mq a1.toNat) b2_2 b3_12) → (Iv TM M_12) → (Fr W_X7_runsOf_R Mq M_12) → (WFM M_12) → (8 - b3_12).toNat < n → G Γ M_12 12 [(3, .int y3_12), (2, .int y2_2), (0, .ref (ad 47)), (1, .int x1)] [] := by
          intro n
          induction n with
          | zero => intro y3_12 b3_12 e3_12 M_12 i3 i4 I_12 fr_12 cy0_12 hm; exact absurd hm (Nat.not_lt_zero _)
          | succ n ih12 =>
            intro y3_12 b3_12 e3_12 M_12 i3 i4 I_12 fr_12 cy0_12 hm12
            have trq10 : (M_12.1 47 23).toInt = (Mq.1 47 23).toInt := congrArg Int32.toInt (fr_12.at 47 23 rfl)
            have q44 : (M_12.1 47 44).toInt = (Mq.1 47 44).toInt := congrArg Int32.toInt (fr_12.at 47 44 rfl)
            have e63 : ∀ x : Nat, (M_12.1 63 x).toInt = tel Mq x := fun x => congrArg Int32.toInt (fr_12.at 63 x rfl)
            have etx : txt M_12 = txt Mq := by unfold txt; rw [row_fr fr_12 (c := 61) (by decide)]
            refine g_iload_n X 0 rfl dX7_runsOf_12 ?_
            refine g_bipush X 8 dX7_runsOf_13 (by decide) ?_
            refine g_icmp_ge X e3_12 (show (8 : Int32).toInt = 8 by decide) (tgt := 49) dX7_runsOf_15 (by decide) (fun cq11 => ?_) (fun cq11 => ?_)
            · refine g_iinc X 1 (fun v => [(2, .int v), (3, .int y3_12), (0, .ref (ad 47)), (1, .int x1)]) dX7_runsOf_49 rfl (by decide) (fun _ => rfl) (fun zq12 eq13 => ?_)
              have tq14 : zq12.toInt = b2_2 + 1 := add_nw eq13 e2_2 (show (Int32.ofInt 1).toInt = 1 by decide) (by omega)
              refine g_goto X (tgt := 2) dX7_runsOf_52 (by decide) ?_
              refine g_sub [0, 2, 3] rfl ?_
              exact ih2 zq12 _ tq14 M_12 (by omega) (TDM_next i4 (by omega)) I_12 fr_12 cy0_12 (by omega)
            · refine g_aload_n X 2 rfl dX7_runsOf_18 ?_
              refine g_getr X f_X7_55 dX7_runsOf_19 ?_
              refine g_iload_n X 0 rfl dX7_runsOf_22 ?_
              refine g_iald X la_63 e3_12 dX7_runsOf_23 (by omega) (x := M_12.1 63 b3_12.toNat) rfl ?_
              refine g_iload_n X 1 rfl dX7_runsOf_24 ?_
              refine g_icmp_ne X rfl e2_2 (tgt := 43) dX7_runsOf_25 (by decide) (fun cq15 => ?_) (fun cq15 => ?_)
              · refine g_iinc X 0 (fun v => [(3, .int v), (2, .int y2_2), (0, .ref (ad 47)), (1, .int x1)]) dX7_runsOf_43 rfl (by decide) (fun _ => rfl) (fun zq16 eq17 => ?_)
                have tq18 : zq16.toInt = b3_12 + 1 := add_nw eq17 e3_12 (show (Int32.ofInt 1).toInt = 1 by decide) (by omega)
                refine g_goto X (tgt := 12) dX7_runsOf_46 (by decide) ?_
                refine g_sub [0, 1, 2, 3] rfl ?_
                exact ih12 zq16 _ tq18 M_12 (by omega) (by have u := e63 b3_12.toNat; have v := e63 a1.toNat; first | exact TDM_skip i4 i3.1 (by omega) | exact TDM_put hn i4 i3.1 hf2 (by rw [hfix _ (by omega) (by omega)]; exact hf1)) I_12 fr_12 cy0_12 (by omega)
              · refine g_iload_n X 1 rfl dX7_runsOf_28 ?_
                refine g_aload_n X 2 rfl dX7_runsOf_29 ?_
                refine g_getr X f_X7_55 dX7_runsOf_30 ?_
                refine g_iload_n X 3 rfl dX7_runsOf_33 ?_
                refine g_iald X la_63 t1 dX7_runsOf_34 (by omega) (x := M_12.1 63 a1.toNat) rfl ?_
                refine g_icmp_gt X e2_2 rfl (tgt := 43) dX7_runsOf_35 (by decide) (fun cq19 => ?_) (fun cq19 => ?_)
                · refine g_iinc X 0 (fun v => [(3, .int v), (2, .int y2_2), (0, .ref (ad 47)), (1, .int x1)]) dX7_runsOf_43 rfl (by decide) (fun _ => rfl) (fun zq20 eq21 => ?_)
                  have tq22 : zq20.toInt = b3_12 + 1 := add_nw eq21 e3_12 (show (Int32.ofInt 1).toInt = 1 by decide) (by omega)
                  refine g_goto X (tgt := 12) dX7_runsOf_46 (by decide) ?_
                  refine g_sub [0, 1, 2, 3] rfl ?_
                  exact ih12 zq20 _ tq22 M_12 (by omega) (by have u := e63 b3_12.toNat; have v := e63 a1.toNat; first | exact TDM_skip i4 i3.1 (by omega) | exact TDM_put hn i4 i3.1 hf2 (by rw [hfix _ (by omega) (by omega)]; exact hf1)) I_12 fr_12 cy0_12 (by omega)
                · refine g_aload_n X 2 rfl dX7_runsOf_38 ?_
                  refine g_iload_n X 0 rfl dX7_runsOf_39 ?_
                  refine g_callV X m_X7_310 (c_X7_findTable_R (p := p) ad M_12 y3_12 e3_12 I_12 (by omega) (by rw [etx, fr_12.at 62 _ rfl]; exact hG _ (by omega) (by rw [← e63]; omega)) (fun s j hs hj => by rw [wtR_fr fr_12 (by decide), fr_12.at 78 _ rfl]; exact hwt s j hs (by omega)) (by rw [fr_12.at 47 24 rfl]; exact hh) (fun y k hy hk hf => by rw [q44]; have w := (cy0 b3_12.toNat (by omega) (by rw [← e63]; omega)).2 k (by rw [fr_12.at 62 _ rfl] at hk; show k < ((Mq.1 62 b3_12.toNat).toInt).toNat; omega) (by rw [etx] at hf; omega) (by rw [etx] at hf; omega); rw [etx] at hf; rw [hf, show (65 + (y : Int) - 65).toNat = y by omega] at w; exact i4 y hy w.1 (Or.inl (by have v := w.2; have u := e63 b3_12.toNat; omega)) (by have v := w.2; have u := e63 b3_12.toNat; have u2 := e63 a1.toNat; omega))) rfl (by decide) (Nat.le_of_ble_eq_true rfl) rfl dX7_runsOf_40 ?_
                  rintro _ Mq28 ⟨rfl, hq26, hq27, Iq29, frq30⟩
                  have frq31 : Fr W_X7_runsOf_R Mq Mq28 := fr_12.trans frq30 rfl
                  have cyq32 : WFM Mq28 := WFM_fr cy0_12 frq30 rfl
                  have trq33 : (Mq28.1 47 23).toInt = (M_12.1 47 23).toInt := congrArg Int32.toInt (frq30.at 47 23 rfl)
                  have hf1 := (hq27).1
                  have hf2 := (hq27).2
                  rw [q44, etx, fr_12.at 62 _ rfl] at hf1
                  show G Γ Mq28 43 [(3, .int y3_12), (2, .int y2_2), (0, .ref (ad 47)), (1, .int x1)] []
                  refine g_iinc X 0 (fun v => [(3, .int v), (2, .int y2_2), (0, .ref (ad 47)), (1, .int x1)]) dX7_runsOf_43 rfl (by decide) (fun _ => rfl) (fun zq34 eq35 => ?_)
                  have tq36 : zq34.toInt = b3_12 + 1 := add_nw eq35 e3_12 (show (Int32.ofInt 1).toInt = 1 by decide) (by omega)
                  refine g_goto X (tgt := 12) dX7_runsOf_46 (by decide) ?_
                  refine g_sub [0, 1, 2, 3] rfl ?_
                  exact ih12 zq34 _ tq36 Mq28 (by omega) (by have u := e63 b3_12.toNat; have v := e63 a1.toNat; first | exact TDM_skip i4 i3.1 (by omega) | exact TDM_put hn i4 i3.1 hf2 (by rw [hfix _ (by omega) (by omega)]; exact hf1)) Iq29 frq31 cyq32 (by omega)
        refine g_sub [0, 1, 2, 3] rfl ?_
        exact lp12 _ 0 _ (show (0 : Int32).toInt = 0 by decide) M_2 (by omega) i2 I_2 fr_2 cy0_2 (Nat.lt_succ_self _)
  refine g_sub [0, 1, 2] rfl ?_
  exact lp2 _ 1 _ (show (1 : Int32).toInt = 1 by decide) Mq (by omega) (fun y hy h0 h3 h4 => absurd h0 (by omega)) Iq0 frq0 cy0 (Nat.lt_succ_self _)
abbrev W_X7_sees_77_R : List (Nat × Nat) := [(47, 44), (78, 99)]
set_option maxHeartbeats 4000000 in
set_option maxRecDepth 4000 in
theorem c_X7_sees_77_R (ad : Nat → Nat) (Mq : Mem) (x2 : Int32) {a2 : Int} (t2 : x2.toInt = a2) (x3 : Int32) {a3 : Int} (t3 : x3.toInt = a3) (Iq0 : Iv TM Mq) (h1 : 0 ≤ a2 ∧ a2 + a3 ≤ 24) (h2 : 0 ≤ a3 ∧ a3 ≤ 24) : Ctr ad yX7_sees cX7_sees 5 none 0 [.ref (ad 47), .ref (ad 77), .int x2, .int x3] Mq (fun v M' => v = none ∧ (True) ∧ ((M'.1 47 44).toInt = a3 ∧ ∀ j : Nat, (j : Int) < a3 → M'.1 78 j = Mq.1 77 (a2.toNat + j)) ∧ Iv TM M' ∧ Fr W_X7_sees_77_R Mq M') := by
  refine ctr_of (L := [(0, .ref (ad 47)), (1, .ref (ad 77)), (2, .int x2), (3, .int x3)]) (by decide) (Nat.le_of_ble_eq_true rfl) rfl ?_
  intro Γ X
  have X : gX Γ cX7_sees RX7 5 none 0 ad _ := X
  have frq0 : Fr W_X7_sees_77_R Mq Mq := Fr.rf
  have g12 := ig_47_12 Iq0
  have g24 := ig_47_24 Iq0
  have g44 := ig_47_44 Iq0
  have g43 := ig_47_43 Iq0
  have g52 := ig_47_52 Iq0
  have g53 := ig_47_53 Iq0
  have g59 := ig_47_59 Iq0
  have hn : ((Mq.1 47 44).toInt).toNat < 25 := by omega
  refine g_aload_n X 0 rfl dX7_sees_0 ?_
  refine g_iload_n X 3 rfl dX7_sees_1 ?_
  refine g_puti X p_X7_282 dX7_sees_2 ?_
  have Iq1 : Iv TM (ui Mq 47 44 x3) := Iq0.put 0 24 t3 (by omega) rfl
  have frq2 : Fr W_X7_sees_77_R Mq (ui Mq 47 44 x3) := frq0.ui rfl
  refine g_iconst X 0 dX7_sees_5 (by decide) ?_
  refine g_istore X [(4, .int 0), (0, .ref (ad 47)), (1, .ref (ad 77)), (2, .int x2), (3, .int x3)] dX7_sees_6 (by decide) rfl ?_
  have lp8 : ∀ n : Nat, ∀ (y4_8 : Int32) (b4_8 : Int), y4_8.toInt = b4_8 → ∀ (M_8 : Mem), (0 ≤ b4_8) → (∀ j : Nat, (j : Int) < b4_8 → M_8.1 78 j = Mq.1 77 (a2.toNat + j)) → ((M_8.1 47 44).toInt = a3) → (Iv TM M_8) → (Fr W_X7_sees_77_R Mq M_8) → (a3 - b4_8).toNat < n → G Γ M_8 8 [(4, .int y4_8), (0, .ref (ad 47)), (1, .ref (ad 77)), (2, .int x2), (3, .int x3)] [] := by
    intro n
    induction n with
    | zero => intro y4_8 b4_8 e4_8 M_8 i1 i2 i3 I_8 fr_8 hm; exact absurd hm (Nat.not_lt_zero _)
    | succ n ih8 =>
      intro y4_8 b4_8 e4_8 M_8 i1 i2 i3 I_8 fr_8 hm8
      refine g_iload X 0 rfl dX7_sees_8 ?_
      refine g_iload_n X 4 rfl dX7_sees_10 ?_
      refine g_icmp_ge X e4_8 t3 (tgt := 33) dX7_sees_11 (by decide) (fun cq3 => ?_) (fun cq3 => ?_)
      · exact g_vret X dX7_sees_33 ⟨rfl, trivial, (⟨i3, fun j hj => i2 j (by omega)⟩), I_8, fr_8⟩
      · refine g_aload_n X 1 rfl dX7_sees_14 ?_
        refine g_getr X f_X7_104 dX7_sees_15 ?_
        refine g_iload X 0 rfl dX7_sees_18 ?_
        refine g_aload_n X 2 rfl dX7_sees_20 ?_
        refine g_iload_n X 3 rfl dX7_sees_21 ?_
        refine g_iload X 0 rfl dX7_sees_22 ?_
        refine g_iadd X dX7_sees_24 (fun zq4 eq5 => ?_)
        have tq6 : zq4.toInt = a2 + b4_8 := add_nw eq5 t2 e4_8 (by omega)
        refine g_iald X la_77 tq6 dX7_sees_25 (by omega) (x := M_8.1 77 ((a2 + b4_8).toNat)) rfl ?_
        have bq7 := ig_77 I_8 ((a2 + b4_8).toNat) (by omega)
        refine g_iast X la_78 e4_8 dX7_sees_26 (by omega) ?_
        have Iq8 : Iv TM (ui M_8 78 b4_8.toNat (M_8.1 77 ((a2 + b4_8).toNat))) := I_8.putA 0 40 rfl (by omega) rfl
        have frq9 : Fr W_X7_sees_77_R Mq (ui M_8 78 b4_8.toNat (M_8.1 77 ((a2 + b4_8).toNat))) := fr_8.ui rfl
        refine g_iinc X 0 (fun v => [(4, .int v), (0, .ref (ad 47)), (1, .ref (ad 77)), (2, .int x2), (3, .int x3)]) dX7_sees_27 rfl (by decide) (fun _ => rfl) (fun zq10 eq11 => ?_)
        have tq12 : zq10.toInt = b4_8 + 1 := add_nw eq11 e4_8 (show (Int32.ofInt 1).toInt = 1 by decide) (by omega)
        refine g_goto X (tgt := 8) dX7_sees_30 (by decide) ?_
        refine g_sub [0, 1, 2, 3, 4] rfl ?_
        exact ih8 zq10 _ tq12 (ui M_8 78 b4_8.toNat (M_8.1 77 ((a2 + b4_8).toNat))) (by omega) (fun j hj => by by_cases q : j = b4_8.toNat; (rw [q, ui_eq, fr_8.at 77 _ rfl, show (a2 + b4_8).toNat = a2.toNat + b4_8.toNat by omega]); (rw [ui_nj (by omega)]; exact i2 j (by omega))) (by rw [ui_cell (k := 78) (a := 47) (by decide)]; exact i3) Iq8 frq9 (by omega)
  refine g_sub [0, 1, 2, 3, 4] rfl ?_
  exact lp8 _ 0 _ (show (0 : Int32).toInt = 0 by decide) (ui Mq 47 44 x3) (by omega) (fun j hj => absurd hj (by omega)) (by rw [ui_eq]; exact t3) Iq1 frq2 (Nat.lt_succ_self _)
abbrev W_X7_sees_90_R : List (Nat × Nat) := [(47, 44), (78, 99)]
set_option maxHeartbeats 4000000 in
set_option maxRecDepth 4000 in
theorem c_X7_sees_90_R (ad : Nat → Nat) (Mq : Mem) (x2 : Int32) {a2 : Int} (t2 : x2.toInt = a2) (x3 : Int32) {a3 : Int} (t3 : x3.toInt = a3) (Iq0 : Iv TM Mq) (h1 : 0 ≤ a2 ∧ a2 + a3 ≤ 288) (h2 : 0 ≤ a3 ∧ a3 ≤ 24) : Ctr ad yX7_sees cX7_sees 5 none 0 [.ref (ad 47), .ref (ad 90), .int x2, .int x3] Mq (fun v M' => v = none ∧ (True) ∧ ((M'.1 47 44).toInt = a3 ∧ ∀ j : Nat, (j : Int) < a3 → M'.1 78 j = Mq.1 90 (a2.toNat + j)) ∧ Iv TM M' ∧ Fr W_X7_sees_90_R Mq M') := by
  refine ctr_of (L := [(0, .ref (ad 47)), (1, .ref (ad 90)), (2, .int x2), (3, .int x3)]) (by decide) (Nat.le_of_ble_eq_true rfl) rfl ?_
  intro Γ X
  have X : gX Γ cX7_sees RX7 5 none 0 ad _ := X
  have frq0 : Fr W_X7_sees_90_R Mq Mq := Fr.rf
  have g12 := ig_47_12 Iq0
  have g24 := ig_47_24 Iq0
  have g44 := ig_47_44 Iq0
  have g43 := ig_47_43 Iq0
  have g52 := ig_47_52 Iq0
  have g53 := ig_47_53 Iq0
  have g59 := ig_47_59 Iq0
  have hn : ((Mq.1 47 44).toInt).toNat < 25 := by omega
  refine g_aload_n X 0 rfl dX7_sees_0 ?_
  refine g_iload_n X 3 rfl dX7_sees_1 ?_
  refine g_puti X p_X7_282 dX7_sees_2 ?_
  have Iq1 : Iv TM (ui Mq 47 44 x3) := Iq0.put 0 24 t3 (by omega) rfl
  have frq2 : Fr W_X7_sees_90_R Mq (ui Mq 47 44 x3) := frq0.ui rfl
  refine g_iconst X 0 dX7_sees_5 (by decide) ?_
  refine g_istore X [(4, .int 0), (0, .ref (ad 47)), (1, .ref (ad 90)), (2, .int x2), (3, .int x3)] dX7_sees_6 (by decide) rfl ?_
  have lp8 : ∀ n : Nat, ∀ (y4_8 : Int32) (b4_8 : Int), y4_8.toInt = b4_8 → ∀ (M_8 : Mem), (0 ≤ b4_8) → (∀ j : Nat, (j : Int) < b4_8 → M_8.1 78 j = Mq.1 90 (a2.toNat + j)) → ((M_8.1 47 44).toInt = a3) → (Iv TM M_8) → (Fr W_X7_sees_90_R Mq M_8) → (a3 - b4_8).toNat < n → G Γ M_8 8 [(4, .int y4_8), (0, .ref (ad 47)), (1, .ref (ad 90)), (2, .int x2), (3, .int x3)] [] := by
    intro n
    induction n with
    | zero => intro y4_8 b4_8 e4_8 M_8 i1 i2 i3 I_8 fr_8 hm; exact absurd hm (Nat.not_lt_zero _)
    | succ n ih8 =>
      intro y4_8 b4_8 e4_8 M_8 i1 i2 i3 I_8 fr_8 hm8
      refine g_iload X 0 rfl dX7_sees_8 ?_
      refine g_iload_n X 4 rfl dX7_sees_10 ?_
      refine g_icmp_ge X e4_8 t3 (tgt := 33) dX7_sees_11 (by decide) (fun cq3 => ?_) (fun cq3 => ?_)
      · exact g_vret X dX7_sees_33 ⟨rfl, trivial, (⟨i3, fun j hj => i2 j (by omega)⟩), I_8, fr_8⟩
      · refine g_aload_n X 1 rfl dX7_sees_14 ?_
        refine g_getr X f_X7_104 dX7_sees_15 ?_
        refine g_iload X 0 rfl dX7_sees_18 ?_
        refine g_aload_n X 2 rfl dX7_sees_20 ?_
        refine g_iload_n X 3 rfl dX7_sees_21 ?_
        refine g_iload X 0 rfl dX7_sees_22 ?_
        refine g_iadd X dX7_sees_24 (fun zq4 eq5 => ?_)
        have tq6 : zq4.toInt = a2 + b4_8 := add_nw eq5 t2 e4_8 (by omega)
        refine g_iald X la_90 tq6 dX7_sees_25 (by omega) (x := M_8.1 90 ((a2 + b4_8).toNat)) rfl ?_
        have bq7 := ig_90 I_8 ((a2 + b4_8).toNat) (by omega)
        refine g_iast X la_78 e4_8 dX7_sees_26 (by omega) ?_
        have Iq8 : Iv TM (ui M_8 78 b4_8.toNat (M_8.1 90 ((a2 + b4_8).toNat))) := I_8.putA 0 40 rfl (by omega) rfl
        have frq9 : Fr W_X7_sees_90_R Mq (ui M_8 78 b4_8.toNat (M_8.1 90 ((a2 + b4_8).toNat))) := fr_8.ui rfl
        refine g_iinc X 0 (fun v => [(4, .int v), (0, .ref (ad 47)), (1, .ref (ad 90)), (2, .int x2), (3, .int x3)]) dX7_sees_27 rfl (by decide) (fun _ => rfl) (fun zq10 eq11 => ?_)
        have tq12 : zq10.toInt = b4_8 + 1 := add_nw eq11 e4_8 (show (Int32.ofInt 1).toInt = 1 by decide) (by omega)
        refine g_goto X (tgt := 8) dX7_sees_30 (by decide) ?_
        refine g_sub [0, 1, 2, 3, 4] rfl ?_
        exact ih8 zq10 _ tq12 (ui M_8 78 b4_8.toNat (M_8.1 90 ((a2 + b4_8).toNat))) (by omega) (fun j hj => by by_cases q : j = b4_8.toNat; (rw [q, ui_eq, fr_8.at 90 _ rfl, show (a2 + b4_8).toNat = a2.toNat + b4_8.toNat by omega]); (rw [ui_nj (by omega)]; exact i2 j (by omega))) (by rw [ui_cell (k := 78) (a := 47) (by decide)]; exact i3) Iq8 frq9 (by omega)
  refine g_sub [0, 1, 2, 3, 4] rfl ?_
  exact lp8 _ 0 _ (show (0 : Int32).toInt = 0 by decide) (ui Mq 47 44 x3) (by omega) (fun j hj => absurd hj (by omega)) (by rw [ui_eq]; exact t3) Iq1 frq2 (Nat.lt_succ_self _)
abbrev W_X7_runs_R : List (Nat × Nat) := [(71, 99), (72, 99), (73, 99), (74, 99), (75, 99), (76, 99), (85, 99), (47, 44), (78, 99)]
set_option maxHeartbeats 4000000 in
set_option maxRecDepth 4000 in
theorem c_X7_runs_R (ad : Nat → Nat) (Mq : Mem) (x1 : Int32) {a1 : Int} (t1 : x1.toInt = a1) (x2 : Int32) {a2 : Int} (t2 : x2.toInt = a2) (x3 : Int32) {a3 : Int} (t3 : x3.toInt = a3) (x4 : Int32) {a4 : Int} (t4 : x4.toInt = a4) (Iq0 : Iv TM Mq) {p : RpT} (htl : 0 ≤ (Mq.1 47 23).toInt ∧ (Mq.1 47 23).toInt ≤ 1000000) (hG : ∀ x : Nat, x < 8 → 0 < tel Mq x → gsN (txt Mq x) (tsz Mq x).toNat = some ([], true)) (hpw : -1 ≤ a4 ∧ a4 ≤ (Mq.1 47 53).toInt → ∀ s j : Nat, s < 8 → (j : Int) < (Mq.1 47 43).toInt → p.1 s j = wqB (Bu Mq a2 a3 (upk a4 (Mq.1 47 53).toInt).toNat) ((Mq.1 47 12).toInt).toNat (Mq.1 77 j).toInt s) (hh : (Mq.1 47 24).toInt = ((p.2.2 : Nat) : Int)) (hfix : ∀ x : Nat, x < 8 → 0 < tel Mq x → p.2.1 x = mcT p (txt Mq x) (tsz Mq x).toNat) (hle : ∀ x : Nat, x < 8 → tel Mq x ≤ (Mq.1 47 23).toInt) (cy0 : WFM Mq) : Ctr ad yX7_runs cX7_runs 5 (some .int) 6 [.ref (ad 47), .int x1, .int x2, .int x3, .int x4] Mq (fun v M' => ∃ (r : Int32) (a : Int), v = some (.int r) ∧ r.toInt = a ∧ (((¬ ((0 ≤ a1 ∧ a1 ≤ 7 ∧ 0 < (Mq.1 63 a1.toNat).toInt) ∧ (0 ≤ a2 ∧ a2 < (Mq.1 47 52).toInt) ∧ (-1 ≤ a4 ∧ a4 ≤ (Mq.1 47 53).toInt))) ∧ (a = -1)) ∨ (¬ (¬ ((0 ≤ a1 ∧ a1 ≤ 7 ∧ 0 < (Mq.1 63 a1.toNat).toInt) ∧ (0 ≤ a2 ∧ a2 < (Mq.1 47 52).toInt) ∧ (-1 ≤ a4 ∧ a4 ≤ (Mq.1 47 53).toInt))) ∧ (¬ (0 ≤ a3 ∧ a3 ≤ 999)) ∧ (a = -2)) ∨ (¬ (¬ ((0 ≤ a1 ∧ a1 ≤ 7 ∧ 0 < (Mq.1 63 a1.toNat).toInt) ∧ (0 ≤ a2 ∧ a2 < (Mq.1 47 52).toInt) ∧ (-1 ≤ a4 ∧ a4 ≤ (Mq.1 47 53).toInt))) ∧ ¬ (¬ (0 ≤ a3 ∧ a3 ≤ 999)) ∧ ((Mq.1 47 43).toInt = 0) ∧ (a = -3)) ∨ (¬ (¬ ((0 ≤ a1 ∧ a1 ≤ 7 ∧ 0 < (Mq.1 63 a1.toNat).toInt) ∧ (0 ≤ a2 ∧ a2 < (Mq.1 47 52).toInt) ∧ (-1 ≤ a4 ∧ a4 ≤ (Mq.1 47 53).toInt))) ∧ ¬ (¬ (0 ≤ a3 ∧ a3 ≤ 999)) ∧ ¬ ((Mq.1 47 43).toInt = 0) ∧ (a = ((cap (p.2.1 a1.toNat 0 ((Mq.1 47 43).toInt).toNat) : Nat) : Int)))) ∧ Iv TM M' ∧ Fr W_X7_runs_R Mq M') := by
  refine ctr_of (L := [(0, .ref (ad 47)), (1, .int x1), (2, .int x2), (3, .int x3), (4, .int x4)]) (by decide) (Nat.le_of_ble_eq_true rfl) rfl ?_
  intro Γ X
  have X : gX Γ cX7_runs RX7 5 (some .int) 6 ad _ := X
  have frq0 : Fr W_X7_runs_R Mq Mq := Fr.rf
  have g12 := ig_47_12 Iq0
  have g24 := ig_47_24 Iq0
  have g44 := ig_47_44 Iq0
  have g43 := ig_47_43 Iq0
  have g52 := ig_47_52 Iq0
  have g53 := ig_47_53 Iq0
  have g59 := ig_47_59 Iq0
  have hn : ((Mq.1 47 44).toInt).toNat < 25 := by omega
  refine g_aload_n X 0 rfl dX7_runs_0 ?_
  refine g_iload_n X 1 rfl dX7_runs_1 ?_
  refine g_callV X m_X7_220 (c_X7_isTold ad Mq x1 t1) rfl (by decide) (Nat.le_of_ble_eq_true rfl) rfl dX7_runs_2 ?_
  rintro _ _ ⟨rq1, aq2, rfl, tq3, hq4, rfl⟩
  show G Γ Mq 5 [(0, .ref (ad 47)), (1, .int x1), (2, .int x2), (3, .int x3), (4, .int x4)] [.int rq1]
  refine g_if_eq X tq3 (tgt := 25) dX7_runs_5 (by decide) (fun cq5 => ?_) (fun cq5 => ?_)
  · have pq6 : ¬ (0 ≤ a1 ∧ a1 ≤ 7 ∧ 0 < (Mq.1 63 a1.toNat).toInt) := by first | omega | (rcases hq4 with ⟨z1, z2⟩ | ⟨z1, z2⟩ <;> first | exact z2 | (exfalso; omega))
    refine g_iconst X (-1) dX7_runs_25 (by decide) ?_
    exact g_iret X dX7_runs_26 ⟨_, _, rfl, (show ((-1) : Int32).toInt = (-1) by decide), (Or.inl ⟨by omega, rfl⟩), Iq0, frq0⟩
  · have pq7 : (0 ≤ a1 ∧ a1 ≤ 7 ∧ 0 < (Mq.1 63 a1.toNat).toInt) := by first | omega | (rcases hq4 with ⟨z1, z2⟩ | ⟨z1, z2⟩ <;> first | exact z2 | (exfalso; omega))
    refine g_aload_n X 0 rfl dX7_runs_8 ?_
    refine g_iload_n X 2 rfl dX7_runs_9 ?_
    refine g_callV X m_X7_260 (c_X7_isSinger ad Mq x2 t2) rfl (by decide) (Nat.le_of_ble_eq_true rfl) rfl dX7_runs_10 ?_
    rintro _ _ ⟨rq8, aq9, rfl, tq10, hq11, rfl⟩
    show G Γ Mq 13 [(0, .ref (ad 47)), (1, .int x1), (2, .int x2), (3, .int x3), (4, .int x4)] [.int rq8]
    refine g_if_eq X tq10 (tgt := 25) dX7_runs_13 (by decide) (fun cq12 => ?_) (fun cq12 => ?_)
    · have pq13 : ¬ (0 ≤ a2 ∧ a2 < ((Mq.1 47 52)).toInt) := by first | omega | (rcases hq11 with ⟨z1, z2⟩ | ⟨z1, z2⟩ <;> first | exact z2 | (exfalso; omega))
      refine g_iconst X (-1) dX7_runs_25 (by decide) ?_
      exact g_iret X dX7_runs_26 ⟨_, _, rfl, (show ((-1) : Int32).toInt = (-1) by decide), (Or.inl ⟨by omega, rfl⟩), Iq0, frq0⟩
    · have pq14 : (0 ≤ a2 ∧ a2 < ((Mq.1 47 52)).toInt) := by first | omega | (rcases hq11 with ⟨z1, z2⟩ | ⟨z1, z2⟩ <;> first | exact z2 | (exfalso; omega))
      refine g_aload_n X 0 rfl dX7_runs_16 ?_
      refine g_iload X 4 rfl dX7_runs_17 ?_
      refine g_callV X m_X7_326 (c_X7_isKnown ad Mq x4 t4) rfl (by decide) (Nat.le_of_ble_eq_true rfl) rfl dX7_runs_19 ?_
      rintro _ _ ⟨rq15, aq16, rfl, tq17, hq18, rfl⟩
      show G Γ Mq 22 [(0, .ref (ad 47)), (1, .int x1), (2, .int x2), (3, .int x3), (4, .int x4)] [.int rq15]
      refine g_if_ne X tq17 (tgt := 27) dX7_runs_22 (by decide) (fun cq19 => ?_) (fun cq19 => ?_)
      · have pq20 : (-1 ≤ a4 ∧ a4 ≤ ((Mq.1 47 53)).toInt) := by first | omega | (rcases hq18 with ⟨z1, z2⟩ | ⟨z1, z2⟩ <;> first | exact z2 | (exfalso; omega))
        refine g_iload_n X 3 rfl dX7_runs_27 ?_
        refine g_callS X m_X7_263 (c_X7_isYear ad Mq x3 t3) rfl (by decide) (Nat.le_of_ble_eq_true rfl) rfl dX7_runs_28 ?_
        rintro _ _ ⟨rq21, aq22, rfl, tq23, hq24, rfl⟩
        show G Γ Mq 31 [(0, .ref (ad 47)), (1, .int x1), (2, .int x2), (3, .int x3), (4, .int x4)] [.int rq21]
        refine g_if_ne X tq23 (tgt := 37) dX7_runs_31 (by decide) (fun cq25 => ?_) (fun cq25 => ?_)
        · have pq26 : (0 ≤ a3 ∧ a3 ≤ 999) := by first | omega | (rcases hq24 with ⟨z1, z2⟩ | ⟨z1, z2⟩ <;> first | exact z2 | (exfalso; omega))
          refine g_aload_n X 0 rfl dX7_runs_37 ?_
          refine g_geti X f_X7_339 dX7_runs_38 (x := Mq.1 47 43) rfl ?_
          have bq27 := ig_47_43 Iq0
          refine g_if_ne X rfl (tgt := 47) dX7_runs_41 (by decide) (fun cq28 => ?_) (fun cq28 => ?_)
          · refine g_aload_n X 0 rfl dX7_runs_47 ?_
            refine g_iload_n X 2 rfl dX7_runs_48 ?_
            refine g_iload_n X 3 rfl dX7_runs_49 ?_
            refine g_aload_n X 0 rfl dX7_runs_50 ?_
            refine g_iload X 4 rfl dX7_runs_51 ?_
            refine g_callV X m_X7_329 (c_X7_upTo ad Mq x4 t4) rfl (by decide) (Nat.le_of_ble_eq_true rfl) rfl dX7_runs_53 ?_
            rintro _ _ ⟨rq29, aq30, rfl, tq31, hq32, rfl⟩
            have hup : aq30 = upk a4 (Mq.1 47 53).toInt := by first | exact hq32 | exact upk_of hq32
            show G Γ Mq 56 [(0, .ref (ad 47)), (1, .int x1), (2, .int x2), (3, .int x3), (4, .int x4)] [.int rq29, .int x3, .int x2, .ref (ad 47)]
            refine g_callV X m_X7_269 (c_X7_findStock_F ad Mq x2 t2 x3 t3 rq29 tq31 Iq0 (by rw [hup]; unfold upk; split <;> omega)) rfl (by decide) (Nat.le_of_ble_eq_true rfl) rfl dX7_runs_56 ?_
            rintro _ Mq38 ⟨rfl, hq36, hq37, Iq39, frq40⟩
            have frq41 : Fr W_X7_runs_R Mq Mq38 := frq0.trans frq40 rfl
            have cyq42 : WFM Mq38 := WFM_fr cy0 frq40 rfl
            have trq43 : (Mq38.1 47 23).toInt = (Mq.1 47 23).toInt := congrArg Int32.toInt (frq40.at 47 23 rfl)
            have trq44 : (Mq38.1 47 12).toInt = (Mq.1 47 12).toInt := congrArg Int32.toInt (frq40.at 47 12 rfl)
            have trq45 : (Mq38.1 47 53).toInt = (Mq.1 47 53).toInt := congrArg Int32.toInt (frq40.at 47 53 rfl)
            have hfs := hq37
            have f1 := frq40
            rw [hup] at hfs
            show G Γ Mq38 59 [(0, .ref (ad 47)), (1, .int x1), (2, .int x2), (3, .int x3), (4, .int x4)] []
            refine g_aload_n X 0 rfl dX7_runs_59 ?_
            refine g_aload_n X 0 rfl dX7_runs_60 ?_
            refine g_getr X f_X7_101 dX7_runs_61 ?_
            refine g_iconst X 0 dX7_runs_64 (by decide) ?_
            refine g_aload_n X 0 rfl dX7_runs_65 ?_
            refine g_geti X f_X7_339 dX7_runs_66 (x := Mq38.1 47 43) rfl ?_
            have bq46 := ig_47_43 Iq39
            refine g_callV X m_X7_342 (c_X7_sees_77_R ad Mq38 0 (show (0 : Int32).toInt = 0 by decide) (Mq38.1 47 43) rfl Iq39 (by omega) (by omega)) rfl (by decide) (Nat.le_of_ble_eq_true rfl) rfl dX7_runs_69 ?_
            rintro _ Mq52 ⟨rfl, hq50, hq51, Iq53, frq54⟩
            have frq55 : Fr W_X7_runs_R Mq Mq52 := frq41.trans frq54 rfl
            have cyq56 : WFM Mq52 := WFM_fr cyq42 frq54 rfl
            have trq57 : (Mq52.1 47 23).toInt = (Mq38.1 47 23).toInt := congrArg Int32.toInt (frq54.at 47 23 rfl)
            have trq58 : (Mq52.1 47 12).toInt = (Mq38.1 47 12).toInt := congrArg Int32.toInt (frq54.at 47 12 rfl)
            have trq59 : (Mq52.1 47 53).toInt = (Mq38.1 47 53).toInt := congrArg Int32.toInt (frq54.at 47 53 rfl)
            have hse := hq51
            have f2 := frq54
            have fT := frq55
            have e43 : (Mq38.1 47 43).toInt = (Mq.1 47 43).toInt := by rw [f1.at 47 43 rfl]
            rw [e43] at hse
            have etx : txt Mq52 = txt Mq := by unfold txt; rw [row_fr fT (c := 61) (by decide)]
            have ets : tsz Mq52 = tsz Mq := by unfold tsz; rw [row_fr fT (c := 62) (by decide)]
            have ete : tel Mq52 = tel Mq := by unfold tel; rw [row_fr fT (c := 63) (by decide)]
            show G Γ Mq52 72 [(0, .ref (ad 47)), (1, .int x1), (2, .int x2), (3, .int x3), (4, .int x4)] []
            refine g_aload_n X 0 rfl dX7_runs_72 ?_
            refine g_iload_n X 1 rfl dX7_runs_73 ?_
            refine g_callV X m_X7_346 (c_X7_runsOf_R (p := p) ad Mq52 x1 t1 Iq53 (by omega) (by rw [fT.at 47 23 rfl]; exact htl) (by rw [ete]; show 0 < (Mq.1 63 a1.toNat).toInt; omega) (by rw [etx, ets, ete]; exact hG) (fun s j hs hj => by rw [hse.1] at hj; have z := hpw (by omega) s j hs (by omega); rw [hse.2 j (by omega), f1.at 77 _ rfl, show (0 : Int).toNat + j = j from Nat.zero_add j, z]; exact wq_R (ig_47_12 Iq0) hfs f1 f2 (by decide) (by decide) (ig_77 Iq0 j (by omega))) (by rw [fT.at 47 24 rfl]; exact hh) (by rw [etx, ets, ete]; exact hfix) (by rw [ete, fT.at 47 23 rfl]; exact hle) cyq56) rfl (by decide) (Nat.le_of_ble_eq_true rfl) rfl dX7_runs_74 ?_
            rintro _ Mq64 ⟨rq60, aq61, rfl, tq62, hq63, Iq65, frq66⟩
            have frq67 : Fr W_X7_runs_R Mq Mq64 := frq55.trans frq66 rfl
            have cyq68 : WFM Mq64 := WFM_fr cyq56 frq66 rfl
            have trq69 : (Mq64.1 47 23).toInt = (Mq52.1 47 23).toInt := congrArg Int32.toInt (frq66.at 47 23 rfl)
            have trq70 : (Mq64.1 47 12).toInt = (Mq52.1 47 12).toInt := congrArg Int32.toInt (frq66.at 47 12 rfl)
            have trq71 : (Mq64.1 47 53).toInt = (Mq52.1 47 53).toInt := congrArg Int32.toInt (frq66.at 47 53 rfl)
            have hrn := hq63
            rw [hse.1] at hrn
            show G Γ Mq64 77 [(0, .ref (ad 47)), (1, .int x1), (2, .int x2), (3, .int x3), (4, .int x4)] [.int rq60]
            exact g_iret X dX7_runs_77 ⟨_, _, rfl, tq62, (Or.inr (Or.inr (Or.inr ⟨by omega, by omega, by omega, hrn⟩))), Iq65, frq67⟩
          · refine g_bipush X (-3) dX7_runs_44 (by decide) ?_
            exact g_iret X dX7_runs_46 ⟨_, _, rfl, (show ((-3) : Int32).toInt = (-3) by decide), (Or.inr (Or.inr (Or.inl ⟨by omega, by omega, by omega, rfl⟩))), Iq0, frq0⟩
        · have pq72 : ¬ (0 ≤ a3 ∧ a3 ≤ 999) := by first | omega | (rcases hq24 with ⟨z1, z2⟩ | ⟨z1, z2⟩ <;> first | exact z2 | (exfalso; omega))
          refine g_bipush X (-2) dX7_runs_34 (by decide) ?_
          exact g_iret X dX7_runs_36 ⟨_, _, rfl, (show ((-2) : Int32).toInt = (-2) by decide), (Or.inr (Or.inl ⟨by omega, by omega, rfl⟩)), Iq0, frq0⟩
      · have pq73 : ¬ (-1 ≤ a4 ∧ a4 ≤ ((Mq.1 47 53)).toInt) := by first | omega | (rcases hq18 with ⟨z1, z2⟩ | ⟨z1, z2⟩ <;> first | exact z2 | (exfalso; omega))
        refine g_iconst X (-1) dX7_runs_25 (by decide) ?_
        exact g_iret X dX7_runs_26 ⟨_, _, rfl, (show ((-1) : Int32).toInt = (-1) by decide), (Or.inl ⟨by omega, rfl⟩), Iq0, frq0⟩
end
