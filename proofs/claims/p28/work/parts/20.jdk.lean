section
set_option maxHeartbeats 4000000 in
set_option maxRecDepth 4000 in
theorem c_J13_bitCount_95d88 (ad : Nat → Nat) (Mq : Mem) (x1 : Int64) {a1 : Int} (t1 : x1.toInt = a1) : Ctr ad yJ13_bitCount_95d88 cJ13_bitCount_95d88 2 (some .int) 0 [.long x1] Mq (fun v M' => ∃ (r : Int32) (a : Int), v = some (.int r) ∧ r.toInt = a ∧ (True) ∧ Mq = M') := by
  refine ctr_of (L := [(0, .long x1)]) (by decide) (Nat.le_of_ble_eq_true rfl) rfl ?_
  intro Γ X
  have X : gX Γ cJ13_bitCount_95d88 RJ13 2 (some .int) 0 ad _ := X
  refine g_lload_n X 0 rfl dJ13_bitCount_95d88_0 ?_
  refine g_lload_n X 0 rfl dJ13_bitCount_95d88_1 ?_
  refine g_iconst X 1 dJ13_bitCount_95d88_2 (by decide) ?_
  refine g_lushr X dJ13_bitCount_95d88_3 (fun zq1 eq2 => ?_)
  refine g_ldc2 X k_J13_314 dJ13_bitCount_95d88_4 ?_
  refine g_land X dJ13_bitCount_95d88_7 (fun zq3 eq4 => ?_)
  refine g_lsub X dJ13_bitCount_95d88_8 (fun zq5 eq6 => ?_)
  refine g_lstore_n X (i := 0) [(0, .long zq5)] dJ13_bitCount_95d88_9 rfl (by decide) rfl ?_
  refine g_lload_n X 0 rfl dJ13_bitCount_95d88_10 ?_
  refine g_ldc2 X k_J13_316 dJ13_bitCount_95d88_11 ?_
  refine g_land X dJ13_bitCount_95d88_14 (fun zq7 eq8 => ?_)
  refine g_lload_n X 0 rfl dJ13_bitCount_95d88_15 ?_
  refine g_iconst X 2 dJ13_bitCount_95d88_16 (by decide) ?_
  refine g_lushr X dJ13_bitCount_95d88_17 (fun zq9 eq10 => ?_)
  refine g_ldc2 X k_J13_316 dJ13_bitCount_95d88_18 ?_
  refine g_land X dJ13_bitCount_95d88_21 (fun zq11 eq12 => ?_)
  refine g_ladd X dJ13_bitCount_95d88_22 (fun zq13 eq14 => ?_)
  refine g_lstore_n X (i := 0) [(0, .long zq13)] dJ13_bitCount_95d88_23 rfl (by decide) rfl ?_
  refine g_lload_n X 0 rfl dJ13_bitCount_95d88_24 ?_
  refine g_lload_n X 0 rfl dJ13_bitCount_95d88_25 ?_
  refine g_iconst X 4 dJ13_bitCount_95d88_26 (by decide) ?_
  refine g_lushr X dJ13_bitCount_95d88_27 (fun zq15 eq16 => ?_)
  refine g_ladd X dJ13_bitCount_95d88_28 (fun zq17 eq18 => ?_)
  refine g_ldc2 X k_J13_318 dJ13_bitCount_95d88_29 ?_
  refine g_land X dJ13_bitCount_95d88_32 (fun zq19 eq20 => ?_)
  refine g_lstore_n X (i := 0) [(0, .long zq19)] dJ13_bitCount_95d88_33 rfl (by decide) rfl ?_
  refine g_lload_n X 0 rfl dJ13_bitCount_95d88_34 ?_
  refine g_lload_n X 0 rfl dJ13_bitCount_95d88_35 ?_
  refine g_bipush X 8 dJ13_bitCount_95d88_36 (by decide) ?_
  refine g_lushr X dJ13_bitCount_95d88_38 (fun zq21 eq22 => ?_)
  refine g_ladd X dJ13_bitCount_95d88_39 (fun zq23 eq24 => ?_)
  refine g_lstore_n X (i := 0) [(0, .long zq23)] dJ13_bitCount_95d88_40 rfl (by decide) rfl ?_
  refine g_lload_n X 0 rfl dJ13_bitCount_95d88_41 ?_
  refine g_lload_n X 0 rfl dJ13_bitCount_95d88_42 ?_
  refine g_bipush X 16 dJ13_bitCount_95d88_43 (by decide) ?_
  refine g_lushr X dJ13_bitCount_95d88_45 (fun zq25 eq26 => ?_)
  refine g_ladd X dJ13_bitCount_95d88_46 (fun zq27 eq28 => ?_)
  refine g_lstore_n X (i := 0) [(0, .long zq27)] dJ13_bitCount_95d88_47 rfl (by decide) rfl ?_
  refine g_lload_n X 0 rfl dJ13_bitCount_95d88_48 ?_
  refine g_lload_n X 0 rfl dJ13_bitCount_95d88_49 ?_
  refine g_bipush X 32 dJ13_bitCount_95d88_50 (by decide) ?_
  refine g_lushr X dJ13_bitCount_95d88_52 (fun zq29 eq30 => ?_)
  refine g_ladd X dJ13_bitCount_95d88_53 (fun zq31 eq32 => ?_)
  refine g_lstore_n X (i := 0) [(0, .long zq31)] dJ13_bitCount_95d88_54 rfl (by decide) rfl ?_
  refine g_lload_n X 0 rfl dJ13_bitCount_95d88_55 ?_
  refine g_l2i X dJ13_bitCount_95d88_56 (fun zq33 eq34 => ?_)
  refine g_bipush X 127 dJ13_bitCount_95d88_57 (by decide) ?_
  refine g_iand X dJ13_bitCount_95d88_59 (fun zq35 eq36 => ?_)
  exact g_iret X dJ13_bitCount_95d88_60 ⟨_, _, rfl, rfl, trivial, rfl⟩
theorem g_min {Γ : GC} {cc : ByteArray} {own : String} {nL : Nat} {ret : Option FieldType} {d : Nat} {ad : Nat → Nat} {post : Post} {Mq : Mem} {pc : Nat} {L : List (Nat × Value)} {S : List Value} (X : gX Γ cc own nL ret d ad post) {idx : Nat} (hlink : Cond.methodLink own idx yJ9_min_7cf53 ∈ gT) (hd1 : 1 ≤ d) (hS8 : (S.map fun v => v.category).sum ≤ 8) {x y : Int32} {a b : Int} (ha : x.toInt = a) (hb' : y.toInt = b) (hd : decode cc pc = .ok (.invokestatic idx, 3)) (kk : ∀ z : Int32, z.toInt ≤ a ∧ z.toInt ≤ b ∧ (z.toInt = a ∨ z.toInt = b) → G Γ Mq (pc + 3) L (.int z :: S)) : G Γ Mq pc L (.int y :: .int x :: S) := by
  subst ha; subst hb'
  obtain ⟨p, l, e, s, m, args, below, meth, c, D, cI, cJ, cZ, ad', d', nL', post'⟩ := Γ
  obtain ⟨rfl, rfl, rfl, rfl, hx, hb, hml, hr, hlk, hown, hts, hK, hN, hAd⟩ := X
  intro H locs ls hP hS hl
  refine va_mmin hx hb (hml.trans hl.1.symm) hown (hts _ hlink) (hts _ st_J9_min_7cf53) (hts _ yk_J9_min_7cf53.1) (hts _ yk_J9_min_7cf53.2.1) hd1 (by show _ ≤ 38 * d'; omega) (Nat.le_refl _) (Nat.le_refl _) hd (kk _ ?_ H locs ls hP hS hl)
  by_cases h1 : y < x
  · rw [if_pos h1]
    have := Int32.lt_iff_toInt_lt.mp h1
    omega
  · rw [if_neg h1]
    have : ¬ y.toInt < x.toInt := fun q => h1 (Int32.lt_iff_toInt_lt.mpr q)
    omega
theorem g_minl {Γ : GC} {cc : ByteArray} {own : String} {nL : Nat} {ret : Option FieldType} {d : Nat} {ad : Nat → Nat} {post : Post} {Mq : Mem} {pc : Nat} {L : List (Nat × Value)} {S : List Value} (X : gX Γ cc own nL ret d ad post) {idx : Nat} (hlink : Cond.methodLink own idx yJ9_min_f86c9 ∈ gT) (hd1 : 1 ≤ d) (hS8 : (S.map fun v => v.category).sum ≤ 8) {x y : Int64} {a b : Int} (ha : x.toInt = a) (hb' : y.toInt = b) (hd : decode cc pc = .ok (.invokestatic idx, 3)) (kk : ∀ z : Int64, z.toInt ≤ a ∧ z.toInt ≤ b ∧ (z.toInt = a ∨ z.toInt = b) → G Γ Mq (pc + 3) L (.long z :: S)) : G Γ Mq pc L (.long y :: .long x :: S) := by
  subst ha; subst hb'
  obtain ⟨p, l, e, s, m, args, below, meth, c, D, cI, cJ, cZ, ad', d', nL', post'⟩ := Γ
  obtain ⟨rfl, rfl, rfl, rfl, hx, hb, hml, hr, hlk, hown, hts, hK, hN, hAd⟩ := X
  intro H locs ls hP hS hl
  refine va_mmin_long hx hb (hml.trans hl.1.symm) hown (hts _ hlink) (hts _ st_J9_min_f86c9) (hts _ yk_J9_min_f86c9.1) (hts _ yk_J9_min_f86c9.2.1) hd1 (by show _ ≤ 38 * d'; omega) (Nat.le_refl _) (Nat.le_refl _) hd (kk _ ?_ H locs ls hP hS hl)
  by_cases h1 : y < x
  · rw [if_pos h1]
    have := Int64.lt_iff_toInt_lt.mp h1
    omega
  · rw [if_neg h1]
    have : ¬ y.toInt < x.toInt := fun q => h1 (Int64.lt_iff_toInt_lt.mpr q)
    omega
theorem ml_X1_135 : Cond.methodLink RX1 135 yJ9_min_7cf53 ∈ gT := gT_of 843 (by decide +kernel) (by decide +kernel)
theorem ml_X1_142 : Cond.methodLink RX1 142 yJ9_min_f86c9 ∈ gT := gT_of 857 (by decide +kernel) (by decide +kernel)
abbrev W_J7_fill_53178_30 : List (Nat × Nat) := [(30, 99)]
set_option maxHeartbeats 4000000 in
set_option maxRecDepth 4000 in
theorem c_J7_fill_53178_30 (ad : Nat → Nat) (Mq : Mem) (x2 : Int32) {a2 : Int} (t2 : x2.toInt = a2) (Iq0 : Iv TX Mq) : Ctr ad yJ7_fill_53178 cJ7_fill_53178 4 none 0 [.ref (ad 30), .int x2] Mq (fun v M' => v = none ∧ (True) ∧ Iv TX M' ∧ Fr W_J7_fill_53178_30 Mq M') := by
  refine ctr_of (L := [(0, .ref (ad 30)), (1, .int x2)]) (by decide) (Nat.le_of_ble_eq_true rfl) rfl ?_
  intro Γ X
  have X : gX Γ cJ7_fill_53178 RJ7 4 none 0 ad _ := X
  have frq0 : Fr W_J7_fill_53178_30 Mq Mq := Fr.rf
  refine g_iconst X 0 dJ7_fill_53178_0 (by decide) ?_
  refine g_istore_n X (i := 2) [(2, .int 0), (0, .ref (ad 30)), (1, .int x2)] dJ7_fill_53178_1 rfl (by decide) rfl ?_
  refine g_aload_n X 1 rfl dJ7_fill_53178_2 ?_
  refine g_alen X la_30 40 (by decide) dJ7_fill_53178_3 ?_
  refine g_istore_n X (i := 3) [(3, .int 40), (2, .int 0), (0, .ref (ad 30)), (1, .int x2)] dJ7_fill_53178_4 rfl (by decide) rfl ?_
  have lp5 : ∀ n : Nat, ∀ (y2_5 : Int32) (b2_5 : Int), y2_5.toInt = b2_5 → ∀ (M_5 : Mem), (0 ≤ b2_5) → (Iv TX M_5) → (Fr W_J7_fill_53178_30 Mq M_5) → (40 - b2_5).toNat < n → G Γ M_5 5 [(3, .int 40), (2, .int y2_5), (0, .ref (ad 30)), (1, .int x2)] [] := by
    intro n
    induction n with
    | zero => intro y2_5 b2_5 e2_5 M_5 i1 I_5 fr_5 hm; exact absurd hm (Nat.not_lt_zero _)
    | succ n ih5 =>
      intro y2_5 b2_5 e2_5 M_5 i1 I_5 fr_5 hm5
      refine g_iload_n X 1 rfl dJ7_fill_53178_5 ?_
      refine g_iload_n X 0 rfl dJ7_fill_53178_6 ?_
      refine g_icmp_ge X e2_5 (show (40 : Int32).toInt = 40 by decide) (tgt := 20) dJ7_fill_53178_7 (by decide) (fun cq1 => ?_) (fun cq1 => ?_)
      · exact g_vret X dJ7_fill_53178_20 ⟨rfl, trivial, I_5, fr_5⟩
      · refine g_aload_n X 2 rfl dJ7_fill_53178_10 ?_
        refine g_iload_n X 1 rfl dJ7_fill_53178_11 ?_
        refine g_iload_n X 3 rfl dJ7_fill_53178_12 ?_
        refine g_iast X la_30 e2_5 dJ7_fill_53178_13 (by omega) ?_
        have Iq2 : Iv TX (ui M_5 30 b2_5.toNat x2) := I_5.otherA rfl
        have frq3 : Fr W_J7_fill_53178_30 Mq (ui M_5 30 b2_5.toNat x2) := fr_5.ui rfl
        refine g_iinc X 1 (fun v => [(2, .int v), (3, .int 40), (0, .ref (ad 30)), (1, .int x2)]) dJ7_fill_53178_14 rfl (by decide) (fun _ => rfl) (fun zq4 eq5 => ?_)
        have tq6 : zq4.toInt = b2_5 + 1 := add_nw eq5 e2_5 (show (Int32.ofInt 1).toInt = 1 by decide) (by omega)
        refine g_goto X (tgt := 5) dJ7_fill_53178_17 (by decide) ?_
        refine g_sub [1, 0, 2, 3] rfl ?_
        exact ih5 zq4 _ tq6 (ui M_5 30 b2_5.toNat x2) (by omega) Iq2 frq3 (by omega)
  refine g_sub [0, 1, 2, 3] rfl ?_
  exact lp5 _ 0 _ (show (0 : Int32).toInt = 0 by decide) Mq (by omega) Iq0 frq0 (Nat.lt_succ_self _)
abbrev W_J7_fill_53178_32 : List (Nat × Nat) := [(32, 99)]
set_option maxHeartbeats 4000000 in
set_option maxRecDepth 4000 in
theorem c_J7_fill_53178_32 (ad : Nat → Nat) (Mq : Mem) (x2 : Int32) {a2 : Int} (t2 : x2.toInt = a2) (Iq0 : Iv TX Mq) : Ctr ad yJ7_fill_53178 cJ7_fill_53178 4 none 0 [.ref (ad 32), .int x2] Mq (fun v M' => v = none ∧ (True) ∧ Iv TX M' ∧ Fr W_J7_fill_53178_32 Mq M') := by
  refine ctr_of (L := [(0, .ref (ad 32)), (1, .int x2)]) (by decide) (Nat.le_of_ble_eq_true rfl) rfl ?_
  intro Γ X
  have X : gX Γ cJ7_fill_53178 RJ7 4 none 0 ad _ := X
  have frq0 : Fr W_J7_fill_53178_32 Mq Mq := Fr.rf
  refine g_iconst X 0 dJ7_fill_53178_0 (by decide) ?_
  refine g_istore_n X (i := 2) [(2, .int 0), (0, .ref (ad 32)), (1, .int x2)] dJ7_fill_53178_1 rfl (by decide) rfl ?_
  refine g_aload_n X 1 rfl dJ7_fill_53178_2 ?_
  refine g_alen X la_32 10 (by decide) dJ7_fill_53178_3 ?_
  refine g_istore_n X (i := 3) [(3, .int 10), (2, .int 0), (0, .ref (ad 32)), (1, .int x2)] dJ7_fill_53178_4 rfl (by decide) rfl ?_
  have lp5 : ∀ n : Nat, ∀ (y2_5 : Int32) (b2_5 : Int), y2_5.toInt = b2_5 → ∀ (M_5 : Mem), (0 ≤ b2_5) → (Iv TX M_5) → (Fr W_J7_fill_53178_32 Mq M_5) → (10 - b2_5).toNat < n → G Γ M_5 5 [(3, .int 10), (2, .int y2_5), (0, .ref (ad 32)), (1, .int x2)] [] := by
    intro n
    induction n with
    | zero => intro y2_5 b2_5 e2_5 M_5 i1 I_5 fr_5 hm; exact absurd hm (Nat.not_lt_zero _)
    | succ n ih5 =>
      intro y2_5 b2_5 e2_5 M_5 i1 I_5 fr_5 hm5
      refine g_iload_n X 1 rfl dJ7_fill_53178_5 ?_
      refine g_iload_n X 0 rfl dJ7_fill_53178_6 ?_
      refine g_icmp_ge X e2_5 (show (10 : Int32).toInt = 10 by decide) (tgt := 20) dJ7_fill_53178_7 (by decide) (fun cq1 => ?_) (fun cq1 => ?_)
      · exact g_vret X dJ7_fill_53178_20 ⟨rfl, trivial, I_5, fr_5⟩
      · refine g_aload_n X 2 rfl dJ7_fill_53178_10 ?_
        refine g_iload_n X 1 rfl dJ7_fill_53178_11 ?_
        refine g_iload_n X 3 rfl dJ7_fill_53178_12 ?_
        refine g_iast X la_32 e2_5 dJ7_fill_53178_13 (by omega) ?_
        have Iq2 : Iv TX (ui M_5 32 b2_5.toNat x2) := I_5.otherA rfl
        have frq3 : Fr W_J7_fill_53178_32 Mq (ui M_5 32 b2_5.toNat x2) := fr_5.ui rfl
        refine g_iinc X 1 (fun v => [(2, .int v), (3, .int 10), (0, .ref (ad 32)), (1, .int x2)]) dJ7_fill_53178_14 rfl (by decide) (fun _ => rfl) (fun zq4 eq5 => ?_)
        have tq6 : zq4.toInt = b2_5 + 1 := add_nw eq5 e2_5 (show (Int32.ofInt 1).toInt = 1 by decide) (by omega)
        refine g_goto X (tgt := 5) dJ7_fill_53178_17 (by decide) ?_
        refine g_sub [1, 0, 2, 3] rfl ?_
        exact ih5 zq4 _ tq6 (ui M_5 32 b2_5.toNat x2) (by omega) Iq2 frq3 (by omega)
  refine g_sub [0, 1, 2, 3] rfl ?_
  exact lp5 _ 0 _ (show (0 : Int32).toInt = 0 by decide) Mq (by omega) Iq0 frq0 (Nat.lt_succ_self _)
set_option maxHeartbeats 4000000 in
set_option maxRecDepth 4000 in
theorem c_X6_inside (ad : Nat → Nat) (Mq : Mem) (x1 : Int32) {a1 : Int} (t1 : x1.toInt = a1) (x2 : Int32) {a2 : Int} (t2 : x2.toInt = a2) (x3 : Int32) {a3 : Int} (t3 : x3.toInt = a3) : Ctr ad yX6_inside cX6_inside 3 (some .boolean) 0 [.int x1, .int x2, .int x3] Mq (fun v M' => ∃ (r : Int32) (a : Int), v = some (.int r) ∧ r.toInt = a ∧ ((a = 1 ∧ (a2 ≤ a1 ∧ a1 ≤ a3)) ∨ (a = 0 ∧ ¬ (a2 ≤ a1 ∧ a1 ≤ a3))) ∧ Mq = M') := by
  refine ctr_of (L := [(0, .int x1), (1, .int x2), (2, .int x3)]) (by decide) (Nat.le_of_ble_eq_true rfl) rfl ?_
  intro Γ X
  have X : gX Γ cX6_inside RX6 3 (some .boolean) 0 ad _ := X
  refine g_iload_n X 0 rfl dX6_inside_0 ?_
  refine g_iload_n X 1 rfl dX6_inside_1 ?_
  refine g_icmp_lt X t1 t2 (tgt := 14) dX6_inside_2 (by decide) (fun cq1 => ?_) (fun cq1 => ?_)
  · refine g_iconst X 0 dX6_inside_14 (by decide) ?_
    exact g_zret X (b01 (show (0 : Int32).toInt = 0 by decide) (by omega)) dX6_inside_15 ⟨_, _, rfl, (show (0 : Int32).toInt = 0 by decide), (by omega), rfl⟩
  · refine g_iload_n X 0 rfl dX6_inside_5 ?_
    refine g_iload_n X 2 rfl dX6_inside_6 ?_
    refine g_icmp_gt X t1 t3 (tgt := 14) dX6_inside_7 (by decide) (fun cq2 => ?_) (fun cq2 => ?_)
    · refine g_iconst X 0 dX6_inside_14 (by decide) ?_
      exact g_zret X (b01 (show (0 : Int32).toInt = 0 by decide) (by omega)) dX6_inside_15 ⟨_, _, rfl, (show (0 : Int32).toInt = 0 by decide), (by omega), rfl⟩
    · refine g_iconst X 1 dX6_inside_10 (by decide) ?_
      refine g_goto X (tgt := 15) dX6_inside_11 (by decide) ?_
      exact g_zret X (b01 (show (1 : Int32).toInt = 1 by decide) (by omega)) dX6_inside_15 ⟨_, _, rfl, (show (1 : Int32).toInt = 1 by decide), (by omega), rfl⟩
def sh (x : Int32) : Int := ((1 : Int32) <<< (x &&& 31)).toInt
set_option maxHeartbeats 4000000 in
set_option maxRecDepth 4000 in
theorem c_X6_areBits (ad : Nat → Nat) (Mq : Mem) (x1 : Int32) {a1 : Int} (t1 : x1.toInt = a1) (x2 : Int32) {a2 : Int} (t2 : x2.toInt = a2) : Ctr ad yX6_areBits cX6_areBits 2 (some .boolean) 0 [.int x1, .int x2] Mq (fun v M' => ∃ (r : Int32) (a : Int), v = some (.int r) ∧ r.toInt = a ∧ ((a = 1 ∧ (0 ≤ a1 ∧ a1 < sh x2)) ∨ (a = 0 ∧ ¬ (0 ≤ a1 ∧ a1 < sh x2))) ∧ Mq = M') := by
  refine ctr_of (L := [(0, .int x1), (1, .int x2)]) (by decide) (Nat.le_of_ble_eq_true rfl) rfl ?_
  intro Γ X
  have X : gX Γ cX6_areBits RX6 2 (some .boolean) 0 ad _ := X
  refine g_iload_n X 0 rfl dX6_areBits_0 ?_
  refine g_if_lt X t1 (tgt := 15) dX6_areBits_1 (by decide) (fun cq1 => ?_) (fun cq1 => ?_)
  · refine g_iconst X 0 dX6_areBits_15 (by decide) ?_
    exact g_zret X (b01 (show (0 : Int32).toInt = 0 by decide) (by omega)) dX6_areBits_16 ⟨_, _, rfl, (show (0 : Int32).toInt = 0 by decide), (by omega), rfl⟩
  · refine g_iload_n X 0 rfl dX6_areBits_4 ?_
    refine g_iconst X 1 dX6_areBits_5 (by decide) ?_
    refine g_iload_n X 1 rfl dX6_areBits_6 ?_
    refine g_ishl X dX6_areBits_7 (fun zq2 eq3 => ?_)
    have hz : zq2.toInt = sh x2 := congrArg Int32.toInt eq3
    refine g_icmp_ge X t1 rfl (tgt := 15) dX6_areBits_8 (by decide) (fun cq5 => ?_) (fun cq5 => ?_)
    · refine g_iconst X 0 dX6_areBits_15 (by decide) ?_
      exact g_zret X (b01 (show (0 : Int32).toInt = 0 by decide) (by omega)) dX6_areBits_16 ⟨_, _, rfl, (show (0 : Int32).toInt = 0 by decide), (by omega), rfl⟩
    · refine g_iconst X 1 dX6_areBits_11 (by decide) ?_
      refine g_goto X (tgt := 16) dX6_areBits_12 (by decide) ?_
      exact g_zret X (b01 (show (1 : Int32).toInt = 1 by decide) (by omega)) dX6_areBits_16 ⟨_, _, rfl, (show (1 : Int32).toInt = 1 by decide), (by omega), rfl⟩
set_option maxHeartbeats 4000000 in
set_option maxRecDepth 4000 in
theorem c_X6_isYear (ad : Nat → Nat) (Mq : Mem) (x1 : Int32) {a1 : Int} (t1 : x1.toInt = a1) : Ctr ad yX6_isYear cX6_isYear 1 (some .boolean) 1 [.int x1] Mq (fun v M' => ∃ (r : Int32) (a : Int), v = some (.int r) ∧ r.toInt = a ∧ ((a = 1 ∧ (0 ≤ a1 ∧ a1 ≤ 999)) ∨ (a = 0 ∧ ¬ (0 ≤ a1 ∧ a1 ≤ 999))) ∧ Mq = M') := by
  refine ctr_of (L := [(0, .int x1)]) (by decide) (Nat.le_of_ble_eq_true rfl) rfl ?_
  intro Γ X
  have X : gX Γ cX6_isYear RX6 1 (some .boolean) 1 ad _ := X
  refine g_iload_n X 0 rfl dX6_isYear_0 ?_
  refine g_iconst X 0 dX6_isYear_1 (by decide) ?_
  refine g_sipush X 999 dX6_isYear_2 (by decide) ?_
  refine g_callS X m_X6_61 (c_X6_inside ad Mq x1 t1 0 (show (0 : Int32).toInt = 0 by decide) 999 (show (999 : Int32).toInt = 999 by decide)) rfl (by decide) (Nat.le_of_ble_eq_true rfl) rfl dX6_isYear_5 ?_
  rintro _ _ ⟨rq1, aq2, rfl, tq3, hq4, rfl⟩
  show G Γ Mq 8 [(0, .int x1)] [.int rq1]
  exact g_zret X (b01 tq3 (by omega)) dX6_isYear_8 ⟨_, _, rfl, tq3, (by omega), rfl⟩
set_option maxHeartbeats 4000000 in
set_option maxRecDepth 4000 in
theorem c_X6_bit (ad : Nat → Nat) (Mq : Mem) (x1 : Int64) {a1 : Int} (t1 : x1.toInt = a1) (x2 : Int32) {a2 : Int} (t2 : x2.toInt = a2) : Ctr ad yX6_bit cX6_bit 3 (some .int) 0 [.long x1, .int x2] Mq (fun v M' => ∃ (r : Int32) (a : Int), v = some (.int r) ∧ r.toInt = a ∧ (True) ∧ Mq = M') := by
  refine ctr_of (L := [(0, .long x1), (2, .int x2)]) (by decide) (Nat.le_of_ble_eq_true rfl) rfl ?_
  intro Γ X
  have X : gX Γ cX6_bit RX6 3 (some .int) 0 ad _ := X
  refine g_lload_n X 0 rfl dX6_bit_0 ?_
  refine g_iload_n X 1 rfl dX6_bit_1 ?_
  refine g_lushr X dX6_bit_2 (fun zq1 eq2 => ?_)
  refine g_lconst X 1 dX6_bit_3 (by decide) ?_
  refine g_land X dX6_bit_4 (fun zq3 eq4 => ?_)
  refine g_l2i X dX6_bit_5 (fun zq5 eq6 => ?_)
  exact g_iret X dX6_bit_6 ⟨_, _, rfl, rfl, trivial, rfl⟩
set_option maxHeartbeats 4000000 in
set_option maxRecDepth 4000 in
theorem c_X6_listed_13 (ad : Nat → Nat) (Mq : Mem) (x2 : Int32) {a2 : Int} (t2 : x2.toInt = a2) (x3 : Int32) {a3 : Int} (t3 : x3.toInt = a3) : Ctr ad yX6_listed cX6_listed 3 (some .int) 0 [.ref (ad 13), .int x2, .int x3] Mq (fun v M' => ∃ (r : Int32) (a : Int), v = some (.int r) ∧ r.toInt = a ∧ (True) ∧ Mq = M') := by
  refine ctr_of (L := [(0, .ref (ad 13)), (1, .int x2), (2, .int x3)]) (by decide) (Nat.le_of_ble_eq_true rfl) rfl ?_
  intro Γ X
  have X : gX Γ cX6_listed RX6 3 (some .int) 0 ad _ := X
  refine g_iload_n X 2 rfl dX6_listed_0 ?_
  refine g_iconst X (-1) dX6_listed_1 (by decide) ?_
  refine g_icmp_ne X t3 (show ((-1) : Int32).toInt = (-1) by decide) (tgt := 7) dX6_listed_2 (by decide) (fun cq1 => ?_) (fun cq1 => ?_)
  · refine g_iload_n X 2 rfl dX6_listed_7 ?_
    refine g_if_lt X t3 (tgt := 28) dX6_listed_8 (by decide) (fun cq2 => ?_) (fun cq2 => ?_)
    · refine g_iconst X (-1) dX6_listed_28 (by decide) ?_
      exact g_iret X dX6_listed_29 ⟨_, _, rfl, (show ((-1) : Int32).toInt = (-1) by decide), trivial, rfl⟩
    · refine g_iload_n X 2 rfl dX6_listed_11 ?_
      refine g_iload_n X 1 rfl dX6_listed_12 ?_
      refine g_icmp_ge X t3 t2 (tgt := 28) dX6_listed_13 (by decide) (fun cq3 => ?_) (fun cq3 => ?_)
      · refine g_iconst X (-1) dX6_listed_28 (by decide) ?_
        exact g_iret X dX6_listed_29 ⟨_, _, rfl, (show ((-1) : Int32).toInt = (-1) by decide), trivial, rfl⟩
      · refine g_iload_n X 2 rfl dX6_listed_16 ?_
        refine g_aload_n X 0 rfl dX6_listed_17 ?_
        refine g_alen X la_13 40 (by decide) dX6_listed_18 ?_
        refine g_icmp_ge X t3 (show (40 : Int32).toInt = 40 by decide) (tgt := 28) dX6_listed_19 (by decide) (fun cq4 => ?_) (fun cq4 => ?_)
        · refine g_iconst X (-1) dX6_listed_28 (by decide) ?_
          exact g_iret X dX6_listed_29 ⟨_, _, rfl, (show ((-1) : Int32).toInt = (-1) by decide), trivial, rfl⟩
        · refine g_aload_n X 0 rfl dX6_listed_22 ?_
          refine g_iload_n X 2 rfl dX6_listed_23 ?_
          refine g_iald X la_13 t3 dX6_listed_24 (by omega) (x := Mq.1 13 a3.toNat) rfl ?_
          refine g_goto X (tgt := 29) dX6_listed_25 (by decide) ?_
          exact g_iret X dX6_listed_29 ⟨_, _, rfl, rfl, trivial, rfl⟩
  · refine g_iload_n X 1 rfl dX6_listed_5 ?_
    exact g_iret X dX6_listed_6 ⟨_, _, rfl, t2, trivial, rfl⟩
set_option maxHeartbeats 4000000 in
set_option maxRecDepth 4000 in
theorem c_X6_pick (ad : Nat → Nat) (Mq : Mem) (x1 : Int64) {a1 : Int} (t1 : x1.toInt = a1) (x2 : Int32) {a2 : Int} (t2 : x2.toInt = a2) : Ctr ad yX6_pick cX6_pick 5 (some .int) 1 [.long x1, .int x2] Mq (fun v M' => ∃ (r : Int32) (a : Int), v = some (.int r) ∧ r.toInt = a ∧ (a = -1 ∨ (0 ≤ a ∧ a < 40)) ∧ Mq = M') := by
  refine ctr_of (L := [(0, .long x1), (2, .int x2)]) (by decide) (Nat.le_of_ble_eq_true rfl) rfl ?_
  intro Γ X
  have X : gX Γ cX6_pick RX6 5 (some .int) 1 ad _ := X
  refine g_iload_n X 1 rfl dX6_pick_0 ?_
  refine g_istore_n X (i := 3) [(3, .int x2), (0, .long x1), (2, .int x2)] dX6_pick_1 rfl (by decide) rfl ?_
  refine g_iconst X 0 dX6_pick_2 (by decide) ?_
  refine g_istore X [(4, .int 0), (3, .int x2), (0, .long x1), (2, .int x2)] dX6_pick_3 (by decide) rfl ?_
  have lp5 : ∀ n : Nat, ∀ (y4_5 : Int32) (b4_5 : Int), y4_5.toInt = b4_5 → ∀ (y3_5 : Int32) (b3_5 : Int), y3_5.toInt = b3_5 → (0 ≤ b4_5 ∧ b4_5 ≤ 40) → (40 - b4_5).toNat < n → G Γ Mq 5 [(4, .int y4_5), (3, .int y3_5), (0, .long x1), (2, .int x2)] [] := by
    intro n
    induction n with
    | zero => intro y4_5 b4_5 e4_5 y3_5 b3_5 e3_5 i1 hm; exact absurd hm (Nat.not_lt_zero _)
    | succ n ih5 =>
      intro y4_5 b4_5 e4_5 y3_5 b3_5 e3_5 i1 hm5
      refine g_iload X 0 rfl dX6_pick_5 ?_
      refine g_bipush X 40 dX6_pick_7 (by decide) ?_
      refine g_icmp_ge X e4_5 (show (40 : Int32).toInt = 40 by decide) (tgt := 38) dX6_pick_9 (by decide) (fun cq1 => ?_) (fun cq1 => ?_)
      · refine g_iconst X (-1) dX6_pick_38 (by decide) ?_
        exact g_iret X dX6_pick_39 ⟨_, _, rfl, (show ((-1) : Int32).toInt = (-1) by decide), (by omega), rfl⟩
      · refine g_lload_n X 2 rfl dX6_pick_12 ?_
        refine g_iload X 0 rfl dX6_pick_13 ?_
        refine g_callS X m_X6_115 (c_X6_bit ad Mq x1 t1 y4_5 e4_5) rfl (by decide) (Nat.le_of_ble_eq_true rfl) rfl dX6_pick_15 ?_
        rintro _ _ ⟨rq2, aq3, rfl, tq4, hq5, rfl⟩
        show G Γ Mq 18 [(4, .int y4_5), (3, .int y3_5), (0, .long x1), (2, .int x2)] [.int rq2]
        refine g_iconst X 1 dX6_pick_18 (by decide) ?_
        refine g_icmp_ne X tq4 (show (1 : Int32).toInt = 1 by decide) (tgt := 32) dX6_pick_19 (by decide) (fun cq6 => ?_) (fun cq6 => ?_)
        · refine g_iinc X 0 (fun v => [(4, .int v), (3, .int y3_5), (0, .long x1), (2, .int x2)]) dX6_pick_32 rfl (by decide) (fun _ => rfl) (fun zq7 eq8 => ?_)
          have tq9 : zq7.toInt = b4_5 + 1 := add_nw eq8 e4_5 (show (Int32.ofInt 1).toInt = 1 by decide) (by omega)
          refine g_goto X (tgt := 5) dX6_pick_35 (by decide) ?_
          refine g_sub [0, 1, 2, 3] rfl ?_
          exact ih5 zq7 _ tq9 y3_5 _ e3_5 (by omega) (by omega)
        · refine g_iload_n X 1 rfl dX6_pick_22 ?_
          refine g_if_ne X e3_5 (tgt := 29) dX6_pick_23 (by decide) (fun cq10 => ?_) (fun cq10 => ?_)
          · refine g_iinc X 1 (fun v => [(3, .int v), (4, .int y4_5), (0, .long x1), (2, .int x2)]) dX6_pick_29 rfl (by decide) (fun _ => rfl) (fun zq11 eq12 => ?_)
            refine g_iinc X 1 (fun v => [(4, .int v), (3, .int zq11), (0, .long x1), (2, .int x2)]) dX6_pick_32 rfl (by decide) (fun _ => rfl) (fun zq14 eq15 => ?_)
            have tq16 : zq14.toInt = b4_5 + 1 := add_nw eq15 e4_5 (show (Int32.ofInt 1).toInt = 1 by decide) (by omega)
            refine g_goto X (tgt := 5) dX6_pick_35 (by decide) ?_
            refine g_sub [0, 1, 2, 3] rfl ?_
            exact ih5 zq14 _ tq16 zq11 _ rfl (by omega) (by omega)
          · refine g_iload X 0 rfl dX6_pick_26 ?_
            exact g_iret X dX6_pick_28 ⟨_, _, rfl, e4_5, (by omega), rfl⟩
  refine g_sub [0, 1, 2, 3] rfl ?_
  exact lp5 _ 0 _ (show (0 : Int32).toInt = 0 by decide) x2 _ t2 (by omega) (Nat.lt_succ_self _)
set_option maxHeartbeats 4000000 in
set_option maxRecDepth 4000 in
theorem c_X6_isSlot (ad : Nat → Nat) (Mq : Mem) (x1 : Int32) {a1 : Int} (t1 : x1.toInt = a1) : Ctr ad yX6_isSlot cX6_isSlot 1 (some .boolean) 0 [.int x1] Mq (fun v M' => ∃ (r : Int32) (a : Int), v = some (.int r) ∧ r.toInt = a ∧ ((a = 1 ∧ (97 ≤ a1 ∧ a1 ≤ 104)) ∨ (a = 0 ∧ ¬ (97 ≤ a1 ∧ a1 ≤ 104))) ∧ Mq = M') := by
  refine ctr_of (L := [(0, .int x1)]) (by decide) (Nat.le_of_ble_eq_true rfl) rfl ?_
  intro Γ X
  have X : gX Γ cX6_isSlot RX6 1 (some .boolean) 0 ad _ := X
  refine g_iload_n X 0 rfl dX6_isSlot_0 ?_
  refine g_bipush X 97 dX6_isSlot_1 (by decide) ?_
  refine g_icmp_lt X t1 (show (97 : Int32).toInt = 97 by decide) (tgt := 16) dX6_isSlot_3 (by decide) (fun cq1 => ?_) (fun cq1 => ?_)
  · refine g_iconst X 0 dX6_isSlot_16 (by decide) ?_
    exact g_zret X (b01 (show (0 : Int32).toInt = 0 by decide) (by omega)) dX6_isSlot_17 ⟨_, _, rfl, (show (0 : Int32).toInt = 0 by decide), (by omega), rfl⟩
  · refine g_iload_n X 0 rfl dX6_isSlot_6 ?_
    refine g_bipush X 104 dX6_isSlot_7 (by decide) ?_
    refine g_icmp_gt X t1 (show (104 : Int32).toInt = 104 by decide) (tgt := 16) dX6_isSlot_9 (by decide) (fun cq2 => ?_) (fun cq2 => ?_)
    · refine g_iconst X 0 dX6_isSlot_16 (by decide) ?_
      exact g_zret X (b01 (show (0 : Int32).toInt = 0 by decide) (by omega)) dX6_isSlot_17 ⟨_, _, rfl, (show (0 : Int32).toInt = 0 by decide), (by omega), rfl⟩
    · refine g_iconst X 1 dX6_isSlot_12 (by decide) ?_
      refine g_goto X (tgt := 17) dX6_isSlot_13 (by decide) ?_
      exact g_zret X (b01 (show (1 : Int32).toInt = 1 by decide) (by omega)) dX6_isSlot_17 ⟨_, _, rfl, (show (1 : Int32).toInt = 1 by decide), (by omega), rfl⟩
set_option maxHeartbeats 4000000 in
set_option maxRecDepth 4000 in
theorem c_X6_isScene (ad : Nat → Nat) (Mq : Mem) (x1 : Int32) {a1 : Int} (t1 : x1.toInt = a1) : Ctr ad yX6_isScene cX6_isScene 1 (some .boolean) 0 [.int x1] Mq (fun v M' => ∃ (r : Int32) (a : Int), v = some (.int r) ∧ r.toInt = a ∧ ((a = 1 ∧ (65 ≤ a1 ∧ a1 ≤ 72)) ∨ (a = 0 ∧ ¬ (65 ≤ a1 ∧ a1 ≤ 72))) ∧ Mq = M') := by
  refine ctr_of (L := [(0, .int x1)]) (by decide) (Nat.le_of_ble_eq_true rfl) rfl ?_
  intro Γ X
  have X : gX Γ cX6_isScene RX6 1 (some .boolean) 0 ad _ := X
  refine g_iload_n X 0 rfl dX6_isScene_0 ?_
  refine g_bipush X 65 dX6_isScene_1 (by decide) ?_
  refine g_icmp_lt X t1 (show (65 : Int32).toInt = 65 by decide) (tgt := 16) dX6_isScene_3 (by decide) (fun cq1 => ?_) (fun cq1 => ?_)
  · refine g_iconst X 0 dX6_isScene_16 (by decide) ?_
    exact g_zret X (b01 (show (0 : Int32).toInt = 0 by decide) (by omega)) dX6_isScene_17 ⟨_, _, rfl, (show (0 : Int32).toInt = 0 by decide), (by omega), rfl⟩
  · refine g_iload_n X 0 rfl dX6_isScene_6 ?_
    refine g_bipush X 72 dX6_isScene_7 (by decide) ?_
    refine g_icmp_gt X t1 (show (72 : Int32).toInt = 72 by decide) (tgt := 16) dX6_isScene_9 (by decide) (fun cq2 => ?_) (fun cq2 => ?_)
    · refine g_iconst X 0 dX6_isScene_16 (by decide) ?_
      exact g_zret X (b01 (show (0 : Int32).toInt = 0 by decide) (by omega)) dX6_isScene_17 ⟨_, _, rfl, (show (0 : Int32).toInt = 0 by decide), (by omega), rfl⟩
    · refine g_iconst X 1 dX6_isScene_12 (by decide) ?_
      refine g_goto X (tgt := 17) dX6_isScene_13 (by decide) ?_
      exact g_zret X (b01 (show (1 : Int32).toInt = 1 by decide) (by omega)) dX6_isScene_17 ⟨_, _, rfl, (show (1 : Int32).toInt = 1 by decide), (by omega), rfl⟩
end
