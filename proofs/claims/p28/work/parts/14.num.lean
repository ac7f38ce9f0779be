section
theorem add_nw {x y z : Int32} {a b : Int} (e : z = x + y) (ha : x.toInt = a) (hb : y.toInt = b) (h : -2147483648 ≤ a + b ∧ a + b ≤ 2147483647) : z.toInt = a + b := by
  subst e; rw [Int32.toInt_add, ha, hb]; exact Int.bmod_eq_of_le (by omega) (by omega)
theorem sub_nw {x y z : Int32} {a b : Int} (e : z = x - y) (ha : x.toInt = a) (hb : y.toInt = b) (h : -2147483648 ≤ a - b ∧ a - b ≤ 2147483647) : z.toInt = a - b := by
  subst e; rw [Int32.toInt_sub, ha, hb]; exact Int.bmod_eq_of_le (by omega) (by omega)
theorem mul_nw {x y z : Int32} {a b : Int} (e : z = x * y) (ha : x.toInt = a) (hb : y.toInt = b) (h : -2147483648 ≤ a * b ∧ a * b ≤ 2147483647) : z.toInt = a * b := by
  subst e; rw [Int32.toInt_mul, ha, hb]; exact Int.bmod_eq_of_le (by omega) (by omega)
theorem nI_back {x : Int32} {a : Int} (ha : x.toInt = a) (h : 0 ≤ a) : x = nI a.toNat ∧ a.toNat < 2 ^ 31 := by
  have h2 := Int32.toInt_lt x
  have h3 : a.toNat < 2 ^ 31 := by omega
  refine ⟨Int32.toInt_inj.mp ?_, h3⟩
  rw [nI_toInt h3, ha]; omega
theorem div_nw {x y z : Int32} {a b : Int} (e : z = x / y) (ha : x.toInt = a) (hb : y.toInt = b) (h : 0 ≤ a ∧ 0 < b) : z.toInt = a / b := by
  obtain ⟨e1, l1⟩ := nI_back ha h.1
  obtain ⟨e2, l2⟩ := nI_back hb (by omega)
  have h3 : a.toNat / b.toNat < 2 ^ 31 := Nat.lt_of_le_of_lt (Nat.div_le_self _ _) l1
  rw [e, e1, e2, pk_div l1 (by omega) l2, nI_toInt h3, Int.natCast_ediv, Int.toNat_of_nonneg h.1, Int.toNat_of_nonneg (by omega)]
theorem rem_nw {x y z : Int32} {a b : Int} (e : z = x - x / y * y) (ha : x.toInt = a) (hb : y.toInt = b) (h : 0 ≤ a ∧ 0 < b) : z.toInt = a % b := by
  obtain ⟨e1, l1⟩ := nI_back ha h.1
  obtain ⟨e2, l2⟩ := nI_back hb (by omega)
  have h3 : a.toNat % b.toNat < 2 ^ 31 := Nat.lt_of_le_of_lt (Nat.mod_le _ _) l1
  rw [e, e1, e2, pk_rem l1 (by omega) l2, nI_toInt h3, Int.natCast_emod, Int.toNat_of_nonneg h.1, Int.toNat_of_nonneg (by omega)]
theorem i2l_nw {x : Int32} {z : Int64} {a : Int} (e : z = x.toInt64) (ha : x.toInt = a) : z.toInt = a := by
  subst e; rw [Int32.toInt_toInt64, ha]
theorem l2i_nw {x : Int64} {z : Int32} {a : Int} (e : z = x.toInt32) (ha : x.toInt = a) (h : -2147483648 ≤ a ∧ a ≤ 2147483647) : z.toInt = a := by
  subst e; rw [Int64.toInt_toInt32, ha]; exact Int.bmod_eq_of_le (by omega) (by omega)
theorem i_rng (x : Int32) : -2147483648 ≤ x.toInt ∧ x.toInt ≤ 2147483647 := by
  have h1 := Int32.toInt_lt x
  have h2 := Int32.le_toInt x
  omega
theorem b01 {x : Int32} {a : Int} (ha : x.toInt = a) (h : a = 0 ∨ a = 1) : x = 0 ∨ x = 1 := by
  rcases h with h | h
  · exact Or.inl (Int32.toInt_inj.mp (by rw [ha, h]; decide))
  · exact Or.inr (Int32.toInt_inj.mp (by rw [ha, h]; decide))
theorem land255 {x z : Int64} (e : z = x &&& 255) : 0 ≤ z.toInt ∧ z.toInt ≤ 255 := by
  have h1 : z.toBitVec.toNat ≤ 255 := by
    rw [e, Int64.toBitVec_and, BitVec.toNat_and]
    exact Nat.le_trans Nat.and_le_right (by decide)
  have h2 : z.toInt = z.toBitVec.toNat := BitVec.toInt_eq_toNat_of_lt (by omega)
  omega
theorem ne0 {x : Int32} {a : Int} (ha : x.toInt = a) (h : a ≠ 0) : ¬ x = 0 := fun q => h (by rw [← ha, q]; decide)
theorem ne0L {x : Int64} {a : Int} (ha : x.toInt = a) (h : a ≠ 0) : ¬ x = 0 := fun q => h (by rw [← ha, q]; decide)
/-- ranges that the memory keeps: (cell, from, to, least, most) -/
abbrev RT : Type := List (Nat × Nat × Nat × Int × Int)
def Iv (T : RT) (M : Mem) : Prop := ∀ q ∈ T, ∀ j, q.2.1 ≤ j → j < q.2.2.1 → q.2.2.2.1 ≤ (M.1 q.1 j).toInt ∧ (M.1 q.1 j).toInt ≤ q.2.2.2.2
theorem Iv.get {T : RT} {M : Mem} (h : Iv T M) (i : Nat) {k j0 j1 : Nat} {lo hi : Int} (hq : T[i]? = some (k, j0, j1, lo, hi)) (j : Nat) (h0 : j0 ≤ j) (h1 : j < j1) : lo ≤ (M.1 k j).toInt ∧ (M.1 k j).toInt ≤ hi := h _ (List.mem_of_getElem? hq) j h0 h1
/-- nothing that the table speaks of is written -/
theorem Iv.other {T : RT} {M : Mem} {k j : Nat} {x : Int32} (h : Iv T M) (hc : T.all (fun q => q.1 != k || decide (j < q.2.1) || decide (q.2.2.1 ≤ j)) = true) : Iv T (ui M k j x) := by
  intro q hq i h0 h1
  have hc := List.all_eq_true.mp hc q hq
  simp only [Bool.or_eq_true, bne_iff_ne, decide_eq_true_eq] at hc
  rw [ui_1, if_neg (by rintro ⟨e1, e2⟩; subst e2; rcases hc with (hc | hc) | hc <;> first | exact hc e1 | omega)]
  exact h q hq i h0 h1
theorem Iv.otherA {T : RT} {M : Mem} {k j : Nat} {x : Int32} (h : Iv T M) (hc : T.all (fun q => q.1 != k) = true) : Iv T (ui M k j x) := by
  intro q hq i h0 h1
  have hc := List.all_eq_true.mp hc q hq
  simp only [bne_iff_ne] at hc
  rw [ui_1, if_neg (fun e => hc e.1)]
  exact h q hq i h0 h1
theorem Iv.put {T : RT} {M : Mem} {k j : Nat} {x : Int32} {a : Int} (h : Iv T M) (lo hi : Int) (ha : x.toInt = a) (hx : lo ≤ a ∧ a ≤ hi) (hc : T.all (fun q => q.1 != k || decide (j < q.2.1) || decide (q.2.2.1 ≤ j) || (decide (q.2.2.2.1 ≤ lo) && decide (hi ≤ q.2.2.2.2))) = true) : Iv T (ui M k j x) := by
  intro q hq i h0 h1
  have hc := List.all_eq_true.mp hc q hq
  simp only [Bool.or_eq_true, bne_iff_ne, decide_eq_true_eq, Bool.and_eq_true] at hc
  rw [ui_1]
  by_cases he : q.1 = k ∧ i = j
  · rw [if_pos he, ha]
    obtain ⟨e1, e2⟩ := he
    subst e2
    rcases hc with ((hc | hc) | hc) | hc
    · exact absurd e1 hc
    · omega
    · omega
    · omega
  · rw [if_neg he]
    exact h q hq i h0 h1
theorem Iv.putA {T : RT} {M : Mem} {k j : Nat} {x : Int32} {a : Int} (h : Iv T M) (lo hi : Int) (ha : x.toInt = a) (hx : lo ≤ a ∧ a ≤ hi) (hc : T.all (fun q => q.1 != k || (decide (q.2.2.2.1 ≤ lo) && decide (hi ≤ q.2.2.2.2))) = true) : Iv T (ui M k j x) := by
  intro q hq i h0 h1
  have hc := List.all_eq_true.mp hc q hq
  simp only [Bool.or_eq_true, bne_iff_ne, decide_eq_true_eq, Bool.and_eq_true] at hc
  rw [ui_1]
  by_cases he : q.1 = k ∧ i = j
  · rw [if_pos he, ha]
    rcases hc with hc | hc
    · exact absurd he.1 hc
    · omega
  · rw [if_neg he]
    exact h q hq i h0 h1
theorem Iv.long {T : RT} {M : Mem} {k j : Nat} {x : Int64} (h : Iv T M) : Iv T (ul M k j x) := h
/-- a copy: the table says of the cell no more than of the one that is copied from -/
theorem Iv.copy {T : RT} {M : Mem} {k0 sp k dp n : Nat} (h : Iv T M) (lo hi : Int) (hs : ∀ j, j < n → lo ≤ (M.1 k0 (sp + j)).toInt ∧ (M.1 k0 (sp + j)).toInt ≤ hi) (hc : T.all (fun q => q.1 != k || (decide (q.2.2.2.1 ≤ lo) && decide (hi ≤ q.2.2.2.2))) = true) : Iv T (uc M k0 sp k dp n) := by
  intro q hq i h0 h1
  have hc := List.all_eq_true.mp hc q hq
  simp only [Bool.or_eq_true, bne_iff_ne, decide_eq_true_eq, Bool.and_eq_true] at hc
  show _ ≤ (if q.1 = k ∧ dp ≤ i ∧ i < dp + n then M.1 k0 (sp + (i - dp)) else M.1 q.1 i).toInt ∧ _
  by_cases he : q.1 = k ∧ dp ≤ i ∧ i < dp + n
  · have h5 := hs (i - dp) (by omega)
    show _ ∧ (if q.1 = k ∧ dp ≤ i ∧ i < dp + n then M.1 k0 (sp + (i - dp)) else M.1 q.1 i).toInt ≤ _
    rw [if_pos he]
    rcases hc with hc | hc
    · exact absurd he.1 hc
    · omega
  · show _ ∧ (if q.1 = k ∧ dp ≤ i ∧ i < dp + n then M.1 k0 (sp + (i - dp)) else M.1 q.1 i).toInt ≤ _
    rw [if_neg he]
    exact h q hq i h0 h1
theorem Iv.copyO {T : RT} {M : Mem} {k0 sp k dp n : Nat} (h : Iv T M) (hc : T.all (fun q => q.1 != k) = true) : Iv T (uc M k0 sp k dp n) := by
  intro q hq i h0 h1
  have hc := List.all_eq_true.mp hc q hq
  simp only [bne_iff_ne] at hc
  rw [uc_cell hc]
  exact h q hq i h0 h1
/-- what a method may write: (cell, field), 99 for all of a cell -/
def inW (W : List (Nat × Nat)) (k j : Nat) : Bool := W.any (fun q => q.1 == k && (q.2 == 99 || q.2 == j))
def Fr (W : List (Nat × Nat)) (M M' : Mem) : Prop := ∀ k j, inW W k j = false → M'.1 k j = M.1 k j ∧ M'.2 k j = M.2 k j
theorem Fr.rf {W : List (Nat × Nat)} {M : Mem} : Fr W M M := fun _ _ _ => ⟨rfl, rfl⟩
theorem Fr.ui {W : List (Nat × Nat)} {M M' : Mem} {k j : Nat} {x : Int32} (h : Fr W M M') (hw : inW W k j = true) : Fr W M (ui M' k j x) := by
  intro a b hab
  refine ⟨?_, (h a b hab).2⟩
  rw [ui_1, if_neg (by rintro ⟨e1, e2⟩; subst e1; subst e2; rw [hw] at hab; cases hab)]
  exact (h a b hab).1
theorem Fr.ul {W : List (Nat × Nat)} {M M' : Mem} {k j : Nat} {x : Int64} (h : Fr W M M') (hw : inW W k j = true) : Fr W M (ul M' k j x) := by
  intro a b hab
  refine ⟨(h a b hab).1, ?_⟩
  rw [ul_2, if_neg (by rintro ⟨e1, e2⟩; subst e1; subst e2; rw [hw] at hab; cases hab)]
  exact (h a b hab).2
theorem Fr.uc {W : List (Nat × Nat)} {M M' : Mem} {k0 sp k dp n : Nat} (h : Fr W M M') (hw : inW W k 99 = true) : Fr W M (uc M' k0 sp k dp n) := by
  intro a b hab
  refine ⟨?_, (h a b hab).2⟩
  show (if a = k ∧ dp ≤ b ∧ b < dp + n then M'.1 k0 (sp + (b - dp)) else M'.1 a b) = _
  rw [if_neg]
  · exact (h a b hab).1
  · rintro ⟨e1, -⟩
    subst e1
    unfold inW at hw hab
    obtain ⟨q, hq, h1⟩ := List.any_eq_true.mp hw
    have h2 : ¬ (q.1 == a && (q.2 == 99 || q.2 == b)) = true := fun z => by rw [List.any_eq_true.mpr ⟨q, hq, z⟩] at hab; cases hab
    simp only [Bool.and_eq_true, beq_iff_eq, Bool.or_eq_true, or_self] at h1 h2
    exact h2 ⟨h1.1, Or.inl h1.2⟩
theorem Fr.trans {W W' : List (Nat × Nat)} {M M' M'' : Mem} (h : Fr W M M') (h' : Fr W' M' M'') (hs : W'.all (fun q => W.any (fun r => r.1 == q.1 && (r.2 == 99 || r.2 == q.2))) = true) : Fr W M M'' := by
  intro a b hab
  have hab' : inW W' a b = false := by
    rw [Bool.eq_false_iff]
    intro z
    obtain ⟨q, hq, h1⟩ := List.any_eq_true.mp z
    have h2 := List.all_eq_true.mp hs q hq
    obtain ⟨r, hr, h3⟩ := List.any_eq_true.mp h2
    have h4 : ¬ (r.1 == a && (r.2 == 99 || r.2 == b)) = true := fun z => by unfold inW at hab; rw [List.any_eq_true.mpr ⟨r, hr, z⟩] at hab; cases hab
    simp only [Bool.and_eq_true, beq_iff_eq, Bool.or_eq_true] at h1 h3 h4
    apply h4
    refine ⟨h3.1.trans h1.1, ?_⟩
    rcases h3.2 with h5 | h5
    · exact Or.inl h5
    · rcases h1.2 with h6 | h6
      · exact Or.inl (h5.trans h6)
      · exact Or.inr (h5.trans h6)
  have h1 := h' a b hab'
  have h2 := h a b hab
  exact ⟨h1.1.trans h2.1, h1.2.trans h2.2⟩
theorem Fr.wider {W W' : List (Nat × Nat)} {M M' : Mem} (h : Fr W M M') (hs : W.all (fun q => W'.any (fun r => r.1 == q.1 && (r.2 == 99 || r.2 == q.2))) = true) : Fr W' M M' := Fr.trans Fr.rf h hs
theorem Fr.at {W : List (Nat × Nat)} {M M' : Mem} (h : Fr W M M') (k j : Nat) (hw : inW W k j = false) : M'.1 k j = M.1 k j := (h k j hw).1
theorem Fr.atL {W : List (Nat × Nat)} {M M' : Mem} (h : Fr W M M') (k j : Nat) (hw : inW W k j = false) : M'.2 k j = M.2 k j := (h k j hw).2
def TX : RT := [(1, 3, 4, 0, 40), (1, 12, 13, 0, 40), (1, 15, 16, 0, 40), (7, 0, 40, 0, 39), (8, 0, 40, 0, 39), (10, 0, 40, 0, 9), (14, 1, 2, 0, 60), (14, 4, 5, 0, 60), (14, 5, 6, 0, 1), (14, 11, 12, 0, 8), (14, 12, 13, 0, 3), (16, 0, 60, 0, 59), (17, 0, 60, 0, 59), (19, 0, 480, 0, 59), (20, 0, 8, 0, 60), (22, 0, 8, 0, 7), (23, 2, 3, 0, 8), (23, 7, 8, 0, 200), (25, 0, 8, 0, 9), (27, 0, 200, 0, 39), (29, 0, 200, 0, 1), (33, 3, 4, 0, 40), (33, 5, 6, 0, 40), (33, 7, 8, 0, 256), (33, 8, 9, 0, 7), (33, 9, 10, 0, 60), (36, 0, 256, 0, 479), (37, 5, 6, 0, 24), (37, 6, 7, 8, 36), (40, 5, 6, 0, 12), (42, 0, 12, 0, 7), (44, 0, 12, 0, 24), (0, 7, 8, 0, 24)]
theorem ig_1_3 {M : Mem} (h : Iv TX M) : 0 ≤ (M.1 1 3).toInt ∧ (M.1 1 3).toInt ≤ 40 := h.get 0 rfl 3 (by decide) (by decide)
theorem ig_1_12 {M : Mem} (h : Iv TX M) : 0 ≤ (M.1 1 12).toInt ∧ (M.1 1 12).toInt ≤ 40 := h.get 1 rfl 12 (by decide) (by decide)
theorem ig_1_15 {M : Mem} (h : Iv TX M) : 0 ≤ (M.1 1 15).toInt ∧ (M.1 1 15).toInt ≤ 40 := h.get 2 rfl 15 (by decide) (by decide)
theorem ig_7 {M : Mem} (h : Iv TX M) (j : Nat) (hj : j < 40) : 0 ≤ (M.1 7 j).toInt ∧ (M.1 7 j).toInt ≤ 39 := h.get 3 rfl j (Nat.zero_le _) hj
theorem ig_8 {M : Mem} (h : Iv TX M) (j : Nat) (hj : j < 40) : 0 ≤ (M.1 8 j).toInt ∧ (M.1 8 j).toInt ≤ 39 := h.get 4 rfl j (Nat.zero_le _) hj
theorem ig_10 {M : Mem} (h : Iv TX M) (j : Nat) (hj : j < 40) : 0 ≤ (M.1 10 j).toInt ∧ (M.1 10 j).toInt ≤ 9 := h.get 5 rfl j (Nat.zero_le _) hj
theorem ig_14_1 {M : Mem} (h : Iv TX M) : 0 ≤ (M.1 14 1).toInt ∧ (M.1 14 1).toInt ≤ 60 := h.get 6 rfl 1 (by decide) (by decide)
theorem ig_14_4 {M : Mem} (h : Iv TX M) : 0 ≤ (M.1 14 4).toInt ∧ (M.1 14 4).toInt ≤ 60 := h.get 7 rfl 4 (by decide) (by decide)
theorem ig_14_5 {M : Mem} (h : Iv TX M) : 0 ≤ (M.1 14 5).toInt ∧ (M.1 14 5).toInt ≤ 1 := h.get 8 rfl 5 (by decide) (by decide)
theorem ig_14_11 {M : Mem} (h : Iv TX M) : 0 ≤ (M.1 14 11).toInt ∧ (M.1 14 11).toInt ≤ 8 := h.get 9 rfl 11 (by decide) (by decide)
theorem ig_14_12 {M : Mem} (h : Iv TX M) : 0 ≤ (M.1 14 12).toInt ∧ (M.1 14 12).toInt ≤ 3 := h.get 10 rfl 12 (by decide) (by decide)
theorem ig_16 {M : Mem} (h : Iv TX M) (j : Nat) (hj : j < 60) : 0 ≤ (M.1 16 j).toInt ∧ (M.1 16 j).toInt ≤ 59 := h.get 11 rfl j (Nat.zero_le _) hj
theorem ig_17 {M : Mem} (h : Iv TX M) (j : Nat) (hj : j < 60) : 0 ≤ (M.1 17 j).toInt ∧ (M.1 17 j).toInt ≤ 59 := h.get 12 rfl j (Nat.zero_le _) hj
theorem ig_19 {M : Mem} (h : Iv TX M) (j : Nat) (hj : j < 480) : 0 ≤ (M.1 19 j).toInt ∧ (M.1 19 j).toInt ≤ 59 := h.get 13 rfl j (Nat.zero_le _) hj
theorem ig_20 {M : Mem} (h : Iv TX M) (j : Nat) (hj : j < 8) : 0 ≤ (M.1 20 j).toInt ∧ (M.1 20 j).toInt ≤ 60 := h.get 14 rfl j (Nat.zero_le _) hj
theorem ig_22 {M : Mem} (h : Iv TX M) (j : Nat) (hj : j < 8) : 0 ≤ (M.1 22 j).toInt ∧ (M.1 22 j).toInt ≤ 7 := h.get 15 rfl j (Nat.zero_le _) hj
theorem ig_23_2 {M : Mem} (h : Iv TX M) : 0 ≤ (M.1 23 2).toInt ∧ (M.1 23 2).toInt ≤ 8 := h.get 16 rfl 2 (by decide) (by decide)
theorem ig_23_7 {M : Mem} (h : Iv TX M) : 0 ≤ (M.1 23 7).toInt ∧ (M.1 23 7).toInt ≤ 200 := h.get 17 rfl 7 (by decide) (by decide)
theorem ig_25 {M : Mem} (h : Iv TX M) (j : Nat) (hj : j < 8) : 0 ≤ (M.1 25 j).toInt ∧ (M.1 25 j).toInt ≤ 9 := h.get 18 rfl j (Nat.zero_le _) hj
theorem ig_27 {M : Mem} (h : Iv TX M) (j : Nat) (hj : j < 200) : 0 ≤ (M.1 27 j).toInt ∧ (M.1 27 j).toInt ≤ 39 := h.get 19 rfl j (Nat.zero_le _) hj
theorem ig_29 {M : Mem} (h : Iv TX M) (j : Nat) (hj : j < 200) : 0 ≤ (M.1 29 j).toInt ∧ (M.1 29 j).toInt ≤ 1 := h.get 20 rfl j (Nat.zero_le _) hj
theorem ig_33_3 {M : Mem} (h : Iv TX M) : 0 ≤ (M.1 33 3).toInt ∧ (M.1 33 3).toInt ≤ 40 := h.get 21 rfl 3 (by decide) (by decide)
theorem ig_33_5 {M : Mem} (h : Iv TX M) : 0 ≤ (M.1 33 5).toInt ∧ (M.1 33 5).toInt ≤ 40 := h.get 22 rfl 5 (by decide) (by decide)
theorem ig_33_7 {M : Mem} (h : Iv TX M) : 0 ≤ (M.1 33 7).toInt ∧ (M.1 33 7).toInt ≤ 256 := h.get 23 rfl 7 (by decide) (by decide)
theorem ig_33_8 {M : Mem} (h : Iv TX M) : 0 ≤ (M.1 33 8).toInt ∧ (M.1 33 8).toInt ≤ 7 := h.get 24 rfl 8 (by decide) (by decide)
theorem ig_33_9 {M : Mem} (h : Iv TX M) : 0 ≤ (M.1 33 9).toInt ∧ (M.1 33 9).toInt ≤ 60 := h.get 25 rfl 9 (by decide) (by decide)
theorem ig_36 {M : Mem} (h : Iv TX M) (j : Nat) (hj : j < 256) : 0 ≤ (M.1 36 j).toInt ∧ (M.1 36 j).toInt ≤ 479 := h.get 26 rfl j (Nat.zero_le _) hj
theorem ig_37_5 {M : Mem} (h : Iv TX M) : 0 ≤ (M.1 37 5).toInt ∧ (M.1 37 5).toInt ≤ 24 := h.get 27 rfl 5 (by decide) (by decide)
theorem ig_37_6 {M : Mem} (h : Iv TX M) : 8 ≤ (M.1 37 6).toInt ∧ (M.1 37 6).toInt ≤ 36 := h.get 28 rfl 6 (by decide) (by decide)
theorem ig_40_5 {M : Mem} (h : Iv TX M) : 0 ≤ (M.1 40 5).toInt ∧ (M.1 40 5).toInt ≤ 12 := h.get 29 rfl 5 (by decide) (by decide)
theorem ig_42 {M : Mem} (h : Iv TX M) (j : Nat) (hj : j < 12) : 0 ≤ (M.1 42 j).toInt ∧ (M.1 42 j).toInt ≤ 7 := h.get 30 rfl j (Nat.zero_le _) hj
theorem ig_44 {M : Mem} (h : Iv TX M) (j : Nat) (hj : j < 12) : 0 ≤ (M.1 44 j).toInt ∧ (M.1 44 j).toInt ≤ 24 := h.get 31 rfl j (Nat.zero_le _) hj
theorem ig_0_7 {M : Mem} (h : Iv TX M) : 0 ≤ (M.1 0 7).toInt ∧ (M.1 0 7).toInt ≤ 24 := h.get 32 rfl 7 (by decide) (by decide)
def TM : RT := [(47, 11, 12, 0, 40), (47, 12, 13, 0, 40), (47, 14, 15, 0, 40), (47, 20, 21, 0, 60), (47, 21, 22, 0, 60), (47, 22, 23, 0, 60), (47, 24, 25, 0, 3), (47, 32, 33, 0, 40), (47, 33, 34, 0, 40), (47, 43, 44, 0, 24), (47, 44, 45, 0, 24), (47, 52, 53, 0, 8), (47, 53, 54, 0, 200), (47, 59, 60, 0, 12), (53, 0, 40, 0, 39), (54, 0, 40, 0, 39), (56, 0, 40, 0, 9), (60, 0, 60, 0, 255), (62, 0, 8, 0, 58), (77, 0, 24, 0, 40), (78, 0, 24, 0, 40), (84, 0, 200, 0, 1), (85, 0, 40, 0, 1), (87, 0, 12, 0, 7), (89, 0, 12, 0, 24), (90, 0, 288, 0, 40)]
theorem ig_47_11 {M : Mem} (h : Iv TM M) : 0 ≤ (M.1 47 11).toInt ∧ (M.1 47 11).toInt ≤ 40 := h.get 0 rfl 11 (by decide) (by decide)
theorem ig_47_12 {M : Mem} (h : Iv TM M) : 0 ≤ (M.1 47 12).toInt ∧ (M.1 47 12).toInt ≤ 40 := h.get 1 rfl 12 (by decide) (by decide)
theorem ig_47_14 {M : Mem} (h : Iv TM M) : 0 ≤ (M.1 47 14).toInt ∧ (M.1 47 14).toInt ≤ 40 := h.get 2 rfl 14 (by decide) (by decide)
theorem ig_47_20 {M : Mem} (h : Iv TM M) : 0 ≤ (M.1 47 20).toInt ∧ (M.1 47 20).toInt ≤ 60 := h.get 3 rfl 20 (by decide) (by decide)
theorem ig_47_21 {M : Mem} (h : Iv TM M) : 0 ≤ (M.1 47 21).toInt ∧ (M.1 47 21).toInt ≤ 60 := h.get 4 rfl 21 (by decide) (by decide)
theorem ig_47_22 {M : Mem} (h : Iv TM M) : 0 ≤ (M.1 47 22).toInt ∧ (M.1 47 22).toInt ≤ 60 := h.get 5 rfl 22 (by decide) (by decide)
theorem ig_47_24 {M : Mem} (h : Iv TM M) : 0 ≤ (M.1 47 24).toInt ∧ (M.1 47 24).toInt ≤ 3 := h.get 6 rfl 24 (by decide) (by decide)
theorem ig_47_32 {M : Mem} (h : Iv TM M) : 0 ≤ (M.1 47 32).toInt ∧ (M.1 47 32).toInt ≤ 40 := h.get 7 rfl 32 (by decide) (by decide)
theorem ig_47_33 {M : Mem} (h : Iv TM M) : 0 ≤ (M.1 47 33).toInt ∧ (M.1 47 33).toInt ≤ 40 := h.get 8 rfl 33 (by decide) (by decide)
theorem ig_47_43 {M : Mem} (h : Iv TM M) : 0 ≤ (M.1 47 43).toInt ∧ (M.1 47 43).toInt ≤ 24 := h.get 9 rfl 43 (by decide) (by decide)
theorem ig_47_44 {M : Mem} (h : Iv TM M) : 0 ≤ (M.1 47 44).toInt ∧ (M.1 47 44).toInt ≤ 24 := h.get 10 rfl 44 (by decide) (by decide)
theorem ig_47_52 {M : Mem} (h : Iv TM M) : 0 ≤ (M.1 47 52).toInt ∧ (M.1 47 52).toInt ≤ 8 := h.get 11 rfl 52 (by decide) (by decide)
theorem ig_47_53 {M : Mem} (h : Iv TM M) : 0 ≤ (M.1 47 53).toInt ∧ (M.1 47 53).toInt ≤ 200 := h.get 12 rfl 53 (by decide) (by decide)
theorem ig_47_59 {M : Mem} (h : Iv TM M) : 0 ≤ (M.1 47 59).toInt ∧ (M.1 47 59).toInt ≤ 12 := h.get 13 rfl 59 (by decide) (by decide)
theorem ig_53 {M : Mem} (h : Iv TM M) (j : Nat) (hj : j < 40) : 0 ≤ (M.1 53 j).toInt ∧ (M.1 53 j).toInt ≤ 39 := h.get 14 rfl j (Nat.zero_le _) hj
theorem ig_54 {M : Mem} (h : Iv TM M) (j : Nat) (hj : j < 40) : 0 ≤ (M.1 54 j).toInt ∧ (M.1 54 j).toInt ≤ 39 := h.get 15 rfl j (Nat.zero_le _) hj
theorem ig_56 {M : Mem} (h : Iv TM M) (j : Nat) (hj : j < 40) : 0 ≤ (M.1 56 j).toInt ∧ (M.1 56 j).toInt ≤ 9 := h.get 16 rfl j (Nat.zero_le _) hj
theorem ig_60 {M : Mem} (h : Iv TM M) (j : Nat) (hj : j < 60) : 0 ≤ (M.1 60 j).toInt ∧ (M.1 60 j).toInt ≤ 255 := h.get 17 rfl j (Nat.zero_le _) hj
theorem ig_62 {M : Mem} (h : Iv TM M) (j : Nat) (hj : j < 8) : 0 ≤ (M.1 62 j).toInt ∧ (M.1 62 j).toInt ≤ 58 := h.get 18 rfl j (Nat.zero_le _) hj
theorem ig_77 {M : Mem} (h : Iv TM M) (j : Nat) (hj : j < 24) : 0 ≤ (M.1 77 j).toInt ∧ (M.1 77 j).toInt ≤ 40 := h.get 19 rfl j (Nat.zero_le _) hj
theorem ig_78 {M : Mem} (h : Iv TM M) (j : Nat) (hj : j < 24) : 0 ≤ (M.1 78 j).toInt ∧ (M.1 78 j).toInt ≤ 40 := h.get 20 rfl j (Nat.zero_le _) hj
theorem ig_84 {M : Mem} (h : Iv TM M) (j : Nat) (hj : j < 200) : 0 ≤ (M.1 84 j).toInt ∧ (M.1 84 j).toInt ≤ 1 := h.get 21 rfl j (Nat.zero_le _) hj
theorem ig_85 {M : Mem} (h : Iv TM M) (j : Nat) (hj : j < 40) : 0 ≤ (M.1 85 j).toInt ∧ (M.1 85 j).toInt ≤ 1 := h.get 22 rfl j (Nat.zero_le _) hj
theorem ig_87 {M : Mem} (h : Iv TM M) (j : Nat) (hj : j < 12) : 0 ≤ (M.1 87 j).toInt ∧ (M.1 87 j).toInt ≤ 7 := h.get 23 rfl j (Nat.zero_le _) hj
theorem ig_89 {M : Mem} (h : Iv TM M) (j : Nat) (hj : j < 12) : 0 ≤ (M.1 89 j).toInt ∧ (M.1 89 j).toInt ≤ 24 := h.get 24 rfl j (Nat.zero_le _) hj
theorem ig_90 {M : Mem} (h : Iv TM M) (j : Nat) (hj : j < 288) : 0 ≤ (M.1 90 j).toInt ∧ (M.1 90 j).toInt ≤ 40 := h.get 25 rfl j (Nat.zero_le _) hj
end
