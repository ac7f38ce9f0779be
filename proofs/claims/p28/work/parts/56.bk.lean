section
/-! ===== single bits ===== -/
theorem b64_or (x y : Int64) (i : Nat) : b64 (x ||| y) i = (b64 x i || b64 y i) := by unfold b64; rw [Int64.toBitVec_or, BitVec.getLsbD_or]
theorem b64_and (x y : Int64) (i : Nat) : b64 (x &&& y) i = (b64 x i && b64 y i) := by unfold b64; rw [Int64.toBitVec_and, BitVec.getLsbD_and]
theorem b64_xor (x y : Int64) (i : Nat) : b64 (x ^^^ y) i = (b64 x i != b64 y i) := by
  unfold b64; rw [Int64.toBitVec_xor, BitVec.getLsbD_xor]
theorem b64_not (x : Int64) {i : Nat} (h : i < 64) : b64 (x ^^^ (-1)) i = !b64 x i := by
  rw [b64_xor, show b64 (-1) i = true by
    show (BitVec.allOnes 64).getLsbD i = true
    rw [BitVec.getLsbD_allOnes]; simp [h]]
  cases b64 x i <;> rfl
theorem b64_0 (i : Nat) : b64 0 i = false := by
  show (0#64).getLsbD i = false
  exact BitVec.getLsbD_zero
theorem b64_sh {m : Int64} {k : Int32} {a : Int} (hk : k.toInt = a) (h : 0 ≤ a ∧ a < 64) (em : m = (1 : Int64) <<< (k.toInt64 &&& 63)) (l : Nat) : b64 m l = decide (l = a.toNat) := by
  obtain ⟨e, -⟩ := nI_back hk h.1
  have e1 := wb_shl 1 (show a.toNat < 64 by omega)
  rw [Nat.one_mul] at e1
  have e2 : m = lN (2 ^ a.toNat) := by rw [em, e]; exact e1
  have hl : 2 ^ a.toNat < 2 ^ 64 := Nat.pow_lt_pow_right (by decide) (by omega)
  rw [e2, b64_lN hl, Nat.testBit_two_pow]
  by_cases q : l = a.toNat
  · subst q; simp
  · simp [q, Ne.symm q]
theorem bt_or {x m z : Int64} {k : Int32} {a : Int} (hk : k.toInt = a) (h : 0 ≤ a ∧ a < 64) (em : m = (1 : Int64) <<< (k.toInt64 &&& 63)) (ez : z = x ||| m) : ∀ l, l < 64 → b64 z l = if l = a.toNat then true else b64 x l := by
  intro l _
  rw [ez, b64_or, b64_sh hk h em]
  by_cases q : l = a.toNat
  · simp [q]
  · simp [q]
theorem bt_clr {x m m' z : Int64} {k : Int32} {a : Int} (hk : k.toInt = a) (h : 0 ≤ a ∧ a < 64) (em : m = (1 : Int64) <<< (k.toInt64 &&& 63)) (e2 : m' = m ^^^ (-1)) (ez : z = x &&& m') : ∀ l, l < 64 → b64 z l = if l = a.toNat then false else b64 x l := by
  intro l hl
  rw [ez, b64_and, e2, b64_not _ hl, b64_sh hk h em]
  by_cases q : l = a.toNat
  · simp [q]
  · simp [q]
theorem bit_spec {x z1 z2 : Int64} {k r : Int32} {a : Int} (hk : k.toInt = a) (h : 0 ≤ a ∧ a < 64) (e1 : z1 = (x.toUInt64 >>> (k.toInt64.toUInt64 &&& Int64.toUInt64 63)).toInt64) (e2 : z2 = z1 &&& 1) (e3 : r = z2.toInt32) : (r.toInt = 1 ∧ b64 x a.toNat = true) ∨ (r.toInt = 0 ∧ ¬ (b64 x a.toNat = true)) := by
  obtain ⟨e, -⟩ := nI_back hk h.1
  obtain ⟨n, hn, rfl⟩ := wb_of x
  have hd : n / 2 ^ a.toNat < 2 ^ 64 := Nat.lt_of_le_of_lt (Nat.div_le_self _ _) hn
  have w1 : z1 = lN (n / 2 ^ a.toNat) := by rw [e1, e]; exact wb_shr hn (by omega)
  have w2 : z2 = lN (n / 2 ^ a.toNat % 2) := by
    rw [e2, w1, show (1 : Int64) = lN 1 from rfl, wb_and hd (by decide)]
    congr 1
    exact Nat.and_two_pow_sub_one_eq_mod _ 1
  rw [b64_lN hn, Nat.testBit_eq_decide_div_mod_eq]
  rcases Nat.mod_two_eq_zero_or_one (n / 2 ^ a.toNat) with q | q
  · right
    rw [e3, w2, q]
    exact ⟨by decide, by simp⟩
  · left
    rw [e3, w2, q]
    exact ⟨by decide, by simp⟩
/-! ===== the book: which entry counts ===== -/
def bst (w li y : Nat → Int) (s l yr : Int) : Nat → Int
  | 0 => -1
  | k + 1 => if w k = s ∧ li k = l ∧ y k ≤ yr ∧ (bst w li y s l yr k < 0 ∨ y (bst w li y s l yr k).toNat ≤ y k) then (k : Int) else bst w li y s l yr k
theorem bst_rng (w li y : Nat → Int) (s l yr : Int) : ∀ k : Nat, -1 ≤ bst w li y s l yr k ∧ bst w li y s l yr k < k
  | 0 => ⟨Int.le_refl _, (show (-1 : Int) < 0 by decide)⟩
  | k + 1 => by
    have := bst_rng w li y s l yr k
    show -1 ≤ (if _ then (k : Int) else bst w li y s l yr k) ∧ (if _ then (k : Int) else bst w li y s l yr k) < _
    split <;> omega
theorem bst_cong {w li y w' li' y' : Nat → Int} {s l yr : Int} : ∀ {n : Nat}, (∀ k, k < n → w k = w' k ∧ li k = li' k ∧ y k = y' k) → bst w li y s l yr n = bst w' li' y' s l yr n
  | 0, _ => rfl
  | n + 1, h => by
    have e := bst_cong (s := s) (l := l) (yr := yr) (n := n) (fun k hk => h k (by omega))
    have q := h n (by omega)
    have r := bst_rng w li y s l yr n
    show (if _ then (n : Int) else _) = (if _ then (n : Int) else _)
    rw [← e, q.1, q.2.1, q.2.2]
    by_cases hb : bst w li y s l yr n < 0
    · simp [hb]
    · rw [(h (bst w li y s l yr n).toNat (by omega)).2.2]
def hsl (w li y t : Nat → Int) (s l yr : Int) (n : Nat) : Bool := decide (0 ≤ bst w li y s l yr n) && decide (t (bst w li y s l yr n).toNat ≠ 0)
theorem hsl_cong {w li y t w' li' y' t' : Nat → Int} {s l yr : Int} {n : Nat} (h : ∀ k, k < n → w k = w' k ∧ li k = li' k ∧ y k = y' k ∧ t k = t' k) : hsl w li y t s l yr n = hsl w' li' y' t' s l yr n := by
  have e := bst_cong (s := s) (l := l) (yr := yr) (n := n) (fun k hk => ⟨(h k hk).1, (h k hk).2.1, (h k hk).2.2.1⟩)
  have r := bst_rng w li y s l yr n
  unfold hsl
  rw [← e]
  by_cases hb : 0 ≤ bst w li y s l yr n
  · rw [(h (bst w li y s l yr n).toNat (by omega)).2.2.2]
  · simp [hb]
theorem bst_none {w li y : Nat → Int} {s l yr : Int} : ∀ {n : Nat}, (∀ k, k < n → li k ≠ l) → bst w li y s l yr n = -1
  | 0, _ => rfl
  | n + 1, h => by
    have e := bst_none (w := w) (y := y) (s := s) (yr := yr) (n := n) (fun k hk => h k (by omega))
    show (if _ then (n : Int) else _) = _
    rw [if_neg (fun q => h n (by omega) q.2.1), e]
theorem hsl_none {w li y t : Nat → Int} {s l yr : Int} {n : Nat} (h : ∀ k, k < n → li k ≠ l) : hsl w li y t s l yr n = false := by
  unfold hsl
  rw [bst_none h]
  rfl
theorem bst_take {w li y : Nat → Int} {s l yr b c : Int} {n m : Nat} (h : b = bst w li y s l yr n) (hw : w n = s) (hl : li n = l) (hy : y n ≤ yr) (hb : b < 0 ∨ y b.toNat ≤ y n) (hm : m = n + 1) (hc : c = n) : c = bst w li y s l yr m := by
  subst hm
  show c = (if _ then (n : Int) else _)
  rw [← h, if_pos ⟨hw, hl, hy, hb⟩]; exact hc
theorem bst_skip {w li y : Nat → Int} {s l yr b : Int} {n m : Nat} (h : b = bst w li y s l yr n) (hn : w n ≠ s ∨ li n ≠ l ∨ yr < y n ∨ (0 ≤ b ∧ y n < y b.toNat)) (hm : m = n + 1) : b = bst w li y s l yr m := by
  subst hm
  show b = (if _ then (n : Int) else _)
  rw [← h, if_neg (by rintro ⟨h1, h2, h3, h4⟩; rcases hn with q | q | q | q <;> first | exact q h1 | exact q h2 | omega)]
theorem hsl_y {w li y t : Nat → Int} {s l yr b : Int} {n m : Nat} (h : b = bst w li y s l yr n) (h0 : 0 ≤ b) (ht : t b.toNat ≠ 0) (hm : n = m) : hsl w li y t s l yr m = true := by
  subst hm
  unfold hsl
  rw [← h]
  simp [h0, ht]
theorem hsl_n {w li y t : Nat → Int} {s l yr b : Int} {n m : Nat} (h : b = bst w li y s l yr n) (h0 : b < 0 ∨ t b.toNat = 0) (hm : n = m) : ¬ (hsl w li y t s l yr m = true) := by
  subst hm
  unfold hsl
  rw [← h]
  rcases h0 with q | q
  · simp [show ¬ 0 ≤ b by omega]
  · simp [q]
/-- the walk through the book: newest years and the set of lines -/
def SKq (w li y t : Nat → Int) (s yr : Int) (nw : Nat → Int) (bt : Nat → Bool) (n : Nat) : Prop := (∀ l : Nat, l < 40 → nw l = if bst w li y s l yr n < 0 then -1 else y (bst w li y s l yr n).toNat) ∧ (∀ l : Nat, l < 64 → bt l = hsl w li y t s l yr n)
theorem SKq_0 {w li y t : Nat → Int} {s yr : Int} {nw : Nat → Int} {bt : Nat → Bool} (h1 : ∀ l, l < 40 → nw l = -1) (h2 : ∀ l, bt l = false) : SKq w li y t s yr nw bt 0 := ⟨fun l hl => by rw [h1 l hl]; rfl, fun l _ => by rw [h2 l]; rfl⟩
theorem SKq_skip {w li y t : Nat → Int} {s yr wn ln yn nl : Int} {nw : Nat → Int} {bt : Nat → Bool} {n m : Nat} (h : SKq w li y t s yr nw bt n) (hw : w n = wn) (hl : li n = ln) (hy : y n = yn) (hnl : nw ln.toNat = nl) (hr : 0 ≤ ln ∧ ln < 40 ∧ 0 ≤ yn) (hne : wn ≠ s ∨ yr < yn ∨ yn < nl) (hm : m = n + 1) : SKq w li y t s yr nw bt m := by
  subst hm
  have e : ∀ l : Nat, bst w li y s l yr (n + 1) = bst w li y s l yr n := by
    intro l
    show (if _ then (n : Int) else _) = _
    refine if_neg ?_
    rintro ⟨h1, h2, h3, h4⟩
    rw [hl] at h2
    have h5 := h.1 l (by omega)
    rw [show ln.toNat = l by omega] at hnl
    rw [hnl] at h5
    rw [hy] at h3 h4
    rw [hw] at h1
    by_cases hb : bst w li y s l yr n < 0
    · rw [if_pos hb] at h5; omega
    · rw [if_neg hb] at h5
      omega
  refine ⟨fun l hl => ?_, fun l hl => ?_⟩
  · rw [e l]; exact h.1 l hl
  · rw [h.2 l hl]; unfold hsl; rw [e l]
theorem SKq_take {w li y t : Nat → Int} {s yr wn ln yn nl tn : Int} {nw nw' : Nat → Int} {bt bt' : Nat → Bool} {bv : Bool} {n m : Nat} (h : SKq w li y t s yr nw bt n) (hw : w n = wn) (hl : li n = ln) (hy : y n = yn) (ht : t n = tn) (hnl : nw ln.toNat = nl) (hr : 0 ≤ ln ∧ ln < 40 ∧ 0 ≤ yn) (hok : wn = s ∧ yn ≤ yr ∧ nl ≤ yn) (hn' : ∀ l, l < 40 → nw' l = if l = ln.toNat then yn else nw l) (hb' : ∀ l, l < 64 → bt' l = if l = ln.toNat then bv else bt l) (hv : (bv = true ∧ tn ≠ 0) ∨ (bv = false ∧ tn = 0)) (hm : m = n + 1) : SKq w li y t s yr nw' bt' m := by
  subst hm
  have e1 : ∀ l : Nat, l ≠ ln.toNat → bst w li y s l yr (n + 1) = bst w li y s l yr n := by
    intro l hne
    show (if _ then (n : Int) else _) = _
    refine if_neg ?_
    rintro ⟨h1, h2, h3, h4⟩
    rw [hl] at h2
    omega
  have e2 : bst w li y s (ln.toNat : Nat) yr (n + 1) = n := by
    show (if _ then (n : Int) else _) = _
    refine if_pos ⟨by rw [hw]; exact hok.1, by rw [hl]; omega, by rw [hy]; exact hok.2.1, ?_⟩
    have h5 := h.1 ln.toNat (by omega)
    rw [hnl] at h5
    by_cases hb : bst w li y s (ln.toNat : Nat) yr n < 0
    · exact Or.inl hb
    · rw [if_neg hb] at h5
      right
      rw [hy]; omega
  refine ⟨fun l hl => ?_, fun l hl => ?_⟩
  · rw [hn' l hl]
    by_cases q : l = ln.toNat
    · subst q
      rw [e2, if_pos rfl, if_neg (by omega)]
      rw [show ((n : Int)).toNat = n by omega, hy]
    · rw [if_neg q, e1 l q]
      exact h.1 l hl
  · rw [hb' l hl]
    by_cases q : l = ln.toNat
    · subst q
      unfold hsl
      rw [e2, if_pos rfl, show ((n : Int)).toNat = n by omega, ht]
      rcases hv with ⟨v1, v2⟩ | ⟨v1, v2⟩
      · rw [v1]; simp [v2]
      · rw [v1]; simp [v2]
    · rw [if_neg q, h.2 l hl]
      unfold hsl
      rw [e1 l q]
def eW (M : Mem) (c k : Nat) : Int := (M.1 c k).toInt
theorem eW_ui {M : Mem} {k j : Nat} {x : Int32} (l : Nat) : eW (ui M k j x) k l = if l = j then x.toInt else eW M k l := by
  unfold eW
  rw [ui_1]
  by_cases q : l = j
  · rw [if_pos ⟨rfl, q⟩, if_pos q]
  · rw [if_neg (fun z => q z.2), if_neg q]
theorem eW_fr {W : List (Nat × Nat)} {M M' : Mem} (fr : Fr W M M') {c : Nat} (h : noW W c = true) : eW M' c = eW M c := by
  funext k; unfold eW; rw [fr.at c k (noW_in h k)]
/-- has, by the class's book and by the reference's -/
def hsX (M : Mem) (s l y : Int) (n : Nat) : Bool := hsl (eW M 26) (eW M 27) (eW M 28) (eW M 29) s l y n
def hsM (M : Mem) (s l y : Int) (n : Nat) : Bool := hsl (eW M 81) (eW M 82) (eW M 83) (eW M 84) s l y n
theorem hsX_fr {W : List (Nat × Nat)} {M M' : Mem} (fr : Fr W M M') (h : (noW W 26 && (noW W 27 && (noW W 28 && noW W 29))) = true) : hsX M' = hsX M := by
  rw [Bool.and_eq_true, Bool.and_eq_true, Bool.and_eq_true] at h
  funext s l y n
  unfold hsX
  rw [eW_fr fr h.1, eW_fr fr h.2.1, eW_fr fr h.2.2.1, eW_fr fr h.2.2.2]
theorem hsM_fr {W : List (Nat × Nat)} {M M' : Mem} (fr : Fr W M M') (h : (noW W 81 && (noW W 82 && (noW W 83 && noW W 84))) = true) : hsM M' = hsM M := by
  rw [Bool.and_eq_true, Bool.and_eq_true, Bool.and_eq_true] at h
  funext s l y n
  unfold hsM
  rw [eW_fr fr h.1, eW_fr fr h.2.1, eW_fr fr h.2.2.1, eW_fr fr h.2.2.2]
/-- so many entries as are known -/
def upk (k e : Int) : Int := if k < 0 then e else k
theorem upk_n {k e : Int} (h : k < 0) : upk k e = e := if_pos h
theorem upk_y {k e : Int} (h : 0 ≤ k) : upk k e = k := if_neg (by omega)
/-- in how many of the first n lines two stocks are unlike -/
def unl (H : Int → Int → Bool) (a b : Int) (n : Nat) : Nat := ctb (fun l => H a l != H b l) n
theorem unl_sym (H : Int → Int → Bool) (a b : Int) (n : Nat) : unl H a b n = unl H b a n := ctb_cong (fun k _ => by cases H a k <;> cases H b k <;> rfl)
theorem unl_out {H : Int → Int → Bool} {a b : Int} {n m : Nat} (h : ∀ s (l : Nat), n ≤ l → H s l = false) (hm : n ≤ m) : unl H a b m = unl H a b n := by
  obtain ⟨d, rfl⟩ := Nat.exists_eq_add_of_le hm
  exact ctb_out d (fun k h1 _ => by rw [h a k h1, h b k h1]; rfl)
/-- the master among the first n -/
def mst (bn U : Nat → Int) (bs : Int) : Nat → Int
  | 0 => -1
  | k + 1 => if bn k < bs ∧ (mst bn U bs k < 0 ∨ U k < U (mst bn U bs k).toNat ∨ (U k = U (mst bn U bs k).toNat ∧ bn (mst bn U bs k).toNat < bn k)) then (k : Int) else mst bn U bs k
theorem mst_rng (bn U : Nat → Int) (bs : Int) : ∀ k : Nat, -1 ≤ mst bn U bs k ∧ mst bn U bs k < k
  | 0 => ⟨Int.le_refl _, (show (-1 : Int) < 0 by decide)⟩
  | k + 1 => by
    have := mst_rng bn U bs k
    show -1 ≤ (if _ then (k : Int) else mst bn U bs k) ∧ (if _ then (k : Int) else mst bn U bs k) < _
    split <;> omega
theorem mst_cong {bn U bn' U' : Nat → Int} {bs : Int} : ∀ {n : Nat}, (∀ k, k < n → bn k = bn' k ∧ U k = U' k) → mst bn U bs n = mst bn' U' bs n
  | 0, _ => rfl
  | n + 1, h => by
    have e := mst_cong (bs := bs) (n := n) (fun k hk => h k (by omega))
    have q := h n (by omega)
    have r := mst_rng bn U bs n
    show (if _ then (n : Int) else _) = (if _ then (n : Int) else _)
    rw [← e, q.1, q.2]
    by_cases hb : mst bn U bs n < 0
    · simp [hb]
    · have z := h (mst bn U bs n).toNat (by omega)
      rw [z.1, z.2]
theorem mst_take {bn U : Nat → Int} {bs b c : Int} {n m : Nat} (h : b = mst bn U bs n) (h1 : bn n < bs) (h2 : b < 0 ∨ U n < U b.toNat ∨ (U n = U b.toNat ∧ bn b.toNat < bn n)) (hm : m = n + 1) (hc : c = n) : c = mst bn U bs m := by
  subst hm
  show c = (if _ then (n : Int) else _)
  rw [← h, if_pos ⟨h1, h2⟩]; exact hc
theorem mst_skip {bn U : Nat → Int} {bs b : Int} {n m : Nat} (h : b = mst bn U bs n) (h1 : bs ≤ bn n ∨ (0 ≤ b ∧ (U b.toNat < U n ∨ (U n = U b.toNat ∧ bn n ≤ bn b.toNat)))) (hm : m = n + 1) : b = mst bn U bs m := by
  subst hm
  show b = (if _ then (n : Int) else _)
  rw [← h, if_neg (by rintro ⟨q1, q2⟩; omega)]
/-- all changes from masters, of the first n -/
def lng (f : Nat → Int) : Nat → Int
  | 0 => 0
  | k + 1 => lng f k + f k
theorem lng_cong {f g : Nat → Int} : ∀ {n : Nat}, (∀ k, k < n → f k = g k) → lng f n = lng g n
  | 0, _ => rfl
  | n + 1, h => by show lng f n + f n = lng g n + g n; rw [lng_cong (fun k hk => h k (by omega)), h n (by omega)]
theorem lng_rng {f : Nat → Int} {c : Int} : ∀ {n : Nat}, (∀ k, k < n → 0 ≤ f k ∧ f k ≤ c) → 0 ≤ lng f n ∧ lng f n ≤ n * c
  | 0, _ => by simp [lng]
  | n + 1, h => by
    have h1 := lng_rng (n := n) (c := c) (fun k hk => h k (by omega))
    have h2 := h n (by omega)
    have e : ((n + 1 : Nat) : Int) * c = (n : Int) * c + c := by rw [Int.natCast_add, Int.add_mul]; simp
    show 0 ≤ lng f n + f n ∧ lng f n + f n ≤ _
    rw [e]; omega
end
