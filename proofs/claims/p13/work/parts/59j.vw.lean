section
/-! ===== the swap ===== -/
def FX (M : Mem) (h n : Nat) : Bool := ffb (loF (M.1 2 h) (M.1 4 h) (M.1 5 n)) (hvF (M.1 3 h) (M.1 4 h) (M.1 6 n) (M.1 5 n)) (M.1 12)
def SX (M : Mem) (h n : Nat) : Bool := fsb (loF (M.1 2 h) (M.1 4 h) (M.1 5 n)) (hvF (M.1 3 h) (M.1 4 h) (M.1 6 n) (M.1 5 n)) (M.1 12)
def scM (M : Mem) (a b n : Nat) : Bool := scb (loF (M.1 48 a) (M.1 50 a) (M.1 51 n)) (hvF (M.1 49 a) (M.1 50 a) (M.1 52 n) (M.1 51 n)) (loF (M.1 48 b) (M.1 50 b) (M.1 51 n)) (hvF (M.1 49 b) (M.1 50 b) (M.1 52 n) (M.1 51 n)) (M.1 58)
def FM (M : Mem) (h n : Nat) : Bool := ffb (loF (M.1 48 h) (M.1 50 h) (M.1 51 n)) (hvF (M.1 49 h) (M.1 50 h) (M.1 52 n) (M.1 51 n)) (M.1 58)
def SM (M : Mem) (h n : Nat) : Bool := fsb (loF (M.1 48 h) (M.1 50 h) (M.1 51 n)) (hvF (M.1 49 h) (M.1 50 h) (M.1 52 n) (M.1 51 n)) (M.1 58)
def vxW (W : List (Nat × Nat)) : Bool := noW W 2 && (noW W 3 && (noW W 4 && (noW W 5 && (noW W 6 && noW W 12))))
theorem row_fr {W : List (Nat × Nat)} {M M' : Mem} (fr : Fr W M M') {c : Nat} (h : noW W c = true) : M'.1 c = M.1 c := funext fun k => fr.at c k (noW_in h k)
theorem FX_fr {W : List (Nat × Nat)} {M M' : Mem} (fr : Fr W M M') (h : vxW W = true) : FX M' = FX M ∧ SX M' = SX M := by
  unfold vxW at h
  simp only [Bool.and_eq_true] at h
  obtain ⟨h2, h3, h4, h5, h6, h12⟩ := h
  constructor
  · funext a n; unfold FX; rw [row_fr fr h2, row_fr fr h3, row_fr fr h4, row_fr fr h5, row_fr fr h6, row_fr fr h12]
  · funext a n; unfold SX; rw [row_fr fr h2, row_fr fr h3, row_fr fr h4, row_fr fr h5, row_fr fr h6, row_fr fr h12]
/-- a line of the hero that does not scan of the other name -/
def swN (F S : Nat → Bool) (h : Int) (H0 A0 B0 : Nat → Int32) (j : Nat) : Bool := decide ((H0 j).toInt = h) && !(F ((A0 j).toInt).toNat && S ((B0 j).toInt).toNat)
def SW (F S : Nat → Bool) (lf ls h o : Int) (H0 A0 B0 H1 A1 B1 : Nat → Int32) (n : Nat) : Prop := ∀ j, j < 40 →
  ((H1 j).toInt = if j < n ∧ (H0 j).toInt = h then o else (H0 j).toInt) ∧
  ((A1 j).toInt = if j < n ∧ swN F S h H0 A0 B0 j = true ∧ lf ≠ -1 ∧ ls ≠ -1 ∧ F ((A0 j).toInt).toNat = false then lf else (A0 j).toInt) ∧
  ((B1 j).toInt = if j < n ∧ swN F S h H0 A0 B0 j = true ∧ lf ≠ -1 ∧ ls ≠ -1 ∧ S ((B0 j).toInt).toNat = false then ls else (B0 j).toInt)
theorem SW_0 {F S : Nat → Bool} {lf ls h o : Int} {H0 A0 B0 : Nat → Int32} : SW F S lf ls h o H0 A0 B0 H0 A0 B0 0 := fun j _ => ⟨by rw [if_neg (by omega)], by rw [if_neg (by omega)], by rw [if_neg (by omega)]⟩
theorem SW_at {F S : Nat → Bool} {lf ls h o : Int} {H0 A0 B0 H1 A1 B1 : Nat → Int32} {n : Nat} (w : SW F S lf ls h o H0 A0 B0 H1 A1 B1 n) (hn : n < 40) : H1 n = H0 n ∧ A1 n = A0 n ∧ B1 n = B0 n := by
  obtain ⟨a, b, c⟩ := w n hn
  rw [if_neg (by omega)] at a b c
  exact ⟨Int32.toInt_inj.mp a, Int32.toInt_inj.mp b, Int32.toInt_inj.mp c⟩
theorem SW_step {F S : Nat → Bool} {lf ls h o : Int} {H0 A0 B0 H1 A1 B1 H2 A2 B2 : Nat → Int32} {n m : Nat} (w : SW F S lf ls h o H0 A0 B0 H1 A1 B1 n) (hj : ∀ j, j ≠ n → H2 j = H1 j ∧ A2 j = A1 j ∧ B2 j = B1 j)
    (e1 : (H2 n).toInt = if (H0 n).toInt = h then o else (H0 n).toInt) (e2 : (A2 n).toInt = if swN F S h H0 A0 B0 n = true ∧ lf ≠ -1 ∧ ls ≠ -1 ∧ F ((A0 n).toInt).toNat = false then lf else (A0 n).toInt) (e3 : (B2 n).toInt = if swN F S h H0 A0 B0 n = true ∧ lf ≠ -1 ∧ ls ≠ -1 ∧ S ((B0 n).toInt).toNat = false then ls else (B0 n).toInt) (hm : m = n + 1) : SW F S lf ls h o H0 A0 B0 H2 A2 B2 m := by
  subst hm
  intro j hj40
  by_cases q : j = n
  · subst q
    rw [e1, e2, e3]
    simp only [show (j < j + 1) = True from eq_true (by omega), true_and]

  · obtain ⟨z1, z2, z3⟩ := hj j q
    rw [z1, z2, z3]
    have e : (j < n + 1) = (j < n) := propext ⟨fun _ => by omega, fun _ => by omega⟩
    simp only [e]
    exact w j hj40
/-- lines that were broken, listed -/
def BR (brk : Nat → Bool) (cnt : Int) (L : Nat → Int32) (n : Nat) : Prop := cnt = (ctb brk n : Nat) ∧ ∀ j, j < n → brk j = true → (L (ctb brk j)).toInt = j
theorem BR_0 {brk : Nat → Bool} {L : Nat → Int32} : BR brk 0 L 0 := ⟨rfl, fun j hj => absurd hj (Nat.not_lt_zero _)⟩
theorem ctb_mono {p : Nat → Bool} {m : Nat} : ∀ n, ctb p m ≤ ctb p (m + n)
  | 0 => Nat.le_refl _
  | n + 1 => Nat.le_trans (ctb_mono n) (by show _ ≤ ctb p (m + n) + _; omega)
theorem ctb_lt {p : Nat → Bool} {j n : Nat} (hj : j < n) (hp : p j = true) : ctb p j < ctb p n := by
  have h1 := ctb_mono (p := p) (m := j + 1) (n - (j + 1))
  rw [show j + 1 + (n - (j + 1)) = n by omega] at h1
  have h2 : ctb p (j + 1) = ctb p j + (if p j = true then 1 else 0) := rfl
  rw [if_pos hp] at h2
  omega
theorem BR_n {brk : Nat → Bool} {cnt : Int} {L : Nat → Int32} {n m : Nat} (h : BR brk cnt L n) (hb : brk n = false) (hm : m = n + 1) : BR brk cnt L m := by
  subst hm
  have e : ctb brk (n + 1) = ctb brk n := by show ctb brk n + (if brk n = true then 1 else 0) = _; rw [if_neg (by rw [hb]; decide), Nat.add_zero]
  refine ⟨by rw [e]; exact h.1, fun j hj hbj => ?_⟩
  by_cases q : j = n
  · subst q; rw [hb] at hbj; cases hbj
  · exact h.2 j (by omega) hbj
theorem BR_y {brk : Nat → Bool} {cnt cnt' : Int} {L L' : Nat → Int32} {n m : Nat} (h : BR brk cnt L n) (hb : brk n = true) (hc : cnt' = cnt + 1) (hL : ∀ j, j ≠ cnt.toNat → L' j = L j) (hn : (L' cnt.toNat).toInt = n) (hm : m = n + 1) : BR brk cnt' L' m := by
  subst hm
  have e : ctb brk (n + 1) = ctb brk n + 1 := by show ctb brk n + (if brk n = true then 1 else 0) = _; rw [if_pos hb]
  have ec : cnt.toNat = ctb brk n := by rw [h.1]; omega
  refine ⟨by rw [e, hc, h.1]; omega, fun j hj hbj => ?_⟩
  by_cases q : j = n
  · subst q; rw [← ec]; exact hn
  · have := ctb_lt (show j < n by omega) hbj
    rw [hL _ (by omega)]
    exact h.2 j (by omega) hbj
theorem swN_n1 {F S : Nat → Bool} {h : Int} {H0 A0 B0 : Nat → Int32} {j : Nat} (q : (H0 j).toInt ≠ h) : swN F S h H0 A0 B0 j = false := by unfold swN; rw [decide_eq_false q]; rfl
theorem swN_n2 {F S : Nat → Bool} {h : Int} {H0 A0 B0 : Nat → Int32} {j : Nat} (q : (F ((A0 j).toInt).toNat && S ((B0 j).toInt).toNat) = true) : swN F S h H0 A0 B0 j = false := by unfold swN; rw [q]; cases decide ((H0 j).toInt = h) <;> rfl
theorem swN_y {F S : Nat → Bool} {h : Int} {H0 A0 B0 : Nat → Int32} {j : Nat} (q : (H0 j).toInt = h) (q2 : ¬ ((F ((A0 j).toInt).toNat && S ((B0 j).toInt).toNat) = true)) : swN F S h H0 A0 B0 j = true := by unfold swN; rw [decide_eq_true q, Bool.eq_false_iff.mpr q2]; rfl
theorem SW_other {F S : Nat → Bool} {lf ls h o : Int} {H0 A0 B0 H1 A1 B1 : Nat → Int32} {n m : Nat} (w : SW F S lf ls h o H0 A0 B0 H1 A1 B1 n) (hn : n < 40) (hne : (H1 n).toInt ≠ h) (hm : m = n + 1) : SW F S lf ls h o H0 A0 B0 H1 A1 B1 m ∧ swN F S h H0 A0 B0 n = false := by
  obtain ⟨z1, z2, z3⟩ := SW_at w hn
  rw [z1] at hne
  have e := swN_n1 (F := F) (S := S) (A0 := A0) (B0 := B0) hne
  refine ⟨SW_step w (fun j _ => ⟨rfl, rfl, rfl⟩) ?_ ?_ ?_ hm, e⟩
  · rw [z1, if_neg hne]
  · rw [z2, e, if_neg (fun z => nomatch z.1)]
  · rw [z3, e, if_neg (fun z => nomatch z.1)]
theorem SW_scan {F S : Nat → Bool} {lf ls h o : Int} {H0 A0 B0 H1 A1 B1 H2 : Nat → Int32} {n m : Nat} (w : SW F S lf ls h o H0 A0 B0 H1 A1 B1 n) (hn : n < 40) (he : (H1 n).toInt = h) (hs : (F ((A1 n).toInt).toNat && S ((B1 n).toInt).toNat) = true) (hj : ∀ j, j ≠ n → H2 j = H1 j) (h2 : (H2 n).toInt = o) (hm : m = n + 1) : SW F S lf ls h o H0 A0 B0 H2 A1 B1 m ∧ swN F S h H0 A0 B0 n = false := by
  obtain ⟨z1, z2, z3⟩ := SW_at w hn
  rw [z1] at he
  rw [z2, z3] at hs
  have e := swN_n2 (h := h) (H0 := H0) hs
  refine ⟨SW_step w (fun j q => ⟨hj j q, rfl, rfl⟩) ?_ ?_ ?_ hm, e⟩
  · rw [h2, if_pos he]
  · rw [z2, e, if_neg (fun z => nomatch z.1)]
  · rw [z3, e, if_neg (fun z => nomatch z.1)]
theorem SW_brk {F S : Nat → Bool} {lf ls h o : Int} {H0 A0 B0 H1 A1 B1 H2 : Nat → Int32} {n m : Nat} (w : SW F S lf ls h o H0 A0 B0 H1 A1 B1 n) (hn : n < 40) (he : (H1 n).toInt = h) (hs : ¬ ((F ((A1 n).toInt).toNat && S ((B1 n).toInt).toNat) = true)) (hj : ∀ j, j ≠ n → H2 j = H1 j) (h2 : (H2 n).toInt = o) (hb : lf = -1 ∨ ls = -1) (hm : m = n + 1) : SW F S lf ls h o H0 A0 B0 H2 A1 B1 m ∧ swN F S h H0 A0 B0 n = true := by
  obtain ⟨z1, z2, z3⟩ := SW_at w hn
  rw [z1] at he
  rw [z2, z3] at hs
  have e := swN_y he hs
  refine ⟨SW_step w (fun j q => ⟨hj j q, rfl, rfl⟩) ?_ ?_ ?_ hm, e⟩
  · rw [h2, if_pos he]
  · rw [z2, if_neg (fun z => by rcases hb with q | q; exact z.2.1 q; exact z.2.2.1 q)]
  · rw [z3, if_neg (fun z => by rcases hb with q | q; exact z.2.1 q; exact z.2.2.1 q)]
theorem SW_men {F S : Nat → Bool} {lf ls h o : Int} {H0 A0 B0 H1 A1 B1 H2 A2 B2 : Nat → Int32} {n m : Nat} (w : SW F S lf ls h o H0 A0 B0 H1 A1 B1 n) (hn : n < 40) (he : (H1 n).toInt = h) (hs : ¬ ((F ((A1 n).toInt).toNat && S ((B1 n).toInt).toNat) = true)) (hj : ∀ j, j ≠ n → H2 j = H1 j ∧ A2 j = A1 j ∧ B2 j = B1 j) (h2 : (H2 n).toInt = o) (hb : lf ≠ -1 ∧ ls ≠ -1)
    (hA : (F ((A1 n).toInt).toNat = true ∧ (A2 n).toInt = (A1 n).toInt) ∨ (¬ (F ((A1 n).toInt).toNat = true) ∧ (A2 n).toInt = lf)) (hB : (S ((B1 n).toInt).toNat = true ∧ (B2 n).toInt = (B1 n).toInt) ∨ (¬ (S ((B1 n).toInt).toNat = true) ∧ (B2 n).toInt = ls)) (hm : m = n + 1) : SW F S lf ls h o H0 A0 B0 H2 A2 B2 m ∧ swN F S h H0 A0 B0 n = true := by
  obtain ⟨z1, z2, z3⟩ := SW_at w hn
  rw [z1] at he
  rw [z2, z3] at hs
  rw [z2] at hA
  rw [z3] at hB
  have e := swN_y he hs
  refine ⟨SW_step w hj ?_ ?_ ?_ hm, e⟩
  · rw [h2, if_pos he]
  · rcases hA with ⟨q1, q2⟩ | ⟨q1, q2⟩
    · rw [q2, if_neg (fun z => by rw [q1] at z; exact nomatch z.2.2.2)]
    · rw [q2, if_pos ⟨e, hb.1, hb.2, Bool.eq_false_iff.mpr q1⟩]
  · rcases hB with ⟨q1, q2⟩ | ⟨q1, q2⟩
    · rw [q2, if_neg (fun z => by rw [q1] at z; exact nomatch z.2.2.2)]
    · rw [q2, if_pos ⟨e, hb.1, hb.2, Bool.eq_false_iff.mpr q1⟩]
/-- broken, mended -/
def brk (N : Nat → Bool) (lf ls : Int) (j : Nat) : Bool := N j && !(decide (lf ≠ -1) && decide (ls ≠ -1))
def men (N : Nat → Bool) (lf ls : Int) (j : Nat) : Bool := N j && (decide (lf ≠ -1) && decide (ls ≠ -1))
theorem brk_n {N : Nat → Bool} {lf ls : Int} {j : Nat} (h : N j = false) : brk N lf ls j = false ∧ men N lf ls j = false := by unfold brk men; rw [h]; exact ⟨rfl, rfl⟩
theorem brk_b {N : Nat → Bool} {lf ls : Int} {j : Nat} (h : N j = true) (hb : lf = -1 ∨ ls = -1) : brk N lf ls j = true ∧ men N lf ls j = false := by
  unfold brk men
  rw [h]
  rcases hb with q | q
  · rw [decide_eq_false (fun z => z q)]; exact ⟨rfl, rfl⟩
  · rw [decide_eq_false (p := ls ≠ -1) (fun z => z q)]; cases decide (lf ≠ -1) <;> exact ⟨rfl, rfl⟩
theorem brk_m {N : Nat → Bool} {lf ls : Int} {j : Nat} (h : N j = true) (hb : lf ≠ -1 ∧ ls ≠ -1) : brk N lf ls j = false ∧ men N lf ls j = true := by
  unfold brk men
  rw [h, decide_eq_true hb.1, decide_eq_true hb.2]; exact ⟨rfl, rfl⟩
/-- the rows that a mended line has -/
def mdR (f : Bool) (i : Nat) (x : Int32) (R R' : Nat → Int32) : Prop := (∀ j, j ≠ i → R' j = R j) ∧ ((f = true ∧ R' i = R i) ∨ (¬ (f = true) ∧ R' i = x))
theorem mdR_y {f : Bool} {i : Nat} {x : Int32} {R R' : Nat → Int32} (h : f = true) (h1 : ∀ j, R' j = R j) : mdR f i x R R' := ⟨fun j _ => h1 j, Or.inl ⟨h, h1 i⟩⟩
theorem mdR_n {f : Bool} {i : Nat} {x : Int32} {R R' : Nat → Int32} (h : ¬ (f = true)) (h1 : ∀ j, j ≠ i → R' j = R j) (h2 : R' i = x) : mdR f i x R R' := ⟨h1, Or.inr ⟨h, h2⟩⟩
theorem mdR_i {f : Bool} {i : Nat} {x : Int32} {R R' : Nat → Int32} {v : Int} (h : mdR f i x R R') (t : x.toInt = v) : (f = true ∧ (R' i).toInt = (R i).toInt) ∨ (¬ (f = true) ∧ (R' i).toInt = v) := by
  rcases h.2 with ⟨q1, q2⟩ | ⟨q1, q2⟩
  · exact Or.inl ⟨q1, congrArg Int32.toInt q2⟩
  · exact Or.inr ⟨q1, by rw [q2]; exact t⟩
theorem lst_rng {p : Nat → Prop} {n : Nat} {a : Int} (h : lst p n a) (hn : n ≤ 40) : a = -1 ∨ (0 ≤ a ∧ a < 40) := by
  rcases h with ⟨q, _⟩ | ⟨q1, q2, _⟩
  · exact Or.inl q
  · exact Or.inr ⟨q1, by omega⟩
theorem lst_ex (p : Nat → Prop) : ∀ n, ∃ a, lst p n a
  | 0 => ⟨-1, Or.inl ⟨rfl, fun j hj => absurd hj (Nat.not_lt_zero _)⟩⟩
  | n + 1 => by
    obtain ⟨a, h⟩ := lst_ex p n
    rcases h with ⟨q1, q2⟩ | ⟨q1, q2, q3, q4⟩
    · by_cases c : p n
      · refine ⟨(n : Int), Or.inr ⟨by omega, by omega, ?_, ?_⟩⟩
        · rw [show ((n : Int)).toNat = n by omega]; exact c
        · intro j hj; exact q2 j (by omega)
      · refine ⟨-1, Or.inl ⟨rfl, fun j hj => ?_⟩⟩
        by_cases e : j = n
        · rw [e]; exact c
        · exact q2 j (by omega)
    · exact ⟨a, Or.inr ⟨q1, by omega, q3, q4⟩⟩
theorem lst_one {p q : Nat → Prop} {n : Nat} {a b : Int} (e : ∀ j, j < n → (p j ↔ q j)) (h : lst p n a) (h' : lst q n b) : a = b := by
  rcases h with ⟨q1, q2⟩ | ⟨q1, q2, q3, q4⟩ <;> rcases h' with ⟨r1, r2⟩ | ⟨r1, r2, r3, r4⟩
  · omega
  · exact absurd ((e _ (by omega)).mpr r3) (q2 _ (by omega))
  · exact absurd ((e _ (by omega)).mp q3) (r2 _ (by omega))
  · have l1 : ¬ a < b := fun z => r4 a.toNat (by omega) ((e _ (by omega)).mp q3)
    have l2 : ¬ b < a := fun z => q4 b.toNat (by omega) ((e _ (by omega)).mpr r3)
    omega
/-- the pairs that the reference has gone through -/
def PO (b H : Int) : Nat → Nat → Prop := fun f s => (f : Int) < b ∧ (s : Int) < H
def PQ (b H c : Int) : Nat → Nat → Prop := fun f s => ((f : Int) < b ∧ (s : Int) < H) ∨ ((f : Int) = b ∧ (s : Int) < c)
theorem PQ_step {b H c : Int} (hb : 0 ≤ b) (hc : 0 ≤ c) : ∀ x y : Nat, PQ b H (c + 1) x y ↔ (PQ b H c x y ∨ (x = b.toNat ∧ y = c.toNat)) := by intro x y; unfold PQ; omega
theorem PQ_lt {b H c : Int} : ∀ x y : Nat, PQ b H c x y → (x : Int) < b ∨ ((x : Int) = b ∧ (y : Int) < c) := by intro x y h; unfold PQ at h; omega
theorem PO_PQ {b H : Int} : ∀ x y : Nat, PO b H x y ↔ PQ b H 0 x y := by intro x y; unfold PO PQ; omega
theorem PQ_PO {b H c : Int} (hc : c = H) : ∀ x y : Nat, PQ b H c x y ↔ PO (b + 1) H x y := by intro x y; unfold PO PQ; omega
theorem PO_end {b H : Int} (hb : b = H) : ∀ x y : Nat, PO b H x y ↔ (x < H.toNat ∧ y < H.toNat) := by intro x y; unfold PO; omega
theorem MI_0 {F S : Nat → Prop} {fi se a b H : Int} : MI F S fi se 3 a b (PO 0 H) := Or.inl ⟨rfl, fun f s h => by unfold PO at h; omega⟩
/-- what the reference's search does to a line -/
def MDS (F S : Nat → Bool) (n i : Nat) (A B : Nat → Int32) (v : Int) (A' B' : Nat → Int32) : Prop := ∃ few a b : Int, MI (fun h => F h = true) (fun h => S h = true) (A i).toInt (B i).toInt few a b (fun f s => f < n ∧ s < n) ∧ ((few = 3 ∧ v = 0 ∧ A' = A ∧ B' = B) ∨ (few ≠ 3 ∧ v = 1 ∧ (∀ j, j ≠ i → A' j = A j ∧ B' j = B j) ∧ (A' i).toInt = a ∧ (B' i).toInt = b))
theorem MDS_end {F S : Nat → Bool} {n i : Nat} {A B A' B' : Nat → Int32} {v lf ls : Int} (h : MDS F S n i A B v A' B') (hf : lst (fun h => F h = true) n lf) (hs : lst (fun h => S h = true) n ls) (hfi : 0 ≤ (A i).toInt ∧ (A i).toInt < n) (hse : 0 ≤ (B i).toInt ∧ (B i).toInt < n) (hno : ¬ ((F ((A i).toInt).toNat && S ((B i).toInt).toNat) = true)) :
    (v = 0 ∧ (lf = -1 ∨ ls = -1) ∧ A' = A ∧ B' = B) ∨ (v = 1 ∧ (lf ≠ -1 ∧ ls ≠ -1) ∧ (∀ j, j ≠ i → A' j = A j ∧ B' j = B j) ∧ ((F ((A i).toInt).toNat = true ∧ (A' i).toInt = (A i).toInt) ∨ (¬ (F ((A i).toInt).toNat = true) ∧ (A' i).toInt = lf)) ∧ ((S ((B i).toInt).toNat = true ∧ (B' i).toInt = (B i).toInt) ∨ (¬ (S ((B i).toInt).toNat = true) ∧ (B' i).toInt = ls))) := by
  obtain ⟨few, a, b, hm, hr⟩ := h
  have e := MI_end hm hf hs hfi hse (fun z => hno (by rw [Bool.and_eq_true]; exact z))
  rcases hr with ⟨r1, r2, r3, r4⟩ | ⟨r1, r2, r3, r4, r5⟩
  · rcases e with ⟨e1, e2⟩ | ⟨e1, _⟩
    · exact Or.inl ⟨r2, e2, r3, r4⟩
    · exact absurd r1 e1
  · rcases e with ⟨e1, e2⟩ | ⟨e1, e2, e3, e4, e5⟩
    · exact absurd e1 r1
    · rw [r4, r5]
      exact Or.inr ⟨r2, ⟨e2, e3⟩, r3, e4, e5⟩
/-- halves, names and metre are such as can be told -/
def VAL (M : Mem) : Prop := (∀ h : Nat, (h : Int) < (M.1 47 11).toInt → (1 ≤ (M.1 48 h).toInt ∧ (M.1 48 h).toInt ≤ 8) ∧ (0 ≤ (M.1 49 h).toInt ∧ (M.1 49 h).toInt < sh (M.1 48 h)) ∧ (-1 ≤ (M.1 50 h).toInt ∧ (M.1 50 h).toInt ≤ (M.1 48 h).toInt)) ∧ (∀ n : Nat, n < 10 → (1 ≤ (M.1 51 n).toInt ∧ (M.1 51 n).toInt ≤ 4) ∧ (0 ≤ (M.1 52 n).toInt ∧ (M.1 52 n).toInt < sh (M.1 51 n))) ∧ ((1 ≤ (M.1 58 0).toInt ∧ (M.1 58 0).toInt ≤ 12) ∧ (0 ≤ (M.1 58 2).toInt ∧ (M.1 58 2).toInt ≤ 16777215))
/-- the lines' halves are told ones -/
def VLN (M : Mem) : Prop := ∀ l : Nat, (l : Int) < (M.1 47 12).toInt → (M.1 53 l).toInt < (M.1 47 11).toInt ∧ (M.1 54 l).toInt < (M.1 47 11).toInt
theorem scM_eq {M : Mem} (hv : VAL M) {f s n : Nat} (hf : (f : Int) < (M.1 47 11).toInt) (hn : n < 10) : scM M f s n = (FM M f n && SM M s n) := by
  obtain ⟨h1, h2, h3, h4⟩ := hv
  obtain ⟨a1, a2, a3⟩ := h1 f hf
  obtain ⟨b1, b2⟩ := h2 n hn
  exact scanb_eq h3 h4 (fun i hi hl => hvF_hi a1 a2 a3 b1 b2 hi hl)
def vmW (W : List (Nat × Nat)) : Bool := noW W 48 && (noW W 49 && (noW W 50 && (noW W 51 && (noW W 52 && noW W 58))))
theorem FM_fr {W : List (Nat × Nat)} {M M' : Mem} (fr : Fr W M M') (h : vmW W = true) : FM M' = FM M ∧ SM M' = SM M := by
  unfold vmW at h
  simp only [Bool.and_eq_true] at h
  obtain ⟨h2, h3, h4, h5, h6, h12⟩ := h
  constructor
  · funext a n; unfold FM; rw [row_fr fr h2, row_fr fr h3, row_fr fr h4, row_fr fr h5, row_fr fr h6, row_fr fr h12]
  · funext a n; unfold SM; rw [row_fr fr h2, row_fr fr h3, row_fr fr h4, row_fr fr h5, row_fr fr h6, row_fr fr h12]
theorem VAL_fr {W : List (Nat × Nat)} {M M' : Mem} (hv : VAL M) (fr : Fr W M M') (h : vmW W = true) (h11 : inW W 47 11 = false) : VAL M' := by
  unfold vmW at h
  simp only [Bool.and_eq_true] at h
  obtain ⟨h2, h3, h4, h5, h6, h12⟩ := h
  unfold VAL
  rw [row_fr fr h2, row_fr fr h3, row_fr fr h4, row_fr fr h5, row_fr fr h6, row_fr fr h12, fr.at 47 11 h11]
  exact hv
/-- the swap of a hero, told whole -/
def SWP (F S : Nat → Bool) (nh nl : Nat) (h o : Int) (H A B H' A' B' : Nat → Int32) (c : Int) (L : Nat → Int32) (a : Int) : Prop := ∃ lf ls : Int, lst (fun k => F k = true) nh lf ∧ lst (fun k => S k = true) nh ls ∧ a = (ctb (men (swN F S h H A B) lf ls) nl : Nat) ∧ SW F S lf ls h o H A B H' A' B' nl ∧ BR (brk (swN F S h H A B) lf ls) c L nl
theorem ctb_surj {p : Nat → Bool} : ∀ (n k : Nat), k < ctb p n → ∃ j, j < n ∧ p j = true ∧ ctb p j = k
  | 0, k, h => absurd h (Nat.not_lt_zero _)
  | n + 1, k, h => by
    have e : ctb p (n + 1) = ctb p n + (if p n = true then 1 else 0) := rfl
    by_cases c : k < ctb p n
    · obtain ⟨j, a, b, d⟩ := ctb_surj n k c
      exact ⟨j, by omega, b, d⟩
    · by_cases q : p n = true
      · rw [if_pos q] at e
        exact ⟨n, by omega, q, by omega⟩
      · rw [if_neg q] at e; omega
theorem SWP_eq {F S F' S' : Nat → Bool} {nh nl : Nat} {h o c c' a a' : Int} {H A B H1 A1 B1 L G C D G1 C1 D1 K : Nat → Int32} (p : SWP F S nh nl h o H A B H1 A1 B1 c L a) (p' : SWP F' S' nh nl h o G C D G1 C1 D1 c' K a') (eF : ∀ k, k < 40 → F k = F' k) (eS : ∀ k, k < 40 → S k = S' k) (hnh : nh ≤ 40) (hnl : nl ≤ 40) (eH : ∀ j, j < 40 → H j = G j) (eA : ∀ j, j < 40 → A j = C j) (eB : ∀ j, j < 40 → B j = D j) (rA : ∀ j, j < 40 → 0 ≤ (A j).toInt ∧ (A j).toInt < 40) (rB : ∀ j, j < 40 → 0 ≤ (B j).toInt ∧ (B j).toInt < 40) :
    a = a' ∧ c = c' ∧ (∀ j, j < 40 → H1 j = G1 j) ∧ (∀ j, j < 40 → A1 j = C1 j) ∧ (∀ j, j < 40 → B1 j = D1 j) ∧ (∀ j : Nat, (j : Int) < c → L j = K j) := by
  obtain ⟨lf, ls, x1, x2, x3, x4, x5⟩ := p
  obtain ⟨mf, ms, y1, y2, y3, y4, y5⟩ := p'
  have ef : lf = mf := lst_one (fun j hj => by show F j = true ↔ F' j = true; rw [eF j (by omega)]) x1 y1
  have es : ls = ms := lst_one (fun j hj => by show S j = true ↔ S' j = true; rw [eS j (by omega)]) x2 y2
  subst ef; subst es
  have eN : ∀ j, j < 40 → swN F S h H A B j = swN F' S' h G C D j := fun j hj => by
    have r1 := rA j hj
    have r2 := rB j hj
    unfold swN
    rw [eF _ (by omega), eS _ (by omega), eH j hj, eA j hj, eB j hj]
  have eb : ∀ j, j < 40 → brk (swN F S h H A B) lf ls j = brk (swN F' S' h G C D) lf ls j := fun j hj => by unfold brk; rw [eN j hj]
  have em : ∀ j, j < 40 → men (swN F S h H A B) lf ls j = men (swN F' S' h G C D) lf ls j := fun j hj => by unfold men; rw [eN j hj]
  have ec : ∀ m, m ≤ 40 → ctb (brk (swN F S h H A B) lf ls) m = ctb (brk (swN F' S' h G C D) lf ls) m := fun m hm => ctb_cong (fun k hk => eb k (by omega))
  have ecc : c = c' := by rw [x5.1, y5.1, ec nl hnl]
  refine ⟨?_, ecc, fun j hj => ?_, fun j hj => ?_, fun j hj => ?_, fun j hj => ?_⟩
  · rw [x3, y3, ctb_cong (fun k hk => em k (by omega))]
  · have u := (x4 j hj).1
    have v := (y4 j hj).1
    rw [← eH j hj] at v
    exact Int32.toInt_inj.mp (u.trans v.symm)
  · have u := (x4 j hj).2.1
    have v := (y4 j hj).2.1
    have r1 := rA j hj
    rw [← eN j hj, ← eA j hj, ← eF _ (by omega)] at v
    exact Int32.toInt_inj.mp (u.trans v.symm)
  · have u := (x4 j hj).2.2
    have v := (y4 j hj).2.2
    have r1 := rB j hj
    rw [← eN j hj, ← eB j hj, ← eS _ (by omega)] at v
    exact Int32.toInt_inj.mp (u.trans v.symm)
  · have hc := x5.1
    obtain ⟨i, i1, i2, i3⟩ := ctb_surj (p := brk (swN F S h H A B) lf ls) nl j (by omega)
    have u := x5.2 i i1 i2
    have v := y5.2 i i1 (by rw [← eb i (by omega)]; exact i2)
    rw [← ec i (by omega), i3] at v
    rw [i3] at u
    exact Int32.toInt_inj.mp (u.trans v.symm)
theorem bs_put {n a : Nat} {z : Int64} {R R' : Nat → Int64} (hz : ∀ l, l < 64 → b64 z l = if l = n then true else b64 (R a) l) (h1 : ∀ s, s ≠ a → R' s = R s) (h2 : R' a = z) : ∀ s l : Nat, l < 64 → b64 (R' s) l = if s = a ∧ l = n then true else b64 (R s) l := by
  intro s l hl
  by_cases q : s = a
  · subst q
    rw [h2, hz l hl]
    by_cases r : l = n
    · rw [if_pos r, if_pos ⟨rfl, r⟩]
    · rw [if_neg r, if_neg (fun z => r z.2)]
  · rw [h1 s q, if_neg (fun z => q z.1)]
end
