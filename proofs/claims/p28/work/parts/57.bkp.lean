section
theorem tn_cast {a : Int} (h : 0 ≤ a) : ((a.toNat : Nat) : Int) = a := by omega
theorem fill_step {M : Mem} {k : Nat} {x : Int32} {i : Int} (h : ∀ j : Nat, (j : Int) < i → M.1 k j = x) (hi : 0 ≤ i) : ∀ j : Nat, (j : Int) < i + 1 → (ui M k i.toNat x).1 k j = x := by
  intro j hj
  by_cases q : j = i.toNat
  · rw [q, ui_eq]
  · rw [ui_nj q]; exact h j (by omega)
theorem SKq_ret {w li y t : Nat → Int} {s yr : Int} {nw : Nat → Int} {bt : Nat → Bool} {n m : Nat} (h : SKq w li y t s yr nw bt n) (hm : n = m) : ∀ l : Nat, l < 64 → bt l = hsl w li y t s l yr m := by
  subst hm; exact h.2
theorem opn_step {M : Mem} {x : Int64} {i : Int} {Q : Int → Int → Bool} (h : ∀ s : Nat, (s : Int) < i → ∀ l : Nat, l < 64 → b64 (M.2 31 s) l = Q s l) (hi : 0 ≤ i) (hx : ∀ l : Nat, l < 64 → b64 x l = Q i l) : ∀ s : Nat, (s : Int) < i + 1 → ∀ l : Nat, l < 64 → b64 ((ul M 31 i.toNat x).2 31 s) l = Q s l := by
  intro s hs l hl
  by_cases q : s = i.toNat
  · rw [q, ul_eq, hx l hl, show ((i.toNat : Nat) : Int) = i by omega]
  · rw [ul_nj q]; exact h s (by omega) l hl
/-- how many lines just one of two opened stocks has -/
def cxU (M : Mem) (a b : Nat) : Int := ((ctb (fun l => b64 (M.2 31 a) l != b64 (M.2 31 b) l) 64 : Nat) : Int)
theorem cxU_rng (M : Mem) (a b : Nat) : 0 ≤ cxU M a b ∧ cxU M a b ≤ 64 := by
  have := ctb_le (fun l => b64 (M.2 31 a) l != b64 (M.2 31 b) l) 64
  unfold cxU; omega
theorem cxU_of {M : Mem} {a b : Nat} {x : Int64} {v : Int} (hx : x = M.2 31 a ^^^ M.2 31 b) (h : v = (ctb (b64 x) 64 : Nat)) : v = cxU M a b := by
  rw [h]
  unfold cxU
  rw [ctb_cong (q := fun l => b64 (M.2 31 a) l != b64 (M.2 31 b) l) (fun k _ => by rw [hx]; exact b64_xor _ _ k)]
def mstX (M : Mem) (s n : Nat) : Int := mst (eW M 24) (fun k => cxU M k s) (eW M 24 s) n
theorem mstX_rng (M : Mem) (s n : Nat) : -1 ≤ mstX M s n ∧ mstX M s n < n := mst_rng _ _ _ n
theorem mx_0 {M : Mem} {s : Nat} : ((-5 : Int) = -5 ∧ mstX M s (0 : Int).toNat < 0) ∨ (0 ≤ (-5 : Int) ∧ (-5 : Int) = mstX M s (0 : Int).toNat) := Or.inl ⟨rfl, by show (-1 : Int) < 0; decide⟩
theorem mx_take {M : Mem} {b c : Int} {s n m : Nat} (i2 : (b = -5 ∧ mstX M s n < 0) ∨ (0 ≤ b ∧ b = mstX M s n)) (h1 : (M.1 24 n).toInt < (M.1 24 s).toInt) (h2 : b = -5 ∨ cxU M n s < cxU M b.toNat s ∨ (cxU M n s = cxU M b.toNat s ∧ (M.1 24 b.toNat).toInt < (M.1 24 n).toInt)) (hm : m = n + 1) (hc : c = n) : (c = -5 ∧ mstX M s m < 0) ∨ (0 ≤ c ∧ c = mstX M s m) := by
  right
  refine ⟨by omega, mst_take (b := mstX M s n) rfl h1 ?_ hm hc⟩
  rcases i2 with ⟨q1, q2⟩ | ⟨q1, q2⟩
  · exact Or.inl q2
  · rw [← q2]
    rcases h2 with z | z | z
    · omega
    · exact Or.inr (Or.inl z)
    · exact Or.inr (Or.inr z)
theorem mx_skip {M : Mem} {b : Int} {s n m : Nat} (i2 : (b = -5 ∧ mstX M s n < 0) ∨ (0 ≤ b ∧ b = mstX M s n)) (h : (M.1 24 s).toInt ≤ (M.1 24 n).toInt ∨ (b ≠ -5 ∧ ¬ (cxU M n s < cxU M b.toNat s ∨ (cxU M n s = cxU M b.toNat s ∧ (M.1 24 b.toNat).toInt < (M.1 24 n).toInt)))) (hm : m = n + 1) : (b = -5 ∧ mstX M s m < 0) ∨ (0 ≤ b ∧ b = mstX M s m) := by
  have e : mstX M s n = mstX M s m := by
    refine mst_skip (b := mstX M s n) rfl ?_ hm
    rcases h with z | ⟨z1, z2⟩
    · exact Or.inl z
    · right
      rcases i2 with ⟨q1, q2⟩ | ⟨q1, q2⟩
      · exact absurd q1 z1
      · rw [← q2]
        refine ⟨q1, ?_⟩
        show cxU M b.toNat s < cxU M n s ∨ (cxU M n s = cxU M b.toNat s ∧ (M.1 24 n).toInt ≤ (M.1 24 b.toNat).toInt)
        omega
  rw [← e]; exact i2
theorem cxU_unl {M' : Mem} {H : Int → Int → Bool} {n a b : Int} (hop : ∀ s : Nat, (s : Int) < n → ∀ l : Nat, l < 64 → b64 (M'.2 31 s) l = H s l) (ha : 0 ≤ a ∧ a < n) (hb : 0 ≤ b ∧ b < n) : cxU M' a.toNat b.toNat = (unl H a b 64 : Nat) := by
  unfold cxU unl
  have e : ctb (fun l => b64 (M'.2 31 a.toNat) l != b64 (M'.2 31 b.toNat) l) 64 = ctb (fun l => H a l != H b l) 64 := ctb_cong (fun l hl => by
    show (b64 (M'.2 31 a.toNat) l != b64 (M'.2 31 b.toNat) l) = (H a l != H b l)
    rw [hop a.toNat (by omega) l hl, hop b.toNat (by omega) l hl, tn_cast ha.1, tn_cast hb.1])
  rw [e]
theorem mstX_open {M M' : Mem} {H : Int → Int → Bool} {n a : Int} (hop : ∀ s : Nat, (s : Int) < n → ∀ l : Nat, l < 64 → b64 (M'.2 31 s) l = H s l) (h24 : eW M' 24 = eW M 24) (h232 : (M'.1 23 2).toInt = n) (ha : 0 ≤ a ∧ a < n) : mstX M' a.toNat ((M'.1 23 2).toInt).toNat = mst (eW M 24) (fun k => ((unl H k a 64 : Nat) : Int)) (eW M 24 a.toNat) n.toNat := by
  unfold mstX
  rw [h24, h232]
  apply mst_cong
  intro k hk
  refine ⟨rfl, ?_⟩
  have := cxU_unl (a := k) (b := a) hop (by omega) ha
  rw [show ((k : Int)).toNat = k by omega] at this
  exact this
/-- changes from the master, in an opened book -/
def lnX (M : Mem) (s : Nat) : Int := if mstX M s ((M.1 23 2).toInt).toNat < 0 then 0 else cxU M s (mstX M s ((M.1 23 2).toInt).toNat).toNat
theorem lnX_rng (M : Mem) (n : Nat) : 0 ≤ lng (lnX M) n ∧ lng (lnX M) n ≤ n * 64 := lng_rng (fun k _ => by
  unfold lnX
  split
  · omega
  · exact cxU_rng _ _ _)
theorem lng_next {f : Nat → Int} {v i d : Int} {m : Nat} (h : v = lng f i.toNat) (hd : f i.toNat = d) (hm : m = i.toNat + 1) : v + d = lng f m := by
  subst hm
  show v + d = lng f i.toNat + f i.toNat
  rw [h, hd]
theorem lng_skip {f : Nat → Int} {v i : Int} {m : Nat} (h : v = lng f i.toNat) (hd : f i.toNat = 0) (hm : m = i.toNat + 1) : v = lng f m := by
  have := lng_next h hd hm
  omega
theorem lnX_n {M : Mem} {s : Nat} (h : mstX M s ((M.1 23 2).toInt).toNat < 0) : lnX M s = 0 := if_pos h
theorem lnX_y {M : Mem} {s : Nat} {a d : Int} (h0 : 0 ≤ a) (h : a = mstX M s ((M.1 23 2).toInt).toNat) (hd : d = cxU M s a.toNat) : lnX M s = d := by
  unfold lnX
  rw [← h, if_neg (by omega), hd]
/-- changes from the master of s, by births and stocks -/
def lnH (bn : Nat → Int) (H : Int → Int → Bool) (N n s : Nat) : Int := if mst bn (fun k => ((unl H k s N : Nat) : Int)) (bn s) n < 0 then 0 else ((unl H s (mst bn (fun k => ((unl H k s N : Nat) : Int)) (bn s) n) N : Nat) : Int)
theorem lnX_open {M M' : Mem} {H : Int → Int → Bool} {n : Int} {s : Nat} (hop : ∀ s : Nat, (s : Int) < n → ∀ l : Nat, l < 64 → b64 (M'.2 31 s) l = H s l) (h24 : eW M' 24 = eW M 24) (h232 : (M'.1 23 2).toInt = n) (hs : (s : Int) < n) : lnX M' s = lnH (eW M 24) H 64 n.toNat s := by
  have e := mstX_open (a := s) hop h24 h232 (by omega)
  rw [show ((s : Int)).toNat = s by omega] at e
  unfold lnX lnH
  rw [e]
  have r := mst_rng (eW M 24) (fun k => ((unl H k s 64 : Nat) : Int)) (eW M 24 s) n.toNat
  generalize mst (eW M 24) (fun k => ((unl H k s 64 : Nat) : Int)) (eW M 24 s) n.toNat = m at r
  by_cases q : m < 0
  · rw [if_pos q, if_pos q]
  · rw [if_neg q, if_neg q]
    have := cxU_unl (a := s) (b := m) hop (by omega) (by omega)
    rw [show ((s : Int)).toNat = s by omega] at this
    exact this
/-- a loan: what two have with a slip, and no master of theirs -/
def loH (H : Int → Int → Bool) (sl : Nat → Bool) (a b ma mb : Int) (l : Nat) : Bool := (((H a l && H b l) && sl l) && !(decide (0 ≤ ma) && H ma l)) && !(decide (0 ≤ mb) && H mb l)
theorem loan_bits {sa sb sl ma mb z1 z2 z3 z4 z5 z6 : Int64} (e1 : z1 = sa &&& sb) (e2 : z2 = z1 &&& sl) (e3 : z3 = ma ^^^ (-1)) (e4 : z4 = z2 &&& z3) (e5 : z5 = mb ^^^ (-1)) (e6 : z6 = z4 &&& z5) {l : Nat} (hl : l < 64) : b64 z6 l = ((((b64 sa l && b64 sb l) && b64 sl l) && !(b64 ma l)) && !(b64 mb l)) := by
  rw [e6, b64_and, e5, b64_not _ hl, e4, b64_and, e3, b64_not _ hl, e2, b64_and, e1, b64_and]
/-- the reference's: unlike, master -/
def uM (M : Mem) (a b y : Int) (up : Nat) : Int := ((unl (fun s l => hsM M s l y up) a b ((M.1 47 12).toInt).toNat : Nat) : Int)
def mstM (M : Mem) (s y : Int) (up n : Nat) : Int := mst (eW M 79) (fun k => uM M s k y up) (eW M 79 s.toNat) n
theorem mstM_rng (M : Mem) (s y : Int) (up n : Nat) : -1 ≤ mstM M s y up n ∧ mstM M s y up n < n := mst_rng _ _ _ n
def lnM (M : Mem) (y : Int) (up s : Nat) : Int := if mstM M s y up ((M.1 47 52).toInt).toNat < 0 then 0 else uM M s (mstM M s y up ((M.1 47 52).toInt).toNat) y up
theorem uM_rng (M : Mem) (a b y : Int) (up : Nat) (h : (M.1 47 12).toInt ≤ 40) : 0 ≤ uM M a b y up ∧ uM M a b y up ≤ 40 := by
  have := ctb_le (fun l : Nat => hsM M a l y up != hsM M b l y up) ((M.1 47 12).toInt).toNat
  have e : uM M a b y up = ((ctb (fun l : Nat => hsM M a l y up != hsM M b l y up) ((M.1 47 12).toInt).toNat : Nat) : Int) := rfl
  rw [e]; omega
theorem lnM_rng (M : Mem) (y : Int) (up n : Nat) (h : (M.1 47 12).toInt ≤ 40) : 0 ≤ lng (lnM M y up) n ∧ lng (lnM M y up) n ≤ n * 40 := lng_rng (fun k _ => by
  unfold lnM
  split
  · omega
  · exact uM_rng _ _ _ _ _ h)
theorem lnM_n {M : Mem} {y i : Int} {up : Nat} (hi : 0 ≤ i) (h : mstM M i y up ((M.1 47 52).toInt).toNat < 0) : lnM M y up i.toNat = 0 := by
  unfold lnM
  rw [tn_cast hi, if_pos h]
theorem lnM_y {M : Mem} {y i a d : Int} {up : Nat} (hi : 0 ≤ i) (h0 : 0 ≤ a) (h : a = mstM M i y up ((M.1 47 52).toInt).toNat) (hd : d = uM M i a y up) : lnM M y up i.toNat = d := by
  unfold lnM
  rw [tn_cast hi, ← h, if_neg (by omega), hd]
theorem ctb_y {p : Nat → Bool} {v l : Int} {m : Nat} (h : v = (ctb p l.toNat : Nat)) (hl : 0 ≤ l) (hp : p l.toNat = true) (hm : m = l.toNat + 1) : v + 1 = (ctb p m : Nat) := by
  subst hm
  show v + 1 = ((ctb p l.toNat + _ : Nat) : Int)
  rw [if_pos hp]; omega
theorem ctb_n {p : Nat → Bool} {v l : Int} {m : Nat} (h : v = (ctb p l.toNat : Nat)) (hl : 0 ≤ l) (hp : p l.toNat = false) (hm : m = l.toNat + 1) : v + 0 = (ctb p m : Nat) := by
  subst hm
  show v + 0 = ((ctb p l.toNat + _ : Nat) : Int)
  rw [if_neg (by rw [hp]; decide)]; omega
theorem ctbI_y {q : Int → Bool} {v l : Int} {m : Nat} (h : v = (ctb (fun k : Nat => q k) l.toNat : Nat)) (hl : 0 ≤ l) (hp : q l = true) (hm : m = l.toNat + 1) : v + 1 = (ctb (fun k : Nat => q k) m : Nat) := ctb_y h hl (by show q (l.toNat : Nat) = true; rw [show ((l.toNat : Nat) : Int) = l by omega]; exact hp) hm
theorem ctbI_n {q : Int → Bool} {v l : Int} {m : Nat} (h : v = (ctb (fun k : Nat => q k) l.toNat : Nat)) (hl : 0 ≤ l) (hp : ¬ (q l = true)) (hm : m = l.toNat + 1) : v + 0 = (ctb (fun k : Nat => q k) m : Nat) := ctb_n h hl (by show q (l.toNat : Nat) = false; rw [show ((l.toNat : Nat) : Int) = l by omega]; exact Bool.eq_false_iff.mpr hp) hm
theorem bb_ne {p q : Bool} {a b : Int} (hA : (a = 1 ∧ (p = true)) ∨ (a = 0 ∧ ¬ (p = true))) (hB : (b = 1 ∧ (q = true)) ∨ (b = 0 ∧ ¬ (q = true))) (h : a ≠ b) : (p != q) = true := by
  cases p <;> cases q <;> simp_all
theorem bb_eq {p q : Bool} {a b : Int} (hA : (a = 1 ∧ (p = true)) ∨ (a = 0 ∧ ¬ (p = true))) (hB : (b = 1 ∧ (q = true)) ∨ (b = 0 ∧ ¬ (q = true))) (h : a = b) : ¬ ((p != q) = true) := by
  cases p <;> cases q <;> simp_all
theorem mm_take {M : Mem} {b i s y : Int} {up m : Nat} (h : b = mstM M s y up i.toNat) (hi : 0 ≤ i) (h1 : (M.1 79 i.toNat).toInt < (M.1 79 s.toNat).toInt) (h2 : b < 0 ∨ uM M s i y up < uM M s b y up ∨ (uM M s i y up = uM M s b y up ∧ (M.1 79 b.toNat).toInt < (M.1 79 i.toNat).toInt)) (hm : m = i.toNat + 1) : i = mstM M s y up m := by
  refine mst_take (b := b) h h1 ?_ hm (by omega)
  rcases h2 with z | z | z
  · exact Or.inl z
  · by_cases q : b < 0
    · exact Or.inl q
    · right; left
      show uM M s (i.toNat : Nat) y up < uM M s (b.toNat : Nat) y up
      rw [tn_cast hi, tn_cast (by omega)]; exact z
  · by_cases q : b < 0
    · exact Or.inl q
    · right; right
      refine ⟨?_, z.2⟩
      show uM M s (i.toNat : Nat) y up = uM M s (b.toNat : Nat) y up
      rw [tn_cast hi, tn_cast (by omega)]; exact z.1
theorem mm_skip {M : Mem} {b i s y : Int} {up m : Nat} (h : b = mstM M s y up i.toNat) (hi : 0 ≤ i) (h1 : (M.1 79 s.toNat).toInt ≤ (M.1 79 i.toNat).toInt ∨ (0 ≤ b ∧ (uM M s b y up < uM M s i y up ∨ (uM M s i y up = uM M s b y up ∧ (M.1 79 i.toNat).toInt ≤ (M.1 79 b.toNat).toInt)))) (hm : m = i.toNat + 1) : b = mstM M s y up m := by
  refine mst_skip (b := b) h ?_ hm
  rcases h1 with z | ⟨z0, z⟩
  · exact Or.inl z
  · right
    refine ⟨z0, ?_⟩
    show uM M s (b.toNat : Nat) y up < uM M s (i.toNat : Nat) y up ∨ (uM M s (i.toNat : Nat) y up = uM M s (b.toNat : Nat) y up ∧ (M.1 79 i.toNat).toInt ≤ (M.1 79 b.toNat).toInt)
    rw [tn_cast hi, tn_cast z0]; exact z
theorem upk_of {k e a : Int} (h : (k < 0 ∧ a = e) ∨ (0 ≤ k ∧ a = k)) : a = upk k e := by
  rcases h with h | h
  · rw [upk_n h.1]; exact h.2
  · rw [upk_y h.1]; exact h.2
end
