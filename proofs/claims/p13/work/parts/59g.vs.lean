section
/-! ===== Int32 by its bits (rows of the kit's BITS.to-paste) ===== -/
def bt (x : Int32) (i : Nat) : Bool := x.toBitVec.getLsbD i
theorem b_ext {x y : Int32} (h : ∀ i, i < 32 → bt x i = bt y i) : x = y := Int32.toBitVec_inj.mp (BitVec.eq_of_getLsbD_eq (fun i hi => h i hi))
theorem b_or (x y : Int32) (i : Nat) : bt (x ||| y) i = (bt x i || bt y i) := by unfold bt; rw [Int32.toBitVec_or, BitVec.getLsbD_or]
theorem b_and (x y : Int32) (i : Nat) : bt (x &&& y) i = (bt x i && bt y i) := by unfold bt; rw [Int32.toBitVec_and, BitVec.getLsbD_and]
theorem b_xor (x y : Int32) (i : Nat) : bt (x ^^^ y) i = (bt x i ^^ bt y i) := by unfold bt; rw [Int32.toBitVec_xor, BitVec.getLsbD_xor]
theorem b_big {x : Int32} {i : Nat} (h : 32 ≤ i) : bt x i = false := BitVec.getLsbD_of_ge _ _ h
theorem b_m1 : ∀ i, i < 32 → bt (-1) i = true := by decide +kernel
theorem b_0 (i : Nat) : bt 0 i = false := BitVec.getLsbD_zero
theorem s_l : ∀ n, n < 32 → ((nI n &&& 31).toBitVec.smod 32).toNat = n := by decide +kernel
theorem b_shl (n : Nat) (hn : n < 32) (x : Int32) {i : Nat} (hi : i < 32) : bt (x <<< (nI n &&& 31)) i = (decide (n ≤ i) && bt x (i - n)) := by
  unfold bt
  rw [Int32.toBitVec_shiftLeft]
  show (x.toBitVec <<< ((nI n &&& 31).toBitVec.smod 32).toNat).getLsbD i = _
  rw [s_l n hn, BitVec.getLsbD_shiftLeft]
  rcases Nat.lt_or_ge i n with h | h
  · simp [h, Nat.not_le.mpr h]
  · simp [hi, h, Nat.not_lt.mpr h]
theorem b_sshr (n : Nat) (hn : n < 32) (x : Int32) {i : Nat} (hi : i < 32) : bt (x >>> (nI n &&& 31)) i = if n + i < 32 then bt x (n + i) else bt x 31 := by
  unfold bt
  rw [Int32.toBitVec_shiftRight]
  show (x.toBitVec.sshiftRight ((nI n &&& 31).toBitVec.smod 32).toNat).getLsbD i = _
  rw [s_l n hn, BitVec.getLsbD_sshiftRight, BitVec.msb_eq_getLsbD_last]
  simp [hi]
theorem b_mask : ∀ n, n < 13 → ∀ i, i < 32 → bt (((1 : Int32) <<< (nI n &&& 31)) - 1) i = decide (i < n) := by decide +kernel
theorem b_nI {k : Nat} (hk : k < 2 ^ 32) (i : Nat) : bt (nI k) i = k.testBit i := by
  show (BitVec.ofNat 32 k).toNat.testBit i = _
  rw [BitVec.toNat_ofNat, Nat.mod_eq_of_lt hk]
theorem b_hi {x : Int32} {n : Nat} (h : 0 ≤ x.toInt ∧ x.toInt < (2 ^ n : Nat)) {i : Nat} (hi : n ≤ i) : bt x i = false := by
  obtain ⟨e, l⟩ := nI_back (x := x) rfl h.1
  rw [e, b_nI (by omega)]
  apply Nat.testBit_lt_two_pow
  have := Nat.pow_le_pow_right (show 0 < 2 by decide) hi
  omega
theorem andn0 {x y : Int32} : x &&& (y ^^^ (-1)) = 0 ↔ ∀ i, i < 32 → bt x i = true → bt y i = true := by
  constructor
  · intro h i hi hx
    have e := congrArg (fun z => bt z i) h
    simp only [b_and, b_xor, b_0, b_m1 i hi, hx, Bool.true_and] at e
    cases hy : bt y i with
    | true => rfl
    | false => rw [hy] at e; cases e
  · intro h
    apply b_ext
    intro i hi
    rw [b_and, b_xor, b_0, b_m1 i hi]
    cases hx : bt x i with
    | false => rfl
    | true => rw [h i hi hx]; rfl
theorem i0 {x : Int32} (h : x.toInt = 0) : x = 0 := Int32.toInt_inj.mp (by rw [h]; decide)
/-- the beats and the heavy ones of a half, sung of a name -/
def loF (b g nb : Int32) : Int32 := if g.toInt < 0 then b else b + nb
def hvF (h g nh nb : Int32) : Int32 := if g.toInt < 0 then h else ((h &&& (((1 : Int32) <<< (g &&& 31)) - 1)) ||| (nh <<< (g &&& 31))) ||| ((h >>> (g &&& 31)) <<< ((g + nb) &&& 31))
theorem sh_pow : ∀ n, n < 13 → sh (nI n) = (2 ^ n : Nat) := by decide +kernel
theorem sh_pow' {x : Int32} {n : Nat} (h : x.toInt = n) (hn : n < 13) : sh x = (2 ^ n : Nat) := by
  obtain ⟨e, -⟩ := nI_back h (by omega)
  rw [e, show ((n : Int)).toNat = n by omega]
  exact sh_pow n hn
/-- nothing is heavy beyond the last beat -/
theorem hvF_hi {b h g nb nh : Int32} (hb : 1 ≤ b.toInt ∧ b.toInt ≤ 8) (hh : 0 ≤ h.toInt ∧ h.toInt < sh b) (hg : -1 ≤ g.toInt ∧ g.toInt ≤ b.toInt) (hnb : 1 ≤ nb.toInt ∧ nb.toInt ≤ 4) (hnh : 0 ≤ nh.toInt ∧ nh.toInt < sh nb) {i : Nat} (hi : i < 32) (hl : (loF b g nb).toInt ≤ i) : bt (hvF h g nh nb) i = false := by
  have e1 := sh_pow' (x := b) (n := b.toInt.toNat) (by omega) (by omega)
  have e2 := sh_pow' (x := nb) (n := nb.toInt.toNat) (by omega) (by omega)
  rw [e1] at hh
  rw [e2] at hnh
  unfold hvF
  unfold loF at hl
  by_cases q : g.toInt < 0
  · rw [if_pos q] at hl ⊢
    exact b_hi hh (by omega)
  · rw [if_neg q] at hl ⊢
    have hs : (b + nb).toInt = b.toInt + nb.toInt := add_nw rfl rfl rfl (by omega)
    have hs2 : (g + nb).toInt = g.toInt + nb.toInt := add_nw rfl rfl rfl (by omega)
    rw [hs] at hl
    obtain ⟨eg, -⟩ := nI_back (x := g) rfl (by omega)
    obtain ⟨eq, -⟩ := nI_back hs2 (by omega)
    rw [b_or, b_or, b_and, b_hi (i := i) hh (by omega), eq]
    rw [b_shl _ (by omega) _ hi]
    have z1 : bt (nh <<< (g &&& 31)) i = false := by
      rw [eg, b_shl _ (by omega) _ hi, b_hi (i := i - g.toInt.toNat) hnh (by omega)]
      simp
    rw [z1]
    have z2 : ∀ j : Nat, j < 32 → b.toInt ≤ g.toInt + j → bt (h >>> (g &&& 31)) j = false := by
      intro j hj hbj
      rw [eg, b_sshr _ (by omega) _ hj]
      split
      · exact b_hi hh (by omega)
      · exact b_hi hh (by omega)
    rw [z2 _ (by omega) (by omega)]
    simp
/-- fits as a first half, as a second half; scans -/
def ffb (lo hv : Int32) (mt : Nat → Int32) : Bool := decide (lo.toInt = (mt 0).toInt) && decide ((mt 2 &&& (((1 : Int32) <<< (mt 0 &&& 31)) - 1)) &&& (hv ^^^ (-1)) = 0)
def fsb (lo hv : Int32) (mt : Nat → Int32) : Bool := decide (lo.toInt = (mt 1).toInt) && decide ((mt 2 >>> (mt 0 &&& 31)) &&& (hv ^^^ (-1)) = 0)
def scb (la ha lb hb : Int32) (mt : Nat → Int32) : Bool := decide (la.toInt = (mt 0).toInt) && (decide (lb.toInt = (mt 1).toInt) && decide (mt 2 &&& ((ha ||| (hb <<< (la &&& 31))) ^^^ (-1)) = 0))
def ffV (lo hv : Int32) (mt : Nat → Int32) : Prop := lo.toInt = (mt 0).toInt ∧ (mt 2 &&& (((1 : Int32) <<< (mt 0 &&& 31)) - 1)) &&& (hv ^^^ (-1)) = 0
def fsV (lo hv : Int32) (mt : Nat → Int32) : Prop := lo.toInt = (mt 1).toInt ∧ (mt 2 >>> (mt 0 &&& 31)) &&& (hv ^^^ (-1)) = 0
def scV (la ha lb hb : Int32) (mt : Nat → Int32) : Prop := la.toInt = (mt 0).toInt ∧ lb.toInt = (mt 1).toInt ∧ mt 2 &&& ((ha ||| (hb <<< (la &&& 31))) ^^^ (-1)) = 0
theorem ffb_iff {lo hv : Int32} {mt : Nat → Int32} : ffb lo hv mt = true ↔ ffV lo hv mt := by unfold ffb ffV; rw [Bool.and_eq_true, decide_eq_true_eq, decide_eq_true_eq]
theorem fsb_iff {lo hv : Int32} {mt : Nat → Int32} : fsb lo hv mt = true ↔ fsV lo hv mt := by unfold fsb fsV; rw [Bool.and_eq_true, decide_eq_true_eq, decide_eq_true_eq]
theorem scb_iff {la ha lb hb : Int32} {mt : Nat → Int32} : scb la ha lb hb mt = true ↔ scV la ha lb hb mt := by unfold scb scV; rw [Bool.and_eq_true, Bool.and_eq_true, decide_eq_true_eq, decide_eq_true_eq, decide_eq_true_eq]
theorem scan_eq {la ha lb hb : Int32} {mt : Nat → Int32} (hm0 : 1 ≤ (mt 0).toInt ∧ (mt 0).toInt ≤ 12) (hm2 : 0 ≤ (mt 2).toInt ∧ (mt 2).toInt ≤ 16777215) (hi : ∀ i : Nat, i < 32 → la.toInt ≤ i → bt ha i = false) : scV la ha lb hb mt ↔ ffV la ha mt ∧ fsV lb hb mt := by
  obtain ⟨e0, -⟩ := nI_back (x := mt 0) rfl (by omega)
  have h2 : bt (mt 2) 31 = false := b_hi (n := 24) ⟨hm2.1, by omega⟩ (by decide)
  unfold scV ffV fsV
  rw [andn0, andn0, andn0]
  generalize hn : (mt 0).toInt.toNat = n at e0
  have hn12 : 1 ≤ n ∧ n ≤ 12 := by omega
  constructor
  · rintro ⟨h1, h3, h4⟩
    obtain ⟨ela, -⟩ := nI_back h1 (by omega)
    rw [hn] at ela
    refine ⟨⟨h1, fun i hi' hx => ?_⟩, h3, fun i hi' hx => ?_⟩
    · rw [b_and, e0, b_mask n (by omega) i hi', Bool.and_eq_true, decide_eq_true_eq] at hx
      have z := h4 i hi' hx.1
      rw [b_or, ela, b_shl n (by omega) _ hi', decide_eq_false (by omega)] at z
      simpa using z
    · rw [e0, b_sshr n (by omega) _ hi'] at hx
      by_cases q : n + i < 32
      · rw [if_pos q] at hx
        have z := h4 (n + i) q hx
        rw [b_or, hi (n + i) q (by omega), ela, b_shl n (by omega) _ q, decide_eq_true (by omega), show n + i - n = i by omega] at z
        simpa using z
      · rw [if_neg q, h2] at hx; cases hx
  · rintro ⟨⟨h1, h3⟩, h4, h5⟩
    obtain ⟨ela, -⟩ := nI_back h1 (by omega)
    rw [hn] at ela
    refine ⟨h1, h4, fun i hi' hx => ?_⟩
    rw [b_or, ela, b_shl n (by omega) _ hi']
    by_cases q : i < n
    · rw [h3 i hi' (by rw [b_and, e0, b_mask n (by omega) i hi', hx, decide_eq_true q]; rfl)]; rfl
    · have z := h5 (i - n) (by omega) (by rw [e0, b_sshr n (by omega) _ (by omega), show n + (i - n) = i by omega, if_pos hi']; exact hx)
      rw [z, decide_eq_true (by omega)]
      simp
theorem scanb_eq {la ha lb hb : Int32} {mt : Nat → Int32} (hm0 : 1 ≤ (mt 0).toInt ∧ (mt 0).toInt ≤ 12) (hm2 : 0 ≤ (mt 2).toInt ∧ (mt 2).toInt ≤ 16777215) (hi : ∀ i : Nat, i < 32 → la.toInt ≤ i → bt ha i = false) : scb la ha lb hb mt = (ffb la ha mt && fsb lb hb mt) := by
  apply Bool.eq_iff_iff.mpr
  rw [scb_iff, Bool.and_eq_true, ffb_iff, fsb_iff]
  exact scan_eq hm0 hm2 hi
/-- the least of the first n that is so; -1: none -/
def lst (p : Nat → Prop) (n : Nat) (a : Int) : Prop := (a = -1 ∧ ∀ j, j < n → ¬ p j) ∨ (0 ≤ a ∧ a < n ∧ p a.toNat ∧ ∀ j, j < a.toNat → ¬ p j)
/-- how many other halves a pair has -/
def oth (fi se f s : Int) : Int := (if f = fi then 0 else 1) + (if s = se then 0 else 1)
/-- the reference's search for other halves, over the pairs gone through -/
def MI (F S : Nat → Prop) (fi se few a b : Int) (proc : Nat → Nat → Prop) : Prop := (few = 3 ∧ ∀ f s, proc f s → ¬ (F f ∧ S s)) ∨ (few < 3 ∧ 0 ≤ a ∧ 0 ≤ b ∧ proc a.toNat b.toNat ∧ F a.toNat ∧ S b.toNat ∧ few = oth fi se a b ∧ ∀ f s : Nat, proc f s → F f → S s → few < oth fi se f s ∨ (few = oth fi se f s ∧ (a < f ∨ (a = f ∧ b ≤ s))))
theorem oth_rng (fi se f s : Int) : 0 ≤ oth fi se f s ∧ oth fi se f s ≤ 2 := by unfold oth; split <;> split <;> omega
theorem MI_cong {F S : Nat → Prop} {fi se few a b : Int} {p q : Nat → Nat → Prop} (h : MI F S fi se few a b p) (e : ∀ f s, p f s ↔ q f s) : MI F S fi se few a b q := by
  rcases h with ⟨h1, h2⟩ | ⟨h1, h2, h3, h4, h5, h6, h7, h8⟩
  · exact Or.inl ⟨h1, fun f s z => h2 f s ((e f s).mpr z)⟩
  · exact Or.inr ⟨h1, h2, h3, (e _ _).mp h4, h5, h6, h7, fun f s z => h8 f s ((e f s).mpr z)⟩
/-- one pair more that is not taken -/
theorem MI_skip {F S : Nat → Prop} {fi se few a b f s : Int} {p q : Nat → Nat → Prop} (h : MI F S fi se few a b p) (hf : 0 ≤ f) (hs : 0 ≤ s) (hq : ∀ x y, q x y ↔ (p x y ∨ (x = f.toNat ∧ y = s.toNat))) (hl : ∀ x y : Nat, p x y → (x : Int) < f ∨ ((x : Int) = f ∧ (y : Int) < s)) (hn : few ≤ oth fi se f s ∨ ¬ (F f.toNat ∧ S s.toNat)) : MI F S fi se few a b q := by
  have hr := oth_rng fi se f s
  rcases h with ⟨h1, h2⟩ | ⟨h1, h2, h3, h4, h5, h6, h7, h8⟩
  · left
    refine ⟨h1, fun x y z w => ?_⟩
    rcases (hq x y).mp z with z | ⟨z1, z2⟩
    · exact h2 x y z w
    · subst z1; subst z2
      rcases hn with n | n
      · omega
      · exact n w
  · right
    refine ⟨h1, h2, h3, (hq _ _).mpr (Or.inl h4), h5, h6, h7, fun x y z w1 w2 => ?_⟩
    rcases (hq x y).mp z with z | ⟨z1, z2⟩
    · exact h8 x y z w1 w2
    · subst z1; subst z2
      rcases hn with n | n
      · have l := hl _ _ h4
        rw [show ((f.toNat : Nat) : Int) = f by omega, show ((s.toNat : Nat) : Int) = s by omega]
        omega
      · exact absurd ⟨w1, w2⟩ n
theorem MI_take {F S : Nat → Prop} {fi se few a b f s : Int} {p q : Nat → Nat → Prop} (h : MI F S fi se few a b p) (hf : 0 ≤ f) (hs : 0 ≤ s) (hq : ∀ x y, q x y ↔ (p x y ∨ (x = f.toNat ∧ y = s.toNat))) (hn : oth fi se f s < few) (hF : F f.toNat) (hS : S s.toNat) : MI F S fi se (oth fi se f s) f s q := by
  have hr := oth_rng fi se f s
  right
  refine ⟨by omega, hf, hs, (hq _ _).mpr (Or.inr ⟨rfl, rfl⟩), hF, hS, rfl, fun x y z w1 w2 => ?_⟩
  rcases (hq x y).mp z with z | ⟨z1, z2⟩
  · left
    rcases h with ⟨h1, h2⟩ | ⟨h1, h2, h3, h4, h5, h6, h7, h8⟩
    · exact absurd ⟨w1, w2⟩ (h2 x y z)
    · have := h8 x y z w1 w2
      omega
  · subst z1; subst z2
    right
    rw [show ((f.toNat : Nat) : Int) = f by omega, show ((s.toNat : Nat) : Int) = s by omega]
    exact ⟨rfl, Or.inr ⟨rfl, Int.le_refl _⟩⟩
/-- what the search comes to: the halves that fit stay, the others give way to the least that fit -/
theorem MI_end {F S : Nat → Prop} {fi se few a b lf ls : Int} {n : Nat} (h : MI F S fi se few a b (fun f s => f < n ∧ s < n)) (hf : lst F n lf) (hs : lst S n ls) (hfi : 0 ≤ fi ∧ fi < n) (hse : 0 ≤ se ∧ se < n) (hno : ¬ (F fi.toNat ∧ S se.toNat)) : (few = 3 ∧ (lf = -1 ∨ ls = -1)) ∨ (few ≠ 3 ∧ lf ≠ -1 ∧ ls ≠ -1 ∧ ((F fi.toNat ∧ a = fi) ∨ (¬ F fi.toNat ∧ a = lf)) ∧ ((S se.toNat ∧ b = se) ∨ (¬ S se.toNat ∧ b = ls))) := by
  rcases h with ⟨h1, h2⟩ | ⟨h1, h2, h3, h4, h5, h6, h7, h8⟩
  · left
    refine ⟨h1, ?_⟩
    rcases hf with ⟨q, _⟩ | ⟨f1, f2, f3, f4⟩
    · exact Or.inl q
    · rcases hs with ⟨q, _⟩ | ⟨s1, s2, s3, s4⟩
      · exact Or.inr q
      · exact absurd ⟨f3, s3⟩ (h2 lf.toNat ls.toNat ⟨by omega, by omega⟩)
  · right
    rcases hf with ⟨q, q2⟩ | ⟨f1, f2, f3, f4⟩
    · exact absurd h5 (q2 _ h4.1)
    rcases hs with ⟨q, q2⟩ | ⟨s1, s2, s3, s4⟩
    · exact absurd h6 (q2 _ h4.2)
    refine ⟨by omega, by omega, by omega, ?_⟩
    have la : lf ≤ a := by
      apply Classical.byContradiction
      intro z
      exact f4 a.toNat (by omega) h5
    have lb : ls ≤ b := by
      apply Classical.byContradiction
      intro z
      exact s4 b.toNat (by omega) h6
    by_cases c1 : F fi.toNat
    · have c2 : ¬ S se.toNat := fun z => hno ⟨c1, z⟩
      have e1 : b ≠ se := fun z => c2 (z ▸ h6)
      have e2 : ls ≠ se := fun z => c2 (z ▸ s3)
      have w := h8 fi.toNat ls.toNat ⟨by omega, by omega⟩ c1 s3
      rw [show ((fi.toNat : Nat) : Int) = fi by omega, show ((ls.toNat : Nat) : Int) = ls by omega] at w
      have o1 : oth fi se fi ls = 1 := by unfold oth; rw [if_pos rfl, if_neg e2]; rfl
      rw [o1] at w
      have o2 : few = (if a = fi then 0 else 1) + 1 := by rw [h7]; unfold oth; rw [if_neg e1]
      by_cases e3 : a = fi
      · rw [if_pos e3] at o2
        exact ⟨Or.inl ⟨c1, e3⟩, Or.inr ⟨c2, by omega⟩⟩
      · rw [if_neg e3] at o2; omega
    · have e1 : a ≠ fi := fun z => c1 (z ▸ h5)
      have e2 : lf ≠ fi := fun z => c1 (z ▸ f3)
      by_cases c2 : S se.toNat
      · have w := h8 lf.toNat se.toNat ⟨by omega, by omega⟩ f3 c2
        rw [show ((lf.toNat : Nat) : Int) = lf by omega, show ((se.toNat : Nat) : Int) = se by omega] at w
        have o1 : oth fi se lf se = 1 := by unfold oth; rw [if_neg e2, if_pos rfl]; rfl
        rw [o1] at w
        have o2 : few = 1 + (if b = se then 0 else 1) := by rw [h7]; unfold oth; rw [if_neg e1]
        by_cases e3 : b = se
        · rw [if_pos e3] at o2
          exact ⟨Or.inr ⟨c1, by omega⟩, Or.inl ⟨c2, e3⟩⟩
        · rw [if_neg e3] at o2; omega
      · have e3 : b ≠ se := fun z => c2 (z ▸ h6)
        have e4 : ls ≠ se := fun z => c2 (z ▸ s3)
        have w := h8 lf.toNat ls.toNat ⟨by omega, by omega⟩ f3 s3
        rw [show ((lf.toNat : Nat) : Int) = lf by omega, show ((ls.toNat : Nat) : Int) = ls by omega] at w
        have o1 : oth fi se lf ls = 2 := by unfold oth; rw [if_neg e2, if_neg e4]; rfl
        rw [o1] at w
        have o2 : few = 2 := by rw [h7]; unfold oth; rw [if_neg e1, if_neg e3]; rfl
        exact ⟨Or.inr ⟨c1, by omega⟩, Or.inr ⟨c2, by omega⟩⟩
end
