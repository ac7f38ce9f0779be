section
/-! ===== where a table's cells lie ===== -/
def rb (n i : Nat) : Nat := i * (2 * n + 3 - i) / 2
def usN (n : Nat) : Nat := (n + 1) * (n + 2) / 2
def cx (n t i j : Nat) : Nat := 325 * t + (rb n i + (j - i))
theorem rb_step0 : ∀ n, n < 25 → ∀ i, i < 25 → i ≤ n → rb n (i + 1) = rb n i + (n + 1 - i) := by decide +kernel
theorem rb_end : ∀ n, n < 25 → rb n (n + 1) = usN n ∧ usN n ≤ 325 ∧ rb n 0 = 0 := by decide +kernel
theorem rb_mono {n : Nat} (hn : n < 25) {i : Nat} : ∀ d, i + d + 1 ≤ n + 1 → rb n i + (n + 1 - i) ≤ rb n (i + d + 1)
  | 0, h => by rw [Nat.add_zero, rb_step0 n hn i (by omega) (by omega)]; exact Nat.le_refl _
  | d + 1, h => by
    have ih := rb_mono hn (i := i) d (by omega)
    have z := rb_step0 n hn (i + d + 1) (by omega) (by omega)
    rw [show i + (d + 1) + 1 = i + d + 1 + 1 by omega, z]
    omega
theorem rb_lt {n i i' : Nat} (hn : n < 25) (h : i < i') (h' : i' ≤ n + 1) : rb n i + (n + 1 - i) ≤ rb n i' := by
  have z := rb_mono hn (i := i) (i' - i - 1) (by omega)
  rw [show i + (i' - i - 1) + 1 = i' by omega] at z
  exact z
theorem cx_lt {n i j : Nat} (hn : n < 25) (h : i ≤ j ∧ j ≤ n) : rb n i + (j - i) < usN n := by
  have z := rb_lt hn (show i < n + 1 by omega) (Nat.le_refl _)
  rw [(rb_end n hn).1] at z
  omega
theorem cx_inj {n i j i' j' : Nat} (hn : n < 25) (h : i ≤ j ∧ j ≤ n) (h' : i' ≤ j' ∧ j' ≤ n) (e : rb n i + (j - i) = rb n i' + (j' - i')) : i = i' ∧ j = j' := by
  by_cases q : i = i'
  · subst q; exact ⟨rfl, by omega⟩
  · exfalso
    by_cases q2 : i < i'
    · have z := rb_lt hn q2 (by omega); omega
    · have z := rb_lt hn (show i' < i by omega) (by omega); omega
theorem cx_sur {n c : Nat} (hn : n < 25) : ∀ m, m ≤ n + 1 → c < rb n m → ∃ i j, i ≤ j ∧ j ≤ n ∧ c = rb n i + (j - i)
  | 0, _, h => by rw [(rb_end n hn).2.2] at h; omega
  | m + 1, hm, h => by
    by_cases q : c < rb n m
    · exact cx_sur hn m (by omega) q
    · rw [rb_step0 n hn m (by omega) (by omega)] at h
      exact ⟨m, m + (c - rb n m), by omega, by omega, by omega⟩
theorem cx_all {n c : Nat} (hn : n < 25) (h : c < usN n) : ∃ i j, i ≤ j ∧ j ≤ n ∧ c = rb n i + (j - i) := cx_sur hn (n + 1) (Nat.le_refl _) (by rw [(rb_end n hn).1]; exact h)
theorem cx_rng {n t i j : Nat} (hn : n < 25) (h : i ≤ j ∧ j ≤ n) : 325 * t ≤ cx n t i j ∧ cx n t i j + (n - j) < 325 * t + 325 := by
  have z := cx_lt hn (show i ≤ n ∧ n ≤ n by omega)
  have y := (rb_end n hn).2.1
  unfold cx
  omega
theorem cx_add {n t i k c : Nat} (h : i ≤ k) : cx n t i k + c = cx n t i (k + c) := by unfold cx; omega
theorem cellX {t i j n : Int} (ht : 0 ≤ t) (h : 0 ≤ i ∧ i ≤ j) (hn : j ≤ n) : t * 325 + i * (2 * n + 3 - i) / 2 + j - i = ((cx n.toNat t.toNat i.toNat j.toNat : Nat) : Int) := by
  obtain ⟨t, rfl⟩ := Int.eq_ofNat_of_zero_le ht
  obtain ⟨i, rfl⟩ := Int.eq_ofNat_of_zero_le h.1
  obtain ⟨j, rfl⟩ := Int.eq_ofNat_of_zero_le (show 0 ≤ j by omega)
  obtain ⟨n, rfl⟩ := Int.eq_ofNat_of_zero_le (show 0 ≤ n by omega)
  have e : (i : Int) * (2 * (n : Int) + 3 - (i : Int)) = ((i * (2 * n + 3 - i) : Nat) : Int) := by
    rw [Int.natCast_mul, Int.natCast_sub (by omega)]
    simp
  rw [e]
  show _ = ((325 * t + (i * (2 * n + 3 - i) / 2 + (j - i)) : Nat) : Int)
  generalize i * (2 * n + 3 - i) = q
  omega
theorem useX {n : Int} (h : 0 ≤ n) : (n + 1) * (n + 2) / 2 = ((usN n.toNat : Nat) : Int) := by
  obtain ⟨n, rfl⟩ := Int.eq_ofNat_of_zero_le h
  have e : ((n : Int) + 1) * ((n : Int) + 2) = (((n + 1) * (n + 2) : Nat) : Int) := by
    rw [Int.natCast_mul]; simp
  rw [e]
  show _ = (((n + 1) * (n + 2) / 2 : Nat) : Int)
  generalize (n + 1) * (n + 2) = q
  omega
theorem lmul_ex {x y z : Int64} {a b : Int} (e : z = x * y) (ha : x.toInt = a) (hb : y.toInt = b) (h : 0 ≤ a * b ∧ a * b ≤ 4000000000000000) : z.toInt = a * b := by
  subst e; rw [Int64.toInt_mul, ha, hb]; exact Int.bmod_eq_of_le (by omega) (by omega)
theorem ladd_ex {x y z : Int64} {a b : Int} (e : z = x + y) (ha : x.toInt = a) (hb : y.toInt = b) (h : 0 ≤ a + b ∧ a + b ≤ 8000000000000000) : z.toInt = a + b := by
  subst e; rw [Int64.toInt_add, ha, hb]; exact Int.bmod_eq_of_le (by omega) (by omega)
/-! ===== tables in the class's cells ===== -/
def TB (R : Nat → Int32) (n t : Nat) (A : Mat) : Prop := ∀ i j, i ≤ j → j ≤ n → (R (cx n t i j)).toInt = ((cap (A i j) : Nat) : Int)
def OUTr (R R' : Nat → Int32) (t : Nat) : Prop := ∀ c, (c < 325 * t ∨ 325 * t + 325 ≤ c) → R' c = R c
theorem OUT_rf {R : Nat → Int32} {t : Nat} : OUTr R R t := fun _ _ => rfl
theorem OUT_tr {R R' R'' : Nat → Int32} {t : Nat} (h : OUTr R R' t) (h' : OUTr R' R'' t) : OUTr R R'' t := fun c hc => (h' c hc).trans (h c hc)
theorem OUT_ui {R : Nat → Int32} {M : Mem} {t c : Nat} {x : Int32} (h : OUTr R (M.1 38) t) (hc : 325 * t ≤ c ∧ c < 325 * t + 325) : OUTr R ((ui M 38 c x).1 38) t := fun d hd => by rw [ui_nj (by omega)]; exact h d hd
theorem TB_OUT {R R' : Nat → Int32} {n t u : Nat} {A : Mat} (hn : n < 25) (h : TB R n u A) (o : OUTr R R' t) (hu : u ≠ t) : TB R' n u A := fun i j h1 h2 => by
  have z := cx_rng (t := u) hn ⟨h1, h2⟩
  rw [o _ (by omega)]
  exact h i j h1 h2
theorem TB_cong {R : Nat → Int32} {n t : Nat} {A B : Mat} (h : TB R n t A) (e : ∀ i j, i ≤ j → j ≤ n → cap (B i j) = cap (A i j)) : TB R n t B := fun i j h1 h2 => by rw [h i j h1 h2, e i j h1 h2]
theorem TB_rng {R : Nat → Int32} {n t i j : Nat} {A : Mat} (h : TB R n t A) (hij : i ≤ j ∧ j ≤ n) : 0 ≤ (R (cx n t i j)).toInt ∧ (R (cx n t i j)).toInt ≤ 1000000 := by
  rw [h i j hij.1 hij.2]
  have z := cap_le (A i j)
  omega
theorem TB_put {M : Mem} {n t c i j : Nat} {x : Int32} {V V' : Mat} (hn : n < 25) (h : TB (M.1 38) n t V) (hc : c = cx n t i j) (hij : i ≤ j ∧ j ≤ n) (hx : x.toInt = ((cap (V' i j) : Nat) : Int)) (ho : ∀ i' j', i' ≤ j' → j' ≤ n → ¬ (i' = i ∧ j' = j) → cap (V' i' j') = cap (V i' j')) : TB ((ui M 38 c x).1 38) n t V' := by
  intro i' j' h1 h2
  by_cases q : i' = i ∧ j' = j
  · obtain ⟨q1, q2⟩ := q
    subst q1; subst q2; subst hc
    rw [ui_eq]; exact hx
  · rw [ui_nj (fun e => q (by
      rw [hc] at e
      unfold cx at e
      exact cx_inj hn ⟨h1, h2⟩ hij (by omega))), h i' j' h1 h2, ho i' j' h1 h2 q]
/-- the cells one by one -/
theorem TB_lin {R : Nat → Int32} {n t : Nat} {A : Mat} (hn : n < 25) {g : Nat → Nat} (h : ∀ c, c < usN n → (R (325 * t + c)).toInt = ((g c : Nat) : Int)) (e : ∀ i j, i ≤ j → j ≤ n → g (rb n i + (j - i)) = cap (A i j)) : TB R n t A := fun i j h1 h2 => by
  unfold cx
  rw [h _ (cx_lt hn ⟨h1, h2⟩), e i j h1 h2]
/-! ===== clear, add ===== -/
theorem CL_end {R : Nat → Int32} {n t : Nat} {m c : Int} (hn : n < 25) (h : ∀ d : Nat, (d : Int) < c → (R (325 * t + d)).toInt = 0) (hm : m = ((usN n : Nat) : Int)) (hc : m ≤ c) : TB R n t mZ0 := fun i j h1 h2 => by
  have z := cx_lt hn ⟨h1, h2⟩
  show (R (325 * t + (rb n i + (j - i)))).toInt = ((cap 0 : Nat) : Int)
  rw [h _ (by omega)]; rfl
theorem CL_step {M : Mem} {t : Nat} {c : Int} {x : Int32} {ix : Nat} (h : ∀ d : Nat, (d : Int) < c → (M.1 38 (325 * t + d)).toInt = 0) (hc : 0 ≤ c) (hi : ix = 325 * t + c.toNat) (hx : x.toInt = 0) : ∀ d : Nat, (d : Int) < c + 1 → ((ui M 38 ix x).1 38 (325 * t + d)).toInt = 0 := by
  intro d hd
  by_cases q : d = c.toNat
  · rw [q, hi, ui_eq]; exact hx
  · rw [ui_nj (by omega)]; exact h d (by omega)
/-- a table added, up to a cell -/
def ADI (R0 R : Nat → Int32) (t u : Nat) (c : Int) : Prop := (∀ d : Nat, (d : Int) < c → (R (325 * t + d)).toInt = ((cap ((R0 (325 * t + d)).toInt.toNat + (R0 (325 * u + d)).toInt.toNat) : Nat) : Int)) ∧ ∀ d : Nat, c ≤ (d : Int) → R (325 * t + d) = R0 (325 * t + d)
theorem ADI_0 {R : Nat → Int32} {t u : Nat} : ADI R R t u 0 := ⟨fun d hd => absurd hd (by omega), fun _ _ => rfl⟩
theorem TB_cell {R : Nat → Int32} {n t c : Nat} {A : Mat} (hn : n < 25) (h : TB R n t A) (hc : c < usN n) : 0 ≤ (R (325 * t + c)).toInt ∧ (R (325 * t + c)).toInt ≤ 1000000 := by
  obtain ⟨i, j, h1, h2, h3⟩ := cx_all hn hc
  rw [h3]
  exact TB_rng (i := i) (j := j) h ⟨h1, h2⟩
theorem ADI_step {R0 : Nat → Int32} {M : Mem} {t u ix : Nat} {c a b s : Int} {x : Int32} (h : ADI R0 (M.1 38) t u c) (hc : 0 ≤ c) (hi : ix = 325 * t + c.toNat) (ha : a = (R0 (325 * t + c.toNat)).toInt) (hb : b = (R0 (325 * u + c.toNat)).toInt) (ra : 0 ≤ a ∧ 0 ≤ b) (hs : s = a + b) (hx : x.toInt ≤ s ∧ x.toInt ≤ 1000000 ∧ (x.toInt = s ∨ x.toInt = 1000000)) : ADI R0 ((ui M 38 ix x).1 38) t u (c + 1) := by
  refine ⟨fun d hd => ?_, fun d hd => by rw [ui_nj (by omega)]; exact h.2 d (by omega)⟩
  by_cases q : d = c.toNat
  · rw [q, hi, ui_eq]
    rw [ha] at ra hs
    rw [hb] at ra hs
    unfold cap
    split <;> omega
  · rw [ui_nj (by omega)]; exact h.1 d (by omega)
theorem ADI_end {R0 R : Nat → Int32} {n t u : Nat} {m c : Int} {A B : Mat} (hn : n < 25) (h : ADI R0 R t u c) (hA : TB R0 n t A) (hB : TB R0 n u B) (hm : m = ((usN n : Nat) : Int)) (hc : m ≤ c) : TB R n t (mA A B) := fun i j h1 h2 => by
  have z := cx_lt hn ⟨h1, h2⟩
  show (R (325 * t + (rb n i + (j - i)))).toInt = ((cap (A i j + B i j) : Nat) : Int)
  rw [h.1 _ (by omega)]
  have a := hA i j h1 h2
  have b := hB i j h1 h2
  unfold cx at a b
  rw [a, b]
  congr 1
  exact cap_add (cap_cap _) (cap_cap _)
/-- one added, up to a place -/
def mv0 (A : Mat) (m : Nat) : Mat := fun i j => A i j + (if i = j ∧ i < m then 1 else 0)
theorem mv0_0 {R : Nat → Int32} {n t : Nat} {A : Mat} (h : TB R n t A) : TB R n t (mv0 A 0) := TB_cong h (fun i j _ _ => by unfold mv0; rw [if_neg (by omega)]; rfl)
theorem mv0_end {R : Nat → Int32} {n t m : Nat} {A : Mat} (h : TB R n t (mv0 A m)) (hm : n < m) : TB R n t (mA A mO) := TB_cong h (fun i j h1 h2 => by
  unfold mv0 mA mO
  by_cases q : i = j
  · rw [if_pos q, if_pos ⟨q, by omega⟩]
  · rw [if_neg q, if_neg (fun z => q z.1)])
theorem mv0_step {M : Mem} {n t m ix : Nat} {A : Mat} {x : Int32} (hn : n < 25) (h : TB (M.1 38) n t (mv0 A m)) (hm : m ≤ n) (hi : ix = cx n t m m) (hx : x.toInt ≤ (M.1 38 ix).toInt + 1 ∧ x.toInt ≤ 1000000 ∧ (x.toInt = (M.1 38 ix).toInt + 1 ∨ x.toInt = 1000000)) : TB ((ui M 38 ix x).1 38) n t (mv0 A (m + 1)) := by
  refine TB_put hn h hi ⟨Nat.le_refl _, hm⟩ ?_ (fun i' j' h1 h2 q => ?_)
  · have z := h m m (Nat.le_refl _) hm
    rw [← hi] at z
    rw [z] at hx
    have e : mv0 A m m m = A m m := by unfold mv0; rw [if_neg (by omega)]; rfl
    have e2 : mv0 A (m + 1) m m = A m m + 1 := by unfold mv0; rw [if_pos ⟨rfl, by omega⟩]
    rw [e] at hx
    rw [e2]
    unfold cap at *
    split <;> split at hx <;> omega
  · unfold mv0
    by_cases c : i' = j' ∧ i' < m
    · rw [if_pos c, if_pos ⟨c.1, by omega⟩]
    · rw [if_neg c, if_neg (fun z => c ⟨z.1, by omega⟩)]
/-! ===== a slot behind ===== -/
/-- rows before i done; of row i what is behind j -/
def mv4 (w : Nat → Nat) (A : Mat) (i m : Nat) : Mat := fun a b => if a < i then mS1 w A a b else if a = i ∧ m < b then mS1 w A a b else A a b
theorem mv4_0 {R : Nat → Int32} {n t : Nat} {w : Nat → Nat} {A : Mat} (h : TB R n t A) : TB R n t (mv4 w A 0 n) := TB_cong h (fun i j h1 h2 => by unfold mv4; rw [if_neg (by omega), if_neg (by omega)])
theorem mv4_end {R : Nat → Int32} {n t i m : Nat} {w : Nat → Nat} {A : Mat} (h : TB R n t (mv4 w A i m)) (hi : n < i) : TB R n t (mS1 w A) := TB_cong h (fun a b h1 h2 => by unfold mv4; rw [if_pos (by omega)])
theorem mv4_step {M : Mem} {n t i j ix : Nat} {w : Nat → Nat} {A : Mat} {x : Int32} {z : Int} (hn : n < 25) (h : TB (M.1 38) n t (mv4 w A i j)) (hij : i < j ∧ j ≤ n) (hi : ix = cx n t i j) (hz : z = (M.1 38 (cx n t i (j - 1))).toInt * ((w (j - 1) : Nat) : Int)) (hx : x.toInt ≤ z ∧ x.toInt ≤ 1000000 ∧ (x.toInt = z ∨ x.toInt = 1000000)) : TB ((ui M 38 ix x).1 38) n t (mv4 w A i (j - 1)) := by
  refine TB_put hn h hi ⟨by omega, hij.2⟩ ?_ (fun a b h1 h2 q => ?_)
  · have u := h i (j - 1) (by omega) (by omega)
    have e : mv4 w A i j i (j - 1) = A i (j - 1) := by unfold mv4; rw [if_neg (by omega), if_neg (by omega)]
    have e2 : mv4 w A i (j - 1) i j = A i (j - 1) * w (j - 1) := by unfold mv4; rw [if_neg (by omega), if_pos ⟨rfl, by omega⟩]; unfold mS1; rw [if_pos hij.1]
    rw [e] at u
    rw [u] at hz
    rw [e2, ← cap_mul1]
    have e3 : z = ((cap (A i (j - 1)) * w (j - 1) : Nat) : Int) := by rw [hz, Int.natCast_mul]
    generalize cap (A i (j - 1)) * w (j - 1) = y at e3 ⊢
    unfold cap
    split <;> omega
  · unfold mv4
    by_cases c : a < i
    · rw [if_pos c, if_pos c]
    · rw [if_neg c, if_neg c]
      by_cases c2 : a = i ∧ j < b
      · rw [if_pos c2, if_pos ⟨c2.1, by omega⟩]
      · rw [if_neg c2, if_neg (fun y => c2 ⟨y.1, by omega⟩)]
theorem mv4_row {M : Mem} {n t i ix : Nat} {w : Nat → Nat} {A : Mat} {x : Int32} (hn : n < 25) (h : TB (M.1 38) n t (mv4 w A i i)) (hin : i ≤ n) (hi : ix = cx n t i i) (hx : x.toInt = 0) : TB ((ui M 38 ix x).1 38) n t (mv4 w A (i + 1) n) := by
  refine TB_put hn h hi ⟨Nat.le_refl _, hin⟩ ?_ (fun a b h1 h2 q => ?_)
  · have e : mv4 w A (i + 1) n i i = 0 := by unfold mv4; rw [if_pos (by omega)]; unfold mS1; rw [if_neg (by omega)]
    rw [e, hx]; rfl
  · unfold mv4
    by_cases c : a < i
    · rw [if_pos c, if_pos (by omega)]
    · by_cases c2 : a = i
      · rw [if_pos (by omega), if_neg c, if_pos ⟨c2, by omega⟩]
      · rw [if_neg (by omega), if_neg (by omega), if_neg c, if_neg (by omega)]
/-! ===== a table behind a table ===== -/
def mv1 (A B : Mat) (i : Nat) : Mat := fun a b => if a < i then mM A B a b else A a b
/-- of row i: from m on -/
def mv2 (A B : Mat) (i m : Nat) : Mat := fun a b => if a < i then mM A B a b else if a = i ∧ m ≤ b then sm (fun q => A i q * B q b) m (b + 1 - m) else A a b
/-- of row i: from k on, what is ahead of k + c already with k -/
def mv3 (A B : Mat) (i k c : Nat) : Mat := fun a b => if a < i then mM A B a b else if a = i ∧ k ≤ b then (if b < k + c then sm (fun q => A i q * B q b) k (b + 1 - k) else sm (fun q => A i q * B q b) (k + 1) (b - k)) else A a b
section
variable {R : Nat → Int32} {M : Mem} {n t u i k c ix : Nat} {A B : Mat} {x : Int32}
theorem mv1_0 (h : TB R n t A) : TB R n t (mv1 A B 0) := TB_cong h (fun a b _ _ => by unfold mv1; rw [if_neg (by omega)])
theorem mv1_end (h : TB R n t (mv1 A B i)) (hi : n < i) : TB R n t (mM A B) := TB_cong h (fun a b h1 h2 => by unfold mv1; rw [if_pos (by omega)])
theorem mv2_0 (h : TB R n t (mv1 A B i)) : TB R n t (mv2 A B i (n + 1)) := TB_cong h (fun a b h1 h2 => by
  unfold mv1 mv2
  by_cases q : a < i
  · rw [if_pos q, if_pos q]
  · rw [if_neg q, if_neg q, if_neg (by omega)])
theorem mv2_end (h : TB R n t (mv2 A B i i)) : TB R n t (mv1 A B (i + 1)) := TB_cong h (fun a b h1 h2 => by
  unfold mv1 mv2
  by_cases q : a < i
  · rw [if_pos q, if_pos (by omega)]
  · by_cases q2 : a = i
    · subst q2
      rw [if_pos (by omega), if_neg q, if_pos ⟨rfl, h1⟩]; rfl
    · rw [if_neg (by omega), if_neg q, if_neg (fun z => q2 z.1)])
theorem mv3_0 (hn : n < 25) (h : TB (M.1 38) n t (mv2 A B i (k + 1))) (hk : i ≤ k ∧ k ≤ n) (hi : ix = cx n t i k) (hx : x.toInt = 0) : TB ((ui M 38 ix x).1 38) n t (mv3 A B i k 0) := by
  refine TB_put hn h hi hk ?_ (fun a b h1 h2 q => ?_)
  · have e : mv3 A B i k 0 i k = 0 := by unfold mv3; rw [if_neg (by omega), if_pos ⟨rfl, Nat.le_refl _⟩, if_neg (by omega), Nat.sub_self]; rfl
    rw [e, hx]; rfl
  · unfold mv2 mv3
    by_cases q1 : a < i
    · rw [if_pos q1, if_pos q1]
    · rw [if_neg q1, if_neg q1]
      by_cases q2 : a = i ∧ k ≤ b
      · rw [if_pos q2, if_neg (by omega), if_pos ⟨q2.1, by omega⟩, show b + 1 - (k + 1) = b - k by omega]
      · rw [if_neg q2, if_neg (fun z => q2 ⟨z.1, by omega⟩)]
theorem mv3_step {v y z : Int} (hn : n < 25) (h : TB (M.1 38) n t (mv3 A B i k c)) (hk : i ≤ k ∧ k + c ≤ n) (hi : ix = cx n t i (k + c)) (hv : v = ((cap (A i k) : Nat) : Int)) (hy : y = ((cap (B k (k + c)) : Nat) : Int)) (hz : z = (M.1 38 ix).toInt + v * y) (hx : x.toInt ≤ z ∧ x.toInt ≤ 1000000 ∧ (x.toInt = z ∨ x.toInt = 1000000)) : TB ((ui M 38 ix x).1 38) n t (mv3 A B i k (c + 1)) := by
  refine TB_put hn h hi ⟨by omega, hk.2⟩ ?_ (fun a b h1 h2 q => ?_)
  · have u := h i (k + c) (by omega) hk.2
    have e : mv3 A B i k c i (k + c) = sm (fun q => A i q * B q (k + c)) (k + 1) c := by unfold mv3; rw [if_neg (by omega), if_pos ⟨rfl, by omega⟩, if_neg (by omega), show k + c - k = c by omega]
    have e2 : mv3 A B i k (c + 1) i (k + c) = A i k * B k (k + c) + sm (fun q => A i q * B q (k + c)) (k + 1) c := by unfold mv3; rw [if_neg (by omega), if_pos ⟨rfl, by omega⟩, if_pos (by omega), show k + c + 1 - k = c + 1 by omega, sm_head]
    rw [e, ← hi] at u
    rw [e2]
    rw [u, hv, hy, ← Int.natCast_mul, ← Int.natCast_add] at hz
    have e3 : cap (A i k * B k (k + c) + sm (fun q => A i q * B q (k + c)) (k + 1) c) = cap (cap (sm (fun q => A i q * B q (k + c)) (k + 1) c) + cap (A i k) * cap (B k (k + c))) := by
      rw [Nat.add_comm]
      exact cap_add (cap_cap _).symm (cap_mul (cap_cap _).symm (cap_cap _).symm)
    rw [e3]
    generalize cap (sm (fun q => A i q * B q (k + c)) (k + 1) c) + cap (A i k) * cap (B k (k + c)) = y at hz ⊢
    unfold cap
    split <;> omega
  · unfold mv3
    by_cases q1 : a < i
    · rw [if_pos q1, if_pos q1]
    · rw [if_neg q1, if_neg q1]
      by_cases q2 : a = i ∧ k ≤ b
      · rw [if_pos q2, if_pos q2]
        by_cases q3 : b < k + c
        · rw [if_pos q3, if_pos (by omega)]
        · rw [if_neg q3, if_neg (by omega)]
      · rw [if_neg q2, if_neg q2]
theorem mv3_end (h : TB R n t (mv3 A B i k c)) (hc : (cap (A i k) = 0 ∧ c = 0) ∨ n < k + c) : TB R n t (mv2 A B i k) := TB_cong h (fun a b h1 h2 => by
  unfold mv2 mv3
  by_cases q1 : a < i
  · rw [if_pos q1, if_pos q1]
  · rw [if_neg q1, if_neg q1]
    by_cases q2 : a = i ∧ k ≤ b
    · rw [if_pos q2, if_pos q2]
      rcases hc with ⟨z1, z2⟩ | z
      · rw [if_neg (by omega), show b + 1 - k = (b - k) + 1 by omega, sm_head, cap_z.mp z1, Nat.zero_mul, Nat.zero_add]
      · rw [if_pos (by omega)]
    · rw [if_neg q2, if_neg q2])
end
end
section
theorem prod_bd {a b : Int} (ha : 0 ≤ a ∧ a ≤ 1000000) (hb : 0 ≤ b ∧ b ≤ 1000000) : 0 ≤ a * b ∧ a * b ≤ 1000000000000 := by
  obtain ⟨a, rfl⟩ := Int.eq_ofNat_of_zero_le ha.1
  obtain ⟨b, rfl⟩ := Int.eq_ofNat_of_zero_le hb.1
  have z : a * b ≤ 1000000 * 1000000 := Nat.mul_le_mul (by omega) (by omega)
  rw [← Int.natCast_mul]
  generalize a * b = q at z ⊢
  omega
theorem TB_one {R : Nat → Int32} {n t : Nat} (h : TB R n t (mA mZ0 mO)) : TB R n t mO := TB_cong h (fun i j _ _ => by show cap (mO i j) = cap (0 + mO i j); rw [Nat.zero_add])
theorem TB_zadd {R : Nat → Int32} {n t : Nat} {A : Mat} (h : TB R n t (mA mZ0 A)) : TB R n t A := TB_cong h (fun i j _ _ => by show cap (A i j) = cap (0 + A i j); rw [Nat.zero_add])
def OUT2 (R R' : Nat → Int32) (t : Nat) : Prop := ∀ c, (c < 325 * t ∨ 325 * t + 650 ≤ c) → R' c = R c
theorem OUT2_a {R R' R'' : Nat → Int32} {t : Nat} (h : OUT2 R R' t) (o : OUTr R' R'' t) : OUT2 R R'' t := fun c hc => (o c (by omega)).trans (h c hc)
theorem OUT2_b {R R' R'' : Nat → Int32} {t u : Nat} (h : OUT2 R R' t) (o : OUTr R' R'' u) (hu : u = t + 1) : OUT2 R R'' t := fun c hc => (o c (by omega)).trans (h c hc)
theorem OUT2_rf {R : Nat → Int32} {t : Nat} : OUT2 R R t := fun _ _ => rfl
end
