section
/-! ===== words of 64 bits as numbers (rows of the kit's BITS.to-paste), and how many bits are set ===== -/
theorem wb_tb (n : Nat) : (lN n).toBitVec = BitVec.ofNat 64 n := rfl
theorem wb_inj {a b : Int64} (h : a.toBitVec = b.toBitVec) : a = b := Int64.toBitVec_inj.mp h
theorem wb_tn {n : Nat} (h : n < 2 ^ 64) : (lN n).toBitVec.toNat = n := by rw [wb_tb, BitVec.toNat_ofNat, Nat.mod_eq_of_lt h]
theorem wb_of (x : Int64) : ∃ n, n < 2 ^ 64 ∧ x = lN n := ⟨x.toBitVec.toNat, x.toBitVec.isLt, wb_inj (by rw [wb_tb]; simp)⟩
theorem wb_c : ∀ k, k < 64 → ((nI k).toInt64 &&& 63) = lN k := by decide +kernel
theorem wb_cu : ∀ k, k < 64 → ((nI k).toInt64.toUInt64 &&& Int64.toUInt64 63) = UInt64.ofNat k := by decide +kernel
theorem wb_sm : ∀ k, k < 64 → (BitVec.ofNat 64 k).smod 64 = BitVec.ofNat 64 k := by decide +kernel
theorem wb_shr {n k : Nat} (hn : n < 2 ^ 64) (hk : k < 64) : ((lN n).toUInt64 >>> ((nI k).toInt64.toUInt64 &&& Int64.toUInt64 63)).toInt64 = lN (n / 2 ^ k) := by
  rw [wb_cu k hk]
  apply wb_inj
  apply BitVec.eq_of_toNat_eq
  show ((lN n).toUInt64 >>> UInt64.ofNat k).toNat = (BitVec.ofNat 64 _).toNat
  have h1 : (UInt64.ofNat k).toNat = k := by
    show (BitVec.ofNat 64 k).toNat = k
    rw [BitVec.toNat_ofNat, Nat.mod_eq_of_lt (by omega)]
  have h2 : (lN n).toUInt64.toNat = n := wb_tn hn
  rw [UInt64.toNat_shiftRight, h1, h2, Nat.mod_eq_of_lt hk, Nat.shiftRight_eq_div_pow, BitVec.toNat_ofNat, Nat.mod_eq_of_lt (Nat.lt_of_le_of_lt (Nat.div_le_self _ _) hn)]
theorem wb_shl (n : Nat) {k : Nat} (hk : k < 64) : lN n <<< ((nI k).toInt64 &&& 63) = lN (n * 2 ^ k) := by
  rw [wb_c k hk]
  apply wb_inj
  rw [Int64.toBitVec_shiftLeft, wb_tb, wb_tb, wb_tb, wb_sm k hk]
  apply BitVec.eq_of_toNat_eq
  rw [BitVec.shiftLeft_eq', BitVec.toNat_shiftLeft, BitVec.toNat_ofNat, BitVec.toNat_ofNat, BitVec.toNat_ofNat, Nat.mod_eq_of_lt (show k < 2 ^ 64 by omega), Nat.shiftLeft_eq, Nat.mul_mod, Nat.mod_mod, ← Nat.mul_mod]
theorem wb_and {a b : Nat} (ha : a < 2 ^ 64) (hb : b < 2 ^ 64) : lN a &&& lN b = lN (a &&& b) := by
  apply wb_inj
  rw [Int64.toBitVec_and, wb_tb, wb_tb, wb_tb]
  apply BitVec.eq_of_toNat_eq
  rw [BitVec.toNat_and, BitVec.toNat_ofNat, BitVec.toNat_ofNat, BitVec.toNat_ofNat, Nat.mod_eq_of_lt ha, Nat.mod_eq_of_lt hb, Nat.mod_eq_of_lt (Nat.and_lt_two_pow _ hb)]
theorem wb_add (a b : Nat) : lN a + lN b = lN (a + b) := by
  apply wb_inj
  rw [Int64.toBitVec_add, wb_tb, wb_tb, wb_tb]
  apply BitVec.eq_of_toNat_eq
  rw [BitVec.toNat_add, BitVec.toNat_ofNat, BitVec.toNat_ofNat, BitVec.toNat_ofNat]
  omega
theorem wb_sub {a b : Nat} (h : b ≤ a) (ha : a < 2 ^ 64) : lN a - lN b = lN (a - b) := by
  apply wb_inj
  rw [Int64.toBitVec_sub, wb_tb, wb_tb, wb_tb]
  apply BitVec.eq_of_toNat_eq
  rw [BitVec.toNat_sub, BitVec.toNat_ofNat, BitVec.toNat_ofNat, BitVec.toNat_ofNat]
  omega
/-- bit i of a word -/
def b64 (x : Int64) (i : Nat) : Bool := x.toBitVec.getLsbD i
theorem b64_lN {n : Nat} (h : n < 2 ^ 64) (i : Nat) : b64 (lN n) i = n.testBit i := by
  show (lN n).toBitVec.toNat.testBit i = _
  rw [wb_tn h]
/-- how many of the first n are so -/
def ctb (p : Nat → Bool) : Nat → Nat
  | 0 => 0
  | n + 1 => ctb p n + (if p n = true then 1 else 0)
theorem ctb_cong {p q : Nat → Bool} : ∀ {n : Nat}, (∀ k, k < n → p k = q k) → ctb p n = ctb q n
  | 0, _ => rfl
  | n + 1, h => by
    show ctb p n + _ = ctb q n + _
    rw [ctb_cong (fun k hk => h k (by omega)), h n (by omega)]
theorem ctb_le (p : Nat → Bool) : ∀ n, ctb p n ≤ n
  | 0 => Nat.le_refl _
  | n + 1 => by
    have := ctb_le p n
    show ctb p n + _ ≤ _
    split <;> omega
theorem ctb_split (p : Nat → Bool) (m : Nat) : ∀ n, ctb p (m + n) = ctb p m + ctb (fun k => p (m + k)) n
  | 0 => rfl
  | n + 1 => by
    show ctb p (m + n) + (if p (m + n) = true then 1 else 0) = ctb p m + (ctb (fun k => p (m + k)) n + (if p (m + n) = true then 1 else 0))
    rw [ctb_split p m n]; omega
theorem ctb_out {p : Nat → Bool} {m : Nat} : ∀ n, (∀ k, m ≤ k → k < m + n → p k = false) → ctb p (m + n) = ctb p m
  | 0, _ => rfl
  | n + 1, h => by
    show ctb p (m + n) + (if p (m + n) = true then 1 else 0) = _
    rw [ctb_out n (fun k h1 h2 => h k h1 (by omega)), h (m + n) (by omega) (by omega)]; rfl
/-- a word of n bytes -/
def wd (f : Nat → Nat) : Nat → Nat
  | 0 => 0
  | n + 1 => f 0 + 256 * wd (fun i => f (i + 1)) n
theorem wd_cong : ∀ {n : Nat} {f g : Nat → Nat}, (∀ k, k < n → f k = g k) → wd f n = wd g n
  | 0, _, _, _ => rfl
  | n + 1, f, g, h => by
    show f 0 + 256 * wd _ n = g 0 + 256 * wd _ n
    rw [h 0 (by omega), wd_cong (f := fun i => f (i + 1)) (g := fun i => g (i + 1)) (fun k hk => h (k + 1) (by omega))]
theorem wd_of : ∀ (n x : Nat), x < 256 ^ n → x = wd (fun i => x / 256 ^ i % 256) n
  | 0, x, h => by simp at h; simp [wd, h]
  | n + 1, x, h => by
    have h1 := wd_of n (x / 256) (by rw [Nat.pow_succ] at h; omega)
    show x = x / 256 ^ 0 % 256 + 256 * wd (fun i => x / 256 ^ (i + 1) % 256) n
    rw [wd_cong (g := fun i => x / 256 / 256 ^ i % 256) (fun k _ => by rw [Nat.div_div_eq_div_mul, ← Nat.pow_succ'])]
    rw [← h1]
    simp
    omega
theorem and_split {a b c d : Nat} (ha : a < 256) (hc : c < 256) : (a + 256 * b) &&& (c + 256 * d) = (a &&& c) + 256 * (b &&& d) := by
  have hac : a &&& c < 2 ^ 8 := Nat.and_lt_two_pow _ hc
  apply Nat.eq_of_testBit_eq
  intro i
  rw [Nat.testBit_and]
  have e1 := Nat.testBit_two_pow_mul_add b (show a < 2 ^ 8 from ha) i
  have e2 := Nat.testBit_two_pow_mul_add d (show c < 2 ^ 8 from hc) i
  have e3 := Nat.testBit_two_pow_mul_add (b &&& d) hac i
  rw [show a + 256 * b = 2 ^ 8 * b + a by omega, show c + 256 * d = 2 ^ 8 * d + c by omega, show (a &&& c) + 256 * (b &&& d) = 2 ^ 8 * (b &&& d) + (a &&& c) by omega, e1, e2, e3]
  split
  · rw [Nat.testBit_and]
  · rw [Nat.testBit_and]
def fA (b : Nat) : Nat := b - (b / 2 &&& 85)
def fB (b : Nat) : Nat := (b &&& 51) + (b / 4 &&& 51)
def fC (b : Nat) : Nat := (b + b / 16) &&& 15
theorem fA_ok : ∀ b, b < 256 → ∀ r, r < 2 → (b / 2 + 128 * r) &&& 85 = b / 2 &&& 85 ∧ (b / 2 &&& 85) ≤ b := by decide +kernel
theorem fB_ok : ∀ b, b < 256 → ∀ r, r < 4 → (b / 4 + 64 * r) &&& 51 = b / 4 &&& 51 := by decide +kernel
theorem fAB_ok : ∀ b, b < 256 → fA b < 256 ∧ fB (fA b) < 256 ∧ fB (fA b) % 16 ≤ 4 ∧ fB (fA b) / 16 ≤ 4 := by decide +kernel
theorem fC_ok : ∀ b, b < 69 → ∀ r, r < 5 → (b + b / 16 + 16 * r) &&& 15 = (b + b / 16) &&& 15 := by decide +kernel
theorem pop8 : ∀ b, b < 256 → fC (fB (fA b)) = ctb b.testBit 8 := by decide +kernel
theorem wd_mod2 (f : Nat → Nat) : ∀ n : Nat, wd f (n + 1) % 16 = f 0 % 16 := fun n => by
  show (f 0 + 256 * wd _ n) % 16 = _
  omega
theorem stA : ∀ (n : Nat) (f : Nat → Nat), (∀ i, i < n → f i < 256) → (wd f n / 2 &&& wd (fun _ => 85) n) ≤ wd f n ∧ wd f n - (wd f n / 2 &&& wd (fun _ => 85) n) = wd (fun i => fA (f i)) n
  | 0, _, _ => by simp [wd]
  | n + 1, f, h => by
    have ih := stA n (fun i => f (i + 1)) (fun i hi => h (i + 1) (by omega))
    have h0 := h 0 (by omega)
    generalize hX : wd (fun i => f (i + 1)) n = X at ih
    have e0 : wd f (n + 1) = f 0 + 256 * X := by show f 0 + 256 * wd _ n = _; rw [hX]
    have e1 : wd f (n + 1) / 2 = (f 0 / 2 + 128 * (X % 2)) + 256 * (X / 2) := by rw [e0]; omega
    have e2 : wd (fun _ => 85) (n + 1) = 85 + 256 * wd (fun _ => 85) n := rfl
    have q := fA_ok (f 0) h0 (X % 2) (by omega)
    have e3 : wd f (n + 1) / 2 &&& wd (fun _ => 85) (n + 1) = (f 0 / 2 &&& 85) + 256 * (X / 2 &&& wd (fun _ => 85) n) := by
      rw [e1, e2, and_split (by omega) (by decide), q.1]
    have e4 : wd (fun i => fA (f i)) (n + 1) = fA (f 0) + 256 * wd (fun i => fA (f (i + 1))) n := rfl
    rw [e3, e0, e4, ← ih.2]
    have : fA (f 0) = f 0 - (f 0 / 2 &&& 85) := rfl
    omega
theorem stB : ∀ (n : Nat) (f : Nat → Nat), (∀ i, i < n → f i < 256) → (wd f n &&& wd (fun _ => 51) n) + (wd f n / 4 &&& wd (fun _ => 51) n) = wd (fun i => fB (f i)) n
  | 0, _, _ => by simp [wd]
  | n + 1, f, h => by
    have ih := stB n (fun i => f (i + 1)) (fun i hi => h (i + 1) (by omega))
    have h0 := h 0 (by omega)
    generalize hX : wd (fun i => f (i + 1)) n = X at ih
    have e0 : wd f (n + 1) = f 0 + 256 * X := by show f 0 + 256 * wd _ n = _; rw [hX]
    have e1 : wd f (n + 1) / 4 = (f 0 / 4 + 64 * (X % 4)) + 256 * (X / 4) := by rw [e0]; omega
    have e2 : wd (fun _ => 51) (n + 1) = 51 + 256 * wd (fun _ => 51) n := rfl
    have q := fB_ok (f 0) h0 (X % 4) (by omega)
    have e3 : wd f (n + 1) / 4 &&& wd (fun _ => 51) (n + 1) = (f 0 / 4 &&& 51) + 256 * (X / 4 &&& wd (fun _ => 51) n) := by
      rw [e1, e2, and_split (by omega) (by decide), q]
    have e5 : wd f (n + 1) &&& wd (fun _ => 51) (n + 1) = (f 0 &&& 51) + 256 * (X &&& wd (fun _ => 51) n) := by
      rw [e0, e2, and_split h0 (by decide)]
    have e4 : wd (fun i => fB (f i)) (n + 1) = fB (f 0) + 256 * wd (fun i => fB (f (i + 1))) n := rfl
    rw [e3, e5, e4, ← ih]
    have : fB (f 0) = (f 0 &&& 51) + (f 0 / 4 &&& 51) := rfl
    omega
theorem stC : ∀ (n : Nat) (f : Nat → Nat), (∀ i, i < n → f i < 256 ∧ f i % 16 ≤ 4 ∧ f i / 16 ≤ 4) → (wd f n + wd f n / 16) &&& wd (fun _ => 15) n = wd (fun i => fC (f i)) n
  | 0, _, _ => by simp [wd]
  | n + 1, f, h => by
    have ih := stC n (fun i => f (i + 1)) (fun i hi => h (i + 1) (by omega))
    have h0 := h 0 (by omega)
    have hr : wd (fun i => f (i + 1)) n % 16 < 5 := by
      cases n with
      | zero => show 0 % 16 < 5; decide
      | succ n => rw [wd_mod2]; have := h 1 (by omega); show f 1 % 16 < 5; omega
    generalize hX : wd (fun i => f (i + 1)) n = X at ih hr
    have e0 : wd f (n + 1) = f 0 + 256 * X := by show f 0 + 256 * wd _ n = _; rw [hX]
    have e1 : wd f (n + 1) + wd f (n + 1) / 16 = (f 0 + f 0 / 16 + 16 * (X % 16)) + 256 * (X + X / 16) := by rw [e0]; omega
    have e2 : wd (fun _ => 15) (n + 1) = 15 + 256 * wd (fun _ => 15) n := rfl
    have q := fC_ok (f 0) (by omega) (X % 16) hr
    have e4 : wd (fun i => fC (f i)) (n + 1) = fC (f 0) + 256 * wd (fun i => fC (f (i + 1))) n := rfl
    rw [e1, e2, and_split (by omega) (by decide), q, ih, e4]
    rfl
theorem ctb_bytes (x : Nat) : ∀ n, ctb x.testBit (8 * n) = ctb x.testBit (8 * n) := fun _ => rfl
def sb (f : Nat → Nat) : Nat → Nat
  | 0 => 0
  | n + 1 => sb f n + f n
theorem ct_sb (x : Nat) : ∀ n, ctb x.testBit (8 * n) = sb (fun i => ctb (x / 256 ^ i % 256).testBit 8) n
  | 0 => rfl
  | n + 1 => by
    rw [show 8 * (n + 1) = 8 * n + 8 by omega, ctb_split, ct_sb x n]
    show _ = sb _ n + _
    congr 1
    apply ctb_cong
    intro k hk
    rw [show (256 : Nat) ^ n = 2 ^ (8 * n) by rw [Nat.pow_mul], show (256 : Nat) = 2 ^ 8 by decide, Nat.testBit_mod_two_pow, Nat.testBit_div_two_pow]
    simp [hk, Nat.add_comm]
theorem sum8 (f : Nat → Nat) (h : ∀ i, i < 8 → f i ≤ 8) : (let z1 := wd f 8 + wd f 8 / 2 ^ 8; let z2 := z1 + z1 / 2 ^ 16; let z3 := z2 + z2 / 2 ^ 32; z3 % 128) = sb f 8 ∧ wd f 8 < 2 ^ 63 := by
  have h0 := h 0 (by decide)
  have h1 := h 1 (by decide)
  have h2 := h 2 (by decide)
  have h3 := h 3 (by decide)
  have h4 := h 4 (by decide)
  have h5 := h 5 (by decide)
  have h6 := h 6 (by decide)
  have h7 := h 7 (by decide)
  have e : wd f 8 = f 0 + 256 * (f 1 + 256 * (f 2 + 256 * (f 3 + 256 * (f 4 + 256 * (f 5 + 256 * (f 6 + 256 * (f 7 + 256 * 0))))))) := rfl
  have e2 : sb f 8 = 0 + f 0 + f 1 + f 2 + f 3 + f 4 + f 5 + f 6 + f 7 := rfl
  rw [e, e2]
  generalize f 0 = a0 at *
  generalize f 1 = a1 at *
  generalize f 2 = a2 at *
  generalize f 3 = a3 at *
  generalize f 4 = a4 at *
  generalize f 5 = a5 at *
  generalize f 6 = a6 at *
  generalize f 7 = a7 at *
  clear h e e2
  obtain ⟨r6, h6'⟩ : ∃ r, r = a6 + 256 * (a7 + 256 * 0) := ⟨_, rfl⟩
  obtain ⟨r5, h5'⟩ : ∃ r, r = a5 + 256 * r6 := ⟨_, rfl⟩
  obtain ⟨r4, h4'⟩ : ∃ r, r = a4 + 256 * r5 := ⟨_, rfl⟩
  obtain ⟨r3, h3'⟩ : ∃ r, r = a3 + 256 * r4 := ⟨_, rfl⟩
  obtain ⟨r2, h2'⟩ : ∃ r, r = a2 + 256 * r3 := ⟨_, rfl⟩
  obtain ⟨r1, h1'⟩ : ∃ r, r = a1 + 256 * r2 := ⟨_, rfl⟩
  obtain ⟨w, hw⟩ : ∃ r, r = a0 + 256 * r1 := ⟨_, rfl⟩
  rw [← h6', ← h5', ← h4', ← h3', ← h2', ← h1', ← hw]
  have d1 : w / 2 ^ 8 = r1 := by rw [hw]; omega
  have d2 : (w + r1) / 2 ^ 16 = r2 + r3 := by rw [hw, h1', h2']; omega
  have d3 : (w + r1 + (r2 + r3)) / 2 ^ 32 = r4 + r5 + r6 + a7 := by rw [hw, h1', h2', h3', h4', h5', h6']; omega
  refine ⟨?_, by rw [hw, h1', h2', h3', h4', h5', h6']; omega⟩
  show (w + w / 2 ^ 8 + (w + w / 2 ^ 8) / 2 ^ 16 + (w + w / 2 ^ 8 + (w + w / 2 ^ 8) / 2 ^ 16) / 2 ^ 32) % 128 = _
  rw [d1, d2, d3]
  omega
/-- the machine's way of counting: how many bits a word has -/
theorem bc_spec {x z1 z2 z3 z4 z5 z6 z7 z8 z9 y1 y2 y3 y4 y5 y6 y7 : Int64} {u v : Int32} (h1 : z1 = (x.toUInt64 >>> ((1 : Int32).toInt64.toUInt64 &&& Int64.toUInt64 63)).toInt64) (h2 : z2 = z1 &&& 6148914691236517205) (h3 : z3 = x - z2)
    (h4 : z4 = z3 &&& 3689348814741910323) (h5 : z5 = (z3.toUInt64 >>> ((2 : Int32).toInt64.toUInt64 &&& Int64.toUInt64 63)).toInt64) (h6 : z6 = z5 &&& 3689348814741910323) (h7 : z7 = z4 + z6)
    (h8 : z8 = (z7.toUInt64 >>> ((4 : Int32).toInt64.toUInt64 &&& Int64.toUInt64 63)).toInt64) (h9 : z9 = z7 + z8) (k1 : y1 = z9 &&& 1085102592571150095)
    (k2 : y2 = (y1.toUInt64 >>> ((8 : Int32).toInt64.toUInt64 &&& Int64.toUInt64 63)).toInt64) (k3 : y3 = y1 + y2) (k4 : y4 = (y3.toUInt64 >>> ((16 : Int32).toInt64.toUInt64 &&& Int64.toUInt64 63)).toInt64) (k5 : y5 = y3 + y4)
    (k6 : y6 = (y5.toUInt64 >>> ((32 : Int32).toInt64.toUInt64 &&& Int64.toUInt64 63)).toInt64) (k7 : y7 = y5 + y6) (k8 : u = y7.toInt32) (k9 : v = u &&& 127) : v.toInt = (ctb (b64 x) 64 : Nat) := by
  obtain ⟨n, hn, rfl⟩ := wb_of x
  have hb : ∀ i, i < 8 → n / 256 ^ i % 256 < 256 := fun i _ => Nat.mod_lt _ (by decide)
  have hw := wd_of 8 n (by omega)
  generalize hf : (fun i => n / 256 ^ i % 256) = f at hw
  have hfb : ∀ i, i < 8 → f i < 256 := fun i hi => by rw [← hf]; exact hb i hi
  have A := stA 8 f hfb
  have B := stB 8 (fun i => fA (f i)) (fun i hi => (fAB_ok _ (hfb i hi)).1)
  have C := stC 8 (fun i => fB (fA (f i))) (fun i hi => (fAB_ok _ (hfb i hi)).2)
  have S := sum8 (fun i => fC (fB (fA (f i)))) (fun i hi => by show fC (fB (fA (f i))) ≤ 8; rw [pop8 _ (hfb i hi)]; exact ctb_le _ 8)
  have m1 : wd (fun _ => 85) 8 = 6148914691236517205 := by decide
  have m2 : wd (fun _ => 51) 8 = 3689348814741910323 := by decide
  have m3 : wd (fun _ => 15) 8 = 1085102592571150095 := by decide
  rw [m1, ← hw] at A
  rw [m2] at B
  rw [m3] at C
  have lA : wd (fun i => fA (f i)) 8 ≤ n := by omega
  generalize hA : wd (fun i => fA (f i)) 8 = nA at *
  have lB : wd (fun i => fB (fA (f i))) 8 < 2 ^ 63 := by
    have g : ∀ i, i < 8 → fB (fA (f i)) ≤ 68 := fun i hi => by have := (fAB_ok _ (hfb i hi)).2; omega
    have g0 := g 0 (by decide)
    have g1 := g 1 (by decide)
    have g2 := g 2 (by decide)
    have g3 := g 3 (by decide)
    have g4 := g 4 (by decide)
    have g5 := g 5 (by decide)
    have g6 := g 6 (by decide)
    have g7 := g 7 (by decide)
    have e : wd (fun i => fB (fA (f i))) 8 = fB (fA (f 0)) + 256 * (fB (fA (f 1)) + 256 * (fB (fA (f 2)) + 256 * (fB (fA (f 3)) + 256 * (fB (fA (f 4)) + 256 * (fB (fA (f 5)) + 256 * (fB (fA (f 6)) + 256 * (fB (fA (f 7)) + 256 * 0))))))) := rfl
    rw [e]
    omega
  generalize hB : wd (fun i => fB (fA (f i))) 8 = nB at *
  generalize hC : wd (fun i => fC (fB (fA (f i)))) 8 = nC' at *
  have e1 : z1 = lN (n / 2) := by rw [h1]; exact wb_shr (k := 1) hn (by decide)
  have e2 : z2 = lN (n / 2 &&& 6148914691236517205) := by rw [h2, e1]; exact wb_and (by omega) (by decide)
  have e3 : z3 = lN nA := by rw [h3, e2, wb_sub A.1 hn, A.2]
  have e4 : z4 = lN (nA &&& 3689348814741910323) := by rw [h4, e3]; exact wb_and (by omega) (by decide)
  have e5 : z5 = lN (nA / 4) := by rw [h5, e3]; exact wb_shr (k := 2) (by omega) (by decide)
  have e6 : z6 = lN (nA / 4 &&& 3689348814741910323) := by rw [h6, e5]; exact wb_and (by omega) (by decide)
  have e7 : z7 = lN nB := by rw [h7, e4, e6, wb_add, B]
  have e8 : z8 = lN (nB / 16) := by rw [h8, e7]; exact wb_shr (k := 4) (by omega) (by decide)
  have e9 : z9 = lN (nB + nB / 16) := by rw [h9, e7, e8, wb_add]
  have f1 : y1 = lN nC' := by rw [k1, e9, ← C]; exact wb_and (by omega) (by decide)
  have lC : nC' < 2 ^ 63 := S.2
  have f2 : y2 = lN (nC' / 2 ^ 8) := by rw [k2, f1]; exact wb_shr (k := 8) (by omega) (by decide)
  have f3 : y3 = lN (nC' + nC' / 2 ^ 8) := by rw [k3, f1, f2, wb_add]
  have f4 : y4 = lN ((nC' + nC' / 2 ^ 8) / 2 ^ 16) := by rw [k4, f3]; exact wb_shr (k := 16) (by omega) (by decide)
  have f5 : y5 = lN ((nC' + nC' / 2 ^ 8) + (nC' + nC' / 2 ^ 8) / 2 ^ 16) := by rw [k5, f3, f4, wb_add]
  have f6 : y6 = lN (((nC' + nC' / 2 ^ 8) + (nC' + nC' / 2 ^ 8) / 2 ^ 16) / 2 ^ 32) := by rw [k6, f5]; exact wb_shr (k := 32) (by omega) (by decide)
  have f7 : y7 = lN (((nC' + nC' / 2 ^ 8) + (nC' + nC' / 2 ^ 8) / 2 ^ 16) + ((nC' + nC' / 2 ^ 8) + (nC' + nC' / 2 ^ 8) / 2 ^ 16) / 2 ^ 32) := by rw [k7, f5, f6, wb_add]
  have S1 : (((nC' + nC' / 2 ^ 8) + (nC' + nC' / 2 ^ 8) / 2 ^ 16) + ((nC' + nC' / 2 ^ 8) + (nC' + nC' / 2 ^ 8) / 2 ^ 16) / 2 ^ 32) % 128 = sb (fun i => fC (fB (fA (f i)))) 8 := S.1
  generalize ((nC' + nC' / 2 ^ 8) + (nC' + nC' / 2 ^ 8) / 2 ^ 16) + ((nC' + nC' / 2 ^ 8) + (nC' + nC' / 2 ^ 8) / 2 ^ 16) / 2 ^ 32 = q at f7 S1
  have hv : v.toInt = ((q % 128 : Nat) : Int) := by
    have e : v.toBitVec.toNat = q % 128 := by
      rw [k9, k8, f7, Int32.toBitVec_and, BitVec.toNat_and]
      show ((lN q).toInt32).toBitVec.toNat &&& 127 = _
      have e2 : ((lN q).toInt32).toBitVec.toNat = q % 2 ^ 32 := by
        rw [Int64.toBitVec_toInt32, BitVec.signExtend_eq_setWidth_of_le _ (by decide), wb_tb, BitVec.toNat_setWidth, BitVec.toNat_ofNat]
        omega
      rw [e2, show (127 : Nat) = 2 ^ 7 - 1 by decide, Nat.and_two_pow_sub_one_eq_mod]
      omega
    have : v.toInt = v.toBitVec.toNat := BitVec.toInt_eq_toNat_of_lt (by omega)
    rw [this, e]
  rw [hv, S1]
  congr 1
  rw [ctb_cong (q := n.testBit) (fun k _ => b64_lN hn k), show (64 : Nat) = 8 * 8 by decide, ct_sb]
  have e : ∀ m, m ≤ 8 → sb (fun i => fC (fB (fA (f i)))) m = sb (fun i => ctb (n / 256 ^ i % 256).testBit 8) m := by
    intro m
    induction m with
    | zero => intro _; rfl
    | succ m ih =>
      intro hm
      show sb _ m + fC (fB (fA (f m))) = sb _ m + ctb (n / 256 ^ m % 256).testBit 8
      rw [ih (by omega), pop8 _ (hfb m (by omega)), ← hf]
  exact e 8 (Nat.le_refl _)
end
