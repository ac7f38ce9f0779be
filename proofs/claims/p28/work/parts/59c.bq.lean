section
/-! ===== loan, whose ===== -/
theorem mo_cut {M M' : Mem} {H : Int → Int → Bool} {n m : Int} (hop : ∀ s : Nat, (s : Int) < n → ∀ l : Nat, l < 64 → b64 (M'.2 31 s) l = H s l) (hm : m < n) {l : Nat} (hl : l < 64) : (decide (0 ≤ m) && b64 (M'.2 31 m.toNat) l) = (decide (0 ≤ m) && H m l) := by
  by_cases q : 0 ≤ m
  · rw [hop m.toNat (by omega) l hl, tn_cast q]
  · simp [q]
theorem loan_open {M M' : Mem} {H : Int → Int → Bool} {n a b : Int} {z1 z2 z3 z4 z5 z6 ra rb : Int64} (hop : ∀ s : Nat, (s : Int) < n → ∀ l : Nat, l < 64 → b64 (M'.2 31 s) l = H s l) (h24 : eW M' 24 = eW M 24) (h232 : (M'.1 23 2).toInt = n) (ha : 0 ≤ a ∧ a < n) (hb : 0 ≤ b ∧ b < n) (hs : M'.2 1 11 = M.2 1 11)
    (e1 : z1 = M'.2 31 a.toNat &&& M'.2 31 b.toNat) (e2 : z2 = z1 &&& M'.2 1 11) (e3 : z3 = ra ^^^ (-1)) (e4 : z4 = z2 &&& z3) (e5 : z5 = rb ^^^ (-1)) (e6 : z6 = z4 &&& z5)
    (hA : ∀ l : Nat, l < 64 → b64 ra l = (decide (0 ≤ mstX M' a.toNat ((M'.1 23 2).toInt).toNat) && b64 (M'.2 31 (mstX M' a.toNat ((M'.1 23 2).toInt).toNat).toNat) l)) (hB : ∀ l : Nat, l < 64 → b64 rb l = (decide (0 ≤ mstX M' b.toNat ((M'.1 23 2).toInt).toNat) && b64 (M'.2 31 (mstX M' b.toNat ((M'.1 23 2).toInt).toNat).toNat) l)) :
    ctb (b64 z6) 64 = ctb (loH H (b64 (M.2 1 11)) a b (mst (eW M 24) (fun k => ((unl H k a 64 : Nat) : Int)) (eW M 24 a.toNat) n.toNat) (mst (eW M 24) (fun k => ((unl H k b 64 : Nat) : Int)) (eW M 24 b.toNat) n.toNat)) 64 := by
  have ra_ := mst_rng (eW M 24) (fun k => ((unl H k a 64 : Nat) : Int)) (eW M 24 a.toNat) n.toNat
  have rb_ := mst_rng (eW M 24) (fun k => ((unl H k b 64 : Nat) : Int)) (eW M 24 b.toNat) n.toNat
  apply ctb_cong
  intro l hl
  rw [loan_bits e1 e2 e3 e4 e5 e6 hl, hA l hl, hB l hl, mstX_open hop h24 h232 ha, mstX_open hop h24 h232 hb, mo_cut (M := M) hop (by omega) hl, mo_cut (M := M) hop (by omega) hl, hop a.toNat (by omega) l hl, hop b.toNat (by omega) l hl, tn_cast ha.1, tn_cast hb.1, hs]
  rfl
/-- the reference's loan, line by line -/
def boM (M : Mem) (a b y : Int) (up l : Nat) : Bool := (hsM M a l y up && hsM M b l y up) && decide ((M.1 57 l).toInt = 1)
def haM (M : Mem) (a b y : Int) (up : Nat) (m k : Int) (l : Nat) : Bool := (decide (0 ≤ m) && (boM M a b y up l && hsM M m l y up)) || (decide (0 ≤ k) && (boM M a b y up l && hsM M k l y up))
def loM (M : Mem) (a b y : Int) (up : Nat) (m k : Int) (l : Nat) : Bool := boM M a b y up l && !haM M a b y up m k l
theorem bo_n1 {M : Mem} {a b y i : Int} {up : Nat} (h : (M.1 57 i.toNat).toInt ≠ 1) : ¬ (boM M a b y up i.toNat = true) := by unfold boM; simp [h]
theorem bo_n2 {M : Mem} {a b y i : Int} {up : Nat} (hi : 0 ≤ i) (h : ¬ (hsM M a i y up = true)) : ¬ (boM M a b y up i.toNat = true) := by unfold boM; rw [tn_cast hi]; simp [h]
theorem bo_n3 {M : Mem} {a b y i : Int} {up : Nat} (hi : 0 ≤ i) (h : ¬ (hsM M b i y up = true)) : ¬ (boM M a b y up i.toNat = true) := by unfold boM; rw [tn_cast hi]; simp [h]
theorem bo_y {M : Mem} {a b y i : Int} {up : Nat} (hi : 0 ≤ i) (h1 : (M.1 57 i.toNat).toInt = 1) (h2 : hsM M a i y up = true) (h3 : hsM M b i y up = true) : boM M a b y up i.toNat = true := by unfold boM; rw [tn_cast hi]; simp [h1, h2, h3]
theorem bb0 {P : Prop} {x : Int} (h : (x = 1 ∧ P) ∨ (x = 0 ∧ ¬ P)) (hx : x = 0) : ¬ P := by rcases h with ⟨q, _⟩ | ⟨_, q⟩; omega; exact q
theorem bb1 {P : Prop} {x : Int} (h : (x = 1 ∧ P) ∨ (x = 0 ∧ ¬ P)) (hx : x ≠ 0) : P := by rcases h with ⟨_, q⟩ | ⟨q, _⟩; exact q; omega
theorem ha_y1 {M : Mem} {a b y i m k : Int} {up : Nat} (hi : 0 ≤ i) (hm : 0 ≤ m) (h1 : boM M a b y up i.toNat = true) (h2 : hsM M m i y up = true) : haM M a b y up m k i.toNat = true := by unfold haM; rw [tn_cast hi]; simp [hm, h1, h2]
theorem ha_y2 {M : Mem} {a b y i m k : Int} {up : Nat} (hi : 0 ≤ i) (hm : 0 ≤ k) (h1 : boM M a b y up i.toNat = true) (h2 : hsM M k i y up = true) : haM M a b y up m k i.toNat = true := by unfold haM; rw [tn_cast hi]; simp [hm, h1, h2]
theorem ha_n {M : Mem} {a b y i m k : Int} {up : Nat} (hi : 0 ≤ i) (h1 : m < 0 ∨ ¬ (boM M a b y up i.toNat = true) ∨ ¬ (hsM M m i y up = true)) (h2 : k < 0 ∨ ¬ (boM M a b y up i.toNat = true) ∨ ¬ (hsM M k i y up = true)) : ¬ (haM M a b y up m k i.toNat = true) := by
  unfold haM
  rw [tn_cast hi]
  intro z
  simp only [Bool.or_eq_true, Bool.and_eq_true, decide_eq_true_eq] at z
  rcases z with ⟨z1, z2, z3⟩ | ⟨z1, z2, z3⟩
  · rcases h1 with q | q | q
    · omega
    · exact q z2
    · exact q z3
  · rcases h2 with q | q | q
    · omega
    · exact q z2
    · exact q z3
theorem lo_y {M : Mem} {a b y i m k : Int} {up : Nat} (h1 : boM M a b y up i.toNat = true) (h2 : ¬ (haM M a b y up m k i.toNat = true)) : loM M a b y up m k i.toNat = true := by unfold loM; simp [h1, h2]
theorem lo_n1 {M : Mem} {a b y i m k : Int} {up : Nat} (h1 : ¬ (boM M a b y up i.toNat = true)) : loM M a b y up m k i.toNat = false := by unfold loM; simp [h1]
theorem lo_n2 {M : Mem} {a b y i m k : Int} {up : Nat} (h1 : haM M a b y up m k i.toNat = true) : loM M a b y up m k i.toNat = false := by unfold loM; simp [h1]
/-- the greatest so far, and the first place where it stands (-5: none above 0) -/
def mbo (f : Nat → Int) : Nat → Int × Int
  | 0 => (0, -5)
  | k + 1 => if (mbo f k).1 < f k then (f k, (k : Int)) else mbo f k
theorem mbo_y {f : Nat → Int} {k m : Nat} (h : (mbo f k).1 < f k) (hm : m = k + 1) : mbo f m = (f k, (k : Int)) := by subst hm; exact if_pos h
theorem mbo_n {f : Nat → Int} {k m : Nat} (h : f k ≤ (mbo f k).1) (hm : m = k + 1) : mbo f m = mbo f k := by subst hm; exact if_neg (by omega)
theorem mbx_y {f : Nat → Int} {few best x i : Int} {m : Nat} (h : few = (mbo f i.toNat).1 ∧ best = (mbo f i.toNat).2) (hi : 0 ≤ i) (hx : x = f i.toNat) (hlt : few < x) (hm : m = i.toNat + 1) : x = (mbo f m).1 ∧ i = (mbo f m).2 := by
  rw [mbo_y (k := i.toNat) (by rw [← h.1, ← hx]; exact hlt) hm]
  exact ⟨hx, (tn_cast hi).symm⟩
theorem mbx_n {f : Nat → Int} {few best x i : Int} {m : Nat} (h : few = (mbo f i.toNat).1 ∧ best = (mbo f i.toNat).2) (hx : x = f i.toNat) (hge : x ≤ few) (hm : m = i.toNat + 1) : few = (mbo f m).1 ∧ best = (mbo f m).2 := by
  rw [mbo_n (k := i.toNat) (by rw [← h.1, ← hx]; exact hge) hm]
  exact h
theorem mbo_cong {f g : Nat → Int} : ∀ {n : Nat}, (∀ k, k < n → f k = g k) → mbo f n = mbo g n
  | 0, _ => rfl
  | n + 1, h => by
    show (if _ then _ else _) = (if _ then _ else _)
    rw [mbo_cong (fun k hk => h k (by omega)), h n (by omega)]
/-- how many of the first n singers live at v and have the line -/
def vil (hm : Nat → Int) (hb : Nat → Bool) (n : Nat) (v : Nat) : Int := ((ctb (fun s => decide (hm s = v) && hb s) n : Nat) : Int)
theorem vil_rng (hm : Nat → Int) (hb : Nat → Bool) (n v : Nat) : 0 ≤ vil hm hb n v ∧ vil hm hb n v ≤ n := by
  have := ctb_le (fun s => decide (hm s = v) && hb s) n
  unfold vil; omega
theorem vil_s (hm : Nat → Int) (hb : Nat → Bool) (n v : Nat) : vil hm hb (n + 1) v = vil hm hb n v + (if (decide (hm n = v) && hb n) = true then 1 else 0) := by
  show ((ctb _ n + (if (decide (hm n = v) && hb n) = true then 1 else 0) : Nat) : Int) = _
  unfold vil
  split <;> simp
theorem vw_step {M : Mem} {hm : Nat → Int} {hb : Nat → Bool} {n m : Nat} {h b : Int} {z : Int32} (i2 : ∀ v : Nat, v < 10 → (M.1 32 v).toInt = vil hm hb n v) (hh : hm n = h) (h0 : 0 ≤ h ∧ h ≤ 9) (hbit : (b = 1 ∧ (hb n = true)) ∨ (b = 0 ∧ ¬ (hb n = true))) (hz : z.toInt = (M.1 32 h.toNat).toInt + b) (hmm : m = n + 1) : ∀ v : Nat, v < 10 → ((ui M 32 h.toNat z).1 32 v).toInt = vil hm hb m v := by
  subst hmm
  intro v hv
  rw [vil_s]
  by_cases q : v = h.toNat
  · subst q
    rw [ui_eq, hz, i2 _ (by omega), hh]
    rcases hbit with ⟨q1, q2⟩ | ⟨q1, q2⟩
    · rw [q1, q2, if_pos (by simp; omega)]
    · rw [q1, Bool.eq_false_iff.mpr q2, if_neg (by simp)]
  · rw [ui_nj q, i2 v hv, hh, if_neg (by simp; intro z; omega)]; omega
def VB (F : Nat → Int) (b n : Int) : Prop := F b.toNat = (mbo F n.toNat).1 ∧ ((mbo F n.toNat).1 = 0 → (mbo F n.toNat).2 = -5) ∧ (0 < (mbo F n.toNat).1 → (mbo F n.toNat).2 = b)
theorem VB_1 {F : Nat → Int} (h : 0 ≤ F 0) : VB F 0 1 := by
  have e : mbo F (1 : Int).toNat = if 0 < F 0 then (F 0, 0) else (0, -5) := rfl
  unfold VB
  rw [e]
  by_cases q : 0 < F 0
  · rw [if_pos q]; exact ⟨rfl, fun z => absurd z (by show ¬ F 0 = 0; omega), fun _ => rfl⟩
  · rw [if_neg q]; exact ⟨(show F 0 = 0 by omega), fun _ => rfl, fun z => absurd z (by show ¬ (0 : Int) < 0; decide)⟩
theorem VB_y {F : Nat → Int} {b n : Int} (h : VB F b n) (h0 : 0 ≤ n) (hlt : F b.toNat < F n.toNat) (hn : 0 ≤ F b.toNat) : VB F n (n + 1) := by
  have e : mbo F (n + 1).toNat = (F n.toNat, n) := by
    rw [mbo_y (k := n.toNat) (by rw [← h.1]; exact hlt) (by omega), tn_cast h0]
  unfold VB
  rw [e]
  exact ⟨rfl, fun z => absurd z (by show ¬ F n.toNat = 0; omega), fun _ => rfl⟩
theorem VB_n {F : Nat → Int} {b n : Int} (h : VB F b n) (h0 : 0 ≤ n) (hge : F n.toNat ≤ F b.toNat) : VB F b (n + 1) := by
  have e : mbo F (n + 1).toNat = mbo F n.toNat := mbo_n (k := n.toNat) (by rw [← h.1]; exact hge) (by omega)
  unfold VB
  rw [e]
  exact h
theorem VB_ret {F G : Nat → Int} {a b : Int} (h : VB F b 10) (hc : ∀ v : Nat, v < 10 → F v = G v) (hr : (F b.toNat = 0 ∧ a = -5) ∨ (F b.toNat ≠ 0 ∧ a = b)) (hn : 0 ≤ F b.toNat) : a = (mbo G 10).2 := by
  rw [← mbo_cong (n := 10) hc]
  have h1 : F b.toNat = (mbo F 10).1 := h.1
  rcases hr with ⟨q1, q2⟩ | ⟨q1, q2⟩
  · rw [q2]; exact (h.2.1 (by show (mbo F 10).1 = 0; omega)).symm
  · rw [q2]; exact (h.2.2 (by show 0 < (mbo F 10).1; omega)).symm
theorem vil_cong {hm hm' : Nat → Int} {hb hb' : Nat → Bool} {n v : Nat} (h : ∀ s, s < n → hm s = hm' s ∧ hb s = hb' s) : vil hm hb n v = vil hm' hb' n v := by
  unfold vil
  have e : ctb (fun s => decide (hm s = v) && hb s) n = ctb (fun s => decide (hm' s = v) && hb' s) n := ctb_cong (fun s hs => by
    show (decide (hm s = v) && hb s) = (decide (hm' s = v) && hb' s)
    rw [(h s hs).1, (h s hs).2])
  rw [e]
theorem vl_y {hm : Nat → Int} {hb : Nat → Bool} {x i : Int} {v m : Nat} (h : x = vil hm hb i.toNat v) (h1 : hm i.toNat = v) (h2 : hb i.toNat = true) (hmm : m = i.toNat + 1) : x + 1 = vil hm hb m v := by
  subst hmm
  rw [vil_s, h, if_pos (by simp [h1, h2])]
theorem vl_n {hm : Nat → Int} {hb : Nat → Bool} {x i : Int} {v m : Nat} (h : x = vil hm hb i.toNat v) (h1 : hm i.toNat ≠ v ∨ ¬ (hb i.toNat = true)) (hmm : m = i.toNat + 1) : x + 0 = vil hm hb m v := by
  subst hmm
  rw [vil_s, h, if_neg (by
    intro z
    simp only [Bool.and_eq_true, decide_eq_true_eq] at z
    rcases h1 with q | q
    · exact q z.1
    · exact q z.2)]
/-! ===== slips; forged ===== -/
theorem b64_lN0 (l : Nat) : b64 (lN 0) l = false := by rw [b64_lN (by decide), Nat.zero_testBit]
theorem slip_or {z1 z2 z3 s : Int64} {k : Int32} {a n : Int} (hz : z1.toInt = a) (h : a = 0 ∨ a = 1) (hk : k.toInt = n) (hn : 0 ≤ n ∧ n < 64) (e2 : z2 = z1 <<< (k.toInt64 &&& 63)) (e3 : z3 = s ||| z2) : ∀ l : Nat, l < 64 → b64 z3 l = (b64 s l || (decide ((l : Int) = n) && decide (a = 1))) := by
  intro l hl
  rcases h with h | h
  · have e1 : z1 = lN 0 := Int64.toInt_inj.mp (by rw [hz, h]; decide)
    obtain ⟨e, -⟩ := nI_back hk hn.1
    have e4 : z2 = lN 0 := by
      rw [e2, e1, e, wb_shl 0 (by omega), Nat.zero_mul]
    rw [e3, b64_or, e4, b64_lN0, h]
    simp
  · have e1 : z1 = 1 := Int64.toInt_inj.mp (by rw [hz, h]; decide)
    rw [e1] at e2
    rw [bt_or hk hn e2 e3 l hl, h]
    by_cases q : l = n.toNat
    · rw [if_pos q, decide_eq_true (show (l : Int) = n by omega)]; simp
    · rw [if_neg q, decide_eq_false (show ¬ (l : Int) = n by omega)]; simp
def anyb (p : Nat → Bool) : Nat → Bool
  | 0 => false
  | k + 1 => anyb p k || p k
theorem anyb_cong {p q : Nat → Bool} : ∀ {n : Nat}, (∀ k, k < n → p k = q k) → anyb p n = anyb q n
  | 0, _ => rfl
  | n + 1, h => by show (anyb p n || p n) = (anyb q n || q n); rw [anyb_cong (fun k hk => h k (by omega)), h n (by omega)]
theorem anyb_iff {p : Nat → Bool} : ∀ {n : Nat}, anyb p n = true ↔ ∃ k, k < n ∧ p k = true
  | 0 => ⟨fun h => (nomatch h), fun ⟨k, h, _⟩ => absurd h (Nat.not_lt_zero _)⟩
  | n + 1 => by
    show (anyb p n || p n) = true ↔ _
    rw [Bool.or_eq_true, anyb_iff (n := n)]
    constructor
    · rintro (⟨k, h1, h2⟩ | h)
      · exact ⟨k, by omega, h2⟩
      · exact ⟨n, by omega, h⟩
    · rintro ⟨k, h1, h2⟩
      by_cases q : k = n
      · subst q; exact Or.inr h2
      · exact Or.inl ⟨k, by omega, h2⟩
/-- what is near a singer: its own, its master's, its pupils' -/
def nrX (M : Mem) (s l n : Nat) : Bool := (b64 (M.2 31 s) l || (decide (0 ≤ mstX M s n) && b64 (M.2 31 (mstX M s n).toNat) l)) || anyb (fun k => decide (mstX M k n = (s : Int)) && b64 (M.2 31 k) l) n
def nrS (M : Mem) (s l n k : Nat) : Bool := (b64 (M.2 31 s) l || (decide (0 ≤ mstX M s n) && b64 (M.2 31 (mstX M s n).toNat) l)) || anyb (fun k => decide (mstX M k n = (s : Int)) && b64 (M.2 31 k) l) k
theorem nrS_0 {M : Mem} {s n : Nat} {x y z : Int64} (e : z = x ||| y) (hx : x = M.2 31 s) (hy : ∀ l : Nat, l < 64 → b64 y l = (decide (0 ≤ mstX M s n) && b64 (M.2 31 (mstX M s n).toNat) l)) : ∀ l : Nat, l < 64 → b64 z l = nrS M s l n 0 := by
  intro l hl
  rw [e, b64_or, hy l hl, hx]
  unfold nrS
  simp [anyb]
theorem nrS_y {M : Mem} {s n k m : Nat} {x z : Int64} (h : ∀ l : Nat, l < 64 → b64 x l = nrS M s l n k) (e : z = x ||| M.2 31 k) (hk : mstX M k n = (s : Int)) (hm : m = k + 1) : ∀ l : Nat, l < 64 → b64 z l = nrS M s l n m := by
  subst hm
  intro l hl
  rw [e, b64_or, h l hl]
  unfold nrS
  show _ = (_ || (anyb _ k || (decide (mstX M k n = (s : Int)) && b64 (M.2 31 k) l)))
  rw [decide_eq_true hk, Bool.true_and, Bool.or_assoc]
theorem nrS_n {M : Mem} {s n k m : Nat} {x : Int64} (h : ∀ l : Nat, l < 64 → b64 x l = nrS M s l n k) (hk : ¬ mstX M k n = (s : Int)) (hm : m = k + 1) : ∀ l : Nat, l < 64 → b64 x l = nrS M s l n m := by
  subst hm
  intro l hl
  rw [h l hl]
  unfold nrS
  show _ = (_ || (anyb _ k || (decide (mstX M k n = (s : Int)) && b64 (M.2 31 k) l)))
  rw [decide_eq_false hk, Bool.false_and, Bool.or_false]
/-- the first place that is not so; -5: none -/
def fst5 (ok : Nat → Prop) (n : Nat) (a : Int) : Prop := (a = -5 ∧ ∀ j, j < n → ok j) ∨ (0 ≤ a ∧ a < n ∧ ¬ ok a.toNat ∧ ∀ j, j < a.toNat → ok j)
theorem fst5_eq {ok ok' : Nat → Prop} {n : Nat} {a a' : Int} (h : fst5 ok n a) (h' : fst5 ok' n a') (e : ∀ j, j < n → (ok j ↔ ok' j)) : a = a' := by
  rcases h with ⟨h1, h2⟩ | ⟨h1, h2, h3, h4⟩ <;> rcases h' with ⟨k1, k2⟩ | ⟨k1, k2, k3, k4⟩
  · rw [h1, k1]
  · exact absurd ((e _ (by omega)).mp (h2 a'.toNat (by omega))) k3
  · exact absurd ((e _ (by omega)).mpr (k2 a.toNat (by omega))) h3
  · rcases Int.lt_trichotomy a a' with q | q | q
    · exact absurd ((e _ (by omega)).mpr (k4 a.toNat (by omega))) h3
    · exact q
    · exact absurd ((e _ (by omega)).mp (h4 a'.toNat (by omega))) k3
theorem ok_s {ok : Nat → Prop} {i : Int} (h : ∀ j : Nat, (j : Int) < i → ok j) (h0 : ok i.toNat) (hi : 0 ≤ i) : ∀ j : Nat, (j : Int) < i + 1 → ok j := by
  intro j hj
  by_cases q : j = i.toNat
  · subst q; exact h0
  · exact h j (by omega)
theorem fst5_iff {ok ok' : Nat → Prop} {n : Nat} {a : Int} (h : fst5 ok n a) (e : ∀ j, j < n → (ok j ↔ ok' j)) : fst5 ok' n a := by
  rcases h with ⟨h1, h2⟩ | ⟨h1, h2, h3, h4⟩
  · exact Or.inl ⟨h1, fun j hj => (e j hj).mp (h2 j hj)⟩
  · exact Or.inr ⟨h1, h2, fun z => h3 ((e _ (by omega)).mpr z), fun j hj => (e j (by omega)).mp (h4 j hj)⟩
def mH (bn : Nat → Int) (H : Int → Int → Bool) (N n : Nat) (s : Int) : Int := mst bn (fun k => ((unl H k s N : Nat) : Int)) (bn s.toNat) n
def nrH (bn : Nat → Int) (H : Int → Int → Bool) (N n : Nat) (s l : Int) : Bool := (H s l || (decide (0 ≤ mH bn H N n s) && H (mH bn H N n s) l)) || anyb (fun k => decide (mH bn H N n k = s) && H k l) n
theorem nrX_open {M M' : Mem} {H : Int → Int → Bool} {n a : Int} (hop : ∀ s : Nat, (s : Int) < n → ∀ l : Nat, l < 64 → b64 (M'.2 31 s) l = H s l) (h24 : eW M' 24 = eW M 24) (h232 : (M'.1 23 2).toInt = n) (ha : 0 ≤ a ∧ a < n) {l : Nat} (hl : l < 64) : nrX M' a.toNat l ((M'.1 23 2).toInt).toNat = nrH (eW M 24) H 64 n.toNat a l := by
  have e1 := mstX_open hop h24 h232 ha
  have r1 := mst_rng (eW M 24) (fun k => ((unl H k a 64 : Nat) : Int)) (eW M 24 a.toNat) n.toNat
  unfold nrX nrH mH
  rw [e1, mo_cut (M := M) hop (by omega) hl, hop a.toNat (by omega) l hl, tn_cast ha.1]
  congr 1
  rw [h232]
  apply anyb_cong
  intro k hk
  have e2 := mstX_open (a := (k : Int)) hop h24 h232 (by omega)
  rw [show ((k : Int)).toNat = k by omega, h232] at e2
  rw [e2, hop k (by omega) l hl, show ((k : Int)).toNat = k by omega]
/-- the reference's: near a singer -/
def nrp (M : Mem) (s y : Int) (up : Nat) (k : Int) : Bool := decide (mstM M s y up ((M.1 47 52).toInt).toNat = k) || decide (mstM M k y up ((M.1 47 52).toInt).toNat = s)
def nrF (M : Mem) (s l y : Int) (up n : Nat) : Bool := anyb (fun k => nrp M s y up k && hsM M k l y up) n
def nrM (M : Mem) (s l y : Int) (up : Nat) : Bool := hsM M s l y up || nrF M s l y up ((M.1 47 52).toInt).toNat
theorem nrp_y {M : Mem} {s y k : Int} {up : Nat} (h : mstM M s y up ((M.1 47 52).toInt).toNat = k ∨ mstM M k y up ((M.1 47 52).toInt).toNat = s) : nrp M s y up k = true := by
  unfold nrp
  rcases h with h | h
  · rw [decide_eq_true h]; rfl
  · rw [decide_eq_true h, Bool.or_true]
theorem nrp_n {M : Mem} {s y k : Int} {up : Nat} (h : mstM M s y up ((M.1 47 52).toInt).toNat ≠ k) (h2 : mstM M k y up ((M.1 47 52).toInt).toNat ≠ s) : ¬ (nrp M s y up k = true) := by
  unfold nrp
  rw [decide_eq_false h, decide_eq_false h2]
  exact fun z => (nomatch z)
theorem nrF_n {M : Mem} {s l y i : Int} {up m : Nat} (h : nrF M s l y up i.toNat = false) (hi : 0 ≤ i) (h1 : ¬ (nrp M s y up i = true) ∨ ¬ (hsM M i l y up = true)) (hm : m = i.toNat + 1) : nrF M s l y up m = false := by
  subst hm
  show (nrF M s l y up i.toNat || (nrp M s y up (i.toNat : Nat) && hsM M (i.toNat : Nat) l y up)) = false
  rw [h, tn_cast hi]
  rcases h1 with q | q
  · rw [Bool.eq_false_iff.mpr q]; rfl
  · rw [Bool.eq_false_iff.mpr q]; simp
theorem nrM_f0 {M : Mem} {s l y : Int} {up : Nat} (h : hsM M s l y up = true) : ¬ (nrM M s l y up = false) := by unfold nrM; simp [h]
theorem nrM_f1 {M : Mem} {s l y i : Int} {up : Nat} (hi : 0 ≤ i ∧ i < (M.1 47 52).toInt) (h1 : nrp M s y up i = true) (h2 : hsM M i l y up = true) : ¬ (nrM M s l y up = false) := by
  unfold nrM nrF
  intro z
  have : anyb (fun k => nrp M s y up k && hsM M k l y up) ((M.1 47 52).toInt).toNat = true := anyb_iff.mpr ⟨i.toNat, by omega, by show (nrp M s y up (i.toNat : Nat) && hsM M (i.toNat : Nat) l y up) = true; rw [tn_cast hi.1, h1, h2]; rfl⟩
  rw [this] at z
  simp at z
theorem nrM_t {M : Mem} {s l y i : Int} {up : Nat} (h0 : ¬ (hsM M s l y up = true)) (h : nrF M s l y up i.toNat = false) (hi : i.toNat = ((M.1 47 52).toInt).toNat) : nrM M s l y up = false := by
  unfold nrM
  rw [← hi, h, Bool.eq_false_iff.mpr h0]
  rfl
end
