section
/-! ===== the pile ===== -/
def STK (R : Nat → Int32) (n : Nat) : List Mat → Prop
  | [] => True
  | A :: s => TB R n (8 + s.length) A ∧ STK R n s
theorem STK_OUT {R R' : Nat → Int32} {n t : Nat} (hn : n < 25) (o : OUTr R R' t) : ∀ {s : List Mat}, 8 + s.length ≤ t → STK R n s → STK R' n s
  | [], _, _ => trivial
  | A :: s, ht, h => by
    rw [List.length_cons] at ht
    exact ⟨TB_OUT hn h.1 o (by omega), STK_OUT hn o (by omega) h.2⟩
theorem STK_O2 {R R' : Nat → Int32} {n t : Nat} (hn : n < 25) (o : OUT2 R R' t) : ∀ {s : List Mat}, 8 + s.length ≤ t → STK R n s → STK R' n s
  | [], _, _ => trivial
  | A :: s, ht, h => by
    rw [List.length_cons] at ht
    refine ⟨fun i j h1 h2 => ?_, STK_O2 hn o (by omega) h.2⟩
    have z := cx_rng (t := 8 + s.length) hn ⟨h1, h2⟩
    rw [o _ (by omega)]
    exact h.1 i j h1 h2
def LOW (R R' : Nat → Int32) : Prop := ∀ c, c < 2600 → R' c = R c
theorem LOW_rf {R : Nat → Int32} : LOW R R := fun _ _ => rfl
theorem LOW_tr {R R' R'' : Nat → Int32} (h : LOW R R') (h' : LOW R' R'') : LOW R R'' := fun c hc => (h' c hc).trans (h c hc)
theorem LOW_o {R R' : Nat → Int32} {t : Nat} (o : OUTr R R' t) (ht : 8 ≤ t) : LOW R R' := fun c hc => o c (by omega)
theorem LOW_o2 {R R' : Nat → Int32} {t : Nat} (o : OUT2 R R' t) (ht : 8 ≤ t) : LOW R R' := fun c hc => o c (by omega)
theorem TB_LOW {R R' : Nat → Int32} {n t : Nat} {A : Mat} (hn : n < 25) (h : TB R n t A) (l : LOW R R') (ht : t < 8) : TB R' n t A := fun i j h1 h2 => by
  have z := cx_rng (t := t) hn ⟨h1, h2⟩
  rw [l _ (by omega)]
  exact h i j h1 h2
/-- what a sign may find -/
def RSV (c : Int) (l : Nat) : Prop := ((97 ≤ c ∧ c ≤ 104) ∨ (65 ≤ c ∧ c ≤ 72)) ∨ ((c = 93 ∨ c = 125) ∧ 1 ≤ l) ∨ (c = 41 ∧ 2 ≤ l) ∨ ((c = 91 ∨ c = 123 ∨ c = 40 ∨ c = 124) ∧ l < 28)
/-- a sign read: the pile, and its top -/
def RSQ (M M' : Mem) (n : Nat) (s : List Mat) : Prop := STK (M'.1 38) n s ∧ (M'.1 37 6).toInt + 1 = 8 + (s.length : Int) ∧ LOW (M.1 38) (M'.1 38)
theorem RSV_of {f : Nat → Int} {N k : Nat} {p : RpT} {A : Mat} {S : List Mat} (h : gsN f N = some ([], true)) (hN : N ≤ 58) (hk : k < N) (e : mcN p f k = A :: S) : RSV (f k) S.length ∧ S.length ≤ 28 := by
  obtain ⟨s, e1, g⟩ := gsN_pre h k (by omega)
  obtain ⟨s', e', g1, g2⟩ := gsN_next h hk g
  have l1 := mcN_len (p := p) g
  have l2 := lvl_28 h hN (Nat.le_of_lt hk) g
  have l3 := lvl_28 h hN hk g2
  rw [e, List.length_cons] at l1
  refine ⟨?_, by omega⟩
  rcases gst_inv g1 with ⟨a, b, c⟩ | ⟨a, b, c⟩ | ⟨a, y, u, b, c⟩
  · subst b
    have el : lvl (f k :: s) = (if f k = 124 then 2 else 1) + lvl s := rfl
    rw [el, if_neg (by omega)] at l3
    exact Or.inr (Or.inr (Or.inr ⟨by omega, by omega⟩))
  · exact Or.inl a
  · subst b
    have el : lvl (y :: u) = (if y = 124 then 2 else 1) + lvl u := rfl
    rw [el] at l1
    rcases c with ⟨c1, c2, c3, c4⟩ | ⟨c1, c2, c3⟩
    · subst c3
      have e2 : lvl ((124 : Int) :: u) = (if (124 : Int) = 124 then 2 else 1) + lvl u := rfl
      rw [e2, if_pos rfl] at l3
      rw [if_neg (by omega)] at l1
      exact Or.inr (Or.inr (Or.inr ⟨by omega, by omega⟩))
    · unfold prC at c1
      by_cases q : f k = 41
      · rw [if_pos (by omega)] at l1
        exact Or.inr (Or.inr (Or.inl ⟨q, by omega⟩))
      · rw [if_neg (by omega)] at l1
        exact Or.inr (Or.inl ⟨by omega, by omega⟩)
/-! ===== the scenes that a scene leads to ===== -/
/-- the texts of the class: f x, N x; they stand in the order by the time of telling -/
def RTX (M : Mem) (f : Nat → Nat → Int) (N : Nat → Nat) : Prop := ∀ x : Nat, x < 8 → 0 < (M.1 20 x).toInt → (M.1 20 x).toInt = (N x : Int) + 2 ∧ N x ≤ 58 ∧ gsN (f x) (N x) = some ([], true) ∧ (∀ k : Nat, k < N x → (M.1 18 (60 * x + k + 2)).toInt = f x k) ∧ ∀ y : Nat, y < 8 → (bt (M.1 21 x) y = true ↔ ∃ k : Nat, k < N x ∧ f x k = 65 + y)
/-- order[k] -/
def orX (M : Mem) (k : Nat) : Nat := ((M.1 22 k).toInt).toNat
def ROR (M : Mem) (f : Nat → Nat → Int) (N : Nat → Nat) : Prop := (∀ k : Nat, (k : Int) < (M.1 14 11).toInt → 0 < (M.1 20 (orX M k)).toInt) ∧ (∀ k k' : Nat, (k : Int) < (M.1 14 11).toInt → (k' : Int) < (M.1 14 11).toInt → orX M k = orX M k' → k = k') ∧ ∀ k : Nat, (k : Int) < (M.1 14 11).toInt → ∀ (y j : Nat), y < 8 → j < N (orX M k) → f (orX M k) j = 65 + y → ∃ k' : Nat, k' < k ∧ orX M k' = y
/-- a set of scenes that holds a scene, and what each that it holds leads to, from k on -/
def WIN (M : Mem) (N : Nat → Nat) (f : Nat → Nat → Int) (s : Int32) (sc : Nat) (k : Int) : Prop := bt s sc = true ∧ ∀ k' : Nat, k ≤ (k' : Int) → (k' : Int) < (M.1 14 11).toInt → bt s (orX M k') = true → ∀ (y j : Nat), y < 8 → j < N (orX M k') → f (orX M k') j = 65 + y → bt s y = true
theorem bt_sh {m k : Int32} {a : Int} (hk : k.toInt = a) (h : 0 ≤ a ∧ a < 32) (em : m = (1 : Int32) <<< (k &&& 31)) : bt m a.toNat = true := by
  obtain ⟨e, -⟩ := nI_back hk h.1
  have e4 : ∀ i, i < 32 → bt (1 : Int32) i = decide (i = 0) := by decide +kernel
  rw [em, e, b_shl _ (by omega) _ (by omega), e4 _ (by omega), decide_eq_true (Nat.le_refl _), decide_eq_true (Nat.sub_self _)]
  rfl
theorem WIN_0 {M : Mem} {N : Nat → Nat} {f : Nat → Nat → Int} {s : Int32} {sc : Nat} {k : Int} (h : bt s sc = true) (hk : (M.1 14 11).toInt ≤ k) : WIN M N f s sc k := ⟨h, fun k' h1 h2 => absurd h2 (by omega)⟩
theorem WIN_skip {M : Mem} {N : Nat → Nat} {f : Nat → Nat → Int} {s : Int32} {sc : Nat} {k : Int} (h : WIN M N f s sc (k + 1)) (hk : 0 ≤ k) (hn : ¬ (bt s (orX M k.toNat) = true)) : WIN M N f s sc k := ⟨h.1, fun k' h1 h2 h3 y j hy hj hf => by
  by_cases q : (k' : Int) = k
  · have e : k' = k.toNat := by omega
    subst e
    exact absurd h3 hn
  · exact h.2 k' (by omega) h2 h3 y j hy hj hf⟩
theorem WIN_put {M : Mem} {N : Nat → Nat} {f : Nat → Nat → Int} {s s' u : Int32} {sc : Nat} {k : Int} (hO : ROR M f N) (hX : RTX M f N) (h8 : ∀ k : Nat, (k : Int) < (M.1 14 11).toInt → orX M k < 8) (h : WIN M N f s sc (k + 1)) (hk : 0 ≤ k ∧ k < (M.1 14 11).toInt) (hu : u = M.1 21 (orX M k.toNat)) (es : s' = s ||| u) : WIN M N f s' sc k := by
  have hx0 := hO.1 k.toNat (by omega)
  obtain ⟨-, -, -, -, hb⟩ := hX _ (h8 k.toNat (by omega)) hx0
  refine ⟨by rw [es, b_or, h.1]; rfl, fun k' h1 h2 h3 y j hy hj hf => ?_⟩
  rw [es, b_or, hu]
  by_cases q : (k' : Int) = k
  · have e : k' = k.toNat := by omega
    subst e
    rw [(hb y hy).mpr ⟨j, hj, hf⟩, Bool.or_true]
  · rw [es, b_or, hu, Bool.or_eq_true] at h3
    rcases h3 with h3 | h3
    · rw [h.2 k' (by omega) h2 h3 y j hy hj hf]; rfl
    · obtain ⟨j2, j3, j4⟩ := (hb _ (h8 k' h2)).mp h3
      obtain ⟨k2, k3, k4⟩ := hO.2.2 k.toNat (by omega) _ j2 (h8 k' h2) j3 j4
      have e := hO.2.1 k2 k' (by omega) h2 k4
      omega
/-- the tables that are filled -/
def TDN (R : Nat → Int32) (n : Nat) (M : Mem) (T : Nat → Mat) (s : Int32) (k : Int) : Prop := ∀ k' : Nat, (k' : Int) < k → bt s (orX M k') = true → TB R n (orX M k') (T (orX M k'))
theorem TDN_skip {R : Nat → Int32} {n : Nat} {M : Mem} {T : Nat → Mat} {s : Int32} {k : Int} (h : TDN R n M T s k) (hk : 0 ≤ k) (hn : ¬ (bt s (orX M k.toNat) = true)) : TDN R n M T s (k + 1) := fun k' h1 h2 => by
  by_cases q : k' = k.toNat
  · subst q; exact absurd h2 hn
  · exact h k' (by omega) h2
theorem TDN_put {R R' : Nat → Int32} {n : Nat} {M : Mem} {T : Nat → Mat} {s : Int32} {k : Int} (hn : n < 25) (h : TDN R n M T s k) (hk : 0 ≤ k) (o : ∀ c, c < 2600 → (c < 325 * orX M k.toNat ∨ 325 * orX M k.toNat + 325 ≤ c) → R' c = R c) (h8 : ∀ k' : Nat, (k' : Int) < k + 1 → orX M k' < 8) (hd : ∀ k' : Nat, (k' : Int) < k → orX M k' ≠ orX M k.toNat) (ht : TB R' n (orX M k.toNat) (T (orX M k.toNat))) : TDN R' n M T s (k + 1) := fun k' h1 h2 => by
  by_cases q : k' = k.toNat
  · subst q; exact ht
  · have z := h k' (by omega) h2
    have e1 := h8 k' h1
    have e2 := hd k' (by omega)
    intro i j u1 u2
    have y := cx_rng (t := orX M k') hn ⟨u1, u2⟩
    rw [o _ (by omega) (by omega)]
    exact z i j u1 u2
end
section
def BEL (R R' : Nat → Int32) (t : Nat) : Prop := ∀ c, c < 325 * t → R' c = R c
theorem BEL_o {R R' : Nat → Int32} {t u : Nat} (o : OUTr R R' u) (h : t ≤ u) : BEL R R' t := fun c hc => o c (by omega)
theorem BEL_o2 {R R' : Nat → Int32} {t u : Nat} (o : OUT2 R R' u) (h : t ≤ u) : BEL R R' t := fun c hc => o c (by omega)
theorem BEL_tr {R R' R'' : Nat → Int32} {t : Nat} (h : BEL R R' t) (h' : BEL R' R'' t) : BEL R R'' t := fun c hc => (h' c hc).trans (h c hc)
theorem TB_BEL {R R' : Nat → Int32} {n t u : Nat} {A : Mat} (hn : n < 25) (h : TB R n u A) (l : BEL R R' t) (ht : u < t) : TB R' n u A := fun i j h1 h2 => by
  have z := cx_rng (t := u) hn ⟨h1, h2⟩
  rw [l _ (by omega)]
  exact h i j h1 h2
theorem STK_BEL {R R' : Nat → Int32} {n t : Nat} (hn : n < 25) (l : BEL R R' t) : ∀ {s : List Mat}, 8 + s.length ≤ t → STK R n s → STK R' n s
  | [], _, _ => trivial
  | A :: s, ht, h => by
    rw [List.length_cons] at ht
    exact ⟨TB_BEL hn h.1 l (by omega), STK_BEL hn l (by omega) h.2⟩
theorem RS_two {M M' : Mem} {n t : Nat} {S : List Mat} {C : Mat} (hn : n < 25) (hS : STK (M.1 38) n S) (ht : (M'.1 37 6).toInt = 8 + (S.length : Int)) (et : t = 8 + S.length) (hC : TB (M'.1 38) n t C) (hb : BEL (M.1 38) (M'.1 38) t) : RSQ M M' n (C :: S) := by
  subst et
  refine ⟨⟨hC, STK_BEL hn hb (Nat.le_refl _) hS⟩, ?_, fun c hc => hb c (by omega)⟩
  rw [List.length_cons]
  omega
theorem ls1 {l : List Mat} (h : 1 ≤ l.length) : ∃ B s, l = B :: s := by
  cases l with
  | nil => rw [List.length_nil] at h; omega
  | cons B s => exact ⟨B, s, rfl⟩
theorem ls2 {l : List Mat} (h : 2 ≤ l.length) : ∃ A B s, l = A :: B :: s := by
  obtain ⟨A, t, e⟩ := ls1 (show 1 ≤ l.length by omega)
  subst e
  rw [List.length_cons] at h
  obtain ⟨B, s, e⟩ := ls1 (show 1 ≤ t.length by omega)
  subst e
  exact ⟨A, B, s, rfl⟩
end
section
theorem mcN_ne {p : RpT} {f : Nat → Int} {N k : Nat} (h : gsN f N = some ([], true)) (hk : k ≤ N) : ∃ A S, mcN p f k = A :: S := by
  obtain ⟨s, e, g⟩ := gsN_pre h k hk
  have l := mcN_len (p := p) g
  exact ls1 (by omega)
theorem RSQ_step {M M1 M2 : Mem} {n : Nat} {s s' : List Mat} (h : RSQ M M1 n s) (h' : RSQ M1 M2 n s') : RSQ M M2 n s' := ⟨h'.1, h'.2.1, LOW_tr h.2.2 h'.2.2⟩
theorem mcT_of {p : RpT} {f : Nat → Int} {N : Nat} {T : Mat} (e : mcN p f N = [T]) : mcT p f N = T := by unfold mcT; rw [e]
end
