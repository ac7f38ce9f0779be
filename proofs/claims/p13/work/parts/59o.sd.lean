section
/-! ===== the tape of the class, by its cells ===== -/
def og (M : Mem) : Nat → Int := fun i => (M.1 15 ((M.1 17 i).toInt).toNat).toInt
def tX (M : Mem) : Nat → Int := fun k => (M.1 15 (k + 2)).toInt
def stX (M : Mem) : List Int := stL (og M) ((M.1 14 4).toInt).toNat
def eX (M : Mem) : Bool := decide ((M.1 14 5).toInt = 1)
theorem eX_1 {M : Mem} (h : (M.1 14 5).toInt = 1) : eX M = true := decide_eq_true h
theorem eX_0 {M : Mem} (h : (M.1 14 5).toInt ≠ 1) : eX M = false := decide_eq_false h
def isOp (c : Int) : Prop := c = 91 ∨ c = 123 ∨ c = 40
def isLt (c : Int) : Prop := (97 ≤ c ∧ c ≤ 104) ∨ (65 ≤ c ∧ c ≤ 72)
def prC (k c : Int) : Prop := (k = 91 ∧ c = 93) ∨ (k = 123 ∧ c = 125) ∨ (k = 124 ∧ c = 41)
def GO (M M' : Mem) (c a : Int) : Prop := (a = 1 ∧ gst (stX M) (eX M) c = some (stX M', eX M')) ∨ (a = 0 ∧ gst (stX M) (eX M) c = none)
theorem og_same {M M' : Mem} (h15 : M'.1 15 = M.1 15) (h17 : M'.1 17 = M.1 17) : og M' = og M := by funext i; unfold og; rw [h15, h17]
theorem GO_let {M M' : Mem} {c : Int} (h : (97 ≤ c ∧ c ≤ 104) ∨ (65 ≤ c ∧ c ≤ 72)) (h15 : M'.1 15 = M.1 15) (h17 : M'.1 17 = M.1 17) (h4 : (M'.1 14 4).toInt = (M.1 14 4).toInt) (h5 : (M'.1 14 5).toInt = 1) : GO M M' c 1 := by
  refine Or.inl ⟨rfl, ?_⟩
  rw [gst_let h, eX_1 h5]
  unfold stX
  rw [og_same h15 h17, h4]
theorem stL_top {g : Nat → Int} {d : Int} (h : 0 ≤ d) : stL g (d + 1).toNat = g d.toNat :: stL g d.toNat := by
  rw [show (d + 1).toNat = d.toNat + 1 by omega]; rfl
theorem GO_open {M M' : Mem} {x : Int32} {a c d : Int} (h : c = 91 ∨ c = 123 ∨ c = 40) (hd : (M.1 14 4).toInt = d) (d0 : 0 ≤ d) (hx : x.toInt = a) (hc : (M.1 15 a.toNat).toInt = c) (h15 : M'.1 15 = M.1 15) (h17 : M'.1 17 = (ui M 17 d.toNat x).1 17) (h4 : (M'.1 14 4).toInt = d + 1) (h5 : (M'.1 14 5).toInt = 0) : GO M M' c 1 := by
  refine Or.inl ⟨rfl, ?_⟩
  rw [gst_op h, eX_0 (M := M') (by omega)]
  have e1 : og M' d.toNat = c := by unfold og; rw [h15, h17, ui_eq, hx, hc]
  have e2 : stL (og M') d.toNat = stL (og M) d.toNat := stL_congr _ (fun i hi => by unfold og; rw [h15, h17, ui_nj (by omega)])
  unfold stX
  rw [h4, hd, stL_top d0, e1, e2]
theorem stX_top {M : Mem} {d : Int} (hd : (M.1 14 4).toInt = d) (d1 : 1 ≤ d) : stX M = og M (d - 1).toNat :: stL (og M) (d - 1).toNat := by
  unfold stX
  rw [hd, show d = (d - 1) + 1 by omega, stL_top (by omega), show d - 1 + 1 - 1 = d - 1 by omega]
theorem GO_bar {M M' : Mem} {x : Int32} {a d k : Int} (hd : (M.1 14 4).toInt = d) (d1 : 1 ≤ d) (he : (M.1 14 5).toInt = 1) (hk : og M (d - 1).toNat = k) (k40 : k = 40) (hx : x.toInt = a) (hc : (M.1 15 a.toNat).toInt = 124) (h15 : M'.1 15 = M.1 15) (h17 : M'.1 17 = (ui M 17 (d - 1).toNat x).1 17) (h4 : (M'.1 14 4).toInt = d) (h5 : (M'.1 14 5).toInt = 0) : GO M M' 124 1 := by
  refine Or.inl ⟨rfl, ?_⟩
  rw [stX_top hd d1, stX_top h4 d1, hk, k40, eX_1 he, gst_bar, eX_0 (M := M') (by omega)]
  have e1 : og M' (d - 1).toNat = 124 := by unfold og; rw [h15, h17, ui_eq, hx, hc]
  have e2 : stL (og M') (d - 1).toNat = stL (og M) (d - 1).toNat := stL_congr _ (fun i hi => by unfold og; rw [h15, h17, ui_nj (by omega)])
  rw [e1, e2]
theorem GO_close {M M' : Mem} {c d k : Int} (hd : (M.1 14 4).toInt = d) (d1 : 1 ≤ d) (he : (M.1 14 5).toInt = 1) (hk : og M (d - 1).toNat = k) (hp : prC k c) (h15 : M'.1 15 = M.1 15) (h17 : M'.1 17 = M.1 17) (h4 : (M'.1 14 4).toInt = d - 1) (h5 : (M'.1 14 5).toInt = (M.1 14 5).toInt) : GO M M' c 1 := by
  refine Or.inl ⟨rfl, ?_⟩
  rw [stX_top hd d1, hk, eX_1 he, gst_cl hp, eX_1 (M := M') (by omega)]
  unfold stX
  rw [og_same h15 h17, h4]
theorem GO_n1 {M M' : Mem} {c : Int} (h1 : ¬ (c = 91 ∨ c = 123 ∨ c = 40)) (h2 : ¬ ((97 ≤ c ∧ c ≤ 104) ∨ (65 ≤ c ∧ c ≤ 72))) (he : (M.1 14 5).toInt ≠ 1) : GO M M' c 0 := Or.inr ⟨rfl, by rw [eX_0 he]; exact gst_f h1 h2⟩
theorem GO_n2 {M M' : Mem} {c : Int} (h1 : ¬ (c = 91 ∨ c = 123 ∨ c = 40)) (h2 : ¬ ((97 ≤ c ∧ c ≤ 104) ∨ (65 ≤ c ∧ c ≤ 72))) (hd : (M.1 14 4).toInt ≤ 0) : GO M M' c 0 := by
  refine Or.inr ⟨rfl, ?_⟩
  unfold stX
  rw [show ((M.1 14 4).toInt).toNat = 0 by omega]
  exact gst_nil h1 h2
theorem GO_n3 {M M' : Mem} {c d k : Int} (h1 : ¬ (c = 91 ∨ c = 123 ∨ c = 40)) (h2 : ¬ ((97 ≤ c ∧ c ≤ 104) ∨ (65 ≤ c ∧ c ≤ 72))) (hd : (M.1 14 4).toInt = d) (d1 : 1 ≤ d) (hk : og M (d - 1).toNat = k) (h3 : ¬ (c = 124 ∧ k = 40)) (h4 : ¬ prC k c) : GO M M' c 0 := by
  refine Or.inr ⟨rfl, ?_⟩
  rw [stX_top hd d1, hk]
  exact gst_no h1 h2 h3 h4
/-- the class has read the tape up to p -/
def MFI (M0 M : Mem) (p : Int) : Prop := (p ≤ 0 ∨ (65 ≤ (M0.1 15 0).toInt ∧ (M0.1 15 0).toInt ≤ 72)) ∧ (p ≤ 1 ∨ (M0.1 15 1).toInt = 61) ∧ (p < 2 → (M.1 14 4).toInt = 0 ∧ (M.1 14 5).toInt = 0) ∧ (2 ≤ p → gsN (tX M0) (p - 2).toNat = some (stX M, eX M)) ∧ 0 ≤ (M.1 14 4).toInt ∧ (M.1 14 4).toInt ≤ p
theorem MFI_2 {M0 M : Mem} (h1 : 65 ≤ (M0.1 15 0).toInt ∧ (M0.1 15 0).toInt ≤ 72) (h2 : (M0.1 15 1).toInt = 61) (h3 : (M.1 14 4).toInt = 0 ∧ (M.1 14 5).toInt = 0) : MFI M0 M 2 := by
  refine ⟨Or.inr h1, Or.inr h2, fun h => absurd h (by decide), fun _ => ?_, by omega, by omega⟩
  have e1 : stX M = [] := by unfold stX; rw [h3.1]; rfl
  have e2 : eX M = false := eX_0 (by omega)
  rw [e1, e2]; rfl
theorem MFI_s {M0 M M' : Mem} {p a c : Int} (h : MFI M0 M p) (hp : 2 ≤ p) (hg : GO M M' c a) (ha : a ≠ 0) (hc : (M0.1 15 p.toNat).toInt = c) (hd : 0 ≤ (M'.1 14 4).toInt ∧ (M'.1 14 4).toInt ≤ (M.1 14 4).toInt + 1) : MFI M0 M' (p + 1) := by
  obtain ⟨h1, h2, h3, h4, h5, h6⟩ := h
  refine ⟨by omega, by omega, fun q => by omega, fun _ => ?_, by omega, by omega⟩
  rcases hg with ⟨_, g⟩ | ⟨g, _⟩
  · have e := gsN_succ (h4 hp)
    rw [show (p + 1 - 2).toNat = (p - 2).toNat + 1 by omega, e]
    have ec : tX M0 (p - 2).toNat = c := by unfold tX; rw [show (p - 2).toNat + 2 = p.toNat by omega]; exact hc
    rw [ec]; exact g
  · exact absurd g ha
theorem MFI_no {M0 M M' : Mem} {p a c n : Int} (h : MFI M0 M p) (hp : 2 ≤ p) (hn : p < n) (hg : GO M M' c a) (ha : a = 0) (hc : (M0.1 15 p.toNat).toInt = c) : MF (M0.1 15 0).toInt (M0.1 15 1).toInt (tX M0) n p := by
  obtain ⟨h1, h2, h3, h4, h5, h6⟩ := h
  refine Or.inr (Or.inr ⟨by omega, Or.inl ⟨(p - 2).toNat, _, _, by omega, by omega, h4 hp, ?_⟩⟩)
  rcases hg with ⟨g, _⟩ | ⟨_, g⟩
  · omega
  · have ec : tX M0 (p - 2).toNat = c := by unfold tX; rw [show (p - 2).toNat + 2 = p.toNat by omega]; exact hc
    rw [ec]; exact g
theorem MFI_end {M0 M : Mem} {p n a : Int} (h : MFI M0 M p) (hp : 0 ≤ p) (hn : p = n) (ha : ((M.1 14 5).toInt = 1 ∧ (M.1 14 4).toInt = 0 ∧ a = -1) ∨ (¬ ((M.1 14 5).toInt = 1 ∧ (M.1 14 4).toInt = 0) ∧ a = n)) : MF (M0.1 15 0).toInt (M0.1 15 1).toInt (tX M0) n a := by
  subst hn
  obtain ⟨h1, h2, h3, h4, h5, h6⟩ := h
  by_cases q : 2 ≤ p
  · refine Or.inr (Or.inr ⟨by omega, Or.inr ?_⟩)
    have g := h4 q
    rcases ha with ⟨a1, a2, a3⟩ | ⟨a1, a3⟩
    · right
      refine ⟨a3, ?_⟩
      have e1 : stX M = [] := by unfold stX; rw [a2]; rfl
      rw [g, e1, eX_1 a1]
    · left
      refine ⟨a3, _, _, g, fun z => a1 ⟨?_, ?_⟩⟩
      · exact of_decide_eq_true z.2
      · have e1 := z.1
        unfold stX at e1
        by_cases w : (M.1 14 4).toInt = 0
        · exact w
        · rw [show ((M.1 14 4).toInt).toNat = ((M.1 14 4).toInt).toNat - 1 + 1 by omega] at e1
          cases e1
  · have z := h3 (by omega)
    have ea : a = p := by omega
    by_cases q0 : p ≤ 0
    · exact Or.inl ⟨by omega, Or.inl q0⟩
    · exact Or.inr (Or.inl ⟨by omega, ⟨by omega, by omega, by omega⟩, Or.inl (by omega)⟩)
def bdX (M : Mem) (sc c : Int) : Prop := (65 ≤ c ∧ c ≤ 72) ∧ (c - 65 = sc ∨ ¬ (0 < (M.1 20 (c - 65).toNat).toInt))
def bdM (M : Mem) (sc c : Int) : Prop := (65 ≤ c ∧ c ≤ 72) ∧ (c - 65 = sc ∨ ¬ (0 < (M.1 63 (c - 65).toNat).toInt))
theorem tX_at {M : Mem} {p : Int} (h : 2 ≤ p) : tX M (p - 2).toNat = (M.1 15 p.toNat).toInt := by unfold tX; rw [show (p - 2).toNat + 2 = p.toNat by omega]
/-- the order of telling, as a list -/
def ordN (R : Nat → Int32) : Nat → List Int
  | 0 => []
  | n + 1 => ordN R n ++ [(R n).toInt]
theorem ordN_cong {R R' : Nat → Int32} : ∀ n, (∀ j, j < n → R' j = R j) → ordN R' n = ordN R n
  | 0, _ => rfl
  | n + 1, h => by
    show ordN R' n ++ [_] = ordN R n ++ [_]
    rw [ordN_cong n (fun j hj => h j (by omega)), h n (by omega)]
theorem ordN_len {R : Nat → Int32} : ∀ n, (ordN R n).length = n
  | 0 => rfl
  | n + 1 => by
    show (ordN R n ++ [_]).length = _
    rw [List.length_append, ordN_len n]; rfl
def noS (s : Int) (l : List Int) : List Int := l.filter (fun x => decide (x ≠ s))
def OLI (M0 M : Mem) (s o k : Int) : Prop := ordN (M.1 22) o.toNat = noS s (ordN (M0.1 22) k.toNat) ∧ ∀ j : Nat, k ≤ j → M.1 22 j = M0.1 22 j
theorem OLI_0 {M : Mem} {s : Int} : OLI M M s 0 0 := ⟨rfl, fun _ _ => rfl⟩
theorem OLI_skip {M0 M : Mem} {s o k : Int} (h : OLI M0 M s o k) (hk : 0 ≤ k) (e : (M.1 22 k.toNat).toInt = s) : OLI M0 M s o (k + 1) := by
  refine ⟨?_, fun j hj => h.2 j (by omega)⟩
  rw [h.1, show (k + 1).toNat = k.toNat + 1 by omega]
  show _ = noS s (ordN (M0.1 22) k.toNat ++ [_])
  unfold noS
  rw [List.filter_append, ← h.2 k.toNat (by omega), e]
  simp
theorem OLI_take {M0 M : Mem} {s o k : Int} {x : Int32} (h : OLI M0 M s o k) (ho : 0 ≤ o) (hk : o ≤ k) (e : (M.1 22 k.toNat).toInt ≠ s) (hx : x = M.1 22 k.toNat) : OLI M0 (ui M 22 o.toNat x) s (o + 1) (k + 1) := by
  refine ⟨?_, fun j hj => by rw [ui_nj (by omega)]; exact h.2 j (by omega)⟩
  rw [show (k + 1).toNat = k.toNat + 1 by omega, show (o + 1).toNat = o.toNat + 1 by omega]
  show ordN _ o.toNat ++ [((ui M 22 o.toNat x).1 22 o.toNat).toInt] = noS s (ordN (M0.1 22) k.toNat ++ [_])
  rw [ordN_cong (R := M.1 22) o.toNat (fun j hj => ui_nj (by omega)), h.1, ui_eq]
  unfold noS
  rw [List.filter_append, ← h.2 k.toNat (by omega), hx]
  simp [e]
theorem OLI_end {M0 M : Mem} {s o k : Int} {x : Int32} (h : OLI M0 M s o k) (ho : 0 ≤ o) (hx : x.toInt = s) : ordN ((ui M 22 o.toNat x).1 22) (o + 1).toNat = noS s (ordN (M0.1 22) k.toNat) ++ [s] := by
  rw [show (o + 1).toNat = o.toNat + 1 by omega]
  show ordN _ o.toNat ++ [((ui M 22 o.toNat x).1 22 o.toNat).toInt] = _
  rw [ordN_cong (R := M.1 22) o.toNat (fun j hj => ui_nj (by omega)), h.1, ui_eq, hx]
theorem OLI_len {M0 M : Mem} {s o k : Int} (h : OLI M0 M s o k) (ho : 0 ≤ o) : o = ((noS s (ordN (M0.1 22) k.toNat)).length : Int) := by
  rw [← h.1, ordN_len]; omega
/-- bits of a set of scenes -/
theorem bit1 {x y z : Int32} {k : Int32} {a : Int} (hk : k.toInt = a) (h : 0 ≤ a ∧ a < 32) (e1 : y = x >>> (k &&& 31)) (e2 : z = y &&& 1) : z.toInt = 1 ↔ bt x a.toNat = true := by
  obtain ⟨e, -⟩ := nI_back hk h.1
  have e3 : bt y 0 = bt x a.toNat := by rw [e1, e, b_sshr _ (by omega) _ (by decide), Nat.add_zero, if_pos (by omega)]
  have e4 : ∀ i, i < 32 → bt (1 : Int32) i = decide (i = 0) := by decide +kernel
  rw [← e3]
  constructor
  · intro hz
    have ez : z = 1 := Int32.toInt_inj.mp (by rw [hz]; decide)
    have q := congrArg (fun v => bt v 0) e2
    simp only [ez, b_and, e4 0 (by decide)] at q
    simpa using q.symm
  · intro hz
    have ez : z = 1 := by
      apply b_ext
      intro i hi
      rw [e2, b_and, e4 i hi]
      by_cases q : i = 0
      · subst q; rw [hz]; rfl
      · simp [q]
    rw [ez]; decide
/-- which scenes stand in a text up to p -/
def USI (M0 : Mem) (u : Int32) (p : Int) : Prop := ∀ y : Nat, y < 8 → (bt u y = true ↔ ∃ k : Nat, (k : Int) < p - 2 ∧ tX M0 k = 65 + y)
theorem USI_0 {M0 : Mem} : USI M0 0 2 := fun y _ => ⟨fun h => absurd ((b_0 y).symm.trans h) (by decide), fun ⟨k, h, _⟩ => absurd h (by omega)⟩
theorem USI_skip {M0 : Mem} {u : Int32} {p : Int} (h : USI M0 u p) (hp : 2 ≤ p) (hn : ¬ (65 ≤ (M0.1 15 p.toNat).toInt ∧ (M0.1 15 p.toNat).toInt ≤ 72)) : USI M0 u (p + 1) := by
  intro y hy
  rw [h y hy]
  constructor
  · rintro ⟨k, h1, h2⟩; exact ⟨k, by omega, h2⟩
  · rintro ⟨k, h1, h2⟩
    by_cases q : k = (p - 2).toNat
    · subst q; rw [tX_at hp] at h2; omega
    · exact ⟨k, by omega, h2⟩
theorem USI_put {M0 : Mem} {u v m k : Int32} {p c : Int} (h : USI M0 u p) (hp : 2 ≤ p) (hc : (M0.1 15 p.toNat).toInt = c) (hl : 65 ≤ c ∧ c ≤ 72) (hk : k.toInt = c - 65) (em : m = (1 : Int32) <<< (k &&& 31)) (ev : v = u ||| m) : USI M0 v (p + 1) := by
  intro y hy
  obtain ⟨e, -⟩ := nI_back hk (by omega)
  have e4 : ∀ i, i < 32 → bt (1 : Int32) i = decide (i = 0) := by decide +kernel
  have e1 : bt m y = decide (y = (c - 65).toNat) := by
    rw [em, e, b_shl _ (by omega) _ (by omega)]
    by_cases q : y = (c - 65).toNat
    · rw [decide_eq_true q, decide_eq_true (by omega), e4 _ (by omega), decide_eq_true (by omega)]; rfl
    · rw [decide_eq_false q]
      by_cases q2 : (c - 65).toNat ≤ y
      · rw [e4 _ (by omega), decide_eq_false (p := y - (c - 65).toNat = 0) (by omega), Bool.and_false]
      · rw [decide_eq_false q2]; rfl
  rw [ev, b_or, e1, Bool.or_eq_true, h y hy, decide_eq_true_eq]
  constructor
  · rintro (⟨k, h1, h2⟩ | q)
    · exact ⟨k, by omega, h2⟩
    · exact ⟨(p - 2).toNat, by omega, by rw [tX_at hp, hc]; omega⟩
  · rintro ⟨k, h1, h2⟩
    by_cases q : k = (p - 2).toNat
    · subst q; rw [tX_at hp, hc] at h2; right; omega
    · left; exact ⟨k, by omega, h2⟩
/-- the bytes that a feed brings -/
def bw (w : Int64) (k : Nat) : Int32 := (((w.toUInt64 >>> ((nI (8 * k)).toInt64.toUInt64 &&& Int64.toUInt64 63)).toInt64) &&& 255).toInt32
def fdR (w : Int64) (n0 a m : Int) (R : Nat → Int32) (j : Nat) : Int32 := if n0 ≤ j ∧ (j : Int) < n0 + m then bw w (a - 1 - ((j : Int) - n0)).toNat else R j
theorem fdR_0 {w : Int64} {n0 a : Int} {R : Nat → Int32} (j : Nat) : R j = fdR w n0 a 0 R j := by unfold fdR; rw [if_neg (by omega)]
theorem fdR_s {w : Int64} {n0 a m : Int} {R S S' : Nat → Int32} (h : ∀ j, S j = fdR w n0 a m R j) (h0 : 0 ≤ n0 ∧ 0 ≤ m) (h1 : ∀ j, j ≠ (n0 + m).toNat → S' j = S j) (h2 : S' (n0 + m).toNat = bw w (a - 1 - m).toNat) : ∀ j, S' j = fdR w n0 a (m + 1) R j := by
  intro j
  unfold fdR
  by_cases q : j = (n0 + m).toNat
  · rw [if_pos (by omega), q, h2]
    congr 2
    omega
  · rw [h1 j q, h j]
    unfold fdR
    by_cases q2 : n0 ≤ j ∧ (j : Int) < n0 + m
    · rw [if_pos q2, if_pos (by omega)]
    · rw [if_neg q2, if_neg (by omega)]
theorem b64_ext {x y : Int64} (h : ∀ i, i < 64 → b64 x i = b64 y i) : x = y := Int64.toBitVec_inj.mp (BitVec.eq_of_getLsbD_eq (fun i hi => h i hi))
theorem b64_ushr {x : Int64} {k : Nat} (hk : k < 64) {i : Nat} : b64 ((x.toUInt64 >>> ((nI k).toInt64.toUInt64 &&& Int64.toUInt64 63)).toInt64) i = b64 x (k + i) := by
  obtain ⟨n, hn, rfl⟩ := wb_of x
  rw [wb_shr hn hk, b64_lN (Nat.lt_of_le_of_lt (Nat.div_le_self _ _) hn), b64_lN hn, Nat.testBit_div_two_pow, Nat.add_comm]
theorem b64_sshr {x : Int64} {k : Nat} (hk : k < 64) {i : Nat} (hi : k + i < 64) : b64 (x >>> ((nI k).toInt64 &&& 63)) i = b64 x (k + i) := by
  unfold b64
  rw [Int64.toBitVec_shiftRight]
  have e : (((nI k).toInt64 &&& 63).toBitVec.smod 64).toNat = k := by
    rw [wb_c k hk, wb_tb, wb_sm k hk, BitVec.toNat_ofNat, Nat.mod_eq_of_lt (by omega)]
  show (x.toBitVec.sshiftRight (((nI k).toInt64 &&& 63).toBitVec.smod 64).toNat).getLsbD i = _
  rw [e, BitVec.getLsbD_sshiftRight]
  simp [hi]
  omega
theorem bw_255 : ∀ i, i < 64 → b64 (255 : Int64) i = decide (i < 8) := by decide +kernel
theorem bw_X {w z1 z2 : Int64} {z3 y : Int32} {k : Int} (hy : y.toInt = 8 * k) (h : 0 ≤ k ∧ k ≤ 7) (e1 : z1 = (w.toUInt64 >>> (y.toInt64.toUInt64 &&& Int64.toUInt64 63)).toInt64) (e2 : z2 = z1 &&& 255) (e3 : z3 = z2.toInt32) : z3 = bw w k.toNat := by
  obtain ⟨e, -⟩ := nI_back hy (by omega)
  unfold bw
  rw [e3, e2, e1, e, show (8 * k).toNat = 8 * k.toNat by omega]
theorem bw_M {w z1 z2 : Int64} {z3 y : Int32} {k : Int} (hy : y.toInt = 8 * k) (h : 0 ≤ k ∧ k ≤ 7) (e1 : z1 = w >>> (y.toInt64 &&& 63)) (e2 : z2 = z1 &&& 255) (e3 : z3 = z2.toInt32) : z3 = bw w k.toNat := by
  obtain ⟨e, -⟩ := nI_back hy (by omega)
  unfold bw
  rw [e3, e2]
  congr 1
  apply b64_ext
  intro i hi
  rw [b64_and, b64_and, bw_255 i hi, e1, e, show (8 * k).toNat = 8 * k.toNat by omega]
  by_cases q : i < 8
  · rw [b64_sshr (by omega) (by omega), b64_ushr (by omega)]
  · rw [decide_eq_false q, Bool.and_false, Bool.and_false]
theorem fdR_b {w : Int64} {n0 a k k' : Int} {R : Nat → Int32} {M : Mem} {c i : Nat} {z : Int32} (h : ∀ j, M.1 c j = fdR w n0 a (a - 1 - k) R j) (h0 : 0 ≤ n0 ∧ 0 ≤ k ∧ k < a) (hi : (i : Int) = n0 + (a - 1 - k)) (hz : z = bw w k.toNat) (hk : k' = k - 1) : ∀ j, (ui M c i z).1 c j = fdR w n0 a (a - 1 - k') R j := by
  have e : i = (n0 + (a - 1 - k)).toNat := by omega
  have q := fdR_s h ⟨h0.1, by omega⟩ (S' := (ui M c i z).1 c) (fun j q => ui_nj (by omega)) (by rw [← e, ui_eq, hz, show (a - 1 - (a - 1 - k)).toNat = k.toNat by omega])
  rw [show a - 1 - k' = a - 1 - k + 1 by omega]
  exact q
theorem MFI_0 {M0 M : Mem} (h4 : (M.1 14 4).toInt = 0) (h5 : (M.1 14 5).toInt = 0) : MFI M0 M 0 := ⟨Or.inl (Int.le_refl _), Or.inl (by decide), fun _ => ⟨h4, h5⟩, fun h => absurd h (by decide), by omega, by omega⟩
theorem MFI_bad {M0 M M' : Mem} {p a n : Int} (h : MFI M0 M p) (hp : 0 ≤ p) (hn : p < n) (h15 : M.1 15 = M0.1 15) (g : (a = 0 ∨ a = 1) ∧ (p = 0 → (a = 1 ↔ (65 ≤ (M.1 15 p.toNat).toInt ∧ (M.1 15 p.toNat).toInt ≤ 72))) ∧ (p = 1 → (a = 1 ↔ (M.1 15 p.toNat).toInt = 61))) (gm : (p < 2 → M' = M) ∧ (2 ≤ p → GO M M' (M.1 15 p.toNat).toInt a ∧ 0 ≤ (M'.1 14 4).toInt ∧ (M'.1 14 4).toInt ≤ (M.1 14 4).toInt + 1)) (ha : a = 0) : MF (M0.1 15 0).toInt (M0.1 15 1).toInt (tX M0) n p := by
  rw [h15] at g gm
  by_cases q : 2 ≤ p
  · exact MFI_no h q hn (gm.2 q).1 ha rfl
  · by_cases q0 : p = 0
    · have z := g.2.1 q0
      rw [q0] at z
      exact Or.inl ⟨q0, Or.inr (fun w => by have u := z.mpr w; omega)⟩
    · have q1 : p = 1 := by omega
      have z := g.2.2 q1
      rw [q1] at z
      have h1 := h.1
      exact Or.inr (Or.inl ⟨q1, ⟨by omega, by omega, by omega⟩, Or.inr (fun w => by have u := z.mpr w; omega)⟩)
theorem MFI_good {M0 M M' : Mem} {p a : Int} (h : MFI M0 M p) (hp : 0 ≤ p) (h15 : M.1 15 = M0.1 15) (g : (a = 0 ∨ a = 1) ∧ (p = 0 → (a = 1 ↔ (65 ≤ (M.1 15 p.toNat).toInt ∧ (M.1 15 p.toNat).toInt ≤ 72))) ∧ (p = 1 → (a = 1 ↔ (M.1 15 p.toNat).toInt = 61))) (gm : (p < 2 → M' = M) ∧ (2 ≤ p → GO M M' (M.1 15 p.toNat).toInt a ∧ 0 ≤ (M'.1 14 4).toInt ∧ (M'.1 14 4).toInt ≤ (M.1 14 4).toInt + 1)) (ha : a ≠ 0) : MFI M0 M' (p + 1) := by
  rw [h15] at g gm
  have a1 : a = 1 := by omega
  by_cases q : 2 ≤ p
  · exact MFI_s h q (gm.2 q).1 ha rfl (gm.2 q).2
  · have e := gm.1 (by omega)
    subst e
    have h3 := h.2.2.1 (by omega)
    by_cases q0 : p = 0
    · have z := (g.2.1 q0).mp a1
      rw [q0] at z
      subst q0
      exact ⟨Or.inr z, Or.inl (by decide), fun _ => h3, fun w => absurd w (by decide), by omega, by omega⟩
    · have q1 : p = 1 := by omega
      have z := (g.2.2 q1).mp a1
      rw [q1] at z
      subst q1
      have h1 := h.1
      exact MFI_2 (by rcases h1 with w | w; omega; exact w) z h3
theorem ut_s {f : Nat → Int} {p : Int → Prop} {i : Int} (h : ∀ k : Nat, (k : Int) < i - 2 → ¬ p (f k)) (hi : 2 ≤ i) (hn : ¬ p (f (i - 2).toNat)) : ∀ k : Nat, (k : Int) < i + 1 - 2 → ¬ p (f k) := by
  intro k hk
  by_cases q : k = (i - 2).toNat
  · rw [q]; exact hn
  · exact h k (by omega)
theorem MF_ok {c0 c1 : Int} {f : Nat → Int} {n p : Int} (h : MF c0 c1 f n p) (hp : p < 0) : 2 ≤ n ∧ 65 ≤ c0 ∧ c0 ≤ 72 := by
  rcases h with ⟨h1, _⟩ | ⟨h1, _⟩ | ⟨h1, _⟩
  · omega
  · omega
  · omega
/-- a piece of a row that is copied -/
def cpR (R S : Nat → Int32) (D N : Nat) (j : Nat) : Int32 := if D ≤ j ∧ j < D + N then R (j - D) else S j
theorem uc_row {M : Mem} {k0 k D N : Nat} (j : Nat) : (uc M k0 0 k D N).1 k j = cpR (M.1 k0) (M.1 k) D N j := by
  show (if k = k ∧ D ≤ j ∧ j < D + N then M.1 k0 (0 + (j - D)) else M.1 k j) = _
  unfold cpR
  by_cases q : D ≤ j ∧ j < D + N
  · rw [if_pos ⟨rfl, q⟩, if_pos q, Nat.zero_add]
  · rw [if_neg (fun z => q z.2), if_neg q]
/-- what a told tape does to the class's scenes -/
def SMX (M M' : Mem) : Prop := M'.1 18 = M.1 18 ∧ M'.1 19 = M.1 19 ∧ M'.1 20 = M.1 20 ∧ M'.1 21 = M.1 21 ∧ M'.1 22 = M.1 22 ∧ M'.1 14 11 = M.1 14 11
def STX (M : Mem) (sc : Int) : Prop := ∃ x : Nat, x < 8 ∧ bt (M.1 21 x) sc.toNat = true
def KPX (M M' : Mem) (sc : Int) : Prop := (∀ j, M'.1 18 j = cpR (M.1 15) (M.1 18) (sc * 60).toNat ((M.1 14 1).toInt).toNat j) ∧ M'.1 20 = (ui M 20 sc.toNat (M.1 14 1)).1 20 ∧ (∀ x, x ≠ sc.toNat → M'.1 21 x = M.1 21 x) ∧ USI M (M'.1 21 sc.toNat) (M.1 14 1).toInt ∧ ((noS sc (ordN (M.1 22) ((M.1 14 11).toInt).toNat)).length < 8 → ordN (M'.1 22) ((M'.1 14 11).toInt).toNat = noS sc (ordN (M.1 22) ((M.1 14 11).toInt).toNat) ++ [sc] ∧ (M'.1 14 11).toInt = ((noS sc (ordN (M.1 22) ((M.1 14 11).toInt).toNat)).length : Int) + 1)
def SCX (M M' : Mem) (a : Int) : Prop := ∃ p, MF (M.1 15 0).toInt (M.1 15 1).toInt (tX M) (M.1 14 1).toInt p ∧ ((0 ≤ p ∧ a = -1000 - p ∧ SMX M M') ∨ (p < 0 ∧ ∃ u, UT (tX M) (bdX M ((M.1 15 0).toInt - 65)) (M.1 14 1).toInt u ∧ ((0 ≤ u ∧ a = -2000 - u ∧ SMX M M') ∨ (u < 0 ∧ ((STX M ((M.1 15 0).toInt - 65) ∧ a = -3000 ∧ SMX M M') ∨ (¬ STX M ((M.1 15 0).toInt - 65) ∧ a = (M.1 15 0).toInt - 65 ∧ KPX M M' ((M.1 15 0).toInt - 65)))))))
theorem SCX_to {M M1 M2 : Mem} {a : Int} (h : SCX M M1 a) (h18 : M2.1 18 = M1.1 18) (h19 : M2.1 19 = M1.1 19) (h20 : M2.1 20 = M1.1 20) (h21 : M2.1 21 = M1.1 21) (h22 : M2.1 22 = M1.1 22) (h11 : M2.1 14 11 = M1.1 14 11) : SCX M M2 a := by
  unfold SCX SMX KPX
  rw [h18, h19, h20, h21, h22, h11]
  exact h
theorem SMX_rf {W : List (Nat × Nat)} {M M' : Mem} (F : Fr W M M') (h : (noW W 18 && (noW W 19 && (noW W 20 && (noW W 21 && (noW W 22 && !inW W 14 11))))) = true) : SMX M M' := by
  simp only [Bool.and_eq_true, Bool.not_eq_true'] at h
  exact ⟨row_fr F h.1, row_fr F h.2.1, row_fr F h.2.2.1, row_fr F h.2.2.2.1, row_fr F h.2.2.2.2.1, F.at 14 11 h.2.2.2.2.2⟩
theorem MF_rng {c0 c1 : Int} {f : Nat → Int} {n p : Int} (h : MF c0 c1 f n p) (hn : 0 ≤ n) : -1 ≤ p ∧ p ≤ n := by
  rcases h with ⟨h1, _⟩ | ⟨h1, h2, _⟩ | ⟨h1, ⟨k, s, e, h2, h3, _⟩ | ⟨h2, _⟩ | ⟨h2, _⟩⟩ <;> omega
theorem UT_rng {f : Nat → Int} {b : Int → Prop} {n u : Int} (h : UT f b n u) : -1 ≤ u ∧ (u = -1 ∨ u < n) := by
  rcases h with ⟨h1, _⟩ | ⟨k, h1, h2, _⟩ <;> omega
theorem KPX_of {M M1 M' : Mem} {sc : Int} (r15 : M1.1 15 = M.1 15) (r1 : M1.1 14 1 = M.1 14 1) (s : SMX M M1) (hk : (∀ j, M'.1 18 j = cpR (M1.1 15) (M1.1 18) (sc * 60).toNat ((M1.1 14 1).toInt).toNat j) ∧ (∀ j, M'.1 19 j = cpR (M1.1 16) (M1.1 19) (sc * 60).toNat ((M1.1 14 1).toInt).toNat j) ∧ M'.1 20 = (ui M1 20 sc.toNat (M1.1 14 1)).1 20 ∧ (∀ x, x ≠ sc.toNat → M'.1 21 x = M1.1 21 x) ∧ USI M1 (M'.1 21 sc.toNat) (M1.1 14 1).toInt ∧ ((noS sc (ordN (M1.1 22) ((M1.1 14 11).toInt).toNat)).length < 8 → ordN (M'.1 22) ((M'.1 14 11).toInt).toNat = noS sc (ordN (M1.1 22) ((M1.1 14 11).toInt).toNat) ++ [sc] ∧ (M'.1 14 11).toInt = ((noS sc (ordN (M1.1 22) ((M1.1 14 11).toInt).toNat)).length : Int) + 1)) : KPX M M' sc := by
  obtain ⟨h1, -, h3, h4, h5, h6⟩ := hk
  have et : tX M1 = tX M := by funext k; unfold tX; rw [r15]
  rw [r15, s.1, r1] at h1
  rw [s.2.2.2.1] at h4
  rw [r1] at h5
  rw [s.2.2.2.2.1, s.2.2.2.2.2] at h6
  refine ⟨h1, ?_, h4, ?_, h6⟩
  · rw [h3, r1]
    funext b
    by_cases q : b = sc.toNat
    · subst q; rw [ui_eq, ui_eq]
    · rw [ui_nj q, ui_nj q, s.2.2.1]
  · unfold USI at h5 ⊢
    rw [et] at h5
    exact h5
end
