section
/-! ===== weights ===== -/
def wtB (B : Nat → Bool) (l : Int) : Nat := if l = 40 then ctb B 64 else if B l.toNat = true then 1 else 0
theorem wtB_40 {B : Nat → Bool} {l : Int} (h : l = 40) : wtB B l = ctb B 64 := if_pos h
theorem wtB_le (B : Nat → Bool) (l : Int) : wtB B l ≤ 64 := by
  unfold wtB
  have z := ctb_le B 64
  split
  · exact z
  · split <;> omega
theorem wtB_b {B : Nat → Bool} {l a : Int} (h : l ≠ 40) (hb : (a = 1 ∧ (B l.toNat = true)) ∨ (a = 0 ∧ ¬ (B l.toNat = true))) : a = ((wtB B l : Nat) : Int) := by
  unfold wtB
  rw [if_neg h]
  rcases hb with ⟨q1, q2⟩ | ⟨q1, q2⟩
  · rw [if_pos q2, q1]; rfl
  · rw [if_neg q2, q1]; rfl
def WTI (R : Nat → Int32) (g : Nat → Nat → Nat) (pl sl : Int) : Prop := ∀ s j : Nat, s < 8 → ((j : Int) < pl ∨ ((j : Int) = pl ∧ (s : Int) < sl)) → (R (8 * j + s)).toInt = ((g s j : Nat) : Int)
theorem WTI_0 {R : Nat → Int32} {g : Nat → Nat → Nat} : WTI R g 0 0 := fun s j _ h => absurd h (by omega)
theorem WTI_put {M : Mem} {g : Nat → Nat → Nat} {pl sl : Int} {ix : Nat} {x : Int32} (h : WTI (M.1 39) g pl sl) (hs : 0 ≤ sl ∧ sl < 8) (hp : 0 ≤ pl) (hi : ix = 8 * pl.toNat + sl.toNat) (hx : x.toInt = ((g sl.toNat pl.toNat : Nat) : Int)) : WTI ((ui M 39 ix x).1 39) g pl (sl + 1) := by
  intro s j h8 hj
  by_cases q : s = sl.toNat ∧ j = pl.toNat
  · obtain ⟨q1, q2⟩ := q
    subst q1; subst q2; subst hi
    rw [ui_eq]; exact hx
  · rw [ui_nj (by omega)]
    exact h s j h8 (by omega)
theorem WTI_row {R : Nat → Int32} {g : Nat → Nat → Nat} {pl sl : Int} (h : WTI R g pl sl) (hs : 8 ≤ sl) : WTI R g (pl + 1) 0 := fun s j h8 hj => h s j h8 (by omega)
theorem AO_put {M : Mem} {p : Nat} {a k : Int} {ix : Nat} {x : Int32} (h : ∀ s : Nat, (s : Int) < k → (M.1 39 (8 * p + s)).toInt = if (s : Int) = a then 1 else 0) (hk : 0 ≤ k) (hi : ix = 8 * p + k.toNat) (hx : x.toInt = if k = a then 1 else 0) : ∀ s : Nat, (s : Int) < k + 1 → ((ui M 39 ix x).1 39 (8 * p + s)).toInt = if (s : Int) = a then 1 else 0 := by
  intro s hs
  by_cases q : s = k.toNat
  · rw [q, hi, ui_eq, hx, show ((k.toNat : Nat) : Int) = k by omega]
  · rw [ui_nj (by omega)]; exact h s (by omega)
def OU8 (R R' : Nat → Int32) (p : Nat) : Prop := ∀ c : Nat, (c < 8 * p ∨ 8 * p + 8 ≤ c) → R' c = R c
theorem OU8_ui {R : Nat → Int32} {M : Mem} {p ix : Nat} {x : Int32} (h : OU8 R (M.1 39) p) (hi : 8 * p ≤ ix ∧ ix < 8 * p + 8) : OU8 R ((ui M 39 ix x).1 39) p := fun c hc => by rw [ui_nj (by omega)]; exact h c hc
theorem OU8_tr {R R' R'' : Nat → Int32} {p : Nat} (h : OU8 R R' p) (h' : OU8 R' R'' p) : OU8 R R'' p := fun c hc => (h' c hc).trans (h c hc)
theorem AO_w {R0 R2 : Nat → Int32} {a k : Int} {w : Nat → Nat → Nat} {L : Int} (ha : 0 ≤ a) (hk : 0 ≤ k ∧ k < 8) (h2 : ∀ s : Nat, (s : Int) < 8 → (R2 (8 * a.toNat + s)).toInt = if (s : Int) = k then 1 else 0) (ho : OU8 R0 R2 a.toNat) (hw : ∀ t j : Nat, t < 8 → (j : Int) < L → (if (j : Int) = a then (if (t : Int) = k then 1 else 0) else (R0 (8 * j + t)).toInt) = ((w t j : Nat) : Int) ∧ w t j ≤ 64) : ∀ s j : Nat, s < 8 → (j : Int) < L → (R2 (8 * j + s)).toInt = ((w s j : Nat) : Int) ∧ w s j ≤ 64 := by
  intro s j hs hj
  have z := hw s j hs hj
  refine ⟨?_, z.2⟩
  rw [← z.1]
  by_cases q : (j : Int) = a
  · rw [if_pos q, show j = a.toNat by omega]
    exact h2 s (by omega)
  · rw [if_neg q, ho _ (by omega)]
/-! ===== the one line ===== -/
def GLb (Z : Nat → Int64) (gd : Nat → Prop) (k l : Nat) : Prop := ∃ s, s < k ∧ b64 (Z s) l = true ∧ gd s
def OLR (G : Nat → Prop) (a : Int) : Prop := (0 ≤ a ∧ a < 40 ∧ G a.toNat ∧ ∀ l, l < 64 → G l → l = a.toNat) ∨ (a = -1 ∧ ¬ ∃ l, l < 64 ∧ G l ∧ ∀ l', l' < 64 → G l' → l' = l)
def OLJ (G : Nat → Prop) (a : Int) : Prop := (a = -1 ∧ ∀ l, l < 64 → ¬ G l) ∨ (0 ≤ a ∧ a < 40 ∧ G a.toNat ∧ ∀ l, l < 64 → G l → l = a.toNat)
theorem nthN_ok {B : Nat → Bool} {i : Int} : ∀ n, 0 ≤ i → i < ((ctb B n : Nat) : Int) → 0 ≤ nthN B i n ∧ nthN B i n < n ∧ B (nthN B i n).toNat = true
  | 0, h0, h => by have e : ctb B 0 = 0 := rfl; omega
  | n + 1, h0, h => by
    have e : nthN B i (n + 1) = if B n = true ∧ (ctb B n : Int) = i then (n : Int) else nthN B i n := rfl
    rw [e]
    by_cases q : B n = true ∧ (ctb B n : Int) = i
    · rw [if_pos q]
      exact ⟨by omega, by omega, by rw [show ((n : Int)).toNat = n by omega]; exact q.1⟩
    · rw [if_neg q]
      rw [ctb_succ] at h
      have h2 : i < ((ctb B n : Nat) : Int) := by
        by_cases c : B n = true
        · rw [if_pos c] at h
          have z : ¬ ((ctb B n : Int) = i) := fun e => q ⟨c, e⟩
          omega
        · rw [if_neg c] at h; omega
      have ih := nthN_ok n h0 h2
      exact ⟨ih.1, by omega, ih.2.2⟩
theorem ctb_two {B : Nat → Bool} : ∀ n, 2 ≤ ctb B n → ∃ i j, i < j ∧ j < n ∧ B i = true ∧ B j = true
  | 0, h => by have e : ctb B 0 = 0 := rfl; omega
  | n + 1, h => by
    rw [ctb_succ] at h
    by_cases c : B n = true
    · rw [if_pos c] at h
      have h1 : 1 ≤ ctb B n := by omega
      obtain ⟨z1, z2, z3⟩ := nthN_ok (i := 0) (B := B) n (Int.le_refl _) (by omega)
      exact ⟨(nthN B 0 n).toNat, n, by omega, by omega, z3, c⟩
    · rw [if_neg c] at h
      obtain ⟨i, j, h1, h2, h3, h4⟩ := ctb_two n (by omega)
      exact ⟨i, j, h1, by omega, h3, h4⟩
theorem ctb_one {B : Nat → Bool} {n i j : Nat} (h : ctb B n ≤ 1) (hi : i < n) (hj : j < n) (bi : B i = true) (bj : B j = true) : i = j := by
  apply Classical.byContradiction
  intro q
  have key : ∀ {a b : Nat}, a < b → b < n → B a = true → B b = true → False := fun {a b} h1 h2 h3 h4 => by
    have z := ctb_lt2 h1 h3
    have y := ctb_lt2 h2 h4
    omega
  by_cases c : i < j
  · exact key c hj bi bj
  · exact key (show j < i by omega) hi bj bi
section
variable {Z : Nat → Int64} {gd : Nat → Prop} {k : Nat} {a b : Int}
theorem OL_0 : OLJ (GLb Z gd 0) (-1) := Or.inl ⟨rfl, fun l _ ⟨s, h, _⟩ => absurd h (Nat.not_lt_zero _)⟩
theorem GL_s {l : Nat} : GLb Z gd (k + 1) l ↔ GLb Z gd k l ∨ (b64 (Z k) l = true ∧ gd k) := by
  constructor
  · rintro ⟨s, h1, h2, h3⟩
    by_cases q : s = k
    · subst q; exact Or.inr ⟨h2, h3⟩
    · exact Or.inl ⟨s, by omega, h2, h3⟩
  · rintro (⟨s, h1, h2, h3⟩ | ⟨h2, h3⟩)
    · exact ⟨s, by omega, h2, h3⟩
    · exact ⟨k, by omega, h2, h3⟩
theorem OL_skip (h : OLJ (GLb Z gd k) a) (hn : ∀ l, l < 64 → ¬ (b64 (Z k) l = true ∧ gd k)) : OLJ (GLb Z gd (k + 1)) a := by
  rcases h with ⟨h1, h2⟩ | ⟨h1, h2, h3, h4⟩
  · exact Or.inl ⟨h1, fun l hl z => (GL_s.mp z).elim (h2 l hl) (hn l hl)⟩
  · exact Or.inr ⟨h1, h2, GL_s.mpr (Or.inl h3), fun l hl z => (GL_s.mp z).elim (h4 l hl) (fun y => absurd y (hn l hl))⟩
theorem OL_take (h : OLJ (GLb Z gd k) a) (ha : a = -1) (hg : gd k) (hz : ∀ l, 40 ≤ l → l < 64 → b64 (Z k) l = false) (h1 : ctb (b64 (Z k)) 64 ≤ 1) (h0 : ctb (b64 (Z k)) 64 ≠ 0) (hb : b = nthN (b64 (Z k)) 0 40) : OLJ (GLb Z gd (k + 1)) b := by
  have e := ctb_4064 hz
  obtain ⟨z1, z2, z3⟩ := nthN_ok (i := 0) (B := b64 (Z k)) 40 (Int.le_refl _) (by omega)
  rw [← hb] at z1 z2 z3
  rcases h with ⟨_, h2⟩ | ⟨y1, _⟩
  · exact Or.inr ⟨z1, z2, GL_s.mpr (Or.inr ⟨z3, hg⟩), fun l hl z => (GL_s.mp z).elim (fun y => absurd y (h2 l hl)) (fun y => ctb_one h1 hl (by omega) y.1 z3)⟩
  · omega
theorem OL_two {K : Nat} (hk : k < K) (h : OLJ (GLb Z gd k) a) (ha : a ≠ -1) (hg : gd k) (hd : ∀ s l : Nat, s < k → l < 64 → b64 (Z s) l = true → b64 (Z k) l = true → False) (h0 : ctb (b64 (Z k)) 64 ≠ 0) : OLR (GLb Z gd K) (-1) := by
  refine Or.inr ⟨rfl, ?_⟩
  rintro ⟨l, hl, hG, hu⟩
  rcases h with ⟨h1, _⟩ | ⟨h1, h2, ⟨s, s1, s2, s3⟩, h4⟩
  · exact ha h1
  · obtain ⟨z1, z2, z3⟩ := nthN_ok (i := 0) (B := b64 (Z k)) 64 (Int.le_refl _) (by omega)
    have e1 := hu a.toNat (by omega) ⟨s, by omega, s2, s3⟩
    have e2 := hu _ (by omega) ⟨k, hk, z3, hg⟩
    rw [e1] at s2
    rw [e2] at z3
    exact hd s l s1 hl s2 z3
theorem OL_many {K : Nat} (hk : k < K) (hg : gd k) (h2 : 2 ≤ ctb (b64 (Z k)) 64) : OLR (GLb Z gd K) (-1) := by
  refine Or.inr ⟨rfl, ?_⟩
  rintro ⟨l, hl, hG, hu⟩
  obtain ⟨i, j, h3, h4, h5, h6⟩ := ctb_two 64 h2
  have e1 := hu i (by omega) ⟨k, hk, h5, hg⟩
  have e2 := hu j h4 ⟨k, hk, h6, hg⟩
  omega
theorem OL_end (h : OLJ (GLb Z gd k) a) : OLR (GLb Z gd k) a := by
  rcases h with ⟨h1, h2⟩ | h
  · exact Or.inr ⟨h1, fun ⟨l, hl, hG, _⟩ => h2 l hl hG⟩
  · exact Or.inl h
theorem ctb_none {x : Int64} (h : ctb (b64 x) 64 = 0) : ∀ l, l < 64 → ¬ (b64 x l = true ∧ gd k) := fun l hl z => by
  have y := ctb_no 64 h l hl
  rw [z.1] at y
  exact absurd y (by decide)
end
def rtW (W : List (Nat × Nat)) : Bool := noW W 18 && (noW W 20 && (noW W 21 && (noW W 22 && !inW W 14 11)))
theorem RTX_fr {W : List (Nat × Nat)} {M M' : Mem} {f : Nat → Nat → Int} {N : Nat → Nat} (h : RTX M f N) (F : Fr W M M') (hw : rtW W = true) : RTX M' f N := by
  unfold rtW at hw
  simp only [Bool.and_eq_true, Bool.not_eq_true'] at hw
  unfold RTX
  rw [row_fr F hw.1, row_fr F hw.2.1, row_fr F hw.2.2.1]
  exact h
theorem orX_fr {W : List (Nat × Nat)} {M M' : Mem} (F : Fr W M M') (hw : noW W 22 = true) : orX M' = orX M := by unfold orX; rw [row_fr F hw]
theorem ROR_fr {W : List (Nat × Nat)} {M M' : Mem} {f : Nat → Nat → Int} {N : Nat → Nat} (h : ROR M f N) (F : Fr W M M') (hw : rtW W = true) : ROR M' f N := by
  unfold rtW at hw
  simp only [Bool.and_eq_true, Bool.not_eq_true'] at hw
  unfold ROR
  rw [orX_fr F hw.2.2.2.1, row_fr F hw.2.1, F.at 14 11 hw.2.2.2.2]
  exact h
end
section
theorem lk_y {g : Nat → Int} {x : Int64} {v l : Int} {m : Nat} (h : v = ((ctb (fun j => decide (g j ≠ 40) && !(b64 x (g j).toNat)) l.toNat : Nat) : Int)) (hl : 0 ≤ l) (h1 : g l.toNat ≠ 40) (h2 : ¬ (b64 x (g l.toNat).toNat = true)) (hm : m = l.toNat + 1) : v + 1 = ((ctb (fun j => decide (g j ≠ 40) && !(b64 x (g j).toNat)) m : Nat) : Int) := ctb_y h hl (by rw [decide_eq_true h1, Bool.eq_false_iff.mpr h2]; rfl) hm
theorem lk_n {g : Nat → Int} {x : Int64} {v l : Int} {m : Nat} (h : v = ((ctb (fun j => decide (g j ≠ 40) && !(b64 x (g j).toNat)) l.toNat : Nat) : Int)) (hl : 0 ≤ l) (h1 : g l.toNat = 40 ∨ b64 x (g l.toNat).toNat = true) (hm : m = l.toNat + 1) : v = ((ctb (fun j => decide (g j ≠ 40) && !(b64 x (g j).toNat)) m : Nat) : Int) := by
  have z := ctb_n (p := fun j => decide (g j ≠ 40) && !(b64 x (g j).toNat)) h hl (by
    rcases h1 with q | q
    · rw [decide_eq_false (p := g l.toNat ≠ 40) (fun w => w q)]; rfl
    · rw [q]; exact Bool.and_false _) hm
  omega
end
