section
/-! ===== the one line, on either side ===== -/
def FLR (G : Nat → Prop) (a : Int) : Prop := (0 ≤ a ∧ a < 40 ∧ G a.toNat ∧ ∀ l, l < 64 → G l → l = a.toNat) ∨ (a = -3 ∧ ¬ ∃ l, l < 64 ∧ G l ∧ ∀ l', l' < 64 → G l' → l' = l)
theorem FLR_of {G : Nat → Prop} {a b : Int} (h : OLR G a) (hb : (a = -1 ∧ b = -3) ∨ (a ≠ -1 ∧ b = a)) : FLR G b := by
  rcases h with ⟨h1, h2, h3, h4⟩ | ⟨h1, h2⟩
  · have e : b = a := by omega
    rw [e]
    exact Or.inl ⟨h1, h2, h3, h4⟩
  · exact Or.inr ⟨by omega, h2⟩
def FLQ (G : Nat → Prop) (L a : Int) : Prop := (0 ≤ a ∧ a < L ∧ G a.toNat ∧ ∀ l : Nat, (l : Int) < L → G l → l = a.toNat) ∨ (a = -3 ∧ ¬ ∃ l : Nat, (l : Int) < L ∧ G l ∧ ∀ l' : Nat, (l' : Int) < L → G l' → l' = l)
def FLI (G : Nat → Prop) (k a : Int) : Prop := (a = -1 ∧ ∀ l : Nat, (l : Int) < k → ¬ G l) ∨ (0 ≤ a ∧ a < k ∧ G a.toNat ∧ ∀ l : Nat, (l : Int) < k → G l → l = a.toNat)
section
variable {G G' : Nat → Prop} {k a b L : Int}
theorem FLI_0 : FLI G 0 (-1) := Or.inl ⟨rfl, fun l hl => absurd hl (by omega)⟩
theorem FLI_skip (h : FLI G k a) (hk : 0 ≤ k) (hn : ¬ G k.toNat) : FLI G (k + 1) a := by
  rcases h with ⟨h1, h2⟩ | ⟨h1, h2, h3, h4⟩
  · exact Or.inl ⟨h1, fun l hl z => by
      by_cases q : l = k.toNat
      · subst q; exact hn z
      · exact h2 l (by omega) z⟩
  · exact Or.inr ⟨h1, by omega, h3, fun l hl z => by
      by_cases q : l = k.toNat
      · subst q; exact absurd z hn
      · exact h4 l (by omega) z⟩
theorem FLI_take (h : FLI G k a) (hk : 0 ≤ k) (ha : a < 0) (hg : G k.toNat) : FLI G (k + 1) k := by
  rcases h with ⟨h1, h2⟩ | ⟨h1, h2, h3, h4⟩
  · exact Or.inr ⟨hk, by omega, hg, fun l hl z => by
      by_cases q : l = k.toNat
      · exact q
      · exact absurd z (h2 l (by omega))⟩
  · omega
theorem FLI_two (h : FLI G k a) (hk : 0 ≤ k ∧ k < L) (ha : 0 ≤ a) (hg : G k.toNat) : FLQ G L (-3) := by
  refine Or.inr ⟨rfl, ?_⟩
  rintro ⟨l, hl, hG, hu⟩
  rcases h with ⟨h1, h2⟩ | ⟨h1, h2, h3, h4⟩
  · omega
  · have e1 := hu a.toNat (by omega) h3
    have e2 := hu k.toNat (by omega) hg
    omega
theorem FLI_end (h : FLI G k a) (hk : k = L) (hb : (a < 0 ∧ b = -3) ∨ (0 ≤ a ∧ b = a)) : FLQ G L b := by
  subst hk
  rcases h with ⟨h1, h2⟩ | ⟨h1, h2, h3, h4⟩
  · exact Or.inr ⟨by omega, fun ⟨l, hl, hG, _⟩ => h2 l hl hG⟩
  · have e : b = a := by omega
    rw [e]
    exact Or.inl ⟨h1, h2, h3, h4⟩
theorem fill_eq (hL : 0 ≤ L ∧ L ≤ 40) (hG : ∀ l : Nat, l < 64 → (G l ↔ ((l : Int) < L ∧ G' l))) (h : FLR G a) (h' : FLQ G' L b) : a = b := by
  rcases h with ⟨h1, h2, h3, h4⟩ | ⟨h1, h2⟩ <;> rcases h' with ⟨y1, y2, y3, y4⟩ | ⟨y1, y2⟩
  · have z := (hG a.toNat (by omega)).mp h3
    have w := y4 a.toNat z.1 z.2
    omega
  · exfalso
    have z := (hG a.toNat (by omega)).mp h3
    exact y2 ⟨a.toNat, z.1, z.2, fun l' u1 u2 => h4 l' (by omega) ((hG l' (by omega)).mpr ⟨u1, u2⟩)⟩
  · exfalso
    exact h2 ⟨b.toNat, by omega, (hG b.toNat (by omega)).mpr ⟨by omega, y3⟩, fun l' u1 u2 => by
      have z := (hG l' u1).mp u2
      exact y4 l' z.1 z.2⟩
  · omega
theorem fill_ans {C C' : Prop} {P P' : Prop} (hC : C ↔ C') (hP : C → P → P' → a = b) (h : (¬ C ∧ a = -1) ∨ (C ∧ P)) (h' : (¬ C' ∧ b = -1) ∨ (C' ∧ P')) : a = b := by
  rcases h with ⟨h1, h2⟩ | ⟨h1, h2⟩ <;> rcases h' with ⟨y1, y2⟩ | ⟨y1, y2⟩
  · rw [h2, y2]
  · exact absurd (hC.mpr y1) h1
  · exact absurd (hC.mp h1) y1
  · exact hP h1 h2 y2
end
theorem wtR_pl {M : Mem} {v s : Int} {k l : Nat} (hv : v = (l : Int)) (hl : l < 40) (h85 : (M.1 85 l).toInt ≠ 0) (h55 : (M.1 55 l).toInt = (k : Int)) : ((wtR M v s : Nat) : Int) = if s = (k : Int) then 1 else 0 := by
  subst hv
  by_cases q : s = (k : Int)
  · rw [if_pos q, wtR_y (by omega) (by rw [show (((l : Nat) : Int)).toNat = l by omega]; exact h85) (by rw [show (((l : Nat) : Int)).toNat = l by omega, h55, q])]; rfl
  · rw [if_neg q, wtR_n (by omega) (Or.inr (by rw [show (((l : Nat) : Int)).toNat = l by omega, h55]; exact fun z => q z.symm))]; rfl
end
