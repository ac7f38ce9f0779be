section
/-! ===== the tape's reading: brackets that stand open, and whether something stands before ===== -/
def gst (s : List Int) (e : Bool) (c : Int) : Option (List Int × Bool) :=
  if c = 91 ∨ c = 123 ∨ c = 40 then some (c :: s, false)
  else if (97 ≤ c ∧ c ≤ 104) ∨ (65 ≤ c ∧ c ≤ 72) then some (s, true)
  else if e = true then (stp s c).map (fun s' => (s', decide (c ≠ 124)))
  else none
def gsN (f : Nat → Int) : Nat → Option (List Int × Bool)
  | 0 => some ([], false)
  | k + 1 => (gsN f k).bind (fun q => gst q.1 q.2 (f k))
theorem gsN_succ {f : Nat → Int} {k : Nat} {s : List Int} {e : Bool} (h : gsN f k = some (s, e)) : gsN f (k + 1) = gst s e (f k) := by
  show (gsN f k).bind _ = _
  rw [h]; rfl
theorem gsN_none {f : Nat → Int} {k : Nat} (h : gsN f k = none) : ∀ m, gsN f (k + m) = none
  | 0 => h
  | m + 1 => by
    show (gsN f (k + m)).bind _ = none
    rw [gsN_none h m]; rfl
theorem gsN_cut {f : Nat → Int} {k m : Nat} {s : List Int} {e : Bool} (h : gsN f k = some (s, e)) (hn : gst s e (f k) = none) (hm : k < m) : gsN f m = none := by
  have z := gsN_none (f := f) (k := k + 1) (by rw [gsN_succ h]; exact hn) (m - (k + 1))
  rw [show k + 1 + (m - (k + 1)) = m by omega] at z
  exact z
theorem gst_op {s : List Int} {e : Bool} {c : Int} (h : c = 91 ∨ c = 123 ∨ c = 40) : gst s e c = some (c :: s, false) := by unfold gst; rw [if_pos h]
theorem gst_let {s : List Int} {e : Bool} {c : Int} (h : (97 ≤ c ∧ c ≤ 104) ∨ (65 ≤ c ∧ c ≤ 72)) : gst s e c = some (s, true) := by unfold gst; rw [if_neg (by omega), if_pos h]
theorem gst_f {s : List Int} {c : Int} (h1 : ¬ (c = 91 ∨ c = 123 ∨ c = 40)) (h2 : ¬ ((97 ≤ c ∧ c ≤ 104) ∨ (65 ≤ c ∧ c ≤ 72))) : gst s false c = none := by unfold gst; rw [if_neg h1, if_neg h2]; rfl
theorem stp_nil {c : Int} (h1 : ¬ (c = 91 ∨ c = 123 ∨ c = 40)) (h2 : ¬ ((97 ≤ c ∧ c ≤ 104) ∨ (65 ≤ c ∧ c ≤ 72))) : stp [] c = none := by
  unfold stp
  rw [if_neg h1]
  repeat' split
  all_goals first | rfl | contradiction
theorem gst_nil {e : Bool} {c : Int} (h1 : ¬ (c = 91 ∨ c = 123 ∨ c = 40)) (h2 : ¬ ((97 ≤ c ∧ c ≤ 104) ∨ (65 ≤ c ∧ c ≤ 72))) : gst [] e c = none := by
  unfold gst
  rw [if_neg h1, if_neg h2, stp_nil h1 h2]
  split <;> rfl
theorem gst_bar {s : List Int} : gst (40 :: s) true 124 = some (124 :: s, false) := rfl
theorem gst_cl {s : List Int} {k c : Int} (h : (k = 91 ∧ c = 93) ∨ (k = 123 ∧ c = 125) ∨ (k = 124 ∧ c = 41)) : gst (k :: s) true c = some (s, true) := by
  rcases h with ⟨a, b⟩ | ⟨a, b⟩ | ⟨a, b⟩ <;> subst a <;> subst b <;> rfl
theorem gst_no {s : List Int} {e : Bool} {k c : Int} (h1 : ¬ (c = 91 ∨ c = 123 ∨ c = 40)) (h2 : ¬ ((97 ≤ c ∧ c ≤ 104) ∨ (65 ≤ c ∧ c ≤ 72))) (h3 : ¬ (c = 124 ∧ k = 40)) (h4 : ¬ ((k = 91 ∧ c = 93) ∨ (k = 123 ∧ c = 125) ∨ (k = 124 ∧ c = 41))) : gst (k :: s) e c = none := by
  have z : stp (k :: s) c = none := by
    unfold stp
    rw [if_neg h1]
    simp only [List.head?_cons, Option.some.injEq]
    repeat' split
    all_goals first | rfl | (exfalso; omega)
  unfold gst
  rw [if_neg h1, if_neg h2, z]
  split <;> rfl
/-- where the reading of a text comes to its end: the place, or -1: the text is a scene's -/
def MF2 (f : Nat → Int) (n a : Int) : Prop := (∃ (k : Nat) (s : List Int) (e : Bool), a = ((k + 2 : Nat) : Int) ∧ (k : Int) < n - 2 ∧ gsN f k = some (s, e) ∧ gst s e (f k) = none) ∨ (a = n ∧ ∃ (s : List Int) (e : Bool), gsN f (n - 2).toNat = some (s, e) ∧ ¬ (s = [] ∧ e = true)) ∨ (a = -1 ∧ gsN f (n - 2).toNat = some ([], true))
def MF (c0 c1 : Int) (f : Nat → Int) (n a : Int) : Prop := (a = 0 ∧ (n ≤ 0 ∨ ¬ (65 ≤ c0 ∧ c0 ≤ 72))) ∨ (a = 1 ∧ (1 ≤ n ∧ 65 ≤ c0 ∧ c0 ≤ 72) ∧ (n ≤ 1 ∨ c1 ≠ 61)) ∨ ((2 ≤ n ∧ 65 ≤ c0 ∧ c0 ≤ 72 ∧ c1 = 61) ∧ MF2 f n a)
theorem MF2_one {f : Nat → Int} {n a b : Int} (hn : 2 ≤ n) (h : MF2 f n a) (h' : MF2 f n b) : a = b := by
  rcases h with ⟨k, s, e, h1, h2, h3, h4⟩ | ⟨h1, s, e, h3, h4⟩ | ⟨h1, h3⟩ <;> rcases h' with ⟨k', s', e', g1, g2, g3, g4⟩ | ⟨g1, s', e', g3, g4⟩ | ⟨g1, g3⟩
  · by_cases q : k < k'
    · rw [gsN_cut h3 h4 q] at g3; cases g3
    · by_cases q2 : k' < k
      · rw [gsN_cut g3 g4 q2] at h3; cases h3
      · rw [h1, g1, show k = k' by omega]
  · rw [gsN_cut h3 h4 (show k < (n - 2).toNat by omega)] at g3; cases g3
  · rw [gsN_cut h3 h4 (show k < (n - 2).toNat by omega)] at g3; cases g3
  · rw [gsN_cut g3 g4 (show k' < (n - 2).toNat by omega)] at h3; cases h3
  · rw [h1, g1]
  · rw [g3] at h3
    have z := Option.some.inj h3
    exact absurd ⟨(congrArg Prod.fst z).symm, (congrArg Prod.snd z).symm⟩ h4
  · rw [gsN_cut g3 g4 (show k' < (n - 2).toNat by omega)] at h3; cases h3
  · rw [h3] at g3
    have z := Option.some.inj g3
    exact absurd ⟨(congrArg Prod.fst z).symm, (congrArg Prod.snd z).symm⟩ g4
  · rw [h1, g1]
theorem MF_one {c0 c1 : Int} {f : Nat → Int} {n a b : Int} (h : MF c0 c1 f n a) (h' : MF c0 c1 f n b) : a = b := by
  rcases h with ⟨h1, h2⟩ | ⟨h1, h2, h3⟩ | ⟨h2, h3⟩ <;> rcases h' with ⟨g1, g2⟩ | ⟨g1, g2, g3⟩ | ⟨g2, g3⟩ <;> first | omega | exact MF2_one h2.1 h3 g3
/-- the first place of a scene's sign that may not stand there, or -1 -/
def UT (f : Nat → Int) (bad : Int → Prop) (n a : Int) : Prop := (a = -1 ∧ ∀ k : Nat, (k : Int) < n - 2 → ¬ bad (f k)) ∨ (∃ k : Nat, a = ((k + 2 : Nat) : Int) ∧ (k : Int) < n - 2 ∧ bad (f k) ∧ ∀ j, j < k → ¬ bad (f j))
theorem UT_one {f : Nat → Int} {p q : Int → Prop} {n a b : Int} (h : UT f p n a) (h' : UT f q n b) (e : ∀ k : Nat, (k : Int) < n - 2 → (p (f k) ↔ q (f k))) : a = b := by
  rcases h with ⟨h1, h2⟩ | ⟨k, h1, h2, h3, h4⟩ <;> rcases h' with ⟨g1, g2⟩ | ⟨k', g1, g2, g3, g4⟩
  · omega
  · exact absurd ((e k' g2).mpr g3) (h2 k' g2)
  · exact absurd ((e k h2).mp h3) (g2 k h2)
  · by_cases q1 : k < k'
    · exact absurd ((e k h2).mp h3) (g4 k q1)
    · by_cases q2 : k' < k
      · exact absurd ((e k' g2).mpr g3) (h4 k' q2)
      · omega
end
