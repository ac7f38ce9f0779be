section
/-! ===== texts by their places ===== -/
theorem gsN_pre {f : Nat → Int} {n : Nat} {s : List Int} {e : Bool} (h : gsN f n = some (s, e)) : ∀ k, k ≤ n → ∃ (s' : List Int) (e' : Bool), gsN f k = some (s', e') := by
  intro k hk
  cases hq : gsN f k with
  | none =>
    have z := gsN_none hq (n - k)
    rw [show k + (n - k) = n by omega, h] at z
    cases z
  | some q => exact ⟨q.1, q.2, rfl⟩
theorem gsN_next {f : Nat → Int} {n k : Nat} {s t : List Int} {e d : Bool} (h : gsN f n = some (t, d)) (hk : k < n) (hs : gsN f k = some (s, e)) : ∃ (s' : List Int) (e' : Bool), gst s e (f k) = some (s', e') ∧ gsN f (k + 1) = some (s', e') := by
  obtain ⟨s', e', z⟩ := gsN_pre h (k + 1) (by omega)
  exact ⟨s', e', by rw [← gsN_succ hs]; exact z, z⟩
theorem gst_inv {s s' : List Int} {e e' : Bool} {c : Int} (h : gst s e c = some (s', e')) : ((c = 91 ∨ c = 123 ∨ c = 40) ∧ s' = c :: s ∧ e' = false) ∨ (((97 ≤ c ∧ c ≤ 104) ∨ (65 ≤ c ∧ c ≤ 72)) ∧ s' = s ∧ e' = true) ∨ (e = true ∧ ∃ a t, s = a :: t ∧ ((c = 124 ∧ a = 40 ∧ s' = 124 :: t ∧ e' = false) ∨ (prC a c ∧ s' = t ∧ e' = true))) := by
  by_cases h1 : c = 91 ∨ c = 123 ∨ c = 40
  · rw [gst_op h1] at h
    have z := Option.some.inj h
    exact Or.inl ⟨h1, (congrArg Prod.fst z).symm, (congrArg Prod.snd z).symm⟩
  · by_cases h2 : (97 ≤ c ∧ c ≤ 104) ∨ (65 ≤ c ∧ c ≤ 72)
    · rw [gst_let h2] at h
      have z := Option.some.inj h
      exact Or.inr (Or.inl ⟨h2, (congrArg Prod.fst z).symm, (congrArg Prod.snd z).symm⟩)
    · right; right
      cases e with
      | false => rw [gst_f h1 h2] at h; cases h
      | true =>
        refine ⟨rfl, ?_⟩
        cases s with
        | nil => rw [gst_nil h1 h2] at h; cases h
        | cons a t =>
          refine ⟨a, t, rfl, ?_⟩
          by_cases h3 : c = 124 ∧ a = 40
          · obtain ⟨q1, q2⟩ := h3
            subst q1; subst q2
            rw [gst_bar] at h
            have z := Option.some.inj h
            exact Or.inl ⟨rfl, rfl, (congrArg Prod.fst z).symm, (congrArg Prod.snd z).symm⟩
          · by_cases h4 : prC a c
            · rw [gst_cl h4] at h
              have z := Option.some.inj h
              exact Or.inr ⟨h4, (congrArg Prod.fst z).symm, (congrArg Prod.snd z).symm⟩
            · rw [gst_no h1 h2 h3 h4] at h; cases h
/-- the kinds that stand open are the signs at the places -/
theorem gsN_ps {f : Nat → Int} : ∀ {k : Nat} {s : List Int} {e : Bool}, gsN f k = some (s, e) → s = (psN f k).map f
  | 0, s, e, h => by
    have z := congrArg Prod.fst (Option.some.inj h)
    exact z.symm
  | k + 1, s, e, h => by
    obtain ⟨s0, e0, h0⟩ := gsN_pre h k (by omega)
    have ih := gsN_ps h0
    rw [gsN_succ h0] at h
    rcases gst_inv h with ⟨a, b, c⟩ | ⟨a, b, c⟩ | ⟨a, y, t, b, c⟩
    · rw [psN_op a, List.map_cons, b, ih]
    · rw [psN_let a, b, ih]
    · rw [ih] at b
      have et : t = ((psN f k).tail).map f := by
        cases hp : psN f k with
        | nil => rw [hp] at b; cases b
        | cons q u => rw [hp, List.map_cons] at b; exact (List.cons.inj b).2.symm
      rcases c with ⟨c1, c2, c3, c4⟩ | ⟨c1, c2, c3⟩
      · rw [psN_bar c1, List.map_cons, c3, c1, et]
      · rw [psN_cl (by unfold prC at c1; omega), c2, et]
theorem psN_dec {f : Nat → Int} : ∀ k, (psN f k).Pairwise (fun a b => b < a)
  | 0 => List.Pairwise.nil
  | k + 1 => by
    have ih := psN_dec (f := f) k
    have it : ((psN f k).tail).Pairwise (fun a b => b < a) := ih.sublist (List.tail_sublist _)
    show (psS f k (psN f k)).Pairwise _
    unfold psS
    by_cases c1 : f k = 91 ∨ f k = 123 ∨ f k = 40
    · rw [if_pos c1]
      exact List.Pairwise.cons (fun q hq => (psN_mem hq).1) ih
    · rw [if_neg c1]
      by_cases c2 : f k = 124
      · rw [if_pos c2]
        exact List.Pairwise.cons (fun q hq => (psN_mem (List.mem_of_mem_tail hq)).1) it
      · rw [if_neg c2]
        split
        · exact it
        · exact ih
theorem psN_gone {f : Nat → Int} {q m : Nat} (h : q ∉ psN f m) (hq : q < m) : ∀ i, q ∉ psN f (m + i)
  | 0 => h
  | i + 1 => fun z => by
    rcases psS_mem (f := f) (k := m + i) z with ⟨w, _⟩ | w
    · omega
    · exact psN_gone h hq i w
theorem MA_out {f : Nat → Int} {q j : Nat} (h : MA f q j) : q < j ∧ q ∉ psN f (j + 1) := by
  obtain ⟨h1, h2⟩ := h
  cases hp : psN f j with
  | nil => rw [hp] at h2; cases h2
  | cons a s =>
    rw [hp] at h2
    have ea : a = q := Option.some.inj h2
    subst ea
    have hd := psN_dec (f := f) j
    rw [hp] at hd
    have hq : a < j := (psN_mem (f := f) (k := j) (by rw [hp]; exact List.mem_cons_self)).1
    have hn : a ∉ s := fun z => by have w := List.rel_of_pairwise_cons hd z; omega
    refine ⟨hq, fun z => ?_⟩
    by_cases c : f j = 124
    · rw [psN_bar c, hp] at z
      rcases List.mem_cons.mp z with w | w
      · omega
      · exact hn w
    · rw [psN_cl (by unfold cbC at h1; omega), hp] at z
      exact hn z
theorem MA_one {f : Nat → Int} {q j j' : Nat} (h : MA f q j) (h' : MA f q j') : j = j' := by
  have key : ∀ {a b : Nat}, MA f q a → MA f q b → ¬ a < b := fun {a b} ha hb hl => by
    obtain ⟨u1, u2⟩ := MA_out ha
    have z := psN_gone u2 (by omega) (b - (a + 1))
    rw [show a + 1 + (b - (a + 1)) = b by omega] at z
    cases hp : psN f b with
    | nil => have w := hb.2; rw [hp] at w; cases w
    | cons c s =>
      have w := hb.2
      rw [hp] at w
      have ec : c = q := Option.some.inj w
      rw [hp, ec] at z
      exact z List.mem_cons_self
  have l1 := key h h'
  have l2 := key h' h
  omega
/-- what stood open as a bracket was opened -/
theorem psN_hist {f : Nat → Int} : ∀ (k : Nat) (l : List Nat) (q : Nat) (s : List Nat), psN f k = l ++ q :: s → ((f q = 91 ∨ f q = 123 ∨ f q = 40) → psN f q = s) ∧ (f q = 124 → (psN f q).tail = s)
  | 0, l, q, s, h => by cases l <;> cases h
  | k + 1, l, q, s, h => by
    have h : psS f k (psN f k) = l ++ q :: s := h
    unfold psS at h
    have tl : ∀ l', (psN f k).tail = l' ++ q :: s → ((f q = 91 ∨ f q = 123 ∨ f q = 40) → psN f q = s) ∧ (f q = 124 → (psN f q).tail = s) := fun l' z => by
      cases hp : psN f k with
      | nil => rw [hp] at z; cases l' <;> cases z
      | cons a u => rw [hp] at z; exact psN_hist k (a :: l') q s (by rw [hp]; exact congrArg (List.cons a) z)
    by_cases c1 : f k = 91 ∨ f k = 123 ∨ f k = 40
    · rw [if_pos c1] at h
      cases l with
      | nil =>
        obtain ⟨e1, e2⟩ := List.cons.inj h
        subst e1
        exact ⟨fun _ => e2, fun z => by omega⟩
      | cons a l' => exact psN_hist k l' q s (List.cons.inj h).2
    · rw [if_neg c1] at h
      by_cases c2 : f k = 124
      · rw [if_pos c2] at h
        cases l with
        | nil =>
          obtain ⟨e1, e2⟩ := List.cons.inj h
          subst e1
          exact ⟨fun z => absurd z c1, fun _ => e2⟩
        | cons a l' => exact tl l' (List.cons.inj h).2
      · rw [if_neg c2] at h
        by_cases c3 : f k = 93 ∨ f k = 125 ∨ f k = 41
        · rw [if_pos c3] at h; exact tl l h
        · rw [if_neg c3] at h; exact psN_hist k l q s h
/-- a text that a scene has, and where its brackets lead -/
def TVx (f : Nat → Int) (n : Nat) (m : Nat → Int) : Prop := gsN f n = some ([], true) ∧ ∀ q, q < n → obC (f q) → ∃ j : Nat, m q = (j : Int) ∧ j < n ∧ MA f q j
section
variable {f m : Nat → Int} {n : Nat}
theorem ps_head {j q : Nat} (h : (psN f j).head? = some q) : psN f j = q :: (psN f j).tail := by
  cases hp : psN f j with
  | nil => rw [hp] at h; cases h
  | cons a s => rw [hp] at h; rw [Option.some.inj h]; rfl
/-- to behind a bracket, or behind its bar -/
theorem TV_jump {q : Nat} (h : TVx f n m) (hq : q < n) (ho : f q = 91 ∨ f q = 123 ∨ f q = 40) : ∃ j : Nat, m q = (j : Int) ∧ q < j ∧ j < n ∧ ((f q ≠ 40 ∧ psN f (j + 1) = psN f q ∧ ∃ s, gsN f (j + 1) = some (s, true)) ∨ (f q = 40 ∧ f j = 124 ∧ psN f (j + 1) = j :: psN f q ∧ ∃ s, gsN f (j + 1) = some (s, false))) := by
  obtain ⟨j, j1, j2, j3⟩ := h.2 q hq (by unfold obC; omega)
  have hqj := (MA_out j3).1
  have hp := ps_head j3.2
  have hh := (psN_hist j [] q _ hp).1 ho
  obtain ⟨s, e, g⟩ := gsN_pre h.1 j (by omega)
  obtain ⟨s', e', g1, g2⟩ := gsN_next h.1 j2 g
  have es := gsN_ps g
  rw [hp, List.map_cons] at es
  have jc := j3.1
  unfold cbC at jc
  refine ⟨j, j1, hqj, j2, ?_⟩
  rcases gst_inv g1 with ⟨a, _⟩ | ⟨a, _⟩ | ⟨a, y, t, b, c⟩
  · omega
  · omega
  · rw [es] at b
    have ey := (List.cons.inj b).1
    rcases c with ⟨c1, c2, c3, c4⟩ | ⟨c1, c2, c3⟩
    · refine Or.inr ⟨by omega, c1, by rw [psN_bar c1, hh], s', by rw [g2, c4]⟩
    · refine Or.inl ⟨by unfold prC at c1; omega, by rw [psN_cl (by unfold prC at c1; omega), hh], s', by rw [g2, c3]⟩
theorem TV_bar {q : Nat} (h : TVx f n m) (hq : q < n) (ho : f q = 124) : ∃ j : Nat, m q = (j : Int) ∧ q < j ∧ j < n ∧ psN f (j + 1) = (psN f q).tail ∧ ∃ s, gsN f (j + 1) = some (s, true) := by
  obtain ⟨j, j1, j2, j3⟩ := h.2 q hq (by unfold obC; omega)
  have hqj := (MA_out j3).1
  have hp := ps_head j3.2
  have hh := (psN_hist j [] q _ hp).2 ho
  obtain ⟨s, e, g⟩ := gsN_pre h.1 j (by omega)
  obtain ⟨s', e', g1, g2⟩ := gsN_next h.1 j2 g
  have es := gsN_ps g
  rw [hp, List.map_cons] at es
  have jc := j3.1
  unfold cbC at jc
  refine ⟨j, j1, hqj, j2, ?_⟩
  rcases gst_inv g1 with ⟨a, _⟩ | ⟨a, _⟩ | ⟨a, y, t, b, c⟩
  · omega
  · omega
  · rw [es] at b
    have ey := (List.cons.inj b).1
    rcases c with ⟨c1, c2, c3, c4⟩ | ⟨c1, c2, c3⟩
    · omega
    · exact ⟨by rw [psN_cl (by unfold prC at c1; omega), hh], s', by rw [g2, c3]⟩
/-- the signs of a text, by what stands open -/
theorem TV_ch {k : Nat} (h : TVx f n m) (hk : k < n) : ∃ (s : List Int) (e : Bool) (s' : List Int) (e' : Bool), gsN f k = some (s, e) ∧ gsN f (k + 1) = some (s', e') ∧ (((f k = 91 ∨ f k = 123 ∨ f k = 40) ∧ e' = false ∧ psN f (k + 1) = k :: psN f k) ∨ (((97 ≤ f k ∧ f k ≤ 104) ∨ (65 ≤ f k ∧ f k ≤ 72)) ∧ e' = true ∧ psN f (k + 1) = psN f k) ∨ (e = true ∧ ∃ q, psN f k = q :: (psN f k).tail ∧ ((f k = 124 ∧ f q = 40 ∧ e' = false) ∨ (prC (f q) (f k) ∧ e' = true ∧ psN f (k + 1) = (psN f k).tail)))) := by
  obtain ⟨s, e, g⟩ := gsN_pre h.1 k (by omega)
  obtain ⟨s', e', g1, g2⟩ := gsN_next h.1 hk g
  refine ⟨s, e, s', e', g, g2, ?_⟩
  rcases gst_inv g1 with ⟨a, b, c⟩ | ⟨a, b, c⟩ | ⟨a, y, t, b, c⟩
  · exact Or.inl ⟨a, c, psN_op a⟩
  · exact Or.inr (Or.inl ⟨a, c, psN_let a⟩)
  · right; right
    refine ⟨a, ?_⟩
    have es := gsN_ps g
    rw [es] at b
    cases hp : psN f k with
    | nil => rw [hp] at b; cases b
    | cons q u =>
      rw [hp, List.map_cons] at b
      have ey := (List.cons.inj b).1
      refine ⟨q, rfl, ?_⟩
      rcases c with ⟨c1, c2, c3, c4⟩ | ⟨c1, c2, c3⟩
      · exact Or.inl ⟨c1, by rw [ey]; exact c2, c4⟩
      · refine Or.inr ⟨by rw [ey]; exact c1, c3, ?_⟩
        rw [psN_cl (by unfold prC at c1; omega), hp]
end
/-! ===== the song, as one machine ===== -/
abbrev FrT := Nat × Int × List (Int × Int)
abbrev SgT := List FrT × Int × Int × List Int
abbrev PaT := (Nat → Nat → Int) × (Nat → Int) × (Nat → Nat → Int) × Int × (Int → Int) × (Int → Int → Int)
def sgB (x : Nat) (k : Int) (L : List (Int × Int)) (R : List FrT) (n g : Int) (o : List Int) : Option SgT := match L with
  | [] => none
  | q :: L' => if 1 < q.1 then some ((x, q.2, (q.1 - 1, q.2) :: L') :: R, n, g, o) else some ((x, k + 1, L') :: R, n, g, o)
def sgI (p : PaT) (b : Int) (x : Nat) (k : Int) (L : List (Int × Int)) (R : List FrT) (n g : Int) (o : List Int) : Option SgT :=
  if b = 91 then some ((x, if n % 2 = 0 then p.2.2.1 x k.toNat + 1 else k + 1, L) :: R, n / 2, g + 1, o)
  else if b = 40 then some ((x, if n % 2 = 1 then p.2.2.1 x k.toNat + 1 else k + 1, L) :: R, n / 2, g + 1, o)
  else if b = 123 then (if n % (p.2.2.2.1 + 1) = 0 then some ((x, p.2.2.1 x k.toNat + 1, L) :: R, n / (p.2.2.2.1 + 1), g + 1, o) else some ((x, k + 1, (n % (p.2.2.2.1 + 1), k + 1) :: L) :: R, n / (p.2.2.2.1 + 1), g + 1, o))
  else if 65 ≤ b ∧ b ≤ 72 then some (((b - 65).toNat, 0, []) :: (x, k + 1, L) :: R, n, g + 1, o)
  else if p.2.2.2.2.1 (b - 97) = 0 ∨ 40 ≤ (o.length : Int) then none
  else some ((x, k + 1, L) :: R, n / p.2.2.2.2.1 (b - 97), g + 1, o ++ [p.2.2.2.2.2 (b - 97) (n % p.2.2.2.2.1 (b - 97))])
def sgS (p : PaT) : SgT → Option SgT
  | ([], n, g, o) => some ([], n, g, o)
  | ((x, k, L) :: R, n, g, o) =>
    if k = p.2.1 x then some (R, n, g, o)
    else if p.1 x k.toNat = 93 ∨ p.1 x k.toNat = 41 then some ((x, k + 1, L) :: R, n, g, o)
    else if p.1 x k.toNat = 124 then some ((x, p.2.2.1 x k.toNat + 1, L) :: R, n, g, o)
    else if p.1 x k.toNat = 125 then sgB x k L R n g o
    else if 2000 ≤ g then none
    else sgI p (p.1 x k.toNat) x k L R n g o
def sgN (p : PaT) (σ : SgT) : Nat → Option SgT
  | 0 => some σ
  | n + 1 => (sgN p σ n).bind (sgS p)
theorem sgN_succ {p : PaT} {σ τ : SgT} {n : Nat} (h : sgN p σ n = some τ) : sgN p σ (n + 1) = sgS p τ := by
  show (sgN p σ n).bind _ = _
  rw [h]; rfl
def Done (p : PaT) (σ : SgT) (o : List Int) : Prop := ∃ (n : Nat) (m g : Int), sgN p σ n = some ([], m, g, o)
def Fail (p : PaT) (σ : SgT) : Prop := ∃ n, sgN p σ n = none
theorem sgN_none {p : PaT} {σ : SgT} {n : Nat} (h : sgN p σ n = none) : ∀ m, sgN p σ (n + m) = none
  | 0 => h
  | m + 1 => by show (sgN p σ (n + m)).bind _ = none; rw [sgN_none h m]; rfl
theorem sgN_done {p : PaT} {σ : SgT} {n : Nat} {a g : Int} {o : List Int} (h : sgN p σ n = some ([], a, g, o)) : ∀ m, sgN p σ (n + m) = some ([], a, g, o)
  | 0 => h
  | m + 1 => by rw [show n + (m + 1) = (n + m) + 1 by omega, sgN_succ (sgN_done h m)]; rfl
theorem Done_one {p : PaT} {σ : SgT} {o o' : List Int} (h : Done p σ o) (h' : Done p σ o') : o = o' := by
  obtain ⟨n, a, g, h⟩ := h
  obtain ⟨n', a', g', h'⟩ := h'
  have z := sgN_done h n'
  have z' := sgN_done h' n
  rw [Nat.add_comm, z] at z'
  have w := Option.some.inj z'
  exact congrArg (fun q : SgT => q.2.2.2) w
theorem Done_Fail {p : PaT} {σ : SgT} {o : List Int} (h : Done p σ o) : ¬ Fail p σ := by
  rintro ⟨n', h'⟩
  obtain ⟨n, a, g, h⟩ := h
  have z := sgN_done h n'
  have z' := sgN_none h' n
  rw [Nat.add_comm, z] at z'
  cases z'
end
