section
/-! ===== numbers cut at a million, tables of them ===== -/
def cap (x : Nat) : Nat := if 1000000 < x then 1000000 else x
theorem cap_le (x : Nat) : cap x ≤ 1000000 := by unfold cap; split <;> omega
theorem cap_id {x : Nat} (h : x ≤ 1000000) : cap x = x := if_neg (by omega)
theorem cap_cap (x : Nat) : cap (cap x) = cap x := cap_id (cap_le x)
theorem cap_0 : cap 0 = 0 := rfl
theorem cap_1 : cap 1 = 1 := rfl
theorem cap_z {x : Nat} : cap x = 0 ↔ x = 0 := by unfold cap; split <;> omega
theorem cap_pos {x : Nat} : 0 < cap x ↔ 0 < x := by unfold cap; split <;> omega
theorem cap_add {a b a' b' : Nat} (ha : cap a = cap a') (hb : cap b = cap b') : cap (a + b) = cap (a' + b') := by
  unfold cap at *
  by_cases q1 : 1000000 < a <;> by_cases q2 : 1000000 < b <;> by_cases q3 : 1000000 < a' <;> by_cases q4 : 1000000 < b' <;> simp only [q1, q2, q3, q4, if_true, if_false] at ha hb <;> (repeat' split) <;> omega
theorem cap_mul1 {a b : Nat} : cap (cap a * b) = cap (a * b) := by
  by_cases h : 1000000 < a
  · have e : cap a = 1000000 := if_pos h
    rw [e]
    cases b with
    | zero => rfl
    | succ b =>
      have h1 : 1000000 ≤ 1000000 * (b + 1) := Nat.le_mul_of_pos_right _ (Nat.succ_pos _)
      have h2 : a ≤ a * (b + 1) := Nat.le_mul_of_pos_right _ (Nat.succ_pos _)
      unfold cap
      generalize 1000000 * (b + 1) = u at *
      generalize a * (b + 1) = v at *
      split <;> split <;> omega
  · rw [cap_id (show a ≤ 1000000 by omega)]
theorem cap_mul {a b a' b' : Nat} (ha : cap a = cap a') (hb : cap b = cap b') : cap (a * b) = cap (a' * b') := by
  have e : ∀ x y : Nat, cap (x * y) = cap (cap x * cap y) := fun x y => by
    rw [cap_mul1, Nat.mul_comm x (cap y), cap_mul1, Nat.mul_comm]
  rw [e a b, e a' b', ha, hb]
abbrev Mat := Nat → Nat → Nat
/-- f i + .. , l of them -/
def sm (f : Nat → Nat) (i : Nat) : Nat → Nat
  | 0 => 0
  | l + 1 => sm f i l + f (i + l)
theorem sm_cap {f g : Nat → Nat} {i : Nat} : ∀ l, (∀ k, i ≤ k → k < i + l → cap (f k) = cap (g k)) → cap (sm f i l) = cap (sm g i l)
  | 0, _ => rfl
  | l + 1, h => cap_add (sm_cap l (fun k h1 h2 => h k h1 (by omega))) (h (i + l) (by omega) (by omega))
theorem sm_cong {f g : Nat → Nat} {i : Nat} : ∀ l, (∀ k, i ≤ k → k < i + l → f k = g k) → sm f i l = sm g i l
  | 0, _ => rfl
  | l + 1, h => by
    show sm f i l + _ = sm g i l + _
    rw [sm_cong l (fun k h1 h2 => h k h1 (by omega)), h (i + l) (by omega) (by omega)]
theorem sm_add {f g : Nat → Nat} {i : Nat} : ∀ l, sm (fun k => f k + g k) i l = sm f i l + sm g i l
  | 0 => rfl
  | l + 1 => by
    show sm _ i l + (f (i + l) + g (i + l)) = (sm f i l + _) + (sm g i l + _)
    rw [sm_add l]; omega
theorem sm_head {f : Nat → Nat} {i : Nat} : ∀ l, sm f i (l + 1) = f i + sm f (i + 1) l
  | 0 => by show 0 + f (i + 0) = f i + 0; rw [Nat.add_zero]; omega
  | l + 1 => by
    show sm f i (l + 1) + f (i + (l + 1)) = f i + (sm f (i + 1) l + f (i + 1 + l))
    rw [sm_head l, show i + (l + 1) = i + 1 + l by omega]; omega
theorem sm_0 {f : Nat → Nat} {i : Nat} : ∀ l, (∀ k, i ≤ k → k < i + l → f k = 0) → sm f i l = 0
  | 0, _ => rfl
  | l + 1, h => by
    show sm f i l + _ = 0
    rw [sm_0 l (fun k h1 h2 => h k h1 (by omega)), h (i + l) (by omega) (by omega)]
def mO : Mat := fun i j => if i = j then 1 else 0
def mZ0 : Mat := fun _ _ => 0
def mA (A B : Mat) : Mat := fun i j => A i j + B i j
def mM (A B : Mat) : Mat := fun i j => sm (fun k => A i k * B k j) i (j + 1 - i)
def mS1 (w : Nat → Nat) (A : Mat) : Mat := fun i j => if i < j then A i (j - 1) * w (j - 1) else 0
/-- 0 below the diagonal -/
def UTr (A : Mat) : Prop := ∀ i j, j < i → A i j = 0
theorem UT_O : UTr mO := fun i j h => if_neg (by omega)
theorem UT_A {A B : Mat} (ha : UTr A) (hb : UTr B) : UTr (mA A B) := fun i j h => by show A i j + B i j = 0; rw [ha i j h, hb i j h]
theorem UT_M {A B : Mat} : UTr (mM A B) := fun i j h => by show sm _ i (j + 1 - i) = 0; rw [show j + 1 - i = 0 by omega]; rfl
theorem UT_S {w : Nat → Nat} {A : Mat} : UTr (mS1 w A) := fun i j h => if_neg (by omega)
theorem mM_dist {A B C : Mat} : mM (mA A B) C = mA (mM A C) (mM B C) := by
  funext i j
  show sm (fun k => (A i k + B i k) * C k j) i _ = sm _ i _ + sm _ i _
  rw [← sm_add]
  exact sm_cong _ (fun k _ _ => Nat.add_mul _ _ _)
theorem mM_one {A : Mat} (h : UTr A) : mM mO A = A := by
  funext i j
  show sm (fun k => mO i k * A k j) i (j + 1 - i) = A i j
  by_cases q : j < i
  · rw [show j + 1 - i = 0 by omega, h i j q]; rfl
  · rw [show j + 1 - i = (j - i) + 1 by omega, sm_head, sm_0 (j - i) (fun k h1 h2 => by show (if i = k then 1 else 0) * A k j = 0; rw [if_neg (by omega), Nat.zero_mul])]
    show (if i = i then 1 else 0) * A i j + 0 = A i j
    rw [if_pos rfl]; omega
theorem mA_comm {A B : Mat} : mA A B = mA B A := by funext i j; exact Nat.add_comm _ _
/-- all times round, h at most -/
def mHr (A : Mat) : Nat → Mat
  | 0 => mO
  | h + 1 => mA (mM (mHr A h) A) mO
def mP (A : Mat) : Nat → Mat
  | 0 => mO
  | h + 1 => mM (mP A h) A
def mQ (A : Mat) : Nat → Mat
  | 0 => mO
  | h + 1 => mA (mQ A h) (mP A (h + 1))
theorem mQ_succ {A : Mat} : ∀ h, mQ A (h + 1) = mA (mM (mQ A h) A) mO
  | 0 => mA_comm
  | h + 1 => by
    have ih := mQ_succ (A := A) h
    show mA (mQ A (h + 1)) (mM (mP A (h + 1)) A) = mA (mM (mA (mQ A h) (mP A (h + 1))) A) mO
    rw [ih, mM_dist]
    funext i j
    show mM (mQ A h) A i j + mO i j + mM (mP A (h + 1)) A i j = mM (mQ A h) A i j + mM (mP A (h + 1)) A i j + mO i j
    omega
theorem mH_Q {A : Mat} : ∀ h, mHr A h = mQ A h
  | 0 => rfl
  | h + 1 => by rw [mQ_succ, ← mH_Q h]; rfl
theorem UT_H {A : Mat} : ∀ h, UTr (mHr A h)
  | 0 => UT_O
  | h + 1 => UT_A UT_M UT_O
/-! ===== a text, read as tables ===== -/
abbrev RpT := (Nat → Nat → Nat) × (Nat → Mat) × Nat
/-- weights of a slot at a place, tables of the scenes, how full the hall is -/
def mcS (p : RpT) (c : Int) (s : List Mat) : List Mat := match s with
  | [] => []
  | A :: s1 => if 97 ≤ c ∧ c ≤ 104 then mS1 (p.1 (c - 97).toNat) A :: s1 else if 65 ≤ c ∧ c ≤ 72 then mM A (p.2.1 (c - 65).toNat) :: s1 else if c = 93 then (match s1 with
    | [] => []
    | B :: s2 => mM B (mA A mO) :: s2) else if c = 125 then (match s1 with
    | [] => []
    | B :: s2 => mM B (mHr A p.2.2) :: s2) else if c = 41 then (match s1 with
    | A' :: B :: s2 => mM B (mA A' A) :: s2
    | _ => []) else mO :: A :: s1
def mcN (p : RpT) (f : Nat → Int) : Nat → List Mat
  | 0 => [mO]
  | k + 1 => mcS p (f k) (mcN p f k)
def lvl : List Int → Nat
  | [] => 0
  | c :: s => (if c = 124 then 2 else 1) + lvl s
section
variable {p : RpT} {c : Int} {A B A' : Mat} {s : List Mat}
theorem mcS_sl (h : 97 ≤ c ∧ c ≤ 104) : mcS p c (A :: s) = mS1 (p.1 (c - 97).toNat) A :: s := if_pos h
theorem mcS_sc (h : 65 ≤ c ∧ c ≤ 72) : mcS p c (A :: s) = mM A (p.2.1 (c - 65).toNat) :: s := by
  show (if _ then _ else _) = _
  rw [if_neg (by omega), if_pos h]
theorem mcS_93 (h : c = 93) : mcS p c (A :: B :: s) = mM B (mA A mO) :: s := by
  show (if _ then _ else _) = _
  rw [if_neg (by omega), if_neg (by omega), if_pos h]
theorem mcS_125 (h : c = 125) : mcS p c (A :: B :: s) = mM B (mHr A p.2.2) :: s := by
  show (if _ then _ else _) = _
  rw [if_neg (by omega), if_neg (by omega), if_neg (by omega), if_pos h]
theorem mcS_41 (h : c = 41) : mcS p c (A :: A' :: B :: s) = mM B (mA A' A) :: s := by
  show (if _ then _ else _) = _
  rw [if_neg (by omega), if_neg (by omega), if_neg (by omega), if_neg (by omega), if_pos h]
theorem mcS_op (h : c = 91 ∨ c = 123 ∨ c = 40 ∨ c = 124) : mcS p c (A :: s) = mO :: A :: s := by
  show (if _ then _ else _) = _
  rw [if_neg (by omega), if_neg (by omega), if_neg (by omega), if_neg (by omega), if_neg (by omega)]
end
/-- how high the pile is -/
theorem mcN_len {p : RpT} {f : Nat → Int} : ∀ {k : Nat} {s : List Int} {e : Bool}, gsN f k = some (s, e) → (mcN p f k).length = 1 + lvl s
  | 0, s, e, h => by
    have z : ([] : List Int) = s := congrArg Prod.fst (Option.some.inj h)
    subst z; rfl
  | k + 1, s, e, h => by
    obtain ⟨s0, e0, h0⟩ := gsN_pre h k (by omega)
    have ih := mcN_len (p := p) h0
    rw [gsN_succ h0] at h
    show (mcS p (f k) (mcN p f k)).length = _
    cases hs : mcN p f k with
    | nil => rw [hs, List.length_nil] at ih; omega
    | cons A t =>
      rw [hs, List.length_cons] at ih
      rcases gst_inv h with ⟨a, b, c⟩ | ⟨a, b, c⟩ | ⟨a, y, u, b, c⟩
      · rw [mcS_op (by omega), b, List.length_cons, List.length_cons]
        show _ = 1 + ((if f k = 124 then 2 else 1) + lvl s0)
        rw [if_neg (by omega)]; omega
      · subst b
        rcases a with a | a
        · rw [mcS_sl a, List.length_cons]; exact ih
        · rw [mcS_sc a, List.length_cons]; exact ih
      · subst b
        have el : lvl (y :: u) = (if y = 124 then 2 else 1) + lvl u := rfl
        rw [el] at ih
        rcases c with ⟨c1, c2, c3, c4⟩ | ⟨c1, c2, c3⟩
        · rw [mcS_op (by omega), c3, List.length_cons, List.length_cons]
          show _ = 1 + ((if (124 : Int) = 124 then 2 else 1) + lvl u)
          rw [if_neg (by omega)] at ih
          rw [if_pos rfl]; omega
        · subst c2
          unfold prC at c1
          by_cases q : f k = 41
          · rw [if_pos (by omega)] at ih
            match t, ih with
            | A' :: B :: t2, ih => rw [mcS_41 q, List.length_cons]; rw [List.length_cons, List.length_cons] at ih; omega
            | [], ih => rw [List.length_nil] at ih; omega
            | [_], ih => rw [List.length_cons, List.length_nil] at ih; omega
          · rw [if_neg (by omega)] at ih
            match t, ih with
            | B :: t2, ih =>
              rw [List.length_cons] at ih
              by_cases q2 : f k = 93
              · rw [mcS_93 q2, List.length_cons]; omega
              · rw [mcS_125 (by omega), List.length_cons]; omega
            | [], ih => rw [List.length_nil] at ih; omega
/-- 28 at most -/
def cst : List Int → Nat
  | [] => 0
  | c :: s => (if c = 124 then 3 else 1) + cst s
theorem gs_cst {f : Nat → Int} : ∀ {k : Nat} {s : List Int} {e : Bool}, gsN f k = some (s, e) → cst s + (if e = true then 1 else 0) ≤ k
  | 0, s, e, h => by
    have z := Option.some.inj h
    have z1 : s = [] := (congrArg Prod.fst z).symm
    have z2 : e = false := (congrArg Prod.snd z).symm
    subst z1; subst z2
    exact Nat.le_refl _
  | k + 1, s, e, h => by
    obtain ⟨s0, e0, h0⟩ := gsN_pre h k (by omega)
    have ih := gs_cst h0
    rw [gsN_succ h0] at h
    rcases gst_inv h with ⟨a, b, c⟩ | ⟨a, b, c⟩ | ⟨a, y, u, b, c⟩
    · subst b; subst c
      show (if f k = 124 then 3 else 1) + cst s0 + (if false = true then 1 else 0) ≤ _
      rw [if_neg (by omega), if_neg (by decide)]; omega
    · subst b; subst c
      rw [if_pos rfl]; omega
    · subst b; subst a
      have el : cst (y :: u) = (if y = 124 then 3 else 1) + cst u := rfl
      rw [el, if_pos rfl] at ih
      rcases c with ⟨c1, c2, c3, c4⟩ | ⟨c1, c2, c3⟩
      · subst c3; subst c4
        show (if (124 : Int) = 124 then 3 else 1) + cst u + (if false = true then 1 else 0) ≤ _
        rw [if_neg (by omega)] at ih
        rw [if_pos rfl, if_neg (by decide)]; omega
      · subst c2; subst c3
        rw [if_pos rfl]
        have z : 1 ≤ (if y = 124 then 3 else 1) := by split <;> omega
        omega
theorem gs_rest {f : Nat → Int} {n : Nat} (h : gsN f n = some ([], true)) : ∀ (m k : Nat) (s : List Int) (e : Bool), k + m = n → gsN f k = some (s, e) → s.length + (if e = true then 0 else 1) ≤ m
  | 0, k, s, e, hk, hs => by
    rw [show k = n by omega, h] at hs
    have z := Option.some.inj hs
    have z1 : s = [] := (congrArg Prod.fst z).symm
    have z2 : e = true := (congrArg Prod.snd z).symm
    subst z1; subst z2
    exact Nat.le_refl _
  | m + 1, k, s, e, hk, hs => by
    obtain ⟨s', e', g1, g2⟩ := gsN_next h (by omega) hs
    have ih := gs_rest h m (k + 1) s' e' (by omega) g2
    rcases gst_inv g1 with ⟨a, b, c⟩ | ⟨a, b, c⟩ | ⟨a, y, u, b, c⟩
    · subst b; subst c
      rw [List.length_cons, if_neg (by decide)] at ih
      split <;> omega
    · subst b; subst c
      rw [if_pos rfl] at ih
      split <;> omega
    · subst b; subst a
      rw [if_pos rfl, List.length_cons]
      rcases c with ⟨c1, c2, c3, c4⟩ | ⟨c1, c2, c3⟩
      · subst c3; subst c4
        rw [List.length_cons, if_neg (by decide)] at ih
        omega
      · subst c2; subst c3
        rw [if_pos rfl] at ih
        omega
theorem lvl_cst : ∀ s : List Int, 2 * lvl s ≤ cst s + s.length
  | [] => Nat.le_refl _
  | c :: s => by
    have ih := lvl_cst s
    show 2 * ((if c = 124 then 2 else 1) + lvl s) ≤ (if c = 124 then 3 else 1) + cst s + (s.length + 1)
    split <;> omega
theorem lvl_28 {f : Nat → Int} {n k : Nat} {s : List Int} {e : Bool} (h : gsN f n = some ([], true)) (hn : n ≤ 58) (hk : k ≤ n) (hs : gsN f k = some (s, e)) : lvl s ≤ 28 := by
  have h1 := gs_cst hs
  have h2 := gs_rest h (n - k) k s e (by omega) hs
  have h3 := lvl_cst s
  cases e with
  | true => rw [if_pos rfl] at h1 h2; omega
  | false => rw [if_neg (by decide)] at h1 h2; omega
theorem mcN_end {p : RpT} {f : Nat → Int} {n : Nat} (h : gsN f n = some ([], true)) : ∃ A, mcN p f n = [A] := by
  have z := mcN_len (p := p) h
  match hm : mcN p f n, z with
  | [A], _ => exact ⟨A, rfl⟩
  | [], z => rw [List.length_nil] at z; omega
  | _ :: _ :: _, z => rw [List.length_cons, List.length_cons] at z; have e : lvl [] = 0 := rfl; omega
/-- the table of a text -/
def mcT (p : RpT) (f : Nat → Int) (n : Nat) : Mat := match mcN p f n with
  | [] => mZ0
  | A :: _ => A
/-- all that stands in the pile is 0 below the diagonal -/
theorem mcN_UT {p : RpT} {f : Nat → Int} : ∀ k, ∀ A ∈ mcN p f k, UTr A
  | 0, A, h => by rw [List.mem_singleton.mp h]; exact UT_O
  | k + 1, A, h => by
    have ih := mcN_UT (p := p) (f := f) k
    have h : A ∈ mcS p (f k) (mcN p f k) := h
    revert h ih
    generalize mcN p f k = t
    intro ih h
    unfold mcS at h
    match t, ih, h with
    | [], ih, h => exact absurd h List.not_mem_nil
    | B :: s1, ih, h =>
      have i1 : ∀ C ∈ s1, UTr C := fun C hC => ih C (List.mem_cons_of_mem _ hC)
      by_cases c1 : 97 ≤ f k ∧ f k ≤ 104
      · simp only [c1, and_self, if_true] at h
        rcases List.mem_cons.mp h with z | z
        · rw [z]; exact UT_S
        · exact i1 A z
      · simp only [c1, if_false] at h
        by_cases c2 : 65 ≤ f k ∧ f k ≤ 72
        · simp only [c2, and_self, if_true] at h
          rcases List.mem_cons.mp h with z | z
          · rw [z]; exact UT_M
          · exact i1 A z
        · simp only [c2, if_false] at h
          by_cases c3 : f k = 93
          · simp only [c3, if_true] at h
            match s1, i1, h with
            | [], i1, h => exact absurd h List.not_mem_nil
            | C :: s2, i1, h =>
              rcases List.mem_cons.mp h with z | z
              · rw [z]; exact UT_M
              · exact i1 A (List.mem_cons_of_mem _ z)
          · simp only [c3, if_false] at h
            by_cases c4 : f k = 125
            · simp only [c4, if_true] at h
              match s1, i1, h with
              | [], i1, h => exact absurd h List.not_mem_nil
              | C :: s2, i1, h =>
                rcases List.mem_cons.mp h with z | z
                · rw [z]; exact UT_M
                · exact i1 A (List.mem_cons_of_mem _ z)
            · simp only [c4, if_false] at h
              by_cases c5 : f k = 41
              · simp only [c5, if_true] at h
                match s1, i1, h with
                | [], i1, h => exact absurd h List.not_mem_nil
                | [_], i1, h => exact absurd h List.not_mem_nil
                | C :: D :: s2, i1, h =>
                  rcases List.mem_cons.mp h with z | z
                  · rw [z]; exact UT_M
                  · exact i1 A (List.mem_cons_of_mem _ (List.mem_cons_of_mem _ z))
              · simp only [c5, if_false] at h
                rcases List.mem_cons.mp h with z | z
                · rw [z]; exact UT_O
                · exact ih A z
end
