section
def c3 : List Int → Nat
  | [] => 0
  | a :: l => (if a = 123 then 1 else 0) + c3 l
theorem c3_le : ∀ l : List Int, c3 l ≤ l.length
  | [] => Nat.le_refl _
  | a :: l => by
    have := c3_le l
    show (if a = 123 then 1 else 0) + c3 l ≤ l.length + 1
    split <;> omega
theorem c3_suf {b s : List Int} (h : (123 :: b) <:+ s) : c3 b < c3 s := by
  obtain ⟨t, rfl⟩ := h
  induction t with
  | nil => show c3 b < (if (123 : Int) = 123 then 1 else 0) + c3 b; simp
  | cons a t ih => show c3 b < (if a = 123 then 1 else 0) + c3 (t ++ 123 :: b); omega
def EQV (s s' : List Int) : Prop := c3 s' = c3 s ∧ ∀ b : List Int, (123 :: b) <:+ s' → (123 :: b) <:+ s
theorem EQV.rf {s : List Int} : EQV s s := ⟨rfl, fun _ h => h⟩
theorem EQV.push {s s' : List Int} {a : Int} (h : EQV s s') (ha : a ≠ 123) : EQV s (a :: s') := by
  refine ⟨by show (if a = 123 then 1 else 0) + c3 s' = _; rw [if_neg ha, h.1]; omega, fun b hb => ?_⟩
  rcases List.suffix_cons_iff.mp hb with e | e
  · exact absurd (List.cons.inj e).1.symm ha
  · exact h.2 b e
theorem EQV.pop {s s' : List Int} {a : Int} (h : EQV (a :: s) s') (ha : a ≠ 123) : EQV s s' := by
  refine ⟨by rw [h.1]; show (if a = 123 then 1 else 0) + c3 s = _; rw [if_neg ha]; omega, fun b hb => ?_⟩
  rcases List.suffix_cons_iff.mp (h.2 b hb) with e | e
  · exact absurd (List.cons.inj e).1.symm ha
  · exact e
theorem EQV.drop {s : List Int} {a : Int} (ha : a ≠ 123) : EQV (a :: s) s := by
  refine ⟨by show c3 s = (if a = 123 then 1 else 0) + c3 s; rw [if_neg ha]; omega, fun b hb => List.IsSuffix.trans hb (List.suffix_cons a s)⟩
theorem stp_eqv {s s' : List Int} {c : Int} (h : stp s c = some s') (h1 : c ≠ 123) (h2 : c ≠ 125) : EQV s s' := by
  unfold stp at h
  by_cases q1 : c = 91 ∨ c = 123 ∨ c = 40
  · rw [if_pos q1] at h
    rw [← Option.some.inj h]
    exact EQV.rf.push h1
  · rw [if_neg q1] at h
    cases s with
    | nil =>
      simp only [List.head?_nil, reduceCtorEq, if_false] at h
      repeat' split at h
      all_goals first | cases h | skip
      all_goals exact EQV.rf
    | cons a s =>
      simp only [List.head?_cons, List.tail_cons, Option.some.injEq, if_neg h2] at h
      by_cases q2 : c = 93
      · rw [if_pos q2] at h
        split at h
        · rename_i e; rw [← Option.some.inj h]; exact EQV.drop (by omega)
        · cases h
      · rw [if_neg q2] at h
        by_cases q3 : c = 41
        · rw [if_pos q3] at h
          split at h
          · rename_i e; rw [← Option.some.inj h]; exact EQV.drop (by omega)
          · cases h
        · rw [if_neg q3] at h
          by_cases q4 : c = 124
          · rw [if_pos q4] at h
            split at h
            · rename_i e; rw [← Option.some.inj h]; exact EQV.push (EQV.drop (by omega)) (by omega)
            · cases h
          · rw [if_neg q4] at h
            split at h
            · rw [← Option.some.inj h]; exact EQV.rf
            · cases h
theorem stp_125 {s s' : List Int} (h : stp s 125 = some s') : s = 123 :: s' := by
  cases s with
  | nil => simp [stp] at h
  | cons a s =>
    simp [stp] at h
    rw [h.1, h.2]
theorem stp_123 {s : List Int} : stp s 123 = some (123 :: s) := by simp [stp]
theorem stp_124 {s s' : List Int} (h : stp s 124 = some s') : ∃ r, s = 40 :: r ∧ s' = 124 :: r := by
  cases s with
  | nil => simp [stp] at h
  | cons a s =>
    simp [stp] at h
    exact ⟨s, by rw [h.1], h.2.symm⟩
def rkN (t : Nat → Int) (v : Int) : Nat → Int
  | 0 => 0
  | n + 1 => rkN t v n + (if 0 < t n ∧ t n < v then 1 else 0)
theorem rk_0 (t : Nat → Int) (v : Int) : ∀ n, 0 ≤ rkN t v n ∧ rkN t v n ≤ n
  | 0 => ⟨Int.le_refl _, Int.le_refl _⟩
  | n + 1 => by
    have := rk_0 t v n
    show 0 ≤ rkN t v n + _ ∧ rkN t v n + _ ≤ ((n + 1 : Nat) : Int)
    split <;> omega
theorem rk_mono (t : Nat → Int) {v v' : Int} (h : v ≤ v') : ∀ n, rkN t v n ≤ rkN t v' n
  | 0 => Int.le_refl _
  | n + 1 => by
    have := rk_mono t h n
    show rkN t v n + _ ≤ rkN t v' n + _
    split <;> split <;> omega
theorem rk_lt (t : Nat → Int) {v v' : Int} (h : v ≤ v') {y : Nat} (h0 : 0 < t y) (h1 : v ≤ t y) (h2 : t y < v') : ∀ n, y < n → rkN t v n + 1 ≤ rkN t v' n
  | 0, hn => absurd hn (Nat.not_lt_zero _)
  | n + 1, hn => by
    show rkN t v n + _ + 1 ≤ rkN t v' n + _
    by_cases e : y = n
    · subst e
      have := rk_mono t h y
      rw [if_neg (by omega), if_pos ⟨h0, h2⟩]; omega
    · have := rk_lt t h h0 h1 h2 n (by omega)
      split <;> split <;> omega
theorem rk_7 (t : Nat → Int) {v : Int} {x : Nat} (h : v ≤ t x) : ∀ n, x < n → rkN t v n + 1 ≤ n
  | 0, hn => absurd hn (Nat.not_lt_zero _)
  | n + 1, hn => by
    show rkN t v n + _ + 1 ≤ ((n + 1 : Nat) : Int)
    by_cases e : x = n
    · subst e
      have := rk_0 t v x
      rw [if_neg (by omega)]; omega
    · have := rk_7 t h n (by omega)
      split <;> omega
def cu (st : Nat → List Int) : Nat → Nat
  | 0 => 0
  | n + 1 => cu st n + c3 (st n)
theorem cu_congr {st st' : Nat → List Int} : ∀ n, (∀ d, d < n → c3 (st' d) = c3 (st d)) → cu st' n = cu st n
  | 0, _ => rfl
  | n + 1, h => by
    show cu st' n + c3 (st' n) = cu st n + c3 (st n)
    rw [cu_congr n (fun d hd => h d (by omega)), h n (by omega)]
theorem cu_mono (st : Nat → List Int) (a : Nat) : ∀ n, cu st a ≤ cu st (a + n)
  | 0 => Nat.le_refl _
  | n + 1 => Nat.le_trans (cu_mono st a n) (Nat.le_add_right _ _)
def SI (f : Nat → Nat → Int) (sz tell isc goe rou rof : Nat → Int) (deep loops : Int) : Prop :=
  ∃ st : Nat → List Int, (∀ d : Nat, (d : Int) ≤ deep → (0 ≤ isc d ∧ isc d ≤ 7 ∧ 0 < tell (isc d).toNat ∧ 0 ≤ goe d ∧ goe d ≤ sz (isc d).toNat ∧ rkN tell (tell (isc d).toNat) 8 + d ≤ 7) ∧ skN (f (isc d).toNat) (goe d).toNat = some (st d) ∧
      ∀ b : List Int, (123 :: b) <:+ st d → skN (f (isc d).toNat) (rof (cu st d + c3 b)).toNat = some (123 :: b) ∧ 0 ≤ rof (cu st d + c3 b) ∧ rof (cu st d + c3 b) ≤ sz (isc d).toNat) ∧
    loops = cu st (deep + 1).toNat ∧ (∀ i : Nat, (i : Int) < loops → 1 ≤ rou i ∧ rou i ≤ 3) ∧ -1 ≤ deep ∧ deep ≤ 7
variable {f : Nat → Nat → Int} {sz tell isc goe rou rof : Nat → Int} {deep loops : Int}
theorem SI_lim (h : SI f sz tell isc goe rou rof deep loops) (hz : ∀ x, x < 8 → sz x ≤ 58) : 0 ≤ loops ∧ loops ≤ 58 * (deep + 1) ∧ -1 ≤ deep ∧ deep ≤ 7 := by
  obtain ⟨st, h1, h2, h3, h4, h5⟩ := h
  have key : ∀ n : Nat, (n : Int) ≤ deep + 1 → (cu st n : Int) ≤ 58 * n := by
    intro n
    induction n with
    | zero => intro _; show ((0 : Nat) : Int) ≤ _; omega
    | succ n ih =>
      intro hn
      obtain ⟨⟨a1, a2, a3, a4, a5, -⟩, b, -⟩ := h1 n (by omega)
      have e1 := skN_le b
      have e2 := c3_le (st n)
      have e3 := hz (isc n).toNat (by omega)
      have e4 := ih (by omega)
      show ((cu st n + c3 (st n) : Nat) : Int) ≤ _
      omega
  have := key (deep + 1).toNat (by omega)
  omega
theorem SI_pop (h : SI f sz tell isc goe rou rof deep loops) (h0 : 0 ≤ deep) (hw : skN (f (isc deep.toNat).toNat) (sz (isc deep.toNat).toNat).toNat = some []) (he : goe deep.toNat = sz (isc deep.toNat).toNat) : SI f sz tell isc goe rou rof (deep - 1) loops := by
  obtain ⟨st, h1, h2, h3, h4, h5⟩ := h
  refine ⟨st, fun d hd => h1 d (by omega), ?_, h3, by omega, by omega⟩
  have e1 := (h1 deep.toNat (by omega)).2.1
  rw [he, hw] at e1
  rw [h2, show (deep + 1).toNat = deep.toNat + 1 by omega, show (deep - 1 + 1).toNat = deep.toNat by omega]
  show ((cu st deep.toNat + c3 (st deep.toNat) : Nat) : Int) = _
  rw [← Option.some.inj e1]
  rfl
theorem SI_sk (h : SI f sz tell isc goe rou rof deep loops) (h0 : 0 ≤ deep) : (0 ≤ isc deep.toNat ∧ isc deep.toNat ≤ 7 ∧ 0 < tell (isc deep.toNat).toNat ∧ 0 ≤ goe deep.toNat ∧ goe deep.toNat ≤ sz (isc deep.toNat).toNat ∧ rkN tell (tell (isc deep.toNat).toNat) 8 + deep ≤ 7) ∧ ∃ s, skN (f (isc deep.toNat).toNat) (goe deep.toNat).toNat = some s := by
  obtain ⟨st, h1, h2, h3, h4, h5⟩ := h
  have := h1 deep.toNat (by omega)
  exact ⟨by have q := this.1; omega, _, this.2.1⟩
theorem SI_move {goe' : Nat → Int} {p : Int} {s s' : List Int} (h : SI f sz tell isc goe rou rof deep loops) (h0 : 0 ≤ deep) (hg : ∀ d, d < deep.toNat → goe' d = goe d) (hp : goe' deep.toNat = p) (hs : skN (f (isc deep.toNat).toNat) (goe deep.toNat).toNat = some s) (p0 : 0 ≤ p) (p1 : p ≤ sz (isc deep.toNat).toNat) (hs' : skN (f (isc deep.toNat).toNat) p.toNat = some s') (e : EQV s s') : SI f sz tell isc goe' rou rof deep loops := by
  obtain ⟨st, h1, h2, h3, h4, h5⟩ := h
  have est : st deep.toNat = s := by
    have := (h1 deep.toNat (by omega)).2.1
    rw [hs] at this; exact (Option.some.inj this).symm
  have hc : ∀ d, c3 ((fun d => if d = deep.toNat then s' else st d) d) = c3 (st d) := by
    intro d
    show c3 (if d = deep.toNat then s' else st d) = _
    split
    · rename_i q; rw [e.1, q, est]
    · rfl
  refine ⟨fun d => if d = deep.toNat then s' else st d, fun d hd => ?_, ?_, h3, h4, h5⟩
  · obtain ⟨a, b, c⟩ := h1 d hd
    rw [cu_congr d (fun k _ => hc k)]
    by_cases q : d = deep.toNat
    · subst q
      simp only [if_pos rfl]
      rw [hp]
      exact ⟨by omega, hs', fun w hw => c w (by rw [est]; exact e.2 w hw)⟩
    · simp only [if_neg q]
      rw [hg d (by omega)]
      exact ⟨a, b, c⟩
  · rw [cu_congr _ (fun k _ => hc k)]; exact h2
/-- at a } : the loop on top is this one's -/
theorem SI_top {b : List Int} (h : SI f sz tell isc goe rou rof deep loops) (h0 : 0 ≤ deep) (hs : skN (f (isc deep.toNat).toNat) (goe deep.toNat).toNat = some (123 :: b)) : 1 ≤ loops ∧ skN (f (isc deep.toNat).toNat) (rof (loops - 1).toNat).toNat = some (123 :: b) ∧ 0 ≤ rof (loops - 1).toNat ∧ rof (loops - 1).toNat ≤ sz (isc deep.toNat).toNat := by
  obtain ⟨st, h1, h2, h3, h4, h5⟩ := h
  obtain ⟨a, q, c⟩ := h1 deep.toNat (by omega)
  have est : st deep.toNat = 123 :: b := by rw [hs] at q; exact (Option.some.inj q).symm
  have e1 : loops = ((cu st deep.toNat + (1 + c3 b) : Nat) : Int) := by
    rw [h2, show (deep + 1).toNat = deep.toNat + 1 by omega]
    show ((cu st deep.toNat + c3 (st deep.toNat) : Nat) : Int) = _
    rw [est]; rfl
  have e2 := c b (by rw [est]; exact List.suffix_refl _)
  rw [show cu st deep.toNat + c3 b = (loops - 1).toNat by omega] at e2
  exact ⟨by omega, e2⟩
theorem SI_jump {goe' rou' : Nat → Int} {b : List Int} (h : SI f sz tell isc goe rou rof deep loops) (h0 : 0 ≤ deep) (hs : skN (f (isc deep.toNat).toNat) (goe deep.toNat).toNat = some (123 :: b)) (hg : ∀ d, d < deep.toNat → goe' d = goe d) (hp : goe' deep.toNat = rof (loops - 1).toNat) (hr : ∀ i : Nat, (i : Int) < loops - 1 → rou' i = rou i) (hr1 : 1 ≤ rou' (loops - 1).toNat ∧ rou' (loops - 1).toNat ≤ 3) : SI f sz tell isc goe' rou' rof deep loops := by
  obtain ⟨t1, t2, t3, t4⟩ := SI_top h h0 hs
  obtain ⟨st, h1, h2, h3, h4, h5⟩ := SI_move h h0 hg hp hs t3 t4 t2 EQV.rf
  refine ⟨st, h1, h2, fun i hi => ?_, h4, h5⟩
  by_cases q : (i : Int) < loops - 1
  · rw [hr i q]; exact h3 i hi
  · rw [show i = (loops - 1).toNat by omega]; exact hr1
theorem SI_end {goe' rou' : Nat → Int} {b : List Int} {p : Int} (h : SI f sz tell isc goe rou rof deep loops) (h0 : 0 ≤ deep) (hs : skN (f (isc deep.toNat).toNat) (goe deep.toNat).toNat = some (123 :: b)) (hg : ∀ d, d < deep.toNat → goe' d = goe d) (hp : goe' deep.toNat = p) (p0 : 0 ≤ p) (p1 : p ≤ sz (isc deep.toNat).toNat) (hb : skN (f (isc deep.toNat).toNat) p.toNat = some b) (hr : ∀ i : Nat, (i : Int) < loops - 1 → rou' i = rou i) : SI f sz tell isc goe' rou' rof deep (loops - 1) := by
  obtain ⟨st, h1, h2, h3, h4, h5⟩ := h
  have est : st deep.toNat = 123 :: b := by
    have := (h1 deep.toNat (by omega)).2.1
    rw [hs] at this; exact (Option.some.inj this).symm
  have hcu : ∀ d, d ≤ deep.toNat → cu (fun d => if d = deep.toNat then b else st d) d = cu st d := fun d hd => cu_congr d (fun k hk => by
    show c3 (if k = deep.toNat then b else st k) = _
    rw [if_neg (by omega)])
  refine ⟨fun d => if d = deep.toNat then b else st d, fun d hd => ?_, ?_, fun i hi => ?_, h4, h5⟩
  · obtain ⟨a, q, c⟩ := h1 d hd
    rw [hcu d (by omega)]
    by_cases e : d = deep.toNat
    · subst e
      simp only [if_pos rfl]
      rw [hp]
      exact ⟨by omega, hb, fun w hw => c w (by rw [est]; exact List.IsSuffix.trans hw (List.suffix_cons _ _))⟩
    · simp only [if_neg e]
      rw [hg d (by omega)]
      exact ⟨a, q, c⟩
  · rw [h2, show (deep + 1).toNat = deep.toNat + 1 by omega]
    show ((cu st deep.toNat + c3 (st deep.toNat) : Nat) : Int) - 1 = ((cu _ deep.toNat + c3 (if deep.toNat = deep.toNat then b else _) : Nat) : Int)
    rw [hcu _ (Nat.le_refl _), est, if_pos rfl]
    show ((cu st deep.toNat + (1 + c3 b) : Nat) : Int) - 1 = _
    omega
  · rw [hr i hi]; exact h3 i (by omega)
theorem SI_open {goe' rou' rof' : Nat → Int} {s : List Int} {p : Int} (h : SI f sz tell isc goe rou rof deep loops) (h0 : 0 ≤ deep) (hs : skN (f (isc deep.toNat).toNat) (goe deep.toNat).toNat = some s) (hg : ∀ d, d < deep.toNat → goe' d = goe d) (hp : goe' deep.toNat = p) (p0 : 0 ≤ p) (p1 : p ≤ sz (isc deep.toNat).toNat) (hb : skN (f (isc deep.toNat).toNat) p.toNat = some (123 :: s)) (hr : ∀ i : Nat, (i : Int) < loops → rou' i = rou i) (hr1 : 1 ≤ rou' loops.toNat ∧ rou' loops.toNat ≤ 3) (hf : ∀ i : Nat, (i : Int) < loops → rof' i = rof i) (hf1 : rof' loops.toNat = p) : SI f sz tell isc goe' rou' rof' deep (loops + 1) := by
  obtain ⟨st, h1, h2, h3, h4, h5⟩ := h
  have est : st deep.toNat = s := by
    have := (h1 deep.toNat (by omega)).2.1
    rw [hs] at this; exact (Option.some.inj this).symm
  have hcu : ∀ d, d ≤ deep.toNat → cu (fun d => if d = deep.toNat then 123 :: s else st d) d = cu st d := fun d hd => cu_congr d (fun k hk => by
    show c3 (if k = deep.toNat then 123 :: s else st k) = _
    rw [if_neg (by omega)])
  have hlo : loops = ((cu st deep.toNat + c3 s : Nat) : Int) := by
    rw [h2, show (deep + 1).toNat = deep.toNat + 1 by omega]
    show ((cu st deep.toNat + c3 (st deep.toNat) : Nat) : Int) = _
    rw [est]
  have hin : ∀ d, d ≤ deep.toNat → ∀ w : List Int, (123 :: w) <:+ st d → ((cu st d + c3 w : Nat) : Int) < loops := by
    intro d hd w hw
    have e1 := c3_suf hw
    have e2 := cu_mono st (d + 1) (deep.toNat - d)
    rw [show d + 1 + (deep.toNat - d) = deep.toNat + 1 by omega] at e2
    have e3 : cu st (d + 1) = cu st d + c3 (st d) := rfl
    have e4 : cu st (deep.toNat + 1) = cu st deep.toNat + c3 (st deep.toNat) := rfl
    rw [est] at e4
    omega
  refine ⟨fun d => if d = deep.toNat then 123 :: s else st d, fun d hd => ?_, ?_, fun i hi => ?_, h4, h5⟩
  · obtain ⟨a, q, c⟩ := h1 d hd
    rw [hcu d (by omega)]
    by_cases e : d = deep.toNat
    · subst e
      simp only [if_pos rfl]
      rw [hp]
      refine ⟨by omega, hb, fun w hw => ?_⟩
      rcases List.suffix_cons_iff.mp hw with e2 | e2
      · have e3 : w = s := (List.cons.inj e2).2
        subst e3
        rw [show cu st deep.toNat + c3 w = loops.toNat by omega, hf1]
        exact ⟨hb, p0, p1⟩
      · rw [hf _ (hin _ (Nat.le_refl _) w (by rw [est]; exact e2))]
        exact c w (by rw [est]; exact e2)
    · simp only [if_neg e]
      rw [hg d (by omega)]
      refine ⟨a, q, fun w hw => ?_⟩
      rw [hf _ (hin d (by omega) w hw)]
      exact c w hw
  · rw [show (deep + 1).toNat = deep.toNat + 1 by omega]
    show loops + 1 = ((cu _ deep.toNat + c3 (if deep.toNat = deep.toNat then 123 :: s else _) : Nat) : Int)
    rw [hcu _ (Nat.le_refl _), if_pos rfl, hlo]
    show _ = ((cu st deep.toNat + (1 + c3 s) : Nat) : Int)
    omega
  · by_cases q : (i : Int) < loops
    · rw [hr i q]; exact h3 i q
    · rw [show i = loops.toNat by omega]; exact hr1
theorem SI_call {isc' goe' : Nat → Int} {y p : Int} {s s' : List Int} (h : SI f sz tell isc goe rou rof deep loops) (h0 : 0 ≤ deep) (hs : skN (f (isc deep.toNat).toNat) (goe deep.toNat).toNat = some s) (hi : ∀ d, d ≤ deep.toNat → isc' d = isc d) (hi1 : isc' (deep.toNat + 1) = y) (hg : ∀ d, d < deep.toNat → goe' d = goe d) (hg0 : goe' deep.toNat = p) (p0 : 0 ≤ p) (p1 : p ≤ sz (isc deep.toNat).toNat) (hs' : skN (f (isc deep.toNat).toNat) p.toNat = some s') (e : EQV s s') (hg1 : goe' (deep.toNat + 1) = 0) (y0 : 0 ≤ y ∧ y ≤ 7) (ht : 0 < tell y.toNat) (hz : 0 ≤ sz y.toNat) (hr : tell y.toNat < tell (isc deep.toNat).toNat) : SI f sz tell isc' goe' rou rof (deep + 1) loops := by
  obtain ⟨st, h1, h2, h3, h4, h5⟩ := SI_move (goe' := fun d => if d = deep.toNat then p else goe d) h h0 (fun d hd => if_neg (by omega)) (if_pos rfl) hs p0 p1 hs' e
  have a0 := (h1 deep.toNat (by omega)).1
  have hk := rk_lt tell (Int.le_of_lt hr) ht (Int.le_refl _) hr 8 (by omega)
  have hk0 := rk_0 tell (tell y.toNat) 8
  have hcu : ∀ d, d ≤ deep.toNat + 1 → cu (fun d => if d = deep.toNat + 1 then [] else st d) d = cu st d := fun d hd => cu_congr d (fun k hk => by
    show c3 (if k = deep.toNat + 1 then [] else st k) = _
    rw [if_neg (by omega)])
  refine ⟨fun d => if d = deep.toNat + 1 then [] else st d, fun d hd => ?_, ?_, h3, by omega, by omega⟩
  · rw [hcu d (by omega)]
    by_cases q : d = deep.toNat + 1
    · subst q
      simp only [if_pos rfl]
      rw [hi1, hg1]
      refine ⟨⟨y0.1, y0.2, ht, Int.le_refl _, hz, by omega⟩, rfl, fun w hw => ?_⟩
      have := List.IsSuffix.length_le hw
      simp at this
    · simp only [if_neg q]
      obtain ⟨a, b, c⟩ := h1 d (by omega)
      rw [hi d (by omega)]
      by_cases q2 : d = deep.toNat
      · subst q2
        simp only [if_pos rfl] at a b
        rw [hg0]
        exact ⟨a, b, c⟩
      · simp only [if_neg q2] at a b
        rw [hg d (by omega)]
        exact ⟨a, b, c⟩
  · rw [show (deep + 1 + 1).toNat = deep.toNat + 1 + 1 by omega]
    show loops = ((cu _ (deep.toNat + 1) + c3 (if deep.toNat + 1 = deep.toNat + 1 then [] else _) : Nat) : Int)
    rw [hcu _ (Nat.le_refl _), if_pos rfl, h2, show (deep + 1).toNat = deep.toNat + 1 by omega]
    rfl
end
