section
/-- a step of the reading of a text: the brackets that stand open, the newest first -/
def stp (s : List Int) (c : Int) : Option (List Int) :=
  if c = 91 ∨ c = 123 ∨ c = 40 then some (c :: s)
  else if c = 93 then (if s.head? = some 91 then some s.tail else none)
  else if c = 125 then (if s.head? = some 123 then some s.tail else none)
  else if c = 41 then (if s.head? = some 124 then some s.tail else none)
  else if c = 124 then (if s.head? = some 40 then some (124 :: s.tail) else none)
  else if (97 ≤ c ∧ c ≤ 104) ∨ (65 ≤ c ∧ c ≤ 72) then some s
  else none
def skN (f : Nat → Int) : Nat → Option (List Int)
  | 0 => some []
  | k + 1 => (skN f k).bind (fun s => stp s (f k))
theorem skN_succ {f : Nat → Int} {k : Nat} {s : List Int} (h : skN f k = some s) : skN f (k + 1) = stp s (f k) := by
  show (skN f k).bind _ = _
  rw [h]; rfl
theorem skN_pre {f : Nat → Int} {n : Nat} : ∀ {t : List Int}, skN f n = some t → ∀ k, k ≤ n → ∃ s, skN f k = some s := by
  induction n with
  | zero => intro t h k hk; exact ⟨[], by have : k = 0 := by omega
                                          subst this; rfl⟩
  | succ n ih =>
    intro t h k hk
    by_cases e : k = n + 1
    · subst e; exact ⟨t, h⟩
    · cases hs : skN f n with
      | none => have h2 : (skN f n).bind (fun s => stp s (f n)) = some t := h
                rw [hs] at h2; cases h2
      | some s => exact ih hs k (by omega)
theorem skN_next {f : Nat → Int} {n k : Nat} {t s : List Int} (h : skN f n = some t) (hk : k < n) (hs : skN f k = some s) : ∃ s', stp s (f k) = some s' ∧ skN f (k + 1) = some s' := by
  obtain ⟨s', h'⟩ := skN_pre h (k + 1) (by omega)
  exact ⟨s', by rw [← skN_succ hs]; exact h', h'⟩
def dlt (c : Int) : Int := if c = 91 ∨ c = 123 ∨ c = 40 then 1 else if c = 93 ∨ c = 125 ∨ c = 41 then -1 else 0
/-- what a step does to a stack that has a part of its own above S0 -/
theorem stp_own {l S0 s' : List Int} {c : Int} (h : stp (l ++ S0) c = some s') (hl : l = [] → dlt c = 1) : ∃ l' : List Int, s' = l' ++ S0 ∧ (l'.length : Int) = l.length + dlt c := by
  unfold stp at h
  by_cases h1 : c = 91 ∨ c = 123 ∨ c = 40
  · rw [if_pos h1] at h
    have hd : dlt c = 1 := by unfold dlt; rw [if_pos h1]
    exact ⟨c :: l, by rw [← Option.some.inj h]; rfl, by rw [hd]; simp⟩
  · rw [if_neg h1] at h
    cases l with
    | nil =>
      have := hl rfl
      unfold dlt at this
      rw [if_neg h1] at this
      split at this <;> omega
    | cons a l =>
      simp only [List.cons_append, List.head?_cons, List.tail_cons, Option.some.injEq] at h
      by_cases h2 : c = 93 ∨ c = 125 ∨ c = 41
      · have hd : dlt c = -1 := by unfold dlt; rw [if_neg h1, if_pos h2]
        refine ⟨l, ?_, by rw [hd, List.length_cons]; omega⟩
        rcases h2 with h2 | h2 | h2 <;> subst h2 <;> simp at h <;> exact h.2.symm
      · have hd : dlt c = 0 := by unfold dlt; rw [if_neg h1, if_neg h2]
        have n1 : ¬ c = 93 := fun q => h2 (Or.inl q)
        have n2 : ¬ c = 125 := fun q => h2 (Or.inr (Or.inl q))
        have n3 : ¬ c = 41 := fun q => h2 (Or.inr (Or.inr q))
        rw [if_neg n1, if_neg n2, if_neg n3] at h
        by_cases h3 : c = 124
        · rw [if_pos h3] at h
          split at h
          · exact ⟨124 :: l, (Option.some.inj h).symm, by rw [hd]; simp⟩
          · cases h
        · rw [if_neg h3] at h
          split at h
          · exact ⟨a :: l, (Option.some.inj h).symm, by rw [hd]; simp⟩
          · cases h
theorem stp_len {s s' : List Int} {c : Int} (h : stp s c = some s') : (s'.length : Int) = s.length + dlt c := by
  by_cases hs : s = [] ∧ dlt c ≠ 1
  · obtain ⟨rfl, hd⟩ := hs
    unfold stp at h
    by_cases h1 : c = 91 ∨ c = 123 ∨ c = 40
    · exact absurd (by unfold dlt; rw [if_pos h1]) hd
    · rw [if_neg h1] at h
      simp only [List.head?_nil] at h
      by_cases h2 : c = 93 ∨ c = 125 ∨ c = 41
      · rcases h2 with h2 | h2 | h2 <;> subst h2 <;> simp at h
      · have hd : dlt c = 0 := by unfold dlt; rw [if_neg h1, if_neg h2]
        have n1 : ¬ c = 93 := fun q => h2 (Or.inl q)
        have n2 : ¬ c = 125 := fun q => h2 (Or.inr (Or.inl q))
        have n3 : ¬ c = 41 := fun q => h2 (Or.inr (Or.inr q))
        rw [if_neg n1, if_neg n2, if_neg n3] at h
        by_cases h3 : c = 124
        · rw [if_pos h3] at h; simp at h
        · rw [if_neg h3] at h
          split at h
          · rw [← Option.some.inj h, hd]; simp
          · cases h
  · obtain ⟨l', e, hl⟩ := stp_own (S0 := []) (l := s) (by rw [List.append_nil]; exact h) (fun q => by
      apply Classical.byContradiction
      intro z
      exact hs ⟨q, z⟩)
    rw [e, List.append_nil]; exact hl
theorem dlt_rng (c : Int) : -1 ≤ dlt c ∧ dlt c ≤ 1 := by unfold dlt; repeat' split
                                                         all_goals omega
theorem skN_le {f : Nat → Int} : ∀ {k : Nat} {s : List Int}, skN f k = some s → s.length ≤ k := by
  intro k
  induction k with
  | zero => intro s h; have : s = [] := (Option.some.inj h).symm
            subst this; exact Nat.le_refl _
  | succ k ih =>
    intro s h
    obtain ⟨s0, h0⟩ := skN_pre h k (by omega)
    rw [skN_succ h0] at h
    have h1 := stp_len h
    have h2 := ih h0
    have h3 := dlt_rng (f k)
    omega
theorem skN_ge {f : Nat → Int} {n : Nat} (hn : skN f n = some []) : ∀ (j : Nat) {s : List Int}, j ≤ n → skN f (n - j) = some s → s.length ≤ j := by
  intro j
  induction j with
  | zero => intro s hj h; rw [Nat.sub_zero, hn] at h; rw [← Option.some.inj h]; exact Nat.le_refl _
  | succ j ih =>
    intro s hj h
    obtain ⟨s', h1, h2⟩ := skN_next hn (show n - (j + 1) < n by omega) h
    have e : n - (j + 1) + 1 = n - j := by omega
    rw [e] at h2
    have h3 := ih (by omega) h2
    have h4 := stp_len h1
    have h5 := dlt_rng (f (n - (j + 1)))
    omega
theorem skN_len {f : Nat → Int} {n k : Nat} {s : List Int} (hn : skN f n = some []) (hk : k ≤ n) (h : skN f k = some s) : s.length ≤ k ∧ s.length + k ≤ n := by
  refine ⟨skN_le h, ?_⟩
  have := skN_ge hn (n - k) (by omega) (s := s) (by rw [show n - (n - k) = k by omega]; exact h)
  omega
/-- within a bracket: the stack at place k has d brackets above S0 -/
def BI (f : Nat → Int) (n : Nat) (S0 : List Int) (k d : Int) : Prop := 0 ≤ k ∧ k < n ∧ ∃ l : List Int, skN f k.toNat = some (l ++ S0) ∧ (l.length : Int) = d
theorem BI_next {f : Nat → Int} {n : Nat} {S0 : List Int} {k d d' : Int} (hw : skN f n = some []) (h : BI f n S0 k d) (hd : dlt (f k.toNat) = d' - d) (h1 : 1 ≤ d') : BI f n S0 (k + 1) d' := by
  obtain ⟨h0, hk, l, hl, hd0⟩ := h
  obtain ⟨s', e1, e2⟩ := skN_next hw (show k.toNat < n by omega) hl
  obtain ⟨l', e3, e4⟩ := stp_own e1 (fun q => by
    subst q
    have := dlt_rng (f k.toNat)
    simp at hd0
    omega)
  have ek : (k + 1).toNat = k.toNat + 1 := by omega
  refine ⟨by omega, ?_, l', by rw [ek, e2, e3], by omega⟩
  apply Classical.byContradiction
  intro z
  have ez : k.toNat + 1 = n := by omega
  rw [ez, hw] at e2
  have e5 : l' ++ S0 = [] := by rw [← e3]; exact (Option.some.inj e2).symm
  have e6 : l' = [] := (List.append_eq_nil_iff.mp e5).1
  rw [e6] at e4
  simp at e4
  omega
theorem BI_last {f : Nat → Int} {n : Nat} {S0 : List Int} {k d : Int} (hw : skN f n = some []) (h : BI f n S0 k d) (hd : dlt (f k.toNat) = -d) (h1 : d = 1) : k.toNat + 1 ≤ n ∧ skN f (k.toNat + 1) = some S0 := by
  obtain ⟨h0, hk, l, hl, hd0⟩ := h
  obtain ⟨s', e1, e2⟩ := skN_next hw (show k.toNat < n by omega) hl
  obtain ⟨l', e3, e4⟩ := stp_own e1 (fun q => by subst q; simp at hd0; omega)
  have e6 : l' = [] := List.length_eq_zero_iff.mp (by omega)
  rw [e6] at e3
  exact ⟨by omega, by rw [e2, e3]; rfl⟩
theorem BI_d {f : Nat → Int} {n : Nat} {S0 : List Int} {k d : Int} (h : BI f n S0 k d) : 0 ≤ d ∧ d ≤ k := by
  obtain ⟨h0, hk, l, hl, hd0⟩ := h
  have := skN_le hl
  rw [List.length_append] at this
  omega
theorem BI_of {f : Nat → Int} {n : Nat} {S0 : List Int} {k : Int} (hw : skN f n = some []) (h0 : 0 ≤ k) (hk : k < n) (hS : skN f (k.toNat + 1) = some (124 :: S0)) : BI f n S0 (k + 1) 1 := by
  refine ⟨by omega, ?_, [124], by rw [show (k + 1).toNat = k.toNat + 1 by omega]; exact hS, rfl⟩
  apply Classical.byContradiction
  intro z
  rw [show k.toNat + 1 = n by omega, hw] at hS
  cases hS
theorem BI_bar {f : Nat → Int} {n : Nat} {S0 : List Int} {k : Int} (hw : skN f n = some []) (h : BI f n S0 k 1) (hc : f k.toNat = 124) : k.toNat + 1 ≤ n ∧ skN f (k.toNat + 1) = some (124 :: S0) := by
  obtain ⟨h0, hk, l, hl, hd0⟩ := h
  obtain ⟨s', e1, e2⟩ := skN_next hw (show k.toNat < n by omega) hl
  rw [hc] at e1
  match l, hd0 with
  | [a], _ =>
    refine ⟨by omega, ?_⟩
    rw [e2]
    have e3 : stp ([a] ++ S0) 124 = if (some a = some (40 : Int)) then some (124 :: S0) else none := rfl
    rw [e3] at e1
    split at e1
    · rw [← Option.some.inj e1]
    · cases e1
/-- the text of a scene -/
def txt (M : Mem) (x : Nat) : Nat → Int := fun k => (M.1 61 (60 * x + k)).toInt
def tsz (M : Mem) (x : Nat) : Int := (M.1 62 x).toInt
def tel (M : Mem) (x : Nat) : Int := (M.1 63 x).toInt
/-- all told texts can be read, and name scenes alone that were told before them -/
def WFM (M : Mem) : Prop := ∀ x, x < 8 → 0 < tel M x → skN (txt M x) (tsz M x).toNat = some [] ∧ ∀ k, k < (tsz M x).toNat → 65 ≤ txt M x k → txt M x k ≤ 72 → 0 < tel M (txt M x k - 65).toNat ∧ tel M (txt M x k - 65).toNat < tel M x
theorem txt_fr {W : List (Nat × Nat)} {M M' : Mem} (fr : Fr W M M') (h1 : ∀ j, inW W 61 j = false) (x : Nat) : txt M' x = txt M x := by
  funext k; unfold txt; rw [fr.at 61 _ (h1 _)]
theorem WFM_fr0 {W : List (Nat × Nat)} {M M' : Mem} (h : WFM M) (fr : Fr W M M') (h1 : ∀ j, inW W 61 j = false) (h2 : ∀ j, inW W 62 j = false) (h3 : ∀ j, inW W 63 j = false) : WFM M' := by
  have e1 : ∀ x, txt M' x = txt M x := txt_fr fr h1
  have e2 : ∀ x, tsz M' x = tsz M x := fun x => by unfold tsz; rw [fr.at 62 _ (h2 _)]
  have e3 : ∀ x, tel M' x = tel M x := fun x => by unfold tel; rw [fr.at 63 _ (h3 _)]
  intro x hx ht
  simp only [e1, e2, e3] at *
  exact h x hx ht
def noW (W : List (Nat × Nat)) (k : Nat) : Bool := W.all (fun q => q.1 != k)
theorem noW_in {W : List (Nat × Nat)} {k : Nat} (h : noW W k = true) (j : Nat) : inW W k j = false := by
  rw [Bool.eq_false_iff]
  intro z
  obtain ⟨q, hq, h1⟩ := List.any_eq_true.mp z
  have h2 := List.all_eq_true.mp h q hq
  simp only [Bool.and_eq_true, beq_iff_eq, bne_iff_ne] at h1 h2
  exact h2 h1.1
theorem WFM_fr {W : List (Nat × Nat)} {M M' : Mem} (h : WFM M) (fr : Fr W M M') (hw : (noW W 61 && noW W 62 && noW W 63) = true) : WFM M' := by
  simp only [Bool.and_eq_true] at hw
  exact WFM_fr0 h fr (noW_in hw.1.1) (noW_in hw.1.2) (noW_in hw.2)
theorem txt_at {M : Mem} {x k : Int} (hx : 0 ≤ x) (hk : 0 ≤ k) : txt M x.toNat k.toNat = (M.1 61 (60 * x + k).toNat).toInt := by
  unfold txt
  rw [show 60 * x.toNat + k.toNat = (60 * x + k).toNat by omega]
/-- at place k of a text d brackets stand open -/
def TI (f : Nat → Int) (k d : Int) : Prop := ∃ s : List Int, skN f k.toNat = some s ∧ (s.length : Int) = d
theorem TI_0 {f : Nat → Int} : TI f 0 0 := ⟨[], rfl, rfl⟩
theorem TI_next {f : Nat → Int} {n : Nat} {k d d' : Int} (hw : skN f n = some []) (h : TI f k d) (h0 : 0 ≤ k) (hk : k < n) (hd : dlt (f k.toNat) = d' - d) : TI f (k + 1) d' := by
  obtain ⟨s, h1, h2⟩ := h
  obtain ⟨s', e1, e2⟩ := skN_next hw (show k.toNat < n by omega) h1
  have := stp_len e1
  exact ⟨s', by rw [show (k + 1).toNat = k.toNat + 1 by omega]; exact e2, by omega⟩
theorem TI_len {f : Nat → Int} {n : Nat} {k d : Int} (hw : skN f n = some []) (h : TI f k d) (h0 : 0 ≤ k) (hk : k ≤ n) : 0 ≤ d ∧ d ≤ k ∧ d + k ≤ n := by
  obtain ⟨s, h1, h2⟩ := h
  have := skN_len hw (show k.toNat ≤ n by omega) h1
  omega
theorem TI_ch {f : Nat → Int} {n : Nat} {k d : Int} (hw : skN f n = some []) (h : TI f k d) (h0 : 0 ≤ k) (hk : k < n) : (97 ≤ f k.toNat ∧ f k.toNat ≤ 104) ∨ (65 ≤ f k.toNat ∧ f k.toNat ≤ 72) ∨ f k.toNat = 91 ∨ f k.toNat = 123 ∨ f k.toNat = 40 ∨ (1 ≤ d ∧ (f k.toNat = 93 ∨ f k.toNat = 125 ∨ f k.toNat = 41 ∨ f k.toNat = 124)) := by
  obtain ⟨s, h1, h2⟩ := h
  obtain ⟨s', e1, e2⟩ := skN_next hw (show k.toNat < n by omega) h1
  generalize f k.toNat = c at *
  unfold stp at e1
  by_cases q1 : c = 91 ∨ c = 123 ∨ c = 40
  · omega
  · rw [if_neg q1] at e1
    cases s with
    | nil =>
      simp only [List.head?_nil, reduceCtorEq, if_false] at e1
      by_cases q2 : (97 ≤ c ∧ c ≤ 104) ∨ (65 ≤ c ∧ c ≤ 72)
      · omega
      · rw [if_neg q2] at e1
        repeat' split at e1
        all_goals cases e1
    | cons a s =>
      have hd1 : 1 ≤ d := by rw [← h2, List.length_cons]; omega
      by_cases q2 : (97 ≤ c ∧ c ≤ 104) ∨ (65 ≤ c ∧ c ≤ 72)
      · omega
      · rw [if_neg q2] at e1
        by_cases a1 : c = 93
        · omega
        · by_cases a2 : c = 125
          · omega
          · by_cases a3 : c = 41
            · omega
            · by_cases a4 : c = 124
              · omega
              · rw [if_neg a1, if_neg a2, if_neg a3, if_neg a4] at e1
                cases e1
end
