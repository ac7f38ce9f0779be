section
/-! ===== where a bracket leads ===== -/
def cbC (c : Int) : Prop := c = 93 ∨ c = 125 ∨ c = 41 ∨ c = 124
def obC (c : Int) : Prop := c = 91 ∨ c = 123 ∨ c = 40 ∨ c = 124
/-- the places of the brackets that stand open, the newest first; a bar stands in its bracket's place -/
def psS (f : Nat → Int) (k : Nat) (s : List Nat) : List Nat := if f k = 91 ∨ f k = 123 ∨ f k = 40 then k :: s else if f k = 124 then k :: s.tail else if f k = 93 ∨ f k = 125 ∨ f k = 41 then s.tail else s
def psN (f : Nat → Int) : Nat → List Nat
  | 0 => []
  | k + 1 => psS f k (psN f k)
theorem psN_op {f : Nat → Int} {k : Nat} (h : f k = 91 ∨ f k = 123 ∨ f k = 40) : psN f (k + 1) = k :: psN f k := by show psS f k _ = _; unfold psS; rw [if_pos h]
theorem psN_bar {f : Nat → Int} {k : Nat} (h : f k = 124) : psN f (k + 1) = k :: (psN f k).tail := by show psS f k _ = _; unfold psS; rw [if_neg (by omega), if_pos h]
theorem psN_cl {f : Nat → Int} {k : Nat} (h : f k = 93 ∨ f k = 125 ∨ f k = 41) : psN f (k + 1) = (psN f k).tail := by show psS f k _ = _; unfold psS; rw [if_neg (by omega), if_neg (by omega), if_pos h]
theorem psN_let {f : Nat → Int} {k : Nat} (h : (97 ≤ f k ∧ f k ≤ 104) ∨ (65 ≤ f k ∧ f k ≤ 72)) : psN f (k + 1) = psN f k := by show psS f k _ = _; unfold psS; rw [if_neg (by omega), if_neg (by omega), if_neg (by omega)]
theorem psS_mem {f : Nat → Int} {k q : Nat} {s : List Nat} (h : q ∈ psS f k s) : (q = k ∧ obC (f k)) ∨ q ∈ s := by
  unfold psS at h
  by_cases c1 : f k = 91 ∨ f k = 123 ∨ f k = 40
  · rw [if_pos c1] at h
    rcases List.mem_cons.mp h with z | z
    · exact Or.inl ⟨z, by unfold obC; omega⟩
    · exact Or.inr z
  · rw [if_neg c1] at h
    by_cases c2 : f k = 124
    · rw [if_pos c2] at h
      rcases List.mem_cons.mp h with z | z
      · exact Or.inl ⟨z, by unfold obC; omega⟩
      · exact Or.inr (List.mem_of_mem_tail z)
    · rw [if_neg c2] at h
      by_cases c3 : f k = 93 ∨ f k = 125 ∨ f k = 41
      · rw [if_pos c3] at h; exact Or.inr (List.mem_of_mem_tail h)
      · rw [if_neg c3] at h; exact Or.inr h
theorem psN_mem {f : Nat → Int} : ∀ {k q : Nat}, q ∈ psN f k → q < k ∧ obC (f q)
  | 0, q, h => nomatch h
  | k + 1, q, h => by
    rcases psS_mem h with ⟨z1, z2⟩ | z
    · subst z1; exact ⟨by omega, z2⟩
    · have w := psN_mem z
      exact ⟨by omega, w.2⟩
/-- j closes q, or is its bar -/
def MA (f : Nat → Int) (q j : Nat) : Prop := cbC (f j) ∧ (psN f j).head? = some q
theorem gst_stp {s s' : List Int} {e e' : Bool} {c : Int} (h : gst s e c = some (s', e')) : stp s c = some s' := by
  unfold gst at h
  by_cases h1 : c = 91 ∨ c = 123 ∨ c = 40
  · rw [if_pos h1] at h
    have z := congrArg Prod.fst (Option.some.inj h)
    unfold stp
    rw [if_pos h1]
    exact congrArg some z
  · rw [if_neg h1] at h
    by_cases h2 : (97 ≤ c ∧ c ≤ 104) ∨ (65 ≤ c ∧ c ≤ 72)
    · rw [if_pos h2] at h
      have z := congrArg Prod.fst (Option.some.inj h)
      unfold stp
      rw [if_neg h1, if_neg (by omega), if_neg (by omega), if_neg (by omega), if_neg (by omega), if_pos h2]
      exact congrArg some z
    · rw [if_neg h2] at h
      by_cases h3 : e = true
      · rw [if_pos h3] at h
        cases hs : stp s c with
        | none => rw [hs] at h; cases h
        | some t =>
          rw [hs] at h
          have z := congrArg Prod.fst (Option.some.inj h)
          exact congrArg some z
      · rw [if_neg h3] at h; cases h
theorem gsN_skN {f : Nat → Int} : ∀ {k : Nat} {s : List Int} {e : Bool}, gsN f k = some (s, e) → skN f k = some s
  | 0, s, e, h => by
    have z := congrArg Prod.fst (Option.some.inj h)
    exact congrArg some z
  | k + 1, s, e, h => by
    cases hk : gsN f k with
    | none => have z : (gsN f k).bind (fun q => gst q.1 q.2 (f k)) = some (s, e) := h
              rw [hk] at z; cases z
    | some q =>
      obtain ⟨s0, e0⟩ := q
      have i := gsN_skN hk
      rw [gsN_succ hk] at h
      rw [skN_succ i]
      exact gst_stp h
theorem stL_len {g : Nat → Int} : ∀ n, (stL g n).length = n
  | 0 => rfl
  | n + 1 => by show (g n :: stL g n).length = _; rw [List.length_cons, stL_len n]
def MMI (f : Nat → Int) (op mt : Nat → Int) (d k : Nat) : Prop := (stL op d = (psN f k).map (fun q => ((q + 2 : Nat) : Int))) ∧ (∀ q, q < k → obC (f q) → q ∈ psN f k ∨ ∃ j : Nat, mt (q + 2) = ((j + 2 : Nat) : Int) ∧ j < k ∧ MA f q j) ∧ (∀ q, q < k → f q = 125 → ∃ r : Nat, mt (q + 2) = ((r + 2 : Nat) : Int) ∧ (psN f q).head? = some r)
def MTE (f : Nat → Int) (mt : Nat → Int) (n : Nat) : Prop := (∀ q, q < n → obC (f q) → ∃ j : Nat, mt (q + 2) = ((j + 2 : Nat) : Int) ∧ j < n ∧ MA f q j) ∧ (∀ q, q < n → f q = 125 → ∃ r : Nat, mt (q + 2) = ((r + 2 : Nat) : Int) ∧ (psN f q).head? = some r)
section
variable {f op op' mt mt' : Nat → Int} {d k : Nat}
theorem MMI_0 : MMI f op mt 0 0 := ⟨rfl, fun i h => absurd h (Nat.not_lt_zero _), fun i h => absurd h (Nat.not_lt_zero _)⟩
theorem MMI_end {n : Nat} (h : MMI f op mt 0 n) : MTE f mt n := by
  refine ⟨fun q hq ho => ?_, h.2.2⟩
  rcases h.2.1 q hq ho with z | z
  · have e : psN f n = [] := List.map_eq_nil_iff.mp h.1.symm
    rw [e] at z; exact nomatch z
  · exact z
theorem MMI_let (h : MMI f op mt d k) (hc : (97 ≤ f k ∧ f k ≤ 104) ∨ (65 ≤ f k ∧ f k ≤ 72)) : MMI f op mt d (k + 1) := by
  obtain ⟨a, b, c⟩ := h
  refine ⟨by rw [psN_let hc]; exact a, fun q hq ho => ?_, fun q hq he => ?_⟩
  · by_cases e : q = k
    · subst e; unfold obC at ho; omega
    · rw [psN_let hc]
      rcases b q (by omega) ho with z | ⟨j, j1, j2, j3⟩
      · exact Or.inl z
      · exact Or.inr ⟨j, j1, by omega, j3⟩
  · by_cases e : q = k
    · subst e; omega
    · exact c q (by omega) he
theorem MMI_open (h : MMI f op mt d k) (hc : f k = 91 ∨ f k = 123 ∨ f k = 40) (o1 : op' d = ((k + 2 : Nat) : Int)) (o2 : ∀ i, i ≠ d → op' i = op i) : MMI f op' mt (d + 1) (k + 1) := by
  obtain ⟨a, b, c⟩ := h
  refine ⟨?_, fun q hq ho => ?_, fun q hq he => ?_⟩
  · rw [psN_op hc]
    show op' d :: stL op' d = _ :: List.map _ (psN f k)
    rw [o1, ← a, stL_congr d (fun i hi => o2 i (by omega))]
  · rw [psN_op hc]
    by_cases e : q = k
    · subst e; exact Or.inl List.mem_cons_self
    · rcases b q (by omega) ho with z | ⟨j, j1, j2, j3⟩
      · exact Or.inl (List.mem_cons_of_mem _ z)
      · exact Or.inr ⟨j, j1, by omega, j3⟩
  · by_cases e : q = k
    · subst e; omega
    · exact c q (by omega) he
theorem MMI_top (h : MMI f op mt d k) (d1 : 1 ≤ d) : ∃ (q : Nat) (s : List Nat), psN f k = q :: s ∧ op (d - 1) = ((q + 2 : Nat) : Int) ∧ stL op (d - 1) = s.map (fun q => ((q + 2 : Nat) : Int)) := by
  have a := h.1
  rw [show d = d - 1 + 1 by omega] at a
  have a : op (d - 1) :: stL op (d - 1) = (psN f k).map (fun q => ((q + 2 : Nat) : Int)) := a
  cases hp : psN f k with
  | nil => rw [hp] at a; cases a
  | cons q s =>
    rw [hp, List.map_cons] at a
    exact ⟨q, s, rfl, (List.cons.inj a).1, (List.cons.inj a).2⟩
theorem MMI_bar {q0 : Nat} (h : MMI f op mt d k) (d1 : 1 ≤ d) (hc : f k = 124) (hq : op (d - 1) = ((q0 + 2 : Nat) : Int)) (o1 : op' (d - 1) = ((k + 2 : Nat) : Int)) (o2 : ∀ i, i ≠ d - 1 → op' i = op i) (m1 : mt' (q0 + 2) = ((k + 2 : Nat) : Int)) (m2 : ∀ i, i ≠ q0 + 2 → mt' i = mt i) : MMI f op' mt' d (k + 1) := by
  obtain ⟨q, s, t1, t2, t3⟩ := MMI_top h d1
  obtain ⟨a, b, c⟩ := h
  have e0 : q = q0 := by omega
  subst e0
  have pq := psN_mem (f := f) (k := k) (q := q) (by rw [t1]; exact List.mem_cons_self)
  have pk : psN f (k + 1) = k :: s := by rw [psN_bar hc, t1]; rfl
  refine ⟨?_, fun p hp ho => ?_, fun p hp he => ?_⟩
  · rw [pk]
    rw [show d = d - 1 + 1 by omega]
    show op' (d - 1) :: stL op' (d - 1) = _ :: List.map _ s
    rw [o1, ← t3, stL_congr (d - 1) (fun i hi => o2 i (by omega))]
  · rw [pk]
    by_cases e : p = k
    · subst e; exact Or.inl List.mem_cons_self
    · by_cases e2 : p = q
      · subst e2
        exact Or.inr ⟨k, m1, by omega, by unfold cbC; omega, by rw [t1]; rfl⟩
      · rcases b p (by omega) ho with z | ⟨j, j1, j2, j3⟩
        · rw [t1] at z
          rcases List.mem_cons.mp z with w | w
          · exact absurd w e2
          · exact Or.inl (List.mem_cons_of_mem _ w)
        · exact Or.inr ⟨j, by rw [m2 _ (by omega)]; exact j1, by omega, j3⟩
  · by_cases e : p = k
    · subst e; omega
    · obtain ⟨r, r1, r2⟩ := c p (by omega) he
      exact ⟨r, by rw [m2 _ (fun z => by have z2 : p = q := by omega
                                         have z3 := pq.2
                                         rw [← z2, he] at z3; unfold obC at z3; omega)]; exact r1, r2⟩
theorem MMI_close {q0 : Nat} (h : MMI f op mt d k) (d1 : 1 ≤ d) (hc : f k = 93 ∨ f k = 125 ∨ f k = 41) (hq : op (d - 1) = ((q0 + 2 : Nat) : Int)) (m1 : mt' (q0 + 2) = ((k + 2 : Nat) : Int)) (m3 : mt' (k + 2) = ((q0 + 2 : Nat) : Int)) (m2 : ∀ i, i ≠ q0 + 2 → i ≠ k + 2 → mt' i = mt i) : MMI f op mt' (d - 1) (k + 1) := by
  obtain ⟨q, s, t1, t2, t3⟩ := MMI_top h d1
  obtain ⟨a, b, c⟩ := h
  have e0 : q = q0 := by omega
  subst e0
  have pq := psN_mem (f := f) (k := k) (q := q) (by rw [t1]; exact List.mem_cons_self)
  have pk : psN f (k + 1) = s := by rw [psN_cl hc, t1]; rfl
  refine ⟨by rw [pk]; exact t3, fun p hp ho => ?_, fun p hp he => ?_⟩
  · rw [pk]
    by_cases e : p = k
    · subst e; unfold obC at ho; omega
    · by_cases e2 : p = q
      · subst e2
        exact Or.inr ⟨k, m1, by omega, by unfold cbC; omega, by rw [t1]; rfl⟩
      · rcases b p (by omega) ho with z | ⟨j, j1, j2, j3⟩
        · rw [t1] at z
          rcases List.mem_cons.mp z with w | w
          · exact absurd w e2
          · exact Or.inl w
        · exact Or.inr ⟨j, by rw [m2 _ (by omega) (by omega)]; exact j1, by omega, j3⟩
  · by_cases e : p = k
    · subst e
      exact ⟨q, m3, by rw [t1]; rfl⟩
    · obtain ⟨r, r1, r2⟩ := c p (by omega) he
      exact ⟨r, by rw [m2 _ (fun z => by have z2 : p = q := by omega
                                         have z3 := pq.2
                                         rw [← z2, he] at z3; unfold obC at z3; omega) (by omega)]; exact r1, r2⟩
end
/-- what the class writes as it reads on -/
def GM (M M' : Mem) (x : Int32) (p c : Int) : Prop := (((97 ≤ c ∧ c ≤ 104) ∨ (65 ≤ c ∧ c ≤ 72)) ∧ M'.1 16 = M.1 16 ∧ M'.1 17 = M.1 17 ∧ (M'.1 14 4).toInt = (M.1 14 4).toInt) ∨ ((c = 91 ∨ c = 123 ∨ c = 40) ∧ M'.1 16 = M.1 16 ∧ M'.1 17 = (ui M 17 ((M.1 14 4).toInt).toNat x).1 17 ∧ (M'.1 14 4).toInt = (M.1 14 4).toInt + 1) ∨ (c = 124 ∧ 1 ≤ (M.1 14 4).toInt ∧ og M ((M.1 14 4).toInt - 1).toNat = 40 ∧ M'.1 16 = (ui M 16 ((M.1 17 ((M.1 14 4).toInt - 1).toNat).toInt).toNat x).1 16 ∧ M'.1 17 = (ui M 17 ((M.1 14 4).toInt - 1).toNat x).1 17 ∧ (M'.1 14 4).toInt = (M.1 14 4).toInt) ∨ (prC (og M ((M.1 14 4).toInt - 1).toNat) c ∧ 1 ≤ (M.1 14 4).toInt ∧ M'.1 16 = (ui (ui M 16 ((M.1 17 ((M.1 14 4).toInt - 1).toNat).toInt).toNat x) 16 p.toNat (M.1 17 ((M.1 14 4).toInt - 1).toNat)).1 16 ∧ M'.1 17 = M.1 17 ∧ (M'.1 14 4).toInt = (M.1 14 4).toInt - 1)
def MMX (M0 M : Mem) (p : Int) : Prop := MMI (tX M0) (fun i => (M.1 17 i).toInt) (fun q => (M.1 16 q).toInt) ((M.1 14 4).toInt).toNat (p - 2).toNat
theorem MMX_2 {M0 M : Mem} (h : (M.1 14 4).toInt = 0) : MMX M0 M 2 := by unfold MMX; rw [h]; exact MMI_0
theorem MMX_s {M0 M M' : Mem} {x : Int32} {p c : Int} (h : MMX M0 M p) (hp : 2 ≤ p) (hs : gsN (tX M0) (p - 2).toNat = some (stX M, eX M)) (h15 : M.1 15 = M0.1 15) (hc : (M0.1 15 p.toNat).toInt = c) (hx : x.toInt = p) (g : GM M M' x p c) (d0 : 0 ≤ (M.1 14 4).toInt) : MMX M0 M' (p + 1) := by
  have ec : tX M0 (p - 2).toNat = c := by rw [tX_at hp]; exact hc
  have ek : (p + 1 - 2).toNat = (p - 2).toNat + 1 := by omega
  have ep : p = (((p - 2).toNat + 2 : Nat) : Int) := by omega
  have epn : p.toNat = (p - 2).toNat + 2 := by omega
  unfold MMX at h ⊢
  rw [ek]
  rcases g with ⟨g1, g2, g3, g4⟩ | ⟨g1, g2, g3, g4⟩ | ⟨g1, g0, g5, g2, g3, g4⟩ | ⟨g1, g0, g2, g3, g4⟩
  · rw [g2, g3, g4]
    exact MMI_let h (by rw [ec]; exact g1)
  · rw [g2, g3, g4, show ((M.1 14 4).toInt + 1).toNat = ((M.1 14 4).toInt).toNat + 1 by omega]
    exact MMI_open h (by rw [ec]; exact g1) (by show ((ui M 17 _ x).1 17 _).toInt = _; rw [ui_eq, hx]; exact ep) (fun i hi => by show ((ui M 17 _ x).1 17 i).toInt = _; rw [ui_nj hi])
  · have e1 : ((M.1 14 4).toInt - 1).toNat = ((M.1 14 4).toInt).toNat - 1 := by omega
    obtain ⟨q, s, t1, t2, t3⟩ := MMI_top h (by omega)
    have q1 : (M.1 17 (((M.1 14 4).toInt).toNat - 1)).toInt = ((q + 2 : Nat) : Int) := t2
    have eq : ((M.1 17 ((M.1 14 4).toInt - 1).toNat).toInt).toNat = q + 2 := by rw [e1, q1]; omega
    rw [g2, g3, g4, eq, e1]
    refine MMI_bar (q0 := q) h (by omega) (by rw [ec]; exact g1) q1 (by show ((ui M 17 _ x).1 17 _).toInt = _; rw [ui_eq, hx]; exact ep) (fun i hi => by show ((ui M 17 _ x).1 17 i).toInt = _; rw [ui_nj hi]) (by show ((ui M 16 _ x).1 16 _).toInt = _; rw [ui_eq, hx]; exact ep) (fun i hi => by show ((ui M 16 _ x).1 16 i).toInt = _; rw [ui_nj hi])
  · have e1 : ((M.1 14 4).toInt - 1).toNat = ((M.1 14 4).toInt).toNat - 1 := by omega
    obtain ⟨q, s, t1, t2, t3⟩ := MMI_top h (by omega)
    have q1 : (M.1 17 (((M.1 14 4).toInt).toNat - 1)).toInt = ((q + 2 : Nat) : Int) := t2
    have eq : ((M.1 17 ((M.1 14 4).toInt - 1).toNat).toInt).toNat = q + 2 := by rw [e1, q1]; omega
    rw [g2, g3, g4, eq, show ((M.1 14 4).toInt - 1).toNat = ((M.1 14 4).toInt).toNat - 1 from e1, epn]
    refine MMI_close (q0 := q) h (by omega) (by rw [ec]; unfold prC at g1; omega) q1 ?_ ?_ (fun i u1 u2 => ?_)
    · show ((ui (ui M 16 (q + 2) x) 16 ((p - 2).toNat + 2) _).1 16 (q + 2)).toInt = _
      have pq := (psN_mem (f := tX M0) (k := (p - 2).toNat) (q := q) (by rw [t1]; exact List.mem_cons_self)).1
      rw [ui_nj (by omega), ui_eq, hx]; exact ep
    · show ((ui (ui M 16 (q + 2) x) 16 ((p - 2).toNat + 2) _).1 16 ((p - 2).toNat + 2)).toInt = _
      rw [ui_eq]; exact q1
    · show ((ui (ui M 16 (q + 2) x) 16 ((p - 2).toNat + 2) _).1 16 i).toInt = _
      rw [ui_nj u2, ui_nj u1]
end
