section
/-! ===== the reference's song and the machine ===== -/
def fl : List FrT → List (Int × Int)
  | [] => []
  | a :: R => a.2.2 ++ fl R
def RM (M : Mem) (deep loops : Int) (F : List FrT) (n : Int) (o : List Int) : Prop := (-1 ≤ deep ∧ 0 ≤ loops) ∧ stL (fun d => (M.1 65 d).toInt) (deep + 1).toNat = F.map (fun a => (a.1 : Int)) ∧ stL (fun d => (M.1 66 d).toInt) (deep + 1).toNat = F.map (fun a => a.2.1) ∧ stL (fun i => (M.1 67 i).toInt) loops.toNat = (fl F).map Prod.fst ∧ stL (fun i => (M.1 68 i).toInt) loops.toNat = (fl F).map Prod.snd ∧ (M.2 47 34).toInt = n ∧ (M.1 47 33).toInt = (o.length : Int) ∧ ordN (M.1 70) o.length = o
def BM (M : Mem) (s : Int) (l : Nat) : Bool := decide ((M.1 85 l).toInt ≠ 0) && decide ((M.1 55 l).toInt = s)
theorem cntL_ctb (M : Mem) (s : Int) : ∀ n, cntL M s n = ((ctb (BM M s) n : Nat) : Int)
  | 0 => rfl
  | n + 1 => by
    show cntL M s n + _ = _
    rw [cntL_ctb M s n, ctb_succ]
    unfold BM
    by_cases q : (M.1 85 n).toInt ≠ 0 ∧ (M.1 55 n).toInt = s
    · rw [if_pos q, if_pos (by rw [decide_eq_true q.1, decide_eq_true q.2]; rfl)]; omega
    · rw [if_neg q, if_neg (fun z => q (by rw [Bool.and_eq_true, decide_eq_true_eq, decide_eq_true_eq] at z; exact z))]; omega
theorem BM_y {M : Mem} {s : Int} {l : Nat} (h1 : (M.1 85 l).toInt ≠ 0) (h2 : (M.1 55 l).toInt = s) : BM M s l = true := by unfold BM; rw [decide_eq_true h1, decide_eq_true h2]; rfl
def PM (M : Mem) (p : PaT) : Prop := p.1 = txt M ∧ p.2.1 = tsz M ∧ (M.1 47 24).toInt = p.2.2.2.1 ∧ ∀ s : Int, 0 ≤ s → s ≤ 7 → p.2.2.2.2.1 s = cntL M s ((M.1 47 12).toInt).toNat ∧ ∀ i : Int, p.2.2.2.2.2 s i = nthN (BM M s) i 40
def pmW (W : List (Nat × Nat)) : Bool := noW W 61 && (noW W 62 && (noW W 55 && (noW W 85 && (!inW W 47 24 && !inW W 47 12))))
theorem PM_fr {W : List (Nat × Nat)} {M M' : Mem} {p : PaT} (h : PM M p) (F : Fr W M M') (hw : pmW W = true) : PM M' p := by
  unfold pmW at hw
  simp only [Bool.and_eq_true, Bool.not_eq_true'] at hw
  obtain ⟨w1, w2, w3, w4, w5, w6⟩ := hw
  have e1 : txt M' = txt M := by unfold txt; rw [row_fr F w1]
  have e2 : tsz M' = tsz M := by unfold tsz; rw [row_fr F w2]
  have e3 : BM M' = BM M := by unfold BM; rw [row_fr F w3, row_fr F w4]
  refine ⟨by rw [e1]; exact h.1, by rw [e2]; exact h.2.1, by rw [F.at 47 24 w5]; exact h.2.2.1, fun s h1 h2 => ?_⟩
  rw [cntL_fr F (by rw [w3, w4]; rfl), F.at 47 12 w6, e3]
  exact h.2.2.2 s h1 h2
section
variable {M M' M1 : Mem} {deep loops : Int} {F R : List FrT} {n n' : Int} {o : List Int} {x : Nat} {k k' : Int} {L : List (Int × Int)}
theorem RM_hd (h : RM M deep loops F n o) (h0 : 0 ≤ deep) : ∃ (x : Nat) (k : Int) (L : List (Int × Int)) (R : List FrT), F = (x, k, L) :: R ∧ (M.1 65 deep.toNat).toInt = x ∧ (M.1 66 deep.toNat).toInt = k := by
  obtain ⟨-, h1, h2, -⟩ := h
  rw [show (deep + 1).toNat = deep.toNat + 1 by omega] at h1 h2
  cases F with
  | nil => cases h1
  | cons a R =>
    obtain ⟨x, k, L⟩ := a
    have h1 : (M.1 65 deep.toNat).toInt :: stL (fun d => (M.1 65 d).toInt) deep.toNat = (x : Int) :: R.map (fun a => (a.1 : Int)) := h1
    have h2 : (M.1 66 deep.toNat).toInt :: stL (fun d => (M.1 66 d).toInt) deep.toNat = k :: R.map (fun a => a.2.1) := h2
    exact ⟨x, k, L, R, rfl, (List.cons.inj h1).1, (List.cons.inj h2).1⟩
theorem RM_nil (h : RM M deep loops F n o) (h0 : deep < 0) : F = [] := by
  have h1 := h.2.1
  rw [show (deep + 1).toNat = 0 by have z := h.1.1; omega] at h1
  cases F with
  | nil => rfl
  | cons a R => cases h1
theorem RM_tl (h : RM M deep loops ((x, k, L) :: R) n o) : 0 ≤ deep ∧ (M.1 65 deep.toNat).toInt = x ∧ (M.1 66 deep.toNat).toInt = k ∧ stL (fun d => (M.1 65 d).toInt) deep.toNat = R.map (fun a => (a.1 : Int)) ∧ stL (fun d => (M.1 66 d).toInt) deep.toNat = R.map (fun a => a.2.1) := by
  obtain ⟨h0, h1, h2, -⟩ := h
  by_cases q : deep < 0
  · rw [show (deep + 1).toNat = 0 by omega] at h1; cases h1
  · rw [show (deep + 1).toNat = deep.toNat + 1 by omega] at h1 h2
    have h1 : (M.1 65 deep.toNat).toInt :: stL (fun d => (M.1 65 d).toInt) deep.toNat = (x : Int) :: R.map (fun a => (a.1 : Int)) := h1
    have h2 : (M.1 66 deep.toNat).toInt :: stL (fun d => (M.1 66 d).toInt) deep.toNat = k :: R.map (fun a => a.2.1) := h2
    exact ⟨by omega, (List.cons.inj h1).1, (List.cons.inj h2).1, (List.cons.inj h1).2, (List.cons.inj h2).2⟩
theorem RM_66 {v : Int32} (h : RM M deep loops ((x, k, L) :: R) n o) (hv : v.toInt = k') : RM (ui M 66 deep.toNat v) deep loops ((x, k', L) :: R) n o := by
  obtain ⟨t0, t1, t2, t3, t4⟩ := RM_tl h
  obtain ⟨a0, a1, a2, a3, a4, a5, a6, a7⟩ := h
  refine ⟨a0, ?_, ?_, ?_, ?_, a5, ?_, ?_⟩
  · rw [ui_cell (k := 66) (a := 65) (by decide)]; exact a1
  · rw [show (deep + 1).toNat = deep.toNat + 1 by omega]
    show ((ui M 66 deep.toNat v).1 66 deep.toNat).toInt :: stL _ _ = k' :: R.map (fun a => a.2.1)
    rw [ui_eq, hv, ← t4]
    exact congrArg (List.cons k') (stL_congr _ (fun i hi => by rw [ui_nj (by omega)]))
  · rw [ui_cell (k := 66) (a := 67) (by decide)]; exact a3
  · rw [ui_cell (k := 66) (a := 68) (by decide)]; exact a4
  · rw [ui_cell (k := 66) (a := 47) (by decide)]; exact a6
  · rw [ui_cell (k := 66) (a := 70) (by decide)]; exact a7
theorem RM_ch (h : RM M deep loops F n o) (F1 : Fr [(47, 34)] M M1) (h34 : (M1.2 47 34).toInt = n') : RM M1 deep loops F n' o := by
  obtain ⟨a0, a1, a2, a3, a4, a5, a6, a7⟩ := h
  exact ⟨a0, by rw [row_fr F1 (by decide)]; exact a1, by rw [row_fr F1 (by decide)]; exact a2, by rw [row_fr F1 (by decide)]; exact a3, by rw [row_fr F1 (by decide)]; exact a4, h34, by rw [F1.at 47 33 rfl]; exact a6, by rw [row_fr F1 (by decide)]; exact a7⟩
theorem RM_lp {l s : Int} (h : RM M deep loops ((x, k, (l, s) :: L) :: R) n o) : 1 ≤ loops ∧ (M.1 67 (loops - 1).toNat).toInt = l ∧ (M.1 68 (loops - 1).toNat).toInt = s ∧ stL (fun i => (M.1 67 i).toInt) (loops - 1).toNat = (fl ((x, k, L) :: R)).map Prod.fst ∧ stL (fun i => (M.1 68 i).toInt) (loops - 1).toNat = (fl ((x, k, L) :: R)).map Prod.snd := by
  obtain ⟨a0, a1, a2, a3, a4, -⟩ := h
  by_cases q : loops = 0
  · rw [q] at a3; cases a3
  · rw [show loops.toNat = (loops - 1).toNat + 1 by omega] at a3 a4
    have a3 : (M.1 67 (loops - 1).toNat).toInt :: stL (fun i => (M.1 67 i).toInt) (loops - 1).toNat = l :: (fl ((x, k, L) :: R)).map Prod.fst := a3
    have a4 : (M.1 68 (loops - 1).toNat).toInt :: stL (fun i => (M.1 68 i).toInt) (loops - 1).toNat = s :: (fl ((x, k, L) :: R)).map Prod.snd := a4
    exact ⟨by omega, (List.cons.inj a3).1, (List.cons.inj a4).1, (List.cons.inj a3).2, (List.cons.inj a4).2⟩
theorem RM_dec {l s l' : Int} {v : Int32} (h : RM M deep loops ((x, k, (l, s) :: L) :: R) n o) (hv : v.toInt = l') : RM (ui M 67 (loops - 1).toNat v) deep loops ((x, k, (l', s) :: L) :: R) n o := by
  obtain ⟨t0, t1, t2, t3, t4⟩ := RM_lp h
  obtain ⟨a0, a1, a2, a3, a4, a5, a6, a7⟩ := h
  refine ⟨a0, ?_, ?_, ?_, ?_, a5, ?_, ?_⟩
  · rw [ui_cell (k := 67) (a := 65) (by decide)]; exact a1
  · rw [ui_cell (k := 67) (a := 66) (by decide)]; exact a2
  · rw [show loops.toNat = (loops - 1).toNat + 1 by omega]
    show ((ui M 67 (loops - 1).toNat v).1 67 (loops - 1).toNat).toInt :: stL _ _ = l' :: (fl ((x, k, L) :: R)).map Prod.fst
    rw [ui_eq, hv, ← t3]
    exact congrArg (List.cons l') (stL_congr _ (fun i hi => by rw [ui_nj (by omega)]))
  · rw [ui_cell (k := 67) (a := 68) (by decide)]; exact a4
  · rw [ui_cell (k := 67) (a := 47) (by decide)]; exact a6
  · rw [ui_cell (k := 67) (a := 70) (by decide)]; exact a7
theorem RM_drop {l s lp : Int} (h : RM M deep loops ((x, k, (l, s) :: L) :: R) n o) (hl : lp = loops - 1) : RM M deep lp ((x, k, L) :: R) n o := by
  subst hl
  obtain ⟨t0, t1, t2, t3, t4⟩ := RM_lp h
  obtain ⟨a0, a1, a2, a3, a4, a5, a6, a7⟩ := h
  exact ⟨⟨a0.1, by omega⟩, a1, a2, t3, t4, a5, a6, a7⟩
theorem RM_open {l s : Int} {v w : Int32} (h : RM M deep loops ((x, k, L) :: R) n o) (hv : v.toInt = l) (hw : w.toInt = s) : RM (ui (ui M 67 loops.toNat v) 68 loops.toNat w) deep (loops + 1) ((x, k, (l, s) :: L) :: R) n o := by
  obtain ⟨a0, a1, a2, a3, a4, a5, a6, a7⟩ := h
  refine ⟨⟨a0.1, by omega⟩, ?_, ?_, ?_, ?_, a5, ?_, ?_⟩
  · rw [ui_cell (k := 68) (a := 65) (by decide), ui_cell (k := 67) (a := 65) (by decide)]; exact a1
  · rw [ui_cell (k := 68) (a := 66) (by decide), ui_cell (k := 67) (a := 66) (by decide)]; exact a2
  · rw [ui_cell (k := 68) (a := 67) (by decide), show (loops + 1).toNat = loops.toNat + 1 by omega]
    show ((ui M 67 loops.toNat v).1 67 loops.toNat).toInt :: stL _ _ = l :: (fl ((x, k, L) :: R)).map Prod.fst
    rw [ui_eq, hv, ← a3]
    exact congrArg (List.cons l) (stL_congr _ (fun i hi => by rw [ui_nj (by omega)]))
  · rw [show (loops + 1).toNat = loops.toNat + 1 by omega]
    show ((ui (ui M 67 loops.toNat v) 68 loops.toNat w).1 68 loops.toNat).toInt :: stL _ _ = s :: (fl ((x, k, L) :: R)).map Prod.snd
    rw [ui_eq, hw, ← a4]
    exact congrArg (List.cons s) (stL_congr _ (fun i hi => by rw [ui_nj (by omega), ui_cell (k := 67) (a := 68) (by decide)]))
  · rw [ui_cell (k := 68) (a := 47) (by decide), ui_cell (k := 67) (a := 47) (by decide)]; exact a6
  · rw [ui_cell (k := 68) (a := 70) (by decide), ui_cell (k := 67) (a := 70) (by decide)]; exact a7
theorem RM_pop {dp : Int} (h : RM M deep loops ((x, k, []) :: R) n o) (hd : dp = deep - 1) : RM M dp loops R n o := by
  subst hd
  obtain ⟨t0, t1, t2, t3, t4⟩ := RM_tl h
  obtain ⟨a0, a1, a2, a3, a4, a5, a6, a7⟩ := h
  refine ⟨⟨by omega, a0.2⟩, ?_, ?_, a3, a4, a5, a6, a7⟩
  · rw [show (deep - 1 + 1).toNat = deep.toNat by omega]; exact t3
  · rw [show (deep - 1 + 1).toNat = deep.toNat by omega]; exact t4
theorem RM_call {y : Nat} {v w : Int32} (h : RM M deep loops ((x, k, L) :: R) n o) (hv : v.toInt = y) (hw : w.toInt = 0) : RM (ui (ui M 65 (deep + 1).toNat v) 66 (deep + 1).toNat w) (deep + 1) loops ((y, 0, []) :: (x, k, L) :: R) n o := by
  obtain ⟨t0, -⟩ := RM_tl h
  obtain ⟨a0, a1, a2, a3, a4, a5, a6, a7⟩ := h
  refine ⟨⟨by omega, a0.2⟩, ?_, ?_, ?_, ?_, a5, ?_, ?_⟩
  · rw [ui_cell (k := 66) (a := 65) (by decide), show (deep + 1 + 1).toNat = (deep + 1).toNat + 1 by omega]
    show ((ui M 65 (deep + 1).toNat v).1 65 (deep + 1).toNat).toInt :: stL _ _ = (y : Int) :: ((x, k, L) :: R).map (fun a => (a.1 : Int))
    rw [ui_eq, hv, ← a1]
    exact congrArg (List.cons (y : Int)) (stL_congr _ (fun i hi => by rw [ui_nj (by omega)]))
  · rw [show (deep + 1 + 1).toNat = (deep + 1).toNat + 1 by omega]
    show ((ui (ui M 65 (deep + 1).toNat v) 66 (deep + 1).toNat w).1 66 (deep + 1).toNat).toInt :: stL _ _ = (0 : Int) :: ((x, k, L) :: R).map (fun a => a.2.1)
    rw [ui_eq, hw, ← a2]
    exact congrArg (List.cons (0 : Int)) (stL_congr _ (fun i hi => by rw [ui_nj (by omega), ui_cell (k := 65) (a := 66) (by decide)]))
  · rw [ui_cell (k := 66) (a := 67) (by decide), ui_cell (k := 65) (a := 67) (by decide)]; exact a3
  · rw [ui_cell (k := 66) (a := 68) (by decide), ui_cell (k := 65) (a := 68) (by decide)]; exact a4
  · rw [ui_cell (k := 66) (a := 47) (by decide), ui_cell (k := 65) (a := 47) (by decide)]; exact a6
  · rw [ui_cell (k := 66) (a := 70) (by decide), ui_cell (k := 65) (a := 70) (by decide)]; exact a7
theorem RM_line {v w : Int32} {u : Int} {i : Nat} (h : RM M deep loops F n o) (hv : v.toInt = u) (hi : i = o.length) (hw : w.toInt = (o.length : Int) + 1) : RM (ui (ui M 70 i v) 47 33 w) deep loops F n (o ++ [u]) := by
  subst hi
  obtain ⟨a0, a1, a2, a3, a4, a5, a6, a7⟩ := h
  have el : (o ++ [u]).length = o.length + 1 := by rw [List.length_append]; rfl
  refine ⟨a0, ?_, ?_, ?_, ?_, a5, by rw [ui_eq, el]; omega, ?_⟩
  · rw [ui_cell (k := 47) (a := 65) (by decide), ui_cell (k := 70) (a := 65) (by decide)]; exact a1
  · rw [ui_cell (k := 47) (a := 66) (by decide), ui_cell (k := 70) (a := 66) (by decide)]; exact a2
  · rw [ui_cell (k := 47) (a := 67) (by decide), ui_cell (k := 70) (a := 67) (by decide)]; exact a3
  · rw [ui_cell (k := 47) (a := 68) (by decide), ui_cell (k := 70) (a := 68) (by decide)]; exact a4
  · rw [ui_cell (k := 47) (a := 70) (by decide), el]
    show ordN _ o.length ++ [((ui M 70 o.length v).1 70 o.length).toInt] = _
    rw [ordN_cong (R := M.1 70) o.length (fun j hj => ui_nj (by omega)), a7, ui_eq, hv]
end
/-! ===== a step of the reference ===== -/
def SGM (p : PaT) (td : Nat → Int) (s0 : SgT) (M : Mem) (deep gone loops : Int) : Prop := ∃ (j : Nat) (F : List FrT) (n : Int) (o : List Int), sgN p s0 j = some (F, n, gone, o) ∧ SgI p td (F, n, gone, o) ∧ RM M deep loops F n o
section
variable {p : PaT} {td : Nat → Int} {s0 : SgT} {M M' : Mem} {deep gone loops deep' gone' loops' : Int} {x : Nat} {k n n' g' : Int} {L : List (Int × Int)} {R F' : List FrT} {o o' : List Int} {j : Nat}
theorem SGM_0 {y : Nat} (hy : y < 8) (ht : 0 < td y) (hT : TVp p td) (hn : 0 ≤ n) (h65 : (M.1 65 0).toInt = y) (h66 : (M.1 66 0).toInt = 0) (h34 : (M.2 47 34).toInt = n) (h33 : (M.1 47 33).toInt = 0) : SGM p td ([(y, 0, [])], n, 0, []) M 0 0 0 := by
  obtain ⟨hz, hV, -⟩ := hT y hy ht
  refine ⟨0, [(y, 0, [])], n, [], rfl, ⟨⟨⟨hy, ht, Int.le_refl _, hz.1, rfl⟩, fun b hb => (nomatch hb), trivial⟩, hn, ⟨Int.le_refl _, show (0 : Int) ≤ 2000 by decide⟩⟩, ⟨by decide, by decide⟩, ?_, ?_, rfl, rfl, h34, by rw [h33]; rfl, rfl⟩
  · show [(M.1 65 0).toInt] = [(y : Int)]
    rw [h65]
  · show [(M.1 66 0).toInt] = [(0 : Int)]
    rw [h66]
theorem SGM_step (hT : TVp p td) (hh : 0 ≤ p.2.2.2.1 ∧ p.2.2.2.1 ≤ 3) (hc : ∀ s, 0 ≤ p.2.2.2.2.1 s) (hN : sgN p s0 j = some ((x, k, L) :: R, n, gone, o)) (hI : SgI p td ((x, k, L) :: R, n, gone, o)) (hS : sgS p ((x, k, L) :: R, n, gone, o) = some (F', n', g', o')) (h : RM M' deep' loops' F' n' o') (hg : gone' = g') : SGM p td s0 M' deep' gone' loops' := by
  rw [hg]
  exact ⟨j + 1, F', n', o', by rw [sgN_succ hN]; exact hS, (sg_step hT hh hc hI hS).1, h⟩
theorem SGM_fail (hN : sgN p s0 j = some ((x, k, L) :: R, n, gone, o)) (hS : sgS p ((x, k, L) :: R, n, gone, o) = none) : Fail p s0 := ⟨j + 1, by rw [sgN_succ hN]; exact hS⟩
theorem MT_eq {f m : Nat → Int} {N q : Nat} {a : Int} (h : TVx f N m) (hq : q < N) (ho : obC (f q)) (ha : 0 ≤ a) (hA : MA f q a.toNat) : a = m q := by
  obtain ⟨j, j1, j2, j3⟩ := h.2 q hq ho
  have e := MA_one hA j3
  rw [j1]
  omega
end
/-! ===== where a bracket leads, by going on ===== -/
/-- k is behind q, and d - 1 brackets stand open above it -/
def BHI (f : Nat → Int) (q : Nat) (S : List Nat) (k d : Int) : Prop := ∃ l : List Nat, psN f k.toNat = l ++ q :: S ∧ (l.length : Int) + 1 = d
section
variable {f m : Nat → Int} {N q : Nat} {S : List Nat} {k d d' c : Int}
theorem BHI_op (h : BHI f q S k d) (hk : 0 ≤ k) (hc : f k.toNat = c) (ho : c = 91 ∨ c = 123 ∨ c = 40) (hd : d' = d + 1) : BHI f q S (k + 1) d' := by
  obtain ⟨l, h1, h2⟩ := h
  refine ⟨k.toNat :: l, ?_, by rw [List.length_cons]; omega⟩
  rw [show (k + 1).toNat = k.toNat + 1 by omega, psN_op (by rw [hc]; exact ho), h1]
  rfl
theorem BHI_let (h : BHI f q S k d) (hk : 0 ≤ k) (hc : f k.toNat = c) (ho : (97 ≤ c ∧ c ≤ 104) ∨ (65 ≤ c ∧ c ≤ 72)) (hd : d' = d) : BHI f q S (k + 1) d' := by
  obtain ⟨l, h1, h2⟩ := h
  exact ⟨l, by rw [show (k + 1).toNat = k.toNat + 1 by omega, psN_let (by rw [hc]; exact ho), h1], by omega⟩
theorem BHI_cl (h : BHI f q S k d) (hk : 0 ≤ k) (hc : f k.toNat = c) (ho : c = 93 ∨ c = 125 ∨ c = 41) (hd : d' = d - 1) (hn : d' ≠ 0) : BHI f q S (k + 1) d' := by
  obtain ⟨l, h1, h2⟩ := h
  cases l with
  | nil => rw [List.length_nil] at h2; omega
  | cons a l =>
    rw [List.length_cons] at h2
    exact ⟨l, by rw [show (k + 1).toNat = k.toNat + 1 by omega, psN_cl (by rw [hc]; exact ho), h1]; rfl, by omega⟩
theorem BHI_bar (h : BHI f q S k d) (hk : 0 ≤ k) (hc : f k.toNat = c) (ho : c = 124) (hd : d' = d) (hn : d ≠ 1) : BHI f q S (k + 1) d' := by
  obtain ⟨l, h1, h2⟩ := h
  cases l with
  | nil => rw [List.length_nil] at h2; omega
  | cons a l =>
    refine ⟨k.toNat :: l, ?_, by rw [List.length_cons] at h2 ⊢; omega⟩
    rw [show (k + 1).toNat = k.toNat + 1 by omega, psN_bar (by rw [hc]; exact ho), h1]
    rfl
theorem BHI_MA (h : BHI f q S k d) (hc : f k.toNat = c) (ho : c = 93 ∨ c = 125 ∨ c = 41 ∨ c = 124) (hd : d = 1) : MA f q k.toNat := by
  obtain ⟨l, h1, h2⟩ := h
  cases l with
  | nil => exact ⟨by unfold cbC; rw [hc]; exact ho, by rw [h1]; rfl⟩
  | cons a l => rw [List.length_cons] at h2; omega
/-- behind a bar no other bar stands in its place -/
theorem BHI_b (hV : gsN f N = some ([], true)) (h : BHI f q S k d) (hk : 0 ≤ k ∧ k.toNat < N) (hc : f k.toNat = c) (ho : c = 124) (hq : f q = 124) : d ≠ 1 := by
  intro hd
  obtain ⟨l, h1, h2⟩ := h
  cases l with
  | nil =>
    obtain ⟨s, e, g⟩ := gsN_pre hV k.toNat (by omega)
    obtain ⟨s', e', g1, g2⟩ := gsN_next hV hk.2 g
    have es := gsN_ps g
    rw [h1, List.nil_append, List.map_cons] at es
    rcases gst_inv g1 with ⟨a, _⟩ | ⟨a, _⟩ | ⟨a, y, t, b, w⟩
    · omega
    · omega
    · rw [es] at b
      have ey := (List.cons.inj b).1
      rcases w with ⟨w1, w2, _⟩ | ⟨w1, _⟩
      · omega
      · unfold prC at w1; omega
  | cons a l => rw [List.length_cons] at h2; omega
theorem BHI_0 {q : Nat} {k : Int} (hk : 0 ≤ k) (hq : q = k.toNat) (hc : f k.toNat = c) (ho : c = 91 ∨ c = 123 ∨ c = 40) : BHI f q (psN f q) (k + 1) 1 := ⟨[], by rw [show (k + 1).toNat = k.toNat + 1 by omega, psN_op (by rw [hc]; exact ho), hq]; rfl, rfl⟩
theorem BHI_1 {q : Nat} {k : Int} (hk : 0 ≤ k) (hq : q = k.toNat) (hc : f k.toNat = 124) : BHI f q (psN f q).tail (k + 1) 1 := ⟨[], by rw [show (k + 1).toNat = k.toNat + 1 by omega, psN_bar hc, hq]; rfl, rfl⟩
theorem GCH (hV : gsN f N = some ([], true)) (hk : 0 ≤ k ∧ k.toNat < N) (hc : f k.toNat = c) : (c = 91 ∨ c = 123 ∨ c = 40) ∨ ((97 ≤ c ∧ c ≤ 104) ∨ (65 ≤ c ∧ c ≤ 72)) ∨ c = 124 ∨ c = 93 ∨ c = 125 ∨ c = 41 := by
  obtain ⟨s, e, g⟩ := gsN_pre hV k.toNat (by omega)
  obtain ⟨s', e', g1, g2⟩ := gsN_next hV hk.2 g
  rw [hc] at g1
  rcases gst_inv g1 with ⟨a, _⟩ | ⟨a, _⟩ | ⟨a, y, t, b, w⟩
  · exact Or.inl a
  · exact Or.inr (Or.inl a)
  · rcases w with ⟨w1, w2, _⟩ | ⟨w1, _⟩
    · omega
    · unfold prC at w1; omega
/-- one sign on, as behind goes -/
theorem BHN {a : Int} (hV : gsN f N = some ([], true)) (hq : q = a.toNat) (h : (k = a ∧ d = 0) ∨ BHI f q (psN f q) k d) (h0 : k = a → c = 91 ∨ c = 123 ∨ c = 40) (hk : 0 ≤ k ∧ k.toNat < N) (hc : f k.toNat = c) (hd : ((c = 91 ∨ c = 123 ∨ c = 40) ∧ d' = d + 1) ∨ ((c = 93 ∨ c = 125 ∨ c = 41) ∧ d' = d - 1 ∧ d' ≠ 0) ∨ (c = 124 ∧ d' = d ∧ d ≠ 1) ∨ ((c ≠ 91 ∧ c ≠ 123 ∧ c ≠ 40 ∧ c ≠ 93 ∧ c ≠ 125 ∧ c ≠ 41 ∧ c ≠ 124) ∧ d' = d)) : (k + 1 = a ∧ d' = 0) ∨ BHI f q (psN f q) (k + 1) d' := by
  right
  have g := GCH hV hk hc
  rcases h with ⟨e1, e2⟩ | h
  · have z := h0 e1
    have ed : d' = 1 := by omega
    rw [ed]
    exact BHI_0 hk.1 (by rw [hq, e1]) hc z
  · rcases hd with ⟨u, v⟩ | ⟨u, v, w⟩ | ⟨u, v, w⟩ | ⟨u, v⟩
    · exact BHI_op h hk.1 hc u v
    · exact BHI_cl h hk.1 hc u v w
    · exact BHI_bar h hk.1 hc u v w
    · exact BHI_let h hk.1 hc (by omega) v
theorem BHMA {a : Int} (hq : q = a.toNat) (h : (k = a ∧ d = 0) ∨ BHI f q (psN f q) k d) (hc : f k.toNat = c) (ho : c = 93 ∨ c = 125 ∨ c = 41 ∨ c = 124) (hd : d = 1) : MA f a.toNat k.toNat := by
  rw [← hq]
  rcases h with ⟨_, e⟩ | h
  · omega
  · exact BHI_MA h hc ho hd
/-- as endFrom goes -/
theorem BHE (hV : gsN f N = some ([], true)) (h : BHI f q S k d) (hq : f q = 124) (hk : 0 ≤ k ∧ k.toNat < N) (hc : f k.toNat = c) (hd : ((c = 91 ∨ c = 123 ∨ c = 40) ∧ d' = d + 1) ∨ ((c = 93 ∨ c = 125 ∨ c = 41) ∧ d' = d - 1 ∧ d' ≠ 0) ∨ ((c ≠ 91 ∧ c ≠ 123 ∧ c ≠ 40 ∧ c ≠ 93 ∧ c ≠ 125 ∧ c ≠ 41) ∧ d' = d)) : BHI f q S (k + 1) d' := by
  have g := GCH hV hk hc
  rcases hd with ⟨u, v⟩ | ⟨u, v, w⟩ | ⟨u, v⟩
  · exact BHI_op h hk.1 hc u v
  · exact BHI_cl h hk.1 hc u v w
  · by_cases e : c = 124
    · exact BHI_bar h hk.1 hc e v (BHI_b hV h hk hc e hq)
    · exact BHI_let h hk.1 hc (by omega) v
end
section
variable {p : PaT} {x : Nat} {k n g b : Int} {L : List (Int × Int)} {R : List FrT} {o : List Int}
theorem sgI_91y (hb : b = 91) (hn : n % 2 = 0) : sgI p b x k L R n g o = some ((x, p.2.2.1 x k.toNat + 1, L) :: R, n / 2, g + 1, o) := by rw [sgI_91 hb, if_pos hn]
theorem sgI_91n (hb : b = 91) (hn : n % 2 ≠ 0) : sgI p b x k L R n g o = some ((x, k + 1, L) :: R, n / 2, g + 1, o) := by rw [sgI_91 hb, if_neg hn]
theorem sgI_40y (hb : b = 40) (hn : n % 2 = 1) : sgI p b x k L R n g o = some ((x, p.2.2.1 x k.toNat + 1, L) :: R, n / 2, g + 1, o) := by rw [sgI_40 hb, if_pos hn]
theorem sgI_40n (hb : b = 40) (hn : n % 2 ≠ 1) : sgI p b x k L R n g o = some ((x, k + 1, L) :: R, n / 2, g + 1, o) := by rw [sgI_40 hb, if_neg hn]
theorem sgI_sl {u w : Int} (hb : 97 ≤ b ∧ b ≤ 104) (hw : w = p.2.2.2.2.1 (b - 97)) (h0 : w ≠ 0) (h40 : (o.length : Int) < 40) (hu : u = p.2.2.2.2.2 (b - 97) (n % w)) : sgI p b x k L R n g o = some ((x, k + 1, L) :: R, n / w, g + 1, o ++ [u]) := by
  subst hw
  rw [sgI_slot hb, if_neg (by omega), hu]
theorem sgI_no {w : Int} (hb : 97 ≤ b ∧ b ≤ 104) (hw : w = p.2.2.2.2.1 (b - 97)) (h0 : w = 0 ∨ 40 ≤ (o.length : Int)) : sgI p b x k L R n g o = none := by
  subst hw
  rw [sgI_slot hb, if_pos h0]
theorem sgB_y {l s : Int} {L' : List (Int × Int)} (h : 1 < l) : sgB x k ((l, s) :: L') R n g o = some ((x, s, (l - 1, s) :: L') :: R, n, g, o) := if_pos h
theorem sgB_n {l s : Int} {L' : List (Int × Int)} (h : ¬ 1 < l) : sgB x k ((l, s) :: L') R n g o = some ((x, k + 1, L') :: R, n, g, o) := if_neg h
end
section
theorem FS_step {M : Mem} {P : Nat → Prop} {i : Int} {v : Int32} (h : ∀ l : Nat, (l : Int) < i → ((M.1 85 l).toInt ≠ 0 ↔ P l)) (hi : 0 ≤ i) (hx : v.toInt ≠ 0 ↔ P i.toNat) : ∀ l : Nat, (l : Int) < i + 1 → (((ui M 85 i.toNat v).1 85 l).toInt ≠ 0 ↔ P l) := by
  intro l hl
  by_cases q : l = i.toNat
  · subst q; rw [ui_eq]; exact hx
  · rw [ui_nj q]; exact h l (by omega)
theorem nthN_cong {B B' : Nat → Bool} {i : Int} : ∀ {n : Nat}, (∀ l, l < n → B l = B' l) → nthN B i n = nthN B' i n
  | 0, _ => rfl
  | n + 1, h => by
    show (if _ then _ else _) = (if _ then _ else _)
    rw [h n (by omega), ctb_cong (q := B') (fun k hk => h k (by omega)), nthN_cong (fun l hl => h l (by omega))]
def Bq (M : Mem) (s y sl : Int) (l : Nat) : Bool := (decide ((l : Int) < (M.1 47 12).toInt) && hsM M s l y ((M.1 47 53).toInt).toNat) && decide ((M.1 55 l).toInt = sl)
def PQs (M : Mem) (p : PaT) (s y : Int) : Prop := p.1 = txt M ∧ p.2.1 = tsz M ∧ (M.1 47 24).toInt = p.2.2.2.1 ∧ ∀ sl : Int, 0 ≤ sl → sl ≤ 7 → p.2.2.2.2.1 sl = ((ctb (Bq M s y sl) ((M.1 47 12).toInt).toNat : Nat) : Int) ∧ ∀ i : Int, p.2.2.2.2.2 sl i = nthN (Bq M s y sl) i 40
theorem PM_of {W : List (Nat × Nat)} {M M1 : Mem} {p : PaT} {s y : Int} (h : PQs M p s y) (hl : (M.1 47 12).toInt ≤ 40) (F : Fr W M M1) (hw : (noW W 61 && (noW W 62 && (noW W 55 && (!inW W 47 24 && !inW W 47 12)))) = true) (h85 : ∀ l : Nat, l < 40 → ((M1.1 85 l).toInt ≠ 0 ↔ ((l : Int) < (M.1 47 12).toInt ∧ hsM M s l y ((M.1 47 53).toInt).toNat = true))) : PM M1 p := by
  simp only [Bool.and_eq_true, Bool.not_eq_true'] at hw
  obtain ⟨w1, w2, w3, w5, w6⟩ := hw
  have e1 : txt M1 = txt M := by unfold txt; rw [row_fr F w1]
  have e2 : tsz M1 = tsz M := by unfold tsz; rw [row_fr F w2]
  have e3 : ∀ sl : Int, ∀ l : Nat, l < 40 → BM M1 sl l = Bq M s y sl l := fun sl l hl => by
    unfold BM Bq
    rw [row_fr F w3]
    congr 1
    by_cases q : (M1.1 85 l).toInt ≠ 0
    · obtain ⟨z1, z2⟩ := (h85 l hl).mp q
      rw [decide_eq_true q, decide_eq_true z1, z2]; rfl
    · rw [decide_eq_false q]
      by_cases z1 : (l : Int) < (M.1 47 12).toInt
      · rw [decide_eq_true z1, Bool.true_and, Bool.eq_false_iff.mpr (fun z2 => q ((h85 l hl).mpr ⟨z1, z2⟩))]
      · rw [decide_eq_false z1]; rfl
  refine ⟨by rw [e1]; exact h.1, by rw [e2]; exact h.2.1, by rw [F.at 47 24 w5]; exact h.2.2.1, fun sl h1 h2 => ?_⟩
  obtain ⟨q1, q2⟩ := h.2.2.2 sl h1 h2
  rw [cntL_ctb, F.at 47 12 w6, ctb_cong (q := Bq M s y sl) (fun k hk => e3 sl k (by omega))]
  exact ⟨q1, fun i => by rw [q2 i]; exact (nthN_cong (fun l hl => e3 sl l hl)).symm⟩
/-- what the reference's sings tells -/
def SGY (M' : Mem) (p : PaT) (s0 : SgT) (a : Int) : Prop := (a = 1 ∧ ∃ o : List Int, Done p s0 o ∧ (M'.1 47 33).toInt = (o.length : Int) ∧ ordN (M'.1 70) o.length = o) ∨ (a = 0 ∧ Fail p s0)
theorem SGY_done {p : PaT} {s0 : SgT} {M : Mem} {deep gone loops : Int} {j : Nat} {F : List FrT} {n : Int} {o : List Int} (hN : sgN p s0 j = some (F, n, gone, o)) (h : RM M deep loops F n o) (hd : deep < 0) : SGY M p s0 1 := by
  have e := RM_nil h hd
  subst e
  exact Or.inl ⟨rfl, o, ⟨j, n, gone, hN⟩, h.2.2.2.2.2.2.1, h.2.2.2.2.2.2.2⟩
theorem PM_ul {M : Mem} {p : PaT} {v : Int64} (h : PM M p) : PM (ul M 47 34 v) p := PM_fr h (Fr.ul (W := [(47, 34)]) Fr.rf rfl) (by decide)
theorem SGY_to {M : Mem} {p : PaT} {s0 : SgT} {a c : Int} (h : SGY M p s0 a) (e : a = c) : SGY M p s0 c := e ▸ h
theorem SGY_ui {M : Mem} {p : PaT} {s0 : SgT} {a : Int} {j : Nat} {v : Int32} (hj : 33 ≠ j) (h : SGY M p s0 a) : SGY (ui M 47 j v) p s0 a := by
  unfold SGY
  rw [ui_nj hj, ui_cell (k := 47) (a := 70) (by decide)]
  exact h
theorem SGY_69 {M : Mem} {p : PaT} {s0 : SgT} {a : Int} {j : Nat} {v : Int32} (h : SGY M p s0 a) : SGY (ui M 69 j v) p s0 a := by
  unfold SGY
  rw [ui_cell (k := 69) (a := 47) (by decide), ui_cell (k := 69) (a := 70) (by decide)]
  exact h
theorem cp_step {M : Mem} {i : Int} (h : ∀ j : Nat, (j : Int) < i → M.1 69 j = M.1 70 j) (hi : 0 ≤ i) : ∀ j : Nat, (j : Int) < i + 1 → (ui M 69 i.toNat (M.1 70 i.toNat)).1 69 j = (ui M 69 i.toNat (M.1 70 i.toNat)).1 70 j := by
  intro j hj
  rw [ui_cell (k := 69) (a := 70) (by decide)]
  by_cases q : j = i.toNat
  · subst q; rw [ui_eq]
  · rw [ui_nj q]; exact h j (by omega)
theorem SNG_f {P Q : Prop} {p : PaT} {s0 : SgT} {M M2 : Mem} (hP : P) (hQ : Q) (h : SGY M2 p s0 0) (e69 : M2.1 69 = M.1 69) (e32 : M2.1 47 32 = M.1 47 32) : SNG P Q p s0 (M.1 47 32).toInt (M2.1 47 32).toInt (M.1 69) (M2.1 69) (-3) := by
  rcases h with ⟨q1, _⟩ | ⟨q1, q2⟩
  · omega
  · exact Or.inr (Or.inr (Or.inl ⟨hP, hQ, q2, rfl, e69, by rw [e32]⟩))
theorem SNG_y {P Q : Prop} {p : PaT} {s0 : SgT} {M M2 : Mem} {i : Int} (hP : P) (hQ : Q) (h : SGY M2 p s0 1) (hc : ∀ j : Nat, (j : Int) < i → M2.1 69 j = M2.1 70 j) (hi : (M2.1 47 33).toInt ≤ i) (e32 : (M2.1 47 32).toInt = (M2.1 47 33).toInt) : SNG P Q p s0 (M.1 47 32).toInt (M2.1 47 32).toInt (M.1 69) (M2.1 69) (M2.1 47 32).toInt := by
  rcases h with ⟨_, o, q1, q2, q3⟩ | ⟨q1, _⟩
  · exact Or.inr (Or.inr (Or.inr ⟨hP, hQ, o, q1, by omega, by omega, by rw [ordN_cong (R := M2.1 70) o.length (fun j hj => hc j (by omega))]; exact q3⟩))
  · omega
end
end
