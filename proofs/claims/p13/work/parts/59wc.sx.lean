section
/-! ===== longs divided, the n-th of a set ===== -/
theorem lrem_ex {x y z : Int64} {a b : Int} (e : z = x - x / y * y) (ha : x.toInt = a) (hb : y.toInt = b) (h : 0 ≤ a ∧ 0 < b) : z.toInt = a % b := by
  have hx := Int64.toInt_lt x
  have hy := Int64.toInt_lt y
  have e1 : x = lN a.toNat := Int64.toInt_inj.mp (by rw [pk_lT (by omega), ha]; omega)
  have e2 : y = lN b.toNat := Int64.toInt_inj.mp (by rw [pk_lT (by omega), hb]; omega)
  have h3 := Nat.mod_lt a.toNat (show 0 < b.toNat by omega)
  rw [e, e1, e2, pk_lRem (by omega) (by omega) (by omega), pk_lT (by omega), Int.natCast_emod, Int.toNat_of_nonneg h.1, Int.toNat_of_nonneg (by omega)]
theorem ldiv_ex {x y z : Int64} {a b : Int} (e : z = x / y) (ha : x.toInt = a) (hb : y.toInt = b) (h : 0 ≤ a ∧ 0 < b) : z.toInt = a / b := by
  have hx := Int64.toInt_lt x
  have hy := Int64.toInt_lt y
  have e1 : x = lN a.toNat := Int64.toInt_inj.mp (by rw [pk_lT (by omega), ha]; omega)
  have e2 : y = lN b.toNat := Int64.toInt_inj.mp (by rw [pk_lT (by omega), hb]; omega)
  have h3 := Nat.div_le_self a.toNat b.toNat
  rw [e, e1, e2, pk_lDiv (by omega) (by omega) (by omega), pk_lT (by omega), Int.natCast_ediv, Int.toNat_of_nonneg h.1, Int.toNat_of_nonneg (by omega)]
theorem ctb_succ (p : Nat → Bool) (n : Nat) : ctb p (n + 1) = ctb p n + (if p n = true then 1 else 0) := rfl
theorem ctb_up (p : Nat → Bool) (l : Nat) : ∀ n, ctb p l ≤ ctb p (l + n)
  | 0 => Nat.le_refl _
  | n + 1 => by
    have z := ctb_up p l n
    rw [show l + (n + 1) = l + n + 1 by omega, ctb_succ]
    omega
theorem ctb_lt2 {p : Nat → Bool} {l m : Nat} (hl : l < m) (hp : p l = true) : ctb p l < ctb p m := by
  have z := ctb_up p (l + 1) (m - (l + 1))
  rw [show l + 1 + (m - (l + 1)) = m by omega, ctb_succ, if_pos hp] at z
  omega
theorem ctb_no {p : Nat → Bool} : ∀ n, ctb p n = 0 → ∀ l, l < n → p l = false
  | 0, _, l, h => absurd h (Nat.not_lt_zero _)
  | n + 1, h, l, hl => by
    rw [ctb_succ] at h
    by_cases q : p n = true
    · rw [if_pos q] at h; omega
    · rw [if_neg q] at h
      by_cases e : l = n
      · rw [e]; exact Bool.eq_false_iff.mpr q
      · exact ctb_no n (by omega) l (by omega)
theorem ctb_64 {x : Int64} : x.toInt = 0 ↔ ctb (b64 x) 64 = 0 := by
  constructor
  · intro h
    have e : x = 0 := Int64.toInt_inj.mp (by rw [h]; decide)
    rw [e, ctb_cong (q := fun _ => false) (fun k _ => b64_0 k)]
    decide
  · intro h
    have e : x = 0 := b64_ext (fun i hi => by rw [ctb_no 64 h i hi, b64_0])
    rw [e]; decide
def nthN (B : Nat → Bool) (i : Int) : Nat → Int
  | 0 => 0
  | n + 1 => if B n = true ∧ (ctb B n : Int) = i then (n : Int) else nthN B i n
theorem nthN_of {B : Nat → Bool} {i : Int} {l : Nat} (hB : B l = true) (hi : (ctb B l : Int) = i) : ∀ n, l < n → nthN B i n = l
  | 0, h => absurd h (Nat.not_lt_zero _)
  | n + 1, h => by
    show (if _ then _ else _) = _
    by_cases e : l = n
    · subst e; rw [if_pos ⟨hB, hi⟩]
    · have z := ctb_lt2 (show l < n by omega) hB
      rw [if_neg (fun w => by omega)]
      exact nthN_of hB hi n (by omega)
/-! ===== the class's song and the machine ===== -/
def encT : List FrT → List Int
  | [] => []
  | a :: R => a.2.2.map (fun q => q.1 - 1) ++ ((R.head?.map (fun b => 60 * (b.1 : Int) + b.2.1 + 1)).toList ++ encT R)
def RX (M : Mem) (x : Nat) (k : Int) (L : List (Int × Int)) (R : List FrT) (n g : Int) (o : List Int) : Prop := (M.1 33 8).toInt = x ∧ (M.1 33 9).toInt = k + 2 ∧ 0 ≤ (M.1 33 7).toInt ∧ stL (fun i => (M.1 36 i).toInt) ((M.1 33 7).toInt).toNat = encT ((x, k, L) :: R) ∧ (M.2 33 12).toInt = n ∧ (M.1 33 10).toInt = g ∧ (M.1 33 5).toInt = (o.length : Int) ∧ ordN (M.1 35) o.length = o
def PX (M : Mem) (p : PaT) (S : Int64) (td : Nat → Int) : Prop := (M.1 14 12).toInt = p.2.2.2.1 ∧ (∀ x : Nat, x < 8 → 0 < td x → (M.1 20 x).toInt = p.2.1 x + 2 ∧ ∀ k : Nat, (k : Int) < p.2.1 x → (M.1 18 (60 * x + k + 2)).toInt = p.1 x k ∧ (obC (p.1 x k) → (M.1 19 (60 * x + k + 2)).toInt = p.2.2.1 x k + 2) ∧ (p.1 x k = 125 → ∃ r : Nat, (M.1 19 (60 * x + k + 2)).toInt = ((r + 2 : Nat) : Int) ∧ (psN (p.1 x) k).head? = some r)) ∧ (∀ s : Nat, s < 8 → p.2.2.2.2.1 (s : Int) = ((ctb (b64 (S &&& M.2 11 s)) 64 : Nat) : Int) ∧ (∀ l, 40 ≤ l → l < 64 → b64 (S &&& M.2 11 s) l = false) ∧ ∀ i, p.2.2.2.2.2 (s : Int) i = nthN (b64 (S &&& M.2 11 s)) i 40)
def pxW (W : List (Nat × Nat)) : Bool := noW W 18 && (noW W 19 && (noW W 20 && (noW W 11 && !inW W 14 12)))
theorem PX_fr {W : List (Nat × Nat)} {M M' : Mem} {p : PaT} {S : Int64} {td : Nat → Int} (h : PX M p S td) (F : Fr W M M') (hw : pxW W = true) : PX M' p S td := by
  unfold pxW at hw
  simp only [Bool.and_eq_true, Bool.not_eq_true'] at hw
  obtain ⟨w1, w2, w3, w4, w5⟩ := hw
  unfold PX
  rw [row_fr F w1, row_fr F w2, row_fr F w3, F.at 14 12 w5]
  refine ⟨h.1, h.2.1, fun s hs => ?_⟩
  rw [F.atL 11 s (noW_in w4 s)]
  exact h.2.2 s hs
theorem ps_29 {p : PaT} {td : Nat → Int} (hT : TVp p td) {a : FrT} (h : FV p td a) : (psN (p.1 a.1) a.2.1.toNat).length ≤ 29 := by
  obtain ⟨hz, hV, -⟩ := hT a.1 h.1 h.2.1
  have h1 := h.2.2.1
  have h2 := h.2.2.2.1
  have z := ps_len hV.1 (show a.2.1.toNat ≤ (p.2.1 a.1).toNat by omega)
  omega
theorem encT_len {p : PaT} {td : Nat → Int} (hT : TVp p td) : ∀ F : List FrT, FVs p td F → (encT F).length ≤ 30 * F.length
  | [], _ => Nat.le_refl _
  | a :: R, h => by
    have ih := encT_len hT R h.2.2
    have z := ps_29 hT h.1
    have y := LMq_len h.1.2.2.2.2
    show (a.2.2.map (fun q : Int × Int => q.1 - 1) ++ ((R.head?.map (fun b : FrT => 60 * (b.1 : Int) + b.2.1 + 1)).toList ++ encT R)).length ≤ 30 * (a :: R).length
    rw [List.length_append, List.length_append, List.length_map, List.length_cons]
    have w : ((R.head?.map (fun b : FrT => 60 * (b.1 : Int) + b.2.1 + 1)).toList).length ≤ 1 := by
      cases R with
      | nil => exact Nat.zero_le _
      | cons b R => exact Nat.le_refl _
    omega
section
variable {M M' : Mem} {p : PaT} {td : Nat → Int} {x : Nat} {k k' n n' g g' : Int} {L : List (Int × Int)} {R : List FrT} {o : List Int}
theorem RX_wait (hT : TVp p td) (hF : FVs p td ((x, k, L) :: R)) (h : RX M x k L R n g o) : (M.1 33 7).toInt ≤ 240 := by
  have z := encT_len hT _ hF
  have y := frames_8 hF
  have w := congrArg List.length h.2.2.2.1
  rw [stL_len] at w
  omega
theorem RX_at (h : RX M x k L R n g o) (h8 : M'.1 33 8 = M.1 33 8) (h9 : (M'.1 33 9).toInt = k' + 2) (h7 : M'.1 33 7 = M.1 33 7) (h36 : M'.1 36 = M.1 36) (h12 : (M'.2 33 12).toInt = n') (h10 : (M'.1 33 10).toInt = g') (h5 : M'.1 33 5 = M.1 33 5) (h35 : M'.1 35 = M.1 35) : RX M' x k' L R n' g' o := by
  obtain ⟨a1, a2, a3, a4, a5, a6, a7, a8⟩ := h
  exact ⟨by rw [h8]; exact a1, h9, by rw [h7]; exact a3, by rw [h7, h36]; exact a4, h12, h10, by rw [h5]; exact a7, by rw [h35]; exact a8⟩
theorem RX_loop {v : Int32} {l s : Int} (h : RX M x k L R n g o) (h8 : M'.1 33 8 = M.1 33 8) (h9 : (M'.1 33 9).toInt = k' + 2) (h7 : (M'.1 33 7).toInt = (M.1 33 7).toInt + 1) (h36 : M'.1 36 = (ui M 36 ((M.1 33 7).toInt).toNat v).1 36) (hv : v.toInt = l - 1) (h12 : (M'.2 33 12).toInt = n') (h10 : (M'.1 33 10).toInt = g') (h5 : M'.1 33 5 = M.1 33 5) (h35 : M'.1 35 = M.1 35) : RX M' x k' ((l, s) :: L) R n' g' o := by
  obtain ⟨a1, a2, a3, a4, a5, a6, a7, a8⟩ := h
  refine ⟨by rw [h8]; exact a1, h9, by omega, ?_, h12, h10, by rw [h5]; exact a7, by rw [h35]; exact a8⟩
  rw [h7, show ((M.1 33 7).toInt + 1).toNat = ((M.1 33 7).toInt).toNat + 1 by omega, h36]
  show ((ui M 36 ((M.1 33 7).toInt).toNat v).1 36 ((M.1 33 7).toInt).toNat).toInt :: stL _ _ = (l - 1) :: encT ((x, k, L) :: R)
  rw [ui_eq, hv, ← a4]
  exact congrArg (List.cons (l - 1)) (stL_congr _ (fun i hi => by rw [ui_nj (by omega)]))
theorem RX_top {l s : Int} (h : RX M x k ((l, s) :: L) R n g o) : 1 ≤ (M.1 33 7).toInt ∧ (M.1 36 ((M.1 33 7).toInt - 1).toNat).toInt = l - 1 ∧ stL (fun i => (M.1 36 i).toInt) ((M.1 33 7).toInt - 1).toNat = encT ((x, k, L) :: R) := by
  obtain ⟨a1, a2, a3, a4, a5, a6, a7, a8⟩ := h
  have e : encT ((x, k, (l, s) :: L) :: R) = (l - 1) :: encT ((x, k, L) :: R) := rfl
  rw [e] at a4
  by_cases q : (M.1 33 7).toInt = 0
  · rw [q] at a4; cases a4
  · rw [show ((M.1 33 7).toInt).toNat = ((M.1 33 7).toInt - 1).toNat + 1 by omega] at a4
    have a4 : (M.1 36 ((M.1 33 7).toInt - 1).toNat).toInt :: stL (fun i => (M.1 36 i).toInt) ((M.1 33 7).toInt - 1).toNat = (l - 1) :: encT ((x, k, L) :: R) := a4
    exact ⟨by omega, (List.cons.inj a4).1, (List.cons.inj a4).2⟩
theorem RX_dec {l s : Int} (h : RX M x k ((l, s) :: L) R n g o) (h8 : M'.1 33 8 = M.1 33 8) (h9 : (M'.1 33 9).toInt = k' + 2) (h7 : (M'.1 33 7).toInt = (M.1 33 7).toInt) (h36 : (M'.1 36 ((M.1 33 7).toInt - 1).toNat).toInt = l - 1 - 1) (h36' : ∀ i, i ≠ ((M.1 33 7).toInt - 1).toNat → M'.1 36 i = M.1 36 i) (h12 : (M'.2 33 12).toInt = n') (h10 : (M'.1 33 10).toInt = g') (h5 : M'.1 33 5 = M.1 33 5) (h35 : M'.1 35 = M.1 35) : RX M' x k' ((l - 1, s) :: L) R n' g' o := by
  obtain ⟨t1, t2, t3⟩ := RX_top h
  obtain ⟨a1, a2, a3, a4, a5, a6, a7, a8⟩ := h
  refine ⟨by rw [h8]; exact a1, h9, by omega, ?_, h12, h10, by rw [h5]; exact a7, by rw [h35]; exact a8⟩
  rw [h7, show ((M.1 33 7).toInt).toNat = ((M.1 33 7).toInt - 1).toNat + 1 by omega]
  show (M'.1 36 ((M.1 33 7).toInt - 1).toNat).toInt :: stL _ _ = (l - 1 - 1) :: encT ((x, k, L) :: R)
  rw [h36, ← t3]
  exact congrArg (List.cons (l - 1 - 1)) (stL_congr _ (fun i hi => by rw [h36' i (by omega)]))
theorem RX_out {l s : Int} (h : RX M x k ((l, s) :: L) R n g o) (h8 : M'.1 33 8 = M.1 33 8) (h9 : (M'.1 33 9).toInt = k' + 2) (h7 : (M'.1 33 7).toInt = (M.1 33 7).toInt - 1) (h36 : M'.1 36 = M.1 36) (h12 : (M'.2 33 12).toInt = n') (h10 : (M'.1 33 10).toInt = g') (h5 : M'.1 33 5 = M.1 33 5) (h35 : M'.1 35 = M.1 35) : RX M' x k' L R n' g' o := by
  obtain ⟨t1, t2, t3⟩ := RX_top h
  obtain ⟨a1, a2, a3, a4, a5, a6, a7, a8⟩ := h
  exact ⟨by rw [h8]; exact a1, h9, by omega, by rw [h7, h36]; exact t3, h12, h10, by rw [h5]; exact a7, by rw [h35]; exact a8⟩
theorem RX_call {y : Nat} {v : Int32} (h : RX M x k L R n g o) (h8 : (M'.1 33 8).toInt = y) (h9 : (M'.1 33 9).toInt = 2) (h7 : (M'.1 33 7).toInt = (M.1 33 7).toInt + 1) (h36 : M'.1 36 = (ui M 36 ((M.1 33 7).toInt).toNat v).1 36) (hv : v.toInt = 60 * (x : Int) + k + 2) (h12 : (M'.2 33 12).toInt = n') (h10 : (M'.1 33 10).toInt = g') (h5 : M'.1 33 5 = M.1 33 5) (h35 : M'.1 35 = M.1 35) : RX M' y 0 [] ((x, k + 1, L) :: R) n' g' o := by
  obtain ⟨a1, a2, a3, a4, a5, a6, a7, a8⟩ := h
  refine ⟨h8, by omega, by omega, ?_, h12, h10, by rw [h5]; exact a7, by rw [h35]; exact a8⟩
  rw [h7, show ((M.1 33 7).toInt + 1).toNat = ((M.1 33 7).toInt).toNat + 1 by omega, h36]
  show ((ui M 36 ((M.1 33 7).toInt).toNat v).1 36 ((M.1 33 7).toInt).toNat).toInt :: stL _ _ = (60 * (x : Int) + (k + 1) + 1) :: encT ((x, k, L) :: R)
  rw [ui_eq, hv, show 60 * (x : Int) + (k + 1) + 1 = 60 * (x : Int) + k + 2 by omega, ← a4]
  exact congrArg (List.cons (60 * (x : Int) + k + 2)) (stL_congr _ (fun i hi => by rw [ui_nj (by omega)]))
theorem RX_last (h : RX M x k [] [] n g o) : (M.1 33 7).toInt = 0 := by
  have w := congrArg List.length h.2.2.2.1
  rw [stL_len] at w
  have e : (encT [(x, k, [])]).length = 0 := rfl
  have h3 := h.2.2.1
  omega
theorem RX_ret {y : Nat} {j : Int} {L' : List (Int × Int)} (h : RX M x k [] ((y, j, L') :: R) n g o) : 1 ≤ (M.1 33 7).toInt ∧ (M.1 36 ((M.1 33 7).toInt - 1).toNat).toInt = 60 * (y : Int) + j + 1 ∧ stL (fun i => (M.1 36 i).toInt) ((M.1 33 7).toInt - 1).toNat = encT ((y, j, L') :: R) := by
  obtain ⟨a1, a2, a3, a4, a5, a6, a7, a8⟩ := h
  have e : encT ((x, k, []) :: (y, j, L') :: R) = (60 * (y : Int) + j + 1) :: encT ((y, j, L') :: R) := rfl
  rw [e] at a4
  by_cases q : (M.1 33 7).toInt = 0
  · rw [q] at a4; cases a4
  · rw [show ((M.1 33 7).toInt).toNat = ((M.1 33 7).toInt - 1).toNat + 1 by omega] at a4
    have a4 : (M.1 36 ((M.1 33 7).toInt - 1).toNat).toInt :: stL (fun i => (M.1 36 i).toInt) ((M.1 33 7).toInt - 1).toNat = (60 * (y : Int) + j + 1) :: encT ((y, j, L') :: R) := a4
    exact ⟨by omega, (List.cons.inj a4).1, (List.cons.inj a4).2⟩
theorem RX_back {y : Nat} {j : Int} {L' : List (Int × Int)} (h : RX M x k [] ((y, j, L') :: R) n g o) (hj : 0 ≤ j ∧ j ≤ 58) (h7 : (M'.1 33 7).toInt = (M.1 33 7).toInt - 1) (h8 : (M'.1 33 8).toInt = (M.1 36 ((M.1 33 7).toInt - 1).toNat).toInt / 60) (h9 : (M'.1 33 9).toInt = (M.1 36 ((M.1 33 7).toInt - 1).toNat).toInt % 60 + 1) (h36 : M'.1 36 = M.1 36) (h12 : M'.2 33 12 = M.2 33 12) (h10 : M'.1 33 10 = M.1 33 10) (h5 : M'.1 33 5 = M.1 33 5) (h35 : M'.1 35 = M.1 35) : RX M' y j L' R n g o := by
  obtain ⟨t1, t2, t3⟩ := RX_ret h
  obtain ⟨a1, a2, a3, a4, a5, a6, a7, a8⟩ := h
  rw [t2] at h8 h9
  exact ⟨by omega, by omega, by omega, by rw [h7, h36]; exact t3, by rw [h12]; exact a5, by rw [h10]; exact a6, by rw [h5]; exact a7, by rw [h35]; exact a8⟩
theorem RX_line {v : Int32} {w : Int} (h : RX M x k L R n g o) (h8 : M'.1 33 8 = M.1 33 8) (h9 : (M'.1 33 9).toInt = k' + 2) (h7 : M'.1 33 7 = M.1 33 7) (h36 : M'.1 36 = M.1 36) (h12 : (M'.2 33 12).toInt = n') (h10 : (M'.1 33 10).toInt = g') (h5 : (M'.1 33 5).toInt = (M.1 33 5).toInt + 1) (h35 : M'.1 35 = (ui M 35 ((M.1 33 5).toInt).toNat v).1 35) (hv : v.toInt = w) : RX M' x k' L R n' g' (o ++ [w]) := by
  obtain ⟨a1, a2, a3, a4, a5, a6, a7, a8⟩ := h
  have el : (o ++ [w]).length = o.length + 1 := by rw [List.length_append]; rfl
  refine ⟨by rw [h8]; exact a1, h9, by rw [h7]; exact a3, by rw [h7, h36]; exact a4, h12, h10, by rw [el]; omega, ?_⟩
  rw [el, h35, show ((M.1 33 5).toInt).toNat = o.length by omega]
  show ordN _ o.length ++ [((ui M 35 o.length v).1 35 o.length).toInt] = _
  rw [ordN_cong (R := M.1 35) o.length (fun j hj => ui_nj (by omega)), a8, ui_eq, hv]
end
/-! ===== a step, by the sign ===== -/
section
variable {p : PaT} {x : Nat} {k n g b : Int} {L : List (Int × Int)} {R : List FrT} {o : List Int}
theorem sgI_slot (hb : 97 ≤ b ∧ b ≤ 104) : sgI p b x k L R n g o = if p.2.2.2.2.1 (b - 97) = 0 ∨ 40 ≤ (o.length : Int) then none else some ((x, k + 1, L) :: R, n / p.2.2.2.2.1 (b - 97), g + 1, o ++ [p.2.2.2.2.2 (b - 97) (n % p.2.2.2.2.1 (b - 97))]) := by
  unfold sgI
  rw [if_neg (by omega), if_neg (by omega), if_neg (by omega), if_neg (by omega)]
theorem sgI_scene (hb : 65 ≤ b ∧ b ≤ 72) : sgI p b x k L R n g o = some (((b - 65).toNat, 0, []) :: (x, k + 1, L) :: R, n, g + 1, o) := by
  unfold sgI
  rw [if_neg (by omega), if_neg (by omega), if_neg (by omega), if_pos hb]
theorem sgI_91 (hb : b = 91) : sgI p b x k L R n g o = some ((x, if n % 2 = 0 then p.2.2.1 x k.toNat + 1 else k + 1, L) :: R, n / 2, g + 1, o) := by
  unfold sgI
  rw [if_pos hb]
theorem sgI_40 (hb : b = 40) : sgI p b x k L R n g o = some ((x, if n % 2 = 1 then p.2.2.1 x k.toNat + 1 else k + 1, L) :: R, n / 2, g + 1, o) := by
  unfold sgI
  rw [if_neg (by omega), if_pos hb]
theorem sgI_0 (hb : b = 123) (hn : n % (p.2.2.2.1 + 1) = 0) : sgI p b x k L R n g o = some ((x, p.2.2.1 x k.toNat + 1, L) :: R, n / (p.2.2.2.1 + 1), g + 1, o) := by
  unfold sgI
  rw [if_neg (by omega), if_neg (by omega), if_pos hb, if_pos hn]
theorem sgI_1 (hb : b = 123) (hn : n % (p.2.2.2.1 + 1) ≠ 0) : sgI p b x k L R n g o = some ((x, k + 1, (n % (p.2.2.2.1 + 1), k + 1) :: L) :: R, n / (p.2.2.2.1 + 1), g + 1, o) := by
  unfold sgI
  rw [if_neg (by omega), if_neg (by omega), if_pos hb, if_neg hn]
theorem sgS_u : sgS p ((x, k, L) :: R, n, g, o) = if k = p.2.1 x then some (R, n, g, o) else if p.1 x k.toNat = 93 ∨ p.1 x k.toNat = 41 then some ((x, k + 1, L) :: R, n, g, o) else if p.1 x k.toNat = 124 then some ((x, p.2.2.1 x k.toNat + 1, L) :: R, n, g, o) else if p.1 x k.toNat = 125 then sgB x k L R n g o else if 2000 ≤ g then none else sgI p (p.1 x k.toNat) x k L R n g o := rfl
theorem sgS_end (hk : k = p.2.1 x) : sgS p ((x, k, L) :: R, n, g, o) = some (R, n, g, o) := by rw [sgS_u, if_pos hk]
theorem sgS_cl (hk : k ≠ p.2.1 x) (hb : p.1 x k.toNat = b) (hc : b = 93 ∨ b = 41) : sgS p ((x, k, L) :: R, n, g, o) = some ((x, k + 1, L) :: R, n, g, o) := by rw [sgS_u, if_neg hk, if_pos (by rw [hb]; exact hc)]
theorem sgS_bar (hk : k ≠ p.2.1 x) (hb : p.1 x k.toNat = b) (hc : b = 124) : sgS p ((x, k, L) :: R, n, g, o) = some ((x, p.2.2.1 x k.toNat + 1, L) :: R, n, g, o) := by rw [sgS_u, if_neg hk, if_neg (by omega), if_pos (by omega)]
theorem sgS_br (hk : k ≠ p.2.1 x) (hb : p.1 x k.toNat = b) (hc : b = 125) : sgS p ((x, k, L) :: R, n, g, o) = sgB x k L R n g o := by rw [sgS_u, if_neg hk, if_neg (by omega), if_neg (by omega), if_pos (by omega)]
theorem sgS_full (hk : k ≠ p.2.1 x) (hb : p.1 x k.toNat = b) (hc : b ≠ 93 ∧ b ≠ 41 ∧ b ≠ 124 ∧ b ≠ 125) (hg : 2000 ≤ g) : sgS p ((x, k, L) :: R, n, g, o) = none := by rw [sgS_u, if_neg hk, if_neg (by omega), if_neg (by omega), if_neg (by omega), if_pos hg]
theorem sgS_it (hk : k ≠ p.2.1 x) (hb : p.1 x k.toNat = b) (hc : b ≠ 93 ∧ b ≠ 41 ∧ b ≠ 124 ∧ b ≠ 125) (hg : ¬ 2000 ≤ g) : sgS p ((x, k, L) :: R, n, g, o) = sgI p b x k L R n g o := by rw [sgS_u, if_neg hk, if_neg (by omega), if_neg (by omega), if_neg (by omega), if_neg hg, hb]
end
def OKX (M' : Mem) (r : Option SgT) (a : Int) : Prop := (a = 1 ∧ ∃ (x : Nat) (k : Int) (L : List (Int × Int)) (R : List FrT) (n g : Int) (o : List Int), r = some ((x, k, L) :: R, n, g, o) ∧ RX M' x k L R n g o) ∨ (a = 0 ∧ r = none)
theorem OKX_y {M' : Mem} {r : Option SgT} {a : Int} {x : Nat} {k n g : Int} {L : List (Int × Int)} {R : List FrT} {o : List Int} (ha : a = 1) (hr : r = some ((x, k, L) :: R, n, g, o)) (h : RX M' x k L R n g o) : OKX M' r a := Or.inl ⟨ha, x, k, L, R, n, g, o, hr, h⟩
/-- the mates that the class has -/
theorem PX_mate {M : Mem} {p : PaT} {S : Int64} {td : Nat → Int} {x : Nat} {k : Int} (h : PX M p S td) (hx : x < 8) (ht : 0 < td x) (hk : 0 ≤ k ∧ k < p.2.1 x) : (M.1 20 x).toInt = p.2.1 x + 2 ∧ (M.1 18 ((x : Int) * 60 + (k + 2)).toNat).toInt = p.1 x k.toNat ∧ (obC (p.1 x k.toNat) → (M.1 19 ((x : Int) * 60 + (k + 2)).toNat).toInt = p.2.2.1 x k.toNat + 2) ∧ (p.1 x k.toNat = 125 → ∃ r : Nat, (M.1 19 ((x : Int) * 60 + (k + 2)).toNat).toInt = ((r + 2 : Nat) : Int) ∧ (psN (p.1 x) k.toNat).head? = some r) := by
  obtain ⟨h1, h2⟩ := h.2.1 x hx ht
  have z := h2 k.toNat (by omega)
  rw [show 60 * x + k.toNat + 2 = ((x : Int) * 60 + (k + 2)).toNat by omega] at z
  exact ⟨h1, z⟩
/-- what stands at the end of a round -/
theorem SG_br {p : PaT} {td : Nat → Int} {x : Nat} {k n g : Int} {L : List (Int × Int)} {R : List FrT} {o : List Int} (hT : TVp p td) (hI : SgI p td ((x, k, L) :: R, n, g, o)) (hk : k < p.2.1 x) (hb : p.1 x k.toNat = 125) : ∃ (q : Nat) (l : Int) (L' : List (Int × Int)), L = (l, ((q + 1 : Nat) : Int)) :: L' ∧ (1 ≤ l ∧ l ≤ 3) ∧ (psN (p.1 x) k.toNat).head? = some q := by
  obtain ⟨hF, -, -⟩ := hI
  have hF : FVs p td ((x, k, L) :: R) := hF
  obtain ⟨⟨hx, htd, hk0, hk1, hL⟩, -, -⟩ := hF
  have hx : x < 8 := hx
  have htd : 0 < td x := htd
  have hk0 : 0 ≤ k := hk0
  have hL : LMq (p.1 x) (psN (p.1 x) k.toNat) L := hL
  obtain ⟨hz, hV, -⟩ := hT x hx htd
  obtain ⟨s1, e1, s2, e2, g1, g2, hch⟩ := TV_ch hV (show k.toNat < (p.2.1 x).toNat by omega)
  rw [hb] at hch
  rcases hch with ⟨w, _⟩ | ⟨w, _⟩ | ⟨w0, q, w1, w2⟩
  · omega
  · omega
  · rcases w2 with ⟨w3, _⟩ | ⟨w3, w4, w5⟩
    · omega
    · have hq : p.1 x q = 123 := by unfold prC at w3; omega
      rw [w1] at hL
      obtain ⟨l, L', eL, hl, -⟩ := LMq_y hL hq
      exact ⟨q, l, L', eL, hl, by rw [w1]; rfl⟩
theorem SG_fr {p : PaT} {td : Nat → Int} {x : Nat} {k n g : Int} {L : List (Int × Int)} {R : List FrT} {o : List Int} (hI : SgI p td ((x, k, L) :: R, n, g, o)) : x < 8 ∧ 0 < td x ∧ (0 ≤ k ∧ k ≤ p.2.1 x) ∧ FVs p td ((x, k, L) :: R) ∧ 0 ≤ n ∧ (0 ≤ g ∧ g ≤ 2000) := ⟨hI.1.1.1, hI.1.1.2.1, ⟨hI.1.1.2.2.1, hI.1.1.2.2.2.1⟩, hI.1, hI.2.1, hI.2.2⟩
/-- at the end of a scene no round is open -/
theorem SG_end {p : PaT} {td : Nat → Int} {x : Nat} {k n g : Int} {L : List (Int × Int)} {R : List FrT} {o : List Int} (hT : TVp p td) (hI : SgI p td ((x, k, L) :: R, n, g, o)) (hk : k = p.2.1 x) : L = [] := by
  obtain ⟨hx, ht, hk', hF, -⟩ := SG_fr hI
  obtain ⟨hz, hV, -⟩ := hT x hx ht
  have y := (ps_len hV.1 (Nat.le_refl _)).2
  have hL : LMq (p.1 x) (psN (p.1 x) k.toNat) L := hF.1.2.2.2.2
  have z : psN (p.1 x) k.toNat = [] := by
    rw [hk]
    exact List.length_eq_zero_iff.mp (by omega)
  rw [z] at hL
  exact hL
end
