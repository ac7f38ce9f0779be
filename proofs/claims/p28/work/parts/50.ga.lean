section
def fvP (ad : Nat → Nat) (nul : Nat → Nat → Bool) (M : Mem) (k j : Nat) (f : Nat) : Value := match f with
  | 0 => .int (M.1 k j)
  | 1 => .long (M.2 k j)
  | r + 2 => if nul k j = true then .null else .ref (ad r)
def cellPo (ad : Nat → Nat) (nul : Nat → Nat → Bool) (cI cJ cZ : ClassId) (M : Mem) (k : Nat) (y : Nat × Nat × List Nat) : va_E :=
  if y.1 = 0 then .inl (cI, y.2.1, .inl (M.1 k)) else if y.1 = 1 then .inl (cJ, y.2.1, .inr (.inl (M.2 k))) else if y.1 = 2 then .inl (cZ, y.2.1, .inl (M.1 k)) else .inr (y.2.1, y.2.2.mapIdx (fun j f => fvP ad nul M k j f))
def wsp (base : Nat) (nul : Nat → Nat → Bool) (cI cJ cZ : ClassId) (M : Mem) (n : Nat) : va_W := (List.range n).map (fun k => (base + k, cellPo (fun k => base + k) nul cI cJ cZ M k (lay.getD k (0, 0, []))))
theorem wsp_at {base : Nat} {nul : Nat → Nat → Bool} {cI cJ cZ : ClassId} {M : Mem} {n k : Nat} {y : Nat × Nat × List Nat} (hk : k < n) (h : lay[k]? = some y) : (wsp base nul cI cJ cZ M n)[k]? = some (base + k, cellPo (fun k => base + k) nul cI cJ cZ M k y) := by
  simp [wsp, List.getD, h, hk]
theorem wsp_succ {base : Nat} {nul : Nat → Nat → Bool} {cI cJ cZ : ClassId} {M : Mem} {n : Nat} {y : Nat × Nat × List Nat} (h : lay[n]? = some y) : wsp base nul cI cJ cZ M (n + 1) = wsp base nul cI cJ cZ M n ++ [(base + n, cellPo (fun k => base + k) nul cI cJ cZ M n y)] := by
  simp [wsp, List.range_succ, List.getD, h]
theorem wsp_D {base : Nat} {nul : Nat → Nat → Bool} {cI cJ cZ : ClassId} {M : Mem} {n : Nat} : va_D (fun q => base ≤ q) (wsp base nul cI cJ cZ M n) := by
  refine ⟨fun i j p q hi hj hpq => ?_, fun k q hk => ?_⟩
  · have li : i < n := by have := (List.getElem?_eq_some_iff.mp hi).1; simpa [wsp] using this
    have lj : j < n := by have := (List.getElem?_eq_some_iff.mp hj).1; simpa [wsp] using this
    simp [wsp, li] at hi
    simp [wsp, lj] at hj
    rw [← hi, ← hj] at hpq
    simp at hpq
    exact hpq
  · have lk : k < n := by have := (List.getElem?_eq_some_iff.mp hk).1; simpa [wsp] using this
    simp [wsp, lk] at hk
    rw [← hk]
    exact Nat.le_add_right _ _
theorem wsp_set {base : Nat} {nul nul' : Nat → Nat → Bool} {cI cJ cZ : ClassId} {M M' : Mem} {n k : Nat} {y : Nat × Nat × List Nat} (hk : k < n) (h : lay[k]? = some y) (hne : ∀ j, j ≠ k → ∀ y, cellPo (fun k => base + k) nul' cI cJ cZ M' j y = cellPo (fun k => base + k) nul cI cJ cZ M j y) : (wsp base nul cI cJ cZ M n).set k (base + k, cellPo (fun k => base + k) nul' cI cJ cZ M' k y) = wsp base nul' cI cJ cZ M' n := by
  apply List.ext_getElem?
  intro i
  by_cases hi : i = k
  · subst hi
    rw [List.getElem?_set_self (by simp [wsp]; exact hk), wsp_at hk h]
  · rw [List.getElem?_set_ne (Ne.symm hi)]
    by_cases hn : i < n
    · simp [wsp, hn, hne i hi]
    · simp [wsp, hn]
/-- all is made: the world of the methods -/
theorem wsp_done {base : Nat} {nul : Nat → Nat → Bool} {cI cJ cZ : ClassId} {M : Mem} (h : ∀ k j, nul k j = false) : wsp base nul cI cJ cZ M nC = wsl (fun k => base + k) cI cJ cZ M := by
  have e : ∀ k j f, fvP (fun k => base + k) nul M k j f = fv (fun k => base + k) M k j f := by
    intro k j f
    unfold fvP fv
    split <;> simp [h]
  unfold wsp wsl
  apply List.map_congr_left
  intro k _
  unfold cellE cellOf cellPo
  simp only [e]
abbrev IC : Type := Program × Launch × Env × Room × State × MethodId × Array Value × List Frame × Method × Code × va_G × ClassId × ClassId × ClassId × Nat × Nat × (State → Prop)
def GA (Γ : IC) (nul : Nat → Nat → Bool) (M : Mem) (n mc ms : Nat) (pc : Nat) (L : List (Nat × Value)) (S : List Value) : Prop := match Γ with
  | (p, l, e, R, s, m, args, below, meth, c, D, cI, cJ, cZ, base, nL, Q) => ∀ (H : Heap) (locs : List Loc) (ls : Array Slot), H.size = base + n → va_P D vwCl (wsp base nul cI cJ cZ M n) H → va_S (fun q => base ≤ q) s.heap H locs → lv_has ls nL L → W p l e R s m args below meth c H locs mc ms Q (F0 m pc ls S)
def gY (Γ : IC) (cc : ByteArray) (own : String) (R : Room) (nL base : Nat) (ini : Bool) : Prop := match Γ with
  | (p, l, e, R', s, m, args, below, meth, c, D, cI, cJ, cZ, base', nL', Q) => R' = R ∧ nL' = nL ∧ base' = base ∧ p.tables.exec = Jvm.exec ∧ c.code = cc ∧ c.maxLocals = nL ∧ (ini = true → meth.name = "<init>") ∧ s.vm.findClass own = some m.cls ∧ (∀ w ∈ gT, w.before args s = true) ∧ va_K D vwCl (tyl cI cJ cZ) s ∧ nestOK s ∧ base ≤ s.heap.size
variable {Γ : IC} {cc : ByteArray} {own : String} {R : Room} {nL base : Nat} {ini : Bool} {nul : Nat → Nat → Bool} {M : Mem} {n mc ms pc : Nat} {L : List (Nat × Value)} {S : List Value}

theorem a_newa (Y : gY Γ cc own R nL base ini) {N : Nat} {v : Int32} (hy : lay[n]? = some (0, N, [])) (hz : ∀ j, M.1 n j = 0) (hv : v.toInt = N) (hb : N ≤ 100000) (hrm : mc + 1 ≤ R.cells ∧ ms + N ≤ R.slots) (hw : Cond.arrayClass .int ∈ gT) (hd : decode cc pc = .ok (.newarray .int, 2)) (kk : GA Γ nul M (n + 1) (mc + 1) (ms + N) (pc + 2) L (.ref (base + n) :: S)) : GA Γ nul M n mc ms pc L (.int v :: S) := by
  obtain ⟨p, l, e, R', s, m, args, below, meth, c, D, cI, cJ, cZ, base', nL', Q⟩ := Γ
  obtain ⟨rfl, rfl, rfl, hx, hbc, hml, hin, hown, hts, hK, hN, hbs⟩ := Y
  intro H locs ls hsz hP hS hl
  have hnn : ¬ v < 0 := fun q => by
    have := Int32.lt_iff_toInt_lt.mp q
    rw [Int32.toInt_zero] at this
    omega
  have hvn : v.toNatClampNeg = N := by show v.toInt.toNat = N; omega
  refine va_newaK (atype := .int) hx hbc (hts _ hw) rfl hd rfl hnn hvn (by show N * 4 ≤ 536870912; omega) hrm.1 hrm.2 hsz fun H1 cA e1 z1 o1 hAr hNm => ?_
  have hcA : cA = cI := by
    have h2 : s.vm.findClass _ = some cI := (hK.2 0 _ rfl).2
    rw [show ("[" ++ (newarray.typeOf ArrayType.int).toString) = ("[" ++ FieldType.int.toString) from rfl] at hNm
    rw [hNm] at h2
    exact Option.some.inj h2
  subst hcA
  refine kk H1 locs ls (by omega) ?_ ⟨Nat.le_trans hS.1 (by omega), fun x h1 h2 => (o1 x (by have := hS.1; omega)).trans (hS.2.1 x h1 h2), hS.2.2⟩ hl
  rw [wsp_succ hy]
  refine va_P.app (hP.kept fun k x hx => o1 x.1 (by have := (hP k x hx).lt; omega)) (fun k x hx => ?_)
  have hz1 : k < 1 := (List.getElem?_eq_some_iff.mp hx).1
  rw [show k = 0 by omega] at hx
  cases hx
  show H1[base' + n]? = some (vp_cell cA (N, Sum.inl (M.1 n)))
  rw [e1, vp_cell_i]
  congr 2
  funext j
  rw [hz j]
  rfl

theorem a_newaJ (Y : gY Γ cc own R nL base ini) {N : Nat} {v : Int32} (hy : lay[n]? = some (1, N, [])) (hz : ∀ j, M.2 n j = 0) (hv : v.toInt = N) (hb : N ≤ 100000) (hrm : mc + 1 ≤ R.cells ∧ ms + N ≤ R.slots) (hw : Cond.arrayClass .long ∈ gT) (hd : decode cc pc = .ok (.newarray .long, 2)) (kk : GA Γ nul M (n + 1) (mc + 1) (ms + N) (pc + 2) L (.ref (base + n) :: S)) : GA Γ nul M n mc ms pc L (.int v :: S) := by
  obtain ⟨p, l, e, R', s, m, args, below, meth, c, D, cI, cJ, cZ, base', nL', Q⟩ := Γ
  obtain ⟨rfl, rfl, rfl, hx, hbc, hml, hin, hown, hts, hK, hN, hbs⟩ := Y
  intro H locs ls hsz hP hS hl
  have hnn : ¬ v < 0 := fun q => by
    have := Int32.lt_iff_toInt_lt.mp q
    rw [Int32.toInt_zero] at this
    omega
  have hvn : v.toNatClampNeg = N := by show v.toInt.toNat = N; omega
  refine va_newaK (atype := .long) hx hbc (hts _ hw) rfl hd rfl hnn hvn (by show N * 8 ≤ 536870912; omega) hrm.1 hrm.2 hsz fun H1 cA e1 z1 o1 hAr hNm => ?_
  have hcA : cA = cJ := by
    have h2 : s.vm.findClass _ = some cJ := (hK.2 1 _ rfl).2
    rw [show ("[" ++ (newarray.typeOf ArrayType.long).toString) = ("[" ++ FieldType.long.toString) from rfl] at hNm
    rw [hNm] at h2
    exact Option.some.inj h2
  subst hcA
  refine kk H1 locs ls (by omega) ?_ ⟨Nat.le_trans hS.1 (by omega), fun x h1 h2 => (o1 x (by have := hS.1; omega)).trans (hS.2.1 x h1 h2), hS.2.2⟩ hl
  rw [wsp_succ hy]
  refine va_P.app (hP.kept fun k x hx => o1 x.1 (by have := (hP k x hx).lt; omega)) (fun k x hx => ?_)
  have hz1 : k < 1 := (List.getElem?_eq_some_iff.mp hx).1
  rw [show k = 0 by omega] at hx
  cases hx
  show H1[base' + n]? = some (vp_cell cA (N, Sum.inr (Sum.inl (M.2 n))))
  rw [e1, vp_cell_l]
  congr 2
  funext j
  rw [hz j]
  rfl

theorem a_newaZ (Y : gY Γ cc own R nL base ini) {N : Nat} {v : Int32} (hy : lay[n]? = some (2, N, [])) (hz : ∀ j, M.1 n j = 0) (hv : v.toInt = N) (hb : N ≤ 100000) (hrm : mc + 1 ≤ R.cells ∧ ms + N ≤ R.slots) (hw : Cond.arrayClass .boolean ∈ gT) (hd : decode cc pc = .ok (.newarray .boolean, 2)) (kk : GA Γ nul M (n + 1) (mc + 1) (ms + N) (pc + 2) L (.ref (base + n) :: S)) : GA Γ nul M n mc ms pc L (.int v :: S) := by
  obtain ⟨p, l, e, R', s, m, args, below, meth, c, D, cI, cJ, cZ, base', nL', Q⟩ := Γ
  obtain ⟨rfl, rfl, rfl, hx, hbc, hml, hin, hown, hts, hK, hN, hbs⟩ := Y
  intro H locs ls hsz hP hS hl
  have hnn : ¬ v < 0 := fun q => by
    have := Int32.lt_iff_toInt_lt.mp q
    rw [Int32.toInt_zero] at this
    omega
  have hvn : v.toNatClampNeg = N := by show v.toInt.toNat = N; omega
  refine va_newaK (atype := .boolean) hx hbc (hts _ hw) rfl hd rfl hnn hvn (by show N * 1 ≤ 536870912; omega) hrm.1 hrm.2 hsz fun H1 cA e1 z1 o1 hAr hNm => ?_
  have hcA : cA = cZ := by
    have h2 : s.vm.findClass _ = some cZ := (hK.2 2 _ rfl).2
    rw [show ("[" ++ (newarray.typeOf ArrayType.boolean).toString) = ("[" ++ FieldType.boolean.toString) from rfl] at hNm
    rw [hNm] at h2
    exact Option.some.inj h2
  subst hcA
  refine kk H1 locs ls (by omega) ?_ ⟨Nat.le_trans hS.1 (by omega), fun x h1 h2 => (o1 x (by have := hS.1; omega)).trans (hS.2.1 x h1 h2), hS.2.2⟩ hl
  rw [wsp_succ hy]
  refine va_P.app (hP.kept fun k x hx => o1 x.1 (by have := (hP k x hx).lt; omega)) (fun k x hx => ?_)
  have hz1 : k < 1 := (List.getElem?_eq_some_iff.mp hx).1
  rw [show k = 0 by omega] at hx
  cases hx
  show H1[base' + n]? = some (vp_cell cA (N, Sum.inl (M.1 n)))
  rw [e1, vp_cell_i]
  congr 2
  funext j
  rw [hz j]
  rfl

end
