section
variable {Γ : IC} {cc : ByteArray} {own : String} {R : Room} {nL base : Nat} {ini : Bool} {nul : Nat → Nat → Bool} {M : Mem} {n mc ms pc : Nat} {L : List (Nat × Value)} {S : List Value}
/-- an object: its numbers are 0, its references null -/
theorem a_new (Y : gY Γ cc own R nL base ini) {idx ci N : Nat} {fs : List Nat} {C : String} {T : u_T} (ty : Nat → FieldType) (hy : lay[n]? = some (3, ci, fs)) (hc : vwCl[ci]? = some (C, T, N)) (hws : ∀ w ∈ u_ws C T N, w ∈ gT) (hty : ∀ k, k < N → parseFieldDescriptor (T k).2.2.1 = some (ty k)) (hcl : Cond.classLink own idx C ∈ gT) (hinst : Cond.instantiable C N ∈ gT) (hini : Cond.initialized C ∈ gT)
    (hdf : ∀ j, j < N → defaultValue (ty j) = vp_V (fs.mapIdx (fun j f => fvP (fun k => base + k) nul M n j f)) j) (hrm : mc + 1 ≤ R.cells ∧ ms + N ≤ R.slots) (hd : decode cc pc = .ok (.new idx, 3)) (kk : GA Γ nul M (n + 1) (mc + 1) (ms + N) (pc + 3) L (.ref (base + n) :: S)) : GA Γ nul M n mc ms pc L S := by
  obtain ⟨p, l, e, R', s, m, args, below, meth, c, D, cI, cJ, cZ, base', nL', Q⟩ := Γ
  obtain ⟨rfl, rfl, rfl, hx, hbc, hml, hin, hown, hts, hK, hN, hbs⟩ := Y
  intro H locs ls hsz hP hS hl
  have hKn := hK.1 ci _ hc
  refine W.newcK hx hbc hown (hts _ hcl) (hts _ hinst) (hts _ hini) rfl hd hrm.1 hrm.2 hKn.2.1 hsz fun H1 kC hkC e1 z1 o1 => ?_
  refine kk H1 locs ls (by omega) ?_ ⟨Nat.le_trans hS.1 (by omega), fun x h1 h2 => (o1 x (by have := hS.1; omega)).trans (hS.2.1 x h1 h2), hS.2.2⟩ hl
  rw [wsp_succ hy]
  refine va_P.app (hP.kept fun k x hx => o1 x.1 (by have := (hP k x hx).lt; omega)) (fun k x hx => ?_)
  have hz1 : k < 1 := (List.getElem?_eq_some_iff.mp hx).1
  rw [show k = 0 by omega] at hx
  cases hx
  exact ⟨_, hc, (u_born ty hts hws hKn hkC e1 hty).to hdf⟩
def nu (nul : Nat → Nat → Bool) (k j : Nat) : Nat → Nat → Bool := fun a b => if a = k ∧ b = j then false else nul a b
theorem cellPo_ne {ad : Nat → Nat} {nul nul' : Nat → Nat → Bool} {cI cJ cZ : ClassId} {M M' : Mem} {k : Nat} (h1 : M'.1 k = M.1 k) (h2 : M'.2 k = M.2 k) (h3 : nul' k = nul k) (y : Nat × Nat × List Nat) : cellPo ad nul' cI cJ cZ M' k y = cellPo ad nul cI cJ cZ M k y := by
  have e : ∀ j f, fvP ad nul' M' k j f = fvP ad nul M k j f := by
    intro j f
    unfold fvP
    split <;> simp [h1, h2, h3]
  unfold cellPo
  simp only [h1, h2, e]
theorem setP_ref {ad : Nat → Nat} {nul : Nat → Nat → Bool} {M : Mem} {k j r : Nat} {fs : List Nat} (h : fs[j]? = some (r + 2)) : (fs.mapIdx (fun i f => fvP ad nul M k i f)).set j (.ref (ad r)) = fs.mapIdx (fun i f => fvP ad (nu nul k j) M k i f) := by
  apply List.ext_getElem?
  intro i
  have hj : j < fs.length := (List.getElem?_eq_some_iff.mp h).1
  by_cases hi : i = j
  · subst hi
    rw [List.getElem?_set_self (by simpa using hj), List.getElem?_mapIdx, h]
    simp [fvP, nu]
  · rw [List.getElem?_set_ne (Ne.symm hi), List.getElem?_mapIdx, List.getElem?_mapIdx]
    cases fs[i]? with
    | none => rfl
    | some f => simp only [Option.map_some]; unfold fvP; split <;> simp [nu, hi]
theorem setP_int {ad : Nat → Nat} {nul : Nat → Nat → Bool} {M : Mem} {k j : Nat} {x : Int32} {fs : List Nat} (h : fs[j]? = some 0) : (fs.mapIdx (fun i f => fvP ad nul M k i f)).set j (.int x) = fs.mapIdx (fun i f => fvP ad nul (ui M k j x) k i f) := by
  apply List.ext_getElem?
  intro i
  have hj : j < fs.length := (List.getElem?_eq_some_iff.mp h).1
  by_cases hi : i = j
  · subst hi
    rw [List.getElem?_set_self (by simpa using hj), List.getElem?_mapIdx, h]
    simp [fvP, ui]
  · rw [List.getElem?_set_ne (Ne.symm hi), List.getElem?_mapIdx, List.getElem?_mapIdx]
    cases fs[i]? with
    | none => rfl
    | some f => simp only [Option.map_some]; unfold fvP; split <;> simp [ui, hi]
theorem setP_long {ad : Nat → Nat} {nul : Nat → Nat → Bool} {M : Mem} {k j : Nat} {x : Int64} {fs : List Nat} (h : fs[j]? = some 1) : (fs.mapIdx (fun i f => fvP ad nul M k i f)).set j (.long x) = fs.mapIdx (fun i f => fvP ad nul (ul M k j x) k i f) := by
  apply List.ext_getElem?
  intro i
  have hj : j < fs.length := (List.getElem?_eq_some_iff.mp h).1
  by_cases hi : i = j
  · subst hi
    rw [List.getElem?_set_self (by simpa using hj), List.getElem?_mapIdx, h]
    simp [fvP, ul]
  · rw [List.getElem?_set_ne (Ne.symm hi), List.getElem?_mapIdx, List.getElem?_mapIdx]
    cases fs[i]? with
    | none => rfl
    | some f => simp only [Option.map_some]; unfold fvP; split <;> simp [ul, hi]
/-- a field is put: as the kit's rows say, and the heap keeps its size -/
theorem putF_sz {p : Program} {l : Launch} {e : Env} {R : Room} {s : State} {m : MethodId} {args : Array Value} {below : List Frame} {meth : Method} {c : Code} {H : Heap} {locs : List Loc} {cells slots : Nat} {Q : State → Prop} {cc : ByteArray} {pc : Nat} {ls : Array Slot} {rest : List Value} {D : va_G} {A : Nat → Prop} {a : Nat} {tys : List (ClassId × FieldType)} {ws : va_W} {H0 : Heap} (hx : p.tables.exec = Jvm.exec) (hb : c.code = cc) {own C : String} {T : u_T} {N ci index : Nat} (hts : ∀ w ∈ gT, w.before args s = true) (hin : ∀ w ∈ u_ws C T N, w ∈ gT) (ty0 : Nat → FieldType) (hty : ∀ k, k < N → parseFieldDescriptor (T k).2.2.1 = some (ty0 k)) (hnm : ∀ a, a < N → ∀ b, b < N → a ≠ b → (T a).2.1 ≠ (T b).2.1) (hown : s.vm.findClass own = some m.cls) (hK : va_K D vwCl tys s) (hP : va_P D vwCl ws H) (hD : va_D A ws) (hS0 : va_S A H0 H locs) (q0 : Nat) {fs : List Value} (he : ws[q0]? = some (a, .inr (ci, fs))) (hc : vwCl[ci]? = some (C, T, N)) (k : Nat) (hk : k < N) (hlink : (Cond.fieldLink own index (T k).1 (T k).2.1 (T k).2.2.1).before args s = true) {ty : FieldType} {v : Value} (hd : parseFieldDescriptor (T k).2.2.1 = some ty) (hn : narrow ty v = v) (hfit : fits ty v = true) (hl : k < fs.length) (hfin : ((T k).2.2.2 = true ∧ meth.name = "<init>" ∧ (T k).1 = own) ∨ (T k).2.2.2 = false)
    (hdg : decode cc pc = .ok (.putfield index, 3)) (kk : ∀ (H1 : Heap) (locs1 : List Loc), H1.size = H.size → va_P D vwCl (ws.set q0 (a, .inr (ci, fs.set k v))) H1 → va_S A H0 H1 locs1 → W p l e R s m args below meth c H1 locs1 cells slots Q (F0 m (pc + 3) ls rest)) : W p l e R s m args below meth c H locs cells slots Q (F0 m pc ls (v :: .ref a :: rest)) := by
  have apart := va_apart (own := own) hts hin ty0 hty hnm hK hc
  obtain ⟨x, x1, cell, o1, o2, o3, o4⟩ := hP q0 _ he
  obtain rfl : x = (C, T, N) := Option.some.inj (x1.symm.trans hc)
  obtain ⟨sl, fc, kC, hkC, kind⟩ := hK.1 ci _ hc
  obtain ⟨cf, kf, fi, f, found, place⟩ := sl k hk
  have stat := (u_facts fc hkC (u_lays hts hin hk) found).1
  have goes : ∀ H1 : Heap, H1[a]? = some (cell.setSlot (D.2 ci k) v) → H1.size = H.size → (∀ q : Nat, q ≠ a → H1[q]? = H[q]?) → ∀ locs1, va_S A H0 H1 locs1 → W p l e R s m args below meth c H1 locs1 cells slots Q (F0 m (pc + 3) ls rest) := fun H1 w1 w2 w3 locs1 w4 =>
    kk H1 locs1 w2 (hP.set hD he ⟨_, hc, t_OB.to (V := updV (vp_V fs) k v) ⟨_, w1, o2, o3, t_set o4 apart hk v⟩ (fun j _ => vp_updV_set hl v j)⟩ w3) w4
  have lays := hts _ (hin _ (u_in_lay hk))
  unfold u_lay at lays
  rcases hfin with ⟨f1, f2, f3⟩ | f1
  · rw [if_pos f1] at lays
    have same : m.cls = cf := by
      obtain ⟨_, _, c', _, _, _, -, -, y1, -, -, -, y2, -⟩ := Cond.laysFinal_spec lays
      have e1 : c' = cf := by have := found.symm.trans y1; simp at this; exact this.1.symm
      rw [f3] at y2
      rw [← e1]; exact Option.some.inj (hown.symm.trans y2)
    refine W.putFinK hx hb hown hlink found stat same f2 (by rw [o2]; exact u_fits fc hkC kind (Or.inr lays) found hd hn hfit) o1 o3 (by rw [place]; exact k2_hasslot (o4 k hk)) rfl rfl hdg fun H1 e1 e2 e3 => ?_
    rw [place] at e1 ⊢
    exact goes H1 e1 e2 e3 _ (hS0.put e2 e3 (hD.2 q0 _ he))
  · rw [if_neg (by rw [f1]; decide)] at lays
    refine W.putK hx hb (f := f) ⟨hown, hlink, ⟨_, _, _, found⟩, stat⟩ (by rw [o2]; exact u_store fc hkC kind lays found hd hn hfit) o1 o3 (by rw [place]; exact k2_hasslot (o4 k hk)) rfl rfl hdg fun H1 e1 e2 e3 => ?_
    rw [place] at e1 ⊢
    exact goes H1 e1 e2 e3 _ (hS0.put e2 e3 (hD.2 q0 _ he))
/-- what a constructor's putfield needs -/
def PR (own : String) (idx k j f : Nat) (ty : FieldType) : Prop := ∃ (ci : Nat) (fs : List Nat) (C : String) (T : u_T) (N : Nat) (ty0 : Nat → FieldType), lay[k]? = some (3, ci, fs) ∧ fs[j]? = some f ∧ vwCl[ci]? = some (C, T, N) ∧ j < N ∧ (∀ w ∈ u_ws C T N, w ∈ gT) ∧ Cond.fieldLink own idx (T j).1 (T j).2.1 (T j).2.2.1 ∈ gT ∧ (∀ k, k < N → parseFieldDescriptor (T k).2.2.1 = some (ty0 k)) ∧ (∀ a, a < N → ∀ b, b < N → a ≠ b → (T a).2.1 ≠ (T b).2.1) ∧ (T j).1 = own ∧ parseFieldDescriptor (T j).2.2.1 = some ty
theorem a_putRI (Y : gY Γ cc own R nL base true) {idx k j r : Nat} (h : PR own idx k j (r + 2) (.array .int)) (hk : k < n) (hd : decode cc pc = .ok (.putfield idx, 3)) (kk : GA Γ (nu nul k j) M n mc ms (pc + 3) L S) : GA Γ nul M n mc ms pc L (.ref (base + r) :: .ref (base + k) :: S) := by
  obtain ⟨p, l, e, R', s, m, args, below, meth, c, D, cI, cJ, cZ, base', nL', Q⟩ := Γ
  obtain ⟨rfl, rfl, rfl, hx, hbc, hml, hin, hown, hts, hK, hN, hbs⟩ := Y
  intro H locs ls hsz hP hS hl
  obtain ⟨ci, fs, C, T, N, ty0, h1, h2, h3, h4, h5, h6, h7, h8, h9, h10⟩ := h
  have he : (wsp base' nul cI cJ cZ M n)[k]? = some (base' + k, .inr (ci, fs.mapIdx (fun j f => fvP (fun k => base' + k) nul M k j f))) := wsp_at hk h1
  have hj : j < (fs.mapIdx (fun j f => fvP (fun k => base' + k) nul M k j f)).length := by
    have := (List.getElem?_eq_some_iff.mp h2).1
    simpa using this
  refine putF_sz hx hbc hts h5 ty0 h7 h8 hown hK hP wsp_D hS k he h3 j h4 (hts _ h6) h10 rfl rfl hj (by cases hq : (T j).2.2.2 with | true => exact Or.inl ⟨rfl, hin rfl, h9⟩ | false => exact Or.inr rfl) hd (fun H1 locs1 hz1 hP1 hS1 => ?_)
  refine kk H1 locs1 ls (by omega) ?_ hS1 hl
  rw [setP_ref h2] at hP1
  have hset := wsp_set (base := base') (nul := nul) (nul' := nu nul k j) (cI := cI) (cJ := cJ) (cZ := cZ) (M := M) (M' := M) hk h1 (fun a ha y => cellPo_ne (by first | rfl | exact ui_cell ha) (by first | rfl | exact ul_cell ha) (by first | rfl | (funext b; simp [nu, ha])) y)
  rw [← hset]
  exact hP1
theorem a_putRJ (Y : gY Γ cc own R nL base true) {idx k j r : Nat} (h : PR own idx k j (r + 2) (.array .long)) (hk : k < n) (hd : decode cc pc = .ok (.putfield idx, 3)) (kk : GA Γ (nu nul k j) M n mc ms (pc + 3) L S) : GA Γ nul M n mc ms pc L (.ref (base + r) :: .ref (base + k) :: S) := by
  obtain ⟨p, l, e, R', s, m, args, below, meth, c, D, cI, cJ, cZ, base', nL', Q⟩ := Γ
  obtain ⟨rfl, rfl, rfl, hx, hbc, hml, hin, hown, hts, hK, hN, hbs⟩ := Y
  intro H locs ls hsz hP hS hl
  obtain ⟨ci, fs, C, T, N, ty0, h1, h2, h3, h4, h5, h6, h7, h8, h9, h10⟩ := h
  have he : (wsp base' nul cI cJ cZ M n)[k]? = some (base' + k, .inr (ci, fs.mapIdx (fun j f => fvP (fun k => base' + k) nul M k j f))) := wsp_at hk h1
  have hj : j < (fs.mapIdx (fun j f => fvP (fun k => base' + k) nul M k j f)).length := by
    have := (List.getElem?_eq_some_iff.mp h2).1
    simpa using this
  refine putF_sz hx hbc hts h5 ty0 h7 h8 hown hK hP wsp_D hS k he h3 j h4 (hts _ h6) h10 rfl rfl hj (by cases hq : (T j).2.2.2 with | true => exact Or.inl ⟨rfl, hin rfl, h9⟩ | false => exact Or.inr rfl) hd (fun H1 locs1 hz1 hP1 hS1 => ?_)
  refine kk H1 locs1 ls (by omega) ?_ hS1 hl
  rw [setP_ref h2] at hP1
  have hset := wsp_set (base := base') (nul := nul) (nul' := nu nul k j) (cI := cI) (cJ := cJ) (cZ := cZ) (M := M) (M' := M) hk h1 (fun a ha y => cellPo_ne (by first | rfl | exact ui_cell ha) (by first | rfl | exact ul_cell ha) (by first | rfl | (funext b; simp [nu, ha])) y)
  rw [← hset]
  exact hP1
theorem a_putRZ (Y : gY Γ cc own R nL base true) {idx k j r : Nat} (h : PR own idx k j (r + 2) (.array .boolean)) (hk : k < n) (hd : decode cc pc = .ok (.putfield idx, 3)) (kk : GA Γ (nu nul k j) M n mc ms (pc + 3) L S) : GA Γ nul M n mc ms pc L (.ref (base + r) :: .ref (base + k) :: S) := by
  obtain ⟨p, l, e, R', s, m, args, below, meth, c, D, cI, cJ, cZ, base', nL', Q⟩ := Γ
  obtain ⟨rfl, rfl, rfl, hx, hbc, hml, hin, hown, hts, hK, hN, hbs⟩ := Y
  intro H locs ls hsz hP hS hl
  obtain ⟨ci, fs, C, T, N, ty0, h1, h2, h3, h4, h5, h6, h7, h8, h9, h10⟩ := h
  have he : (wsp base' nul cI cJ cZ M n)[k]? = some (base' + k, .inr (ci, fs.mapIdx (fun j f => fvP (fun k => base' + k) nul M k j f))) := wsp_at hk h1
  have hj : j < (fs.mapIdx (fun j f => fvP (fun k => base' + k) nul M k j f)).length := by
    have := (List.getElem?_eq_some_iff.mp h2).1
    simpa using this
  refine putF_sz hx hbc hts h5 ty0 h7 h8 hown hK hP wsp_D hS k he h3 j h4 (hts _ h6) h10 rfl rfl hj (by cases hq : (T j).2.2.2 with | true => exact Or.inl ⟨rfl, hin rfl, h9⟩ | false => exact Or.inr rfl) hd (fun H1 locs1 hz1 hP1 hS1 => ?_)
  refine kk H1 locs1 ls (by omega) ?_ hS1 hl
  rw [setP_ref h2] at hP1
  have hset := wsp_set (base := base') (nul := nul) (nul' := nu nul k j) (cI := cI) (cJ := cJ) (cZ := cZ) (M := M) (M' := M) hk h1 (fun a ha y => cellPo_ne (by first | rfl | exact ui_cell ha) (by first | rfl | exact ul_cell ha) (by first | rfl | (funext b; simp [nu, ha])) y)
  rw [← hset]
  exact hP1
theorem a_putRO (Y : gY Γ cc own R nL base true) {idx k j r : Nat} {C0 : String} (h : PR own idx k j (r + 2) (.object C0)) (hk : k < n) (hd : decode cc pc = .ok (.putfield idx, 3)) (kk : GA Γ (nu nul k j) M n mc ms (pc + 3) L S) : GA Γ nul M n mc ms pc L (.ref (base + r) :: .ref (base + k) :: S) := by
  obtain ⟨p, l, e, R', s, m, args, below, meth, c, D, cI, cJ, cZ, base', nL', Q⟩ := Γ
  obtain ⟨rfl, rfl, rfl, hx, hbc, hml, hin, hown, hts, hK, hN, hbs⟩ := Y
  intro H locs ls hsz hP hS hl
  obtain ⟨ci, fs, C, T, N, ty0, h1, h2, h3, h4, h5, h6, h7, h8, h9, h10⟩ := h
  have he : (wsp base' nul cI cJ cZ M n)[k]? = some (base' + k, .inr (ci, fs.mapIdx (fun j f => fvP (fun k => base' + k) nul M k j f))) := wsp_at hk h1
  have hj : j < (fs.mapIdx (fun j f => fvP (fun k => base' + k) nul M k j f)).length := by
    have := (List.getElem?_eq_some_iff.mp h2).1
    simpa using this
  refine putF_sz hx hbc hts h5 ty0 h7 h8 hown hK hP wsp_D hS k he h3 j h4 (hts _ h6) h10 rfl rfl hj (by cases hq : (T j).2.2.2 with | true => exact Or.inl ⟨rfl, hin rfl, h9⟩ | false => exact Or.inr rfl) hd (fun H1 locs1 hz1 hP1 hS1 => ?_)
  refine kk H1 locs1 ls (by omega) ?_ hS1 hl
  rw [setP_ref h2] at hP1
  have hset := wsp_set (base := base') (nul := nul) (nul' := nu nul k j) (cI := cI) (cJ := cJ) (cZ := cZ) (M := M) (M' := M) hk h1 (fun a ha y => cellPo_ne (by first | rfl | exact ui_cell ha) (by first | rfl | exact ul_cell ha) (by first | rfl | (funext b; simp [nu, ha])) y)
  rw [← hset]
  exact hP1
theorem a_puti (Y : gY Γ cc own R nL base true) {idx k j : Nat} {x : Int32} (h : PR own idx k j 0 .int) (hk : k < n) (hd : decode cc pc = .ok (.putfield idx, 3)) (kk : GA Γ nul (ui M k j x) n mc ms (pc + 3) L S) : GA Γ nul M n mc ms pc L (.int x :: .ref (base + k) :: S) := by
  obtain ⟨p, l, e, R', s, m, args, below, meth, c, D, cI, cJ, cZ, base', nL', Q⟩ := Γ
  obtain ⟨rfl, rfl, rfl, hx, hbc, hml, hin, hown, hts, hK, hN, hbs⟩ := Y
  intro H locs ls hsz hP hS hl
  obtain ⟨ci, fs, C, T, N, ty0, h1, h2, h3, h4, h5, h6, h7, h8, h9, h10⟩ := h
  have he : (wsp base' nul cI cJ cZ M n)[k]? = some (base' + k, .inr (ci, fs.mapIdx (fun j f => fvP (fun k => base' + k) nul M k j f))) := wsp_at hk h1
  have hj : j < (fs.mapIdx (fun j f => fvP (fun k => base' + k) nul M k j f)).length := by
    have := (List.getElem?_eq_some_iff.mp h2).1
    simpa using this
  refine putF_sz hx hbc hts h5 ty0 h7 h8 hown hK hP wsp_D hS k he h3 j h4 (hts _ h6) h10 rfl rfl hj (by cases hq : (T j).2.2.2 with | true => exact Or.inl ⟨rfl, hin rfl, h9⟩ | false => exact Or.inr rfl) hd (fun H1 locs1 hz1 hP1 hS1 => ?_)
  refine kk H1 locs1 ls (by omega) ?_ hS1 hl
  rw [setP_int h2] at hP1
  have hset := wsp_set (base := base') (nul := nul) (nul' := nul) (cI := cI) (cJ := cJ) (cZ := cZ) (M := M) (M' := ui M k j x) hk h1 (fun a ha y => cellPo_ne (by first | rfl | exact ui_cell ha) (by first | rfl | exact ul_cell ha) (by first | rfl | (funext b; simp [nu, ha])) y)
  rw [← hset]
  exact hP1
theorem a_putz (Y : gY Γ cc own R nL base true) {idx k j : Nat} {x : Int32} (h : PR own idx k j 0 .boolean) (hk : k < n) (hb01 : x = 0 ∨ x = 1) (hd : decode cc pc = .ok (.putfield idx, 3)) (kk : GA Γ nul (ui M k j x) n mc ms (pc + 3) L S) : GA Γ nul M n mc ms pc L (.int x :: .ref (base + k) :: S) := by
  obtain ⟨p, l, e, R', s, m, args, below, meth, c, D, cI, cJ, cZ, base', nL', Q⟩ := Γ
  obtain ⟨rfl, rfl, rfl, hx, hbc, hml, hin, hown, hts, hK, hN, hbs⟩ := Y
  intro H locs ls hsz hP hS hl
  obtain ⟨ci, fs, C, T, N, ty0, h1, h2, h3, h4, h5, h6, h7, h8, h9, h10⟩ := h
  have he : (wsp base' nul cI cJ cZ M n)[k]? = some (base' + k, .inr (ci, fs.mapIdx (fun j f => fvP (fun k => base' + k) nul M k j f))) := wsp_at hk h1
  have hj : j < (fs.mapIdx (fun j f => fvP (fun k => base' + k) nul M k j f)).length := by
    have := (List.getElem?_eq_some_iff.mp h2).1
    simpa using this
  refine putF_sz hx hbc hts h5 ty0 h7 h8 hown hK hP wsp_D hS k he h3 j h4 (hts _ h6) h10 (bool_narrow hb01) (bool_fits hb01) hj (by cases hq : (T j).2.2.2 with | true => exact Or.inl ⟨rfl, hin rfl, h9⟩ | false => exact Or.inr rfl) hd (fun H1 locs1 hz1 hP1 hS1 => ?_)
  refine kk H1 locs1 ls (by omega) ?_ hS1 hl
  rw [setP_int h2] at hP1
  have hset := wsp_set (base := base') (nul := nul) (nul' := nul) (cI := cI) (cJ := cJ) (cZ := cZ) (M := M) (M' := ui M k j x) hk h1 (fun a ha y => cellPo_ne (by first | rfl | exact ui_cell ha) (by first | rfl | exact ul_cell ha) (by first | rfl | (funext b; simp [nu, ha])) y)
  rw [← hset]
  exact hP1
theorem a_putl (Y : gY Γ cc own R nL base true) {idx k j : Nat} {x : Int64} (h : PR own idx k j 1 .long) (hk : k < n) (hd : decode cc pc = .ok (.putfield idx, 3)) (kk : GA Γ nul (ul M k j x) n mc ms (pc + 3) L S) : GA Γ nul M n mc ms pc L (.long x :: .ref (base + k) :: S) := by
  obtain ⟨p, l, e, R', s, m, args, below, meth, c, D, cI, cJ, cZ, base', nL', Q⟩ := Γ
  obtain ⟨rfl, rfl, rfl, hx, hbc, hml, hin, hown, hts, hK, hN, hbs⟩ := Y
  intro H locs ls hsz hP hS hl
  obtain ⟨ci, fs, C, T, N, ty0, h1, h2, h3, h4, h5, h6, h7, h8, h9, h10⟩ := h
  have he : (wsp base' nul cI cJ cZ M n)[k]? = some (base' + k, .inr (ci, fs.mapIdx (fun j f => fvP (fun k => base' + k) nul M k j f))) := wsp_at hk h1
  have hj : j < (fs.mapIdx (fun j f => fvP (fun k => base' + k) nul M k j f)).length := by
    have := (List.getElem?_eq_some_iff.mp h2).1
    simpa using this
  refine putF_sz hx hbc hts h5 ty0 h7 h8 hown hK hP wsp_D hS k he h3 j h4 (hts _ h6) h10 rfl rfl hj (by cases hq : (T j).2.2.2 with | true => exact Or.inl ⟨rfl, hin rfl, h9⟩ | false => exact Or.inr rfl) hd (fun H1 locs1 hz1 hP1 hS1 => ?_)
  refine kk H1 locs1 ls (by omega) ?_ hS1 hl
  rw [setP_long h2] at hP1
  have hset := wsp_set (base := base') (nul := nul) (nul' := nul) (cI := cI) (cJ := cJ) (cZ := cZ) (M := M) (M' := ul M k j x) hk h1 (fun a ha y => cellPo_ne (by first | rfl | exact ui_cell ha) (by first | rfl | exact ul_cell ha) (by first | rfl | (funext b; simp [nu, ha])) y)
  rw [← hset]
  exact hP1
end
