section
variable {Γ : GC} {cc : ByteArray} {own : String} {nL : Nat} {ret : Option FieldType} {d : Nat} {ad : Nat → Nat} {post : Post} {M : Mem} {pc : Nat} {L : List (Nat × Value)} {S : List Value}
theorem g_get (X : gX Γ cc own nL ret d ad post) {idx k j f : Nat} (h : FL own idx k j f) (hd : decode cc pc = .ok (.getfield idx, 3)) (kk : G Γ M (pc + 3) L (fv ad M k j f :: S)) : G Γ M pc L (.ref (ad k) :: S) := by
  obtain ⟨p, l, e, s, m, args, below, meth, c, D, cI, cJ, cZ, ad', d', nL', post'⟩ := Γ
  obtain ⟨rfl, rfl, rfl, rfl, hx, hb, hml, hr, hlk, hown, hts, hK, hN, hAd⟩ := X
  intro H locs ls hP hS hl
  obtain ⟨ci, fs, C, T, N, h1, h2, h3, h4, h5, h6⟩ := h
  have he : (wsl ad' cI cJ cZ M)[k]? = some (ad' k, .inr (ci, fs.mapIdx (fun j f => fv ad' M k j f))) := wsl_at h1
  have hv : (fs.mapIdx (fun j f => fv ad' M k j f))[j]? = some (fv ad' M k j f) := by simp [List.getElem?_mapIdx, h2]
  rcases h6 with h6 | ⟨host, h6⟩
  · exact va_get hx hb hts h5 hown hK hP k he h3 j h4 (hts _ h6) (fun _ h => h) hv hd (kk H locs ls hP hS hl)
  · exact va_getN hx hb hts h5 hown hK hP k he h3 j h4 (va_Nw.use rfl (hN _ h6 rfl)) (fun _ h => h) hv hd (kk H locs ls hP hS hl)
theorem g_geti (X : gX Γ cc own nL ret d ad post) {idx k j : Nat} (h : FL own idx k j 0) (hd : decode cc pc = .ok (.getfield idx, 3)) {x : Int32} (hv : M.1 k j = x) (kk : G Γ M (pc + 3) L (.int x :: S)) : G Γ M pc L (.ref (ad k) :: S) := g_get X h hd (by subst hv; exact kk)
theorem g_getl (X : gX Γ cc own nL ret d ad post) {idx k j : Nat} (h : FL own idx k j 1) (hd : decode cc pc = .ok (.getfield idx, 3)) {x : Int64} (hv : M.2 k j = x) (kk : G Γ M (pc + 3) L (.long x :: S)) : G Γ M pc L (.ref (ad k) :: S) := g_get X h hd (by subst hv; exact kk)
theorem g_getr (X : gX Γ cc own nL ret d ad post) {idx k j r : Nat} (h : FL own idx k j (r + 2)) (hd : decode cc pc = .ok (.getfield idx, 3)) (kk : G Γ M (pc + 3) L (.ref (ad r) :: S)) : G Γ M pc L (.ref (ad k) :: S) := g_get X h hd kk
theorem set_objI {ad : Nat → Nat} {M : Mem} {k j : Nat} {x : Int32} {fs : List Nat} (h : fs[j]? = some 0) : (fs.mapIdx (fun i f => fv ad M k i f)).set j (.int x) = fs.mapIdx (fun i f => fv ad (ui M k j x) k i f) := by
  apply List.ext_getElem?
  intro i
  have hj : j < fs.length := (List.getElem?_eq_some_iff.mp h).1
  by_cases hi : i = j
  · subst hi
    rw [List.getElem?_set_self (by simpa using hj), List.getElem?_mapIdx, h]
    simp [fv, ui]
  · rw [List.getElem?_set_ne (Ne.symm hi), List.getElem?_mapIdx, List.getElem?_mapIdx]
    cases fs[i]? with
    | none => rfl
    | some f => simp only [Option.map_some]; unfold fv; split <;> simp [ui, hi]
theorem set_objL {ad : Nat → Nat} {M : Mem} {k j : Nat} {x : Int64} {fs : List Nat} (h : fs[j]? = some 1) : (fs.mapIdx (fun i f => fv ad M k i f)).set j (.long x) = fs.mapIdx (fun i f => fv ad (ul M k j x) k i f) := by
  apply List.ext_getElem?
  intro i
  have hj : j < fs.length := (List.getElem?_eq_some_iff.mp h).1
  by_cases hi : i = j
  · subst hi
    rw [List.getElem?_set_self (by simpa using hj), List.getElem?_mapIdx, h]
    simp [fv, ul]
  · rw [List.getElem?_set_ne (Ne.symm hi), List.getElem?_mapIdx, List.getElem?_mapIdx]
    cases fs[i]? with
    | none => rfl
    | some f => simp only [Option.map_some]; unfold fv; split <;> simp [ul, hi]
theorem upd_ui {M : Mem} {k a : Nat} {x : Int32} : upd (M.1 k) a x = (ui M k a x).1 k := by
  funext b; by_cases h : b = a <;> simp [upd, ui, h]
theorem updL_ul {M : Mem} {k a : Nat} {x : Int64} : vp_updL (M.2 k) a x = (ul M k a x).2 k := by
  funext b; by_cases h : b = a <;> simp [vp_updL, ul, h]
theorem cpy_uc {M : Mem} {k0 k a b n : Nat} : va_cpy (M.1 k0) (M.1 k) a b n = (uc M k0 a k b n).1 k := by
  funext j; simp [va_cpy, uc]
theorem bool_narrow {x : Int32} (h : x = 0 ∨ x = 1) : narrow .boolean (.int x) = .int x := by rcases h with rfl | rfl <;> decide +kernel
theorem bool_fits {x : Int32} (h : x = 0 ∨ x = 1) : fits .boolean (.int x) = true := by rcases h with rfl | rfl <;> decide +kernel
theorem bool_vp {x : Int32} (h : x = 0 ∨ x = 1) : vp_nar .boolean x = x := by rcases h with rfl | rfl <;> decide +kernel
theorem g_puti (X : gX Γ cc own nL ret d ad post) {idx k j : Nat} {x : Int32} (h : PF own idx k j 0 .int) (hd : decode cc pc = .ok (.putfield idx, 3)) (kk : G Γ (ui M k j x) (pc + 3) L S) : G Γ M pc L (.int x :: .ref (ad k) :: S) := by
  obtain ⟨p, l, e, s, m, args, below, meth, c, D, cI, cJ, cZ, ad', d', nL', post'⟩ := Γ
  obtain ⟨rfl, rfl, rfl, rfl, hx, hb, hml, hr, hlk, hown, hts, hK, hN, hAd⟩ := X
  intro H locs ls hP hS hl
  obtain ⟨ci, fs, C, T, N, ty0, h1, h2, h3, h4, h5, h6, h7, h8, h9, h10⟩ := h
  have he : (wsl ad' cI cJ cZ M)[k]? = some (ad' k, .inr (ci, fs.mapIdx (fun j f => fv ad' M k j f))) := wsl_at h1
  have hj : j < (fs.mapIdx (fun j f => fv ad' M k j f)).length := by
    have := (List.getElem?_eq_some_iff.mp h2).1
    simpa using this
  have hset : (wsl ad' cI cJ cZ M).set k (ad' k, .inr (ci, (fs.mapIdx (fun j f => fv ad' M k j f)).set j (.int x))) = wsl ad' cI cJ cZ (ui M k j x) := by
    rw [set_objI h2]
    exact wsl_set (M' := ui M k j x) h1 (fun a ha => cellE_ne (by first | rfl | exact ui_cell ha) (by first | rfl | exact ul_cell ha))
  rcases h6 with h6 | ⟨host, h6⟩
  · refine va_put hx hb hts h5 ty0 h7 h8 hown hK hP (wsl_D hAd) hS k he h3 j h4 (hts _ h6) (fun _ h => h) h9 h10 rfl rfl hj hd (fun H1 locs1 hP1 _ hS1 => ?_)
    rw [hset] at hP1
    exact kk H1 locs1 ls hP1 hS1 hl
  · refine va_putN hx hb hts h5 ty0 h7 h8 hown hK hP (wsl_D hAd) hS k he h3 j h4 (va_Nw.use rfl (hN _ h6 rfl)) (fun _ h => h) h9 h10 rfl rfl hj hd (fun H1 locs1 hP1 _ hS1 => ?_)
    rw [hset] at hP1
    exact kk H1 locs1 ls hP1 hS1 hl
theorem g_putz (X : gX Γ cc own nL ret d ad post) {idx k j : Nat} {x : Int32} (hb01 : x = 0 ∨ x = 1) (h : PF own idx k j 0 .boolean) (hd : decode cc pc = .ok (.putfield idx, 3)) (kk : G Γ (ui M k j x) (pc + 3) L S) : G Γ M pc L (.int x :: .ref (ad k) :: S) := by
  obtain ⟨p, l, e, s, m, args, below, meth, c, D, cI, cJ, cZ, ad', d', nL', post'⟩ := Γ
  obtain ⟨rfl, rfl, rfl, rfl, hx, hb, hml, hr, hlk, hown, hts, hK, hN, hAd⟩ := X
  intro H locs ls hP hS hl
  obtain ⟨ci, fs, C, T, N, ty0, h1, h2, h3, h4, h5, h6, h7, h8, h9, h10⟩ := h
  have he : (wsl ad' cI cJ cZ M)[k]? = some (ad' k, .inr (ci, fs.mapIdx (fun j f => fv ad' M k j f))) := wsl_at h1
  have hj : j < (fs.mapIdx (fun j f => fv ad' M k j f)).length := by
    have := (List.getElem?_eq_some_iff.mp h2).1
    simpa using this
  have hset : (wsl ad' cI cJ cZ M).set k (ad' k, .inr (ci, (fs.mapIdx (fun j f => fv ad' M k j f)).set j (.int x))) = wsl ad' cI cJ cZ (ui M k j x) := by
    rw [set_objI h2]
    exact wsl_set (M' := ui M k j x) h1 (fun a ha => cellE_ne (by first | rfl | exact ui_cell ha) (by first | rfl | exact ul_cell ha))
  rcases h6 with h6 | ⟨host, h6⟩
  · refine va_put hx hb hts h5 ty0 h7 h8 hown hK hP (wsl_D hAd) hS k he h3 j h4 (hts _ h6) (fun _ h => h) h9 h10 (bool_narrow hb01) (bool_fits hb01) hj hd (fun H1 locs1 hP1 _ hS1 => ?_)
    rw [hset] at hP1
    exact kk H1 locs1 ls hP1 hS1 hl
  · refine va_putN hx hb hts h5 ty0 h7 h8 hown hK hP (wsl_D hAd) hS k he h3 j h4 (va_Nw.use rfl (hN _ h6 rfl)) (fun _ h => h) h9 h10 (bool_narrow hb01) (bool_fits hb01) hj hd (fun H1 locs1 hP1 _ hS1 => ?_)
    rw [hset] at hP1
    exact kk H1 locs1 ls hP1 hS1 hl
theorem g_putl (X : gX Γ cc own nL ret d ad post) {idx k j : Nat} {x : Int64} (h : PF own idx k j 1 .long) (hd : decode cc pc = .ok (.putfield idx, 3)) (kk : G Γ (ul M k j x) (pc + 3) L S) : G Γ M pc L (.long x :: .ref (ad k) :: S) := by
  obtain ⟨p, l, e, s, m, args, below, meth, c, D, cI, cJ, cZ, ad', d', nL', post'⟩ := Γ
  obtain ⟨rfl, rfl, rfl, rfl, hx, hb, hml, hr, hlk, hown, hts, hK, hN, hAd⟩ := X
  intro H locs ls hP hS hl
  obtain ⟨ci, fs, C, T, N, ty0, h1, h2, h3, h4, h5, h6, h7, h8, h9, h10⟩ := h
  have he : (wsl ad' cI cJ cZ M)[k]? = some (ad' k, .inr (ci, fs.mapIdx (fun j f => fv ad' M k j f))) := wsl_at h1
  have hj : j < (fs.mapIdx (fun j f => fv ad' M k j f)).length := by
    have := (List.getElem?_eq_some_iff.mp h2).1
    simpa using this
  have hset : (wsl ad' cI cJ cZ M).set k (ad' k, .inr (ci, (fs.mapIdx (fun j f => fv ad' M k j f)).set j (.long x))) = wsl ad' cI cJ cZ (ul M k j x) := by
    rw [set_objL h2]
    exact wsl_set (M' := ul M k j x) h1 (fun a ha => cellE_ne (by first | rfl | exact ui_cell ha) (by first | rfl | exact ul_cell ha))
  rcases h6 with h6 | ⟨host, h6⟩
  · refine va_put hx hb hts h5 ty0 h7 h8 hown hK hP (wsl_D hAd) hS k he h3 j h4 (hts _ h6) (fun _ h => h) h9 h10 rfl rfl hj hd (fun H1 locs1 hP1 _ hS1 => ?_)
    rw [hset] at hP1
    exact kk H1 locs1 ls hP1 hS1 hl
  · refine va_putN hx hb hts h5 ty0 h7 h8 hown hK hP (wsl_D hAd) hS k he h3 j h4 (va_Nw.use rfl (hN _ h6 rfl)) (fun _ h => h) h9 h10 rfl rfl hj hd (fun H1 locs1 hP1 _ hS1 => ?_)
    rw [hset] at hP1
    exact kk H1 locs1 ls hP1 hS1 hl
theorem g_iald (X : gX Γ cc own nL ret d ad post) {k n : Nat} (hy : lay[k]? = some (0, n, [])) {i : Int32} {a : Int} (ha : i.toInt = a) (hd : decode cc pc = .ok (.iaload, 1)) (hin : 0 ≤ a ∧ a < n) {x : Int32} (hv : M.1 k a.toNat = x) (kk : G Γ M (pc + 1) L (.int x :: S)) : G Γ M pc L (.int i :: .ref (ad k) :: S) := by
  subst ha
  obtain ⟨p, l, e, s, m, args, below, meth, c, D, cI, cJ, cZ, ad', d', nL', post'⟩ := Γ
  obtain ⟨rfl, rfl, rfl, rfl, hx, hb, hml, hr, hlk, hown, hts, hK, hN, hAd⟩ := X
  intro H locs ls hP hS hl
  exact va_iald hx hb hK hP k 0 (wsl_at hy) rfl (vp_in_iff.mpr hin) hd (by subst hv; exact kk H locs ls hP hS hl)
theorem g_zald (X : gX Γ cc own nL ret d ad post) {k n : Nat} (hy : lay[k]? = some (2, n, [])) {i : Int32} {a : Int} (ha : i.toInt = a) (hd : decode cc pc = .ok (.baload, 1)) (hin : 0 ≤ a ∧ a < n) {x : Int32} (hv : M.1 k a.toNat = x) (kk : G Γ M (pc + 1) L (.int x :: S)) : G Γ M pc L (.int i :: .ref (ad k) :: S) := by
  subst ha
  obtain ⟨p, l, e, s, m, args, below, meth, c, D, cI, cJ, cZ, ad', d', nL', post'⟩ := Γ
  obtain ⟨rfl, rfl, rfl, rfl, hx, hb, hml, hr, hlk, hown, hts, hK, hN, hAd⟩ := X
  intro H locs ls hP hS hl
  exact va_zald hx hb hK hP k 2 (wsl_at hy) rfl (vp_in_iff.mpr hin) hd (by subst hv; exact kk H locs ls hP hS hl)
theorem g_lald (X : gX Γ cc own nL ret d ad post) {k n : Nat} (hy : lay[k]? = some (1, n, [])) {i : Int32} {a : Int} (ha : i.toInt = a) (hd : decode cc pc = .ok (.laload, 1)) (hin : 0 ≤ a ∧ a < n) {x : Int64} (hv : M.2 k a.toNat = x) (kk : G Γ M (pc + 1) L (.long x :: S)) : G Γ M pc L (.int i :: .ref (ad k) :: S) := by
  subst ha
  obtain ⟨p, l, e, s, m, args, below, meth, c, D, cI, cJ, cZ, ad', d', nL', post'⟩ := Γ
  obtain ⟨rfl, rfl, rfl, rfl, hx, hb, hml, hr, hlk, hown, hts, hK, hN, hAd⟩ := X
  intro H locs ls hP hS hl
  exact va_lald hx hb hK hP k 1 (wsl_at hy) rfl (vp_in_iff.mpr hin) hd (by subst hv; exact kk H locs ls hP hS hl)
theorem g_iast (X : gX Γ cc own nL ret d ad post) {k n : Nat} (hy : lay[k]? = some (0, n, [])) {i : Int32} {a : Int} {x : Int32} (ha : i.toInt = a) (hd : decode cc pc = .ok (.iastore, 1)) (hin : 0 ≤ a ∧ a < n) (kk : G Γ (ui M k a.toNat x) (pc + 1) L S) : G Γ M pc L (.int x :: .int i :: .ref (ad k) :: S) := by
  subst ha
  obtain ⟨p, l, e, s, m, args, below, meth, c, D, cI, cJ, cZ, ad', d', nL', post'⟩ := Γ
  obtain ⟨rfl, rfl, rfl, rfl, hx, hb, hml, hr, hlk, hown, hts, hK, hN, hAd⟩ := X
  intro H locs ls hP hS hl
  refine va_iast hx hb hK hP (wsl_D hAd) hS k 0 (wsl_at hy) rfl (vp_in_iff.mpr hin) hd (fun H1 locs1 hP1 _ hS1 => ?_)
  have hset : (wsl ad' cI cJ cZ M).set k (ad' k, cellOf ad' cI cJ cZ (ui M k i.toInt.toNat x) k (0, n, [])) = wsl ad' cI cJ cZ (ui M k i.toInt.toNat x) :=
    wsl_set (M' := ui M k i.toInt.toNat x) hy (fun a ha => cellE_ne (by first | rfl | exact ui_cell ha) (by first | rfl | exact ul_cell ha))
  refine kk H1 locs1 ls ?_ hS1 hl
  rw [← hset]
  refine cast (congrArg (fun w => va_P D vwCl ((wsl ad' cI cJ cZ M).set k (ad' k, w)) H1) ?_) hP1
  exact congrArg (fun f => (Sum.inl (cI, n, Sum.inl f) : va_E)) (upd_ui (M := M) (k := k) (a := i.toInt.toNat) (x := x))
theorem g_zast (X : gX Γ cc own nL ret d ad post) {k n : Nat} (hy : lay[k]? = some (2, n, [])) {i : Int32} {a : Int} {x : Int32} (hb01 : x = 0 ∨ x = 1) (ha : i.toInt = a) (hd : decode cc pc = .ok (.bastore, 1)) (hin : 0 ≤ a ∧ a < n) (kk : G Γ (ui M k a.toNat x) (pc + 1) L S) : G Γ M pc L (.int x :: .int i :: .ref (ad k) :: S) := by
  subst ha
  obtain ⟨p, l, e, s, m, args, below, meth, c, D, cI, cJ, cZ, ad', d', nL', post'⟩ := Γ
  obtain ⟨rfl, rfl, rfl, rfl, hx, hb, hml, hr, hlk, hown, hts, hK, hN, hAd⟩ := X
  intro H locs ls hP hS hl
  refine va_zast hx hb hK hP (wsl_D hAd) hS k 2 (wsl_at hy) rfl (vp_in_iff.mpr hin) hd (fun H1 locs1 hP1 _ hS1 => ?_)
  have hset : (wsl ad' cI cJ cZ M).set k (ad' k, cellOf ad' cI cJ cZ (ui M k i.toInt.toNat x) k (2, n, [])) = wsl ad' cI cJ cZ (ui M k i.toInt.toNat x) :=
    wsl_set (M' := ui M k i.toInt.toNat x) hy (fun a ha => cellE_ne (by first | rfl | exact ui_cell ha) (by first | rfl | exact ul_cell ha))
  rw [bool_vp hb01] at hP1
  refine kk H1 locs1 ls ?_ hS1 hl
  rw [← hset]
  refine cast (congrArg (fun w => va_P D vwCl ((wsl ad' cI cJ cZ M).set k (ad' k, w)) H1) ?_) hP1
  exact congrArg (fun f => (Sum.inl (cZ, n, Sum.inl f) : va_E)) (upd_ui (M := M) (k := k) (a := i.toInt.toNat) (x := x))
theorem g_last (X : gX Γ cc own nL ret d ad post) {k n : Nat} (hy : lay[k]? = some (1, n, [])) {i : Int32} {a : Int} {x : Int64} (ha : i.toInt = a) (hd : decode cc pc = .ok (.lastore, 1)) (hin : 0 ≤ a ∧ a < n) (kk : G Γ (ul M k a.toNat x) (pc + 1) L S) : G Γ M pc L (.long x :: .int i :: .ref (ad k) :: S) := by
  subst ha
  obtain ⟨p, l, e, s, m, args, below, meth, c, D, cI, cJ, cZ, ad', d', nL', post'⟩ := Γ
  obtain ⟨rfl, rfl, rfl, rfl, hx, hb, hml, hr, hlk, hown, hts, hK, hN, hAd⟩ := X
  intro H locs ls hP hS hl
  refine va_last hx hb hK hP (wsl_D hAd) hS k 1 (wsl_at hy) rfl (vp_in_iff.mpr hin) hd (fun H1 locs1 hP1 _ hS1 => ?_)
  have hset : (wsl ad' cI cJ cZ M).set k (ad' k, cellOf ad' cI cJ cZ (ul M k i.toInt.toNat x) k (1, n, [])) = wsl ad' cI cJ cZ (ul M k i.toInt.toNat x) :=
    wsl_set (M' := ul M k i.toInt.toNat x) hy (fun a ha => cellE_ne (by first | rfl | exact ui_cell ha) (by first | rfl | exact ul_cell ha))
  refine kk H1 locs1 ls ?_ hS1 hl
  rw [← hset]
  refine cast (congrArg (fun w => va_P D vwCl ((wsl ad' cI cJ cZ M).set k (ad' k, w)) H1) ?_) hP1
  exact congrArg (fun f => (Sum.inl (cJ, n, Sum.inr (Sum.inl f)) : va_E)) (updL_ul (M := M) (k := k) (a := i.toInt.toNat) (x := x))
theorem g_alen (X : gX Γ cc own nL ret d ad post) {k n : Nat} (hy : lay[k]? = some (0, n, [])) (v : Int32) (hv : Int32.ofNat n = v) (hd : decode cc pc = .ok (.arraylength, 1)) (kk : G Γ M (pc + 1) L (.int v :: S)) : G Γ M pc L (.ref (ad k) :: S) := by
  obtain ⟨p, l, e, s, m, args, below, meth, c, D, cI, cJ, cZ, ad', d', nL', post'⟩ := Γ
  obtain ⟨rfl, rfl, rfl, rfl, hx, hb, hml, hr, hlk, hown, hts, hK, hN, hAd⟩ := X
  intro H locs ls hP hS hl
  exact va_alen hx hb hK hP k 0 (wsl_at hy) rfl (ty := .int) hv hd (kk H locs ls hP hS hl)
theorem g_lcmp (X : gX Γ cc own nL ret d ad post) {x y : Int64} {a b : Int} (ha : x.toInt = a) (hb' : y.toInt = b) (hd : decode cc pc = .ok (.lcmp, 1)) (kk : ∀ z : Int32, ((z.toInt = 1 ∧ b < a) ∨ (z.toInt = 0 ∧ a = b) ∨ (z.toInt = -1 ∧ a < b)) → G Γ M (pc + 1) L (.int z :: S)) : G Γ M pc L (.long y :: .long x :: S) := by
  obtain ⟨p, l, e, s, m, args, below, meth, c, D, cI, cJ, cZ, ad', d', nL', post'⟩ := Γ
  obtain ⟨rfl, rfl, rfl, rfl, hx, hb, hml, hr, hlk, hown, hts, hK, hN, hAd⟩ := X
  intro H locs ls hP hS hl
  refine W.lcmp hx hb hd (kk _ ?_ H locs ls hP hS hl)
  unfold lg_cmp
  by_cases h1 : y < x
  · rw [if_pos h1]; exact Or.inl ⟨by decide, by rw [← ha, ← hb']; exact Int64.lt_iff_toInt_lt.mp h1⟩
  · rw [if_neg h1]
    by_cases h2 : x = y
    · rw [if_pos h2]; exact Or.inr (Or.inl ⟨by decide, by rw [← ha, ← hb', h2]⟩)
    · rw [if_neg h2]
      refine Or.inr (Or.inr ⟨by decide, ?_⟩)
      rw [← ha, ← hb']
      have h3 : ¬ y.toInt < x.toInt := fun q => h1 (Int64.lt_iff_toInt_lt.mpr q)
      have h4 : x.toInt ≠ y.toInt := fun q => h2 (Int64.toInt_inj.mp q)
      omega
theorem g_tabIn (X : gX Γ cc own nL ret d ad post) {dflt lo hi : Int} {offs : Array Int} {len : Nat} {x : Int32} {a off : Int} {tgt : Nat} (hd : decode cc pc = .ok (.tableswitch dflt lo hi offs, len)) (ha : x.toInt = a) (h1 : lo ≤ a) (h2 : a ≤ hi) (ho : offs[(a - lo).toNat]? = some off) (ht : (pc : Int) + off = (tgt : Int)) (k : G Γ M tgt L S) : G Γ M pc L (.int x :: S) := by
  subst ha
  obtain ⟨p, l, e, s, m, args, below, meth, c, D, cI, cJ, cZ, ad', d', nL', post'⟩ := Γ
  obtain ⟨rfl, rfl, rfl, rfl, hx, hb, hml, hr, hlk, hown, hts, hK, hN, hAd⟩ := X
  intro H locs ls hP hS hl
  exact lv_tableIn hx hb hd (by omega) (by omega) ho ht (k H locs ls hP hS hl)
theorem g_tabOut (X : gX Γ cc own nL ret d ad post) {dflt lo hi : Int} {offs : Array Int} {len : Nat} {x : Int32} {a : Int} {tgt : Nat} (hd : decode cc pc = .ok (.tableswitch dflt lo hi offs, len)) (ha : x.toInt = a) (h1 : a < lo ∨ hi < a) (ht : (pc : Int) + dflt = (tgt : Int)) (k : G Γ M tgt L S) : G Γ M pc L (.int x :: S) := by
  subst ha
  obtain ⟨p, l, e, s, m, args, below, meth, c, D, cI, cJ, cZ, ad', d', nL', post'⟩ := Γ
  obtain ⟨rfl, rfl, rfl, rfl, hx, hb, hml, hr, hlk, hown, hts, hK, hN, hAd⟩ := X
  intro H locs ls hP hS hl
  exact lv_tableOut hx hb hd h1 ht (k H locs ls hP hS hl)
theorem g_lookup (X : gX Γ cc own nL ret d ad post) {dflt : Int} {ps : Array (Int × Int)} {len : Nat} {x : Int32} {a off : Int} {tgt : Nat} (hd : decode cc pc = .ok (.lookupswitch dflt ps, len)) (hp : (ps.toList.zip (ps.toList.drop 1)).all (fun (a, next) => a.1 < next.1) = true) (ha : x.toInt = a) (ho : Op.lookupswitch.offset ps.toList dflt a = off) (ht : (pc : Int) + off = (tgt : Int)) (k : G Γ M tgt L S) : G Γ M pc L (.int x :: S) := by
  subst ha
  obtain ⟨p, l, e, s, m, args, below, meth, c, D, cI, cJ, cZ, ad', d', nL', post'⟩ := Γ
  obtain ⟨rfl, rfl, rfl, rfl, hx, hb, hml, hr, hlk, hown, hts, hK, hN, hAd⟩ := X
  intro H locs ls hP hS hl
  exact lv_lookup hx hb hd hp ho ht (k H locs ls hP hS hl)
theorem g_iret (X : gX Γ cc own nL (some .int) d ad post) {x : Int32} (hd : decode cc pc = .ok (.ireturn, 1)) (hp : post (some (.int x)) M) : G Γ M pc L [.int x] := by
  obtain ⟨p, l, e, s, m, args, below, meth, c, D, cI, cJ, cZ, ad', d', nL', post'⟩ := Γ
  obtain ⟨rfl, rfl, rfl, rfl, hx, hb, hml, hr, hlk, hown, hts, hK, hN, hAd⟩ := X
  intro H locs ls hP hS hl
  exact W.iret hx hb hr (fun t ht _ => ⟨⟨_, M, rfl, hp, by rw [ht]; exact hP⟩, hS.F ht⟩) hS.2.2 hd hlk
theorem g_zret (X : gX Γ cc own nL (some .boolean) d ad post) {x : Int32} (hb01 : x = 0 ∨ x = 1) (hd : decode cc pc = .ok (.ireturn, 1)) (hp : post (some (.int x)) M) : G Γ M pc L [.int x] := by
  obtain ⟨p, l, e, s, m, args, below, meth, c, D, cI, cJ, cZ, ad', d', nL', post'⟩ := Γ
  obtain ⟨rfl, rfl, rfl, rfl, hx, hb, hml, hr, hlk, hown, hts, hK, hN, hAd⟩ := X
  intro H locs ls hP hS hl
  exact W.zret hx hb hr (bool_narrow hb01) (fun t ht _ => ⟨⟨_, M, rfl, hp, by rw [ht]; exact hP⟩, hS.F ht⟩) hS.2.2 hd hlk
theorem g_lret (X : gX Γ cc own nL (some .long) d ad post) {x : Int64} (hd : decode cc pc = .ok (.lreturn, 1)) (hp : post (some (.long x)) M) : G Γ M pc L [.long x] := by
  obtain ⟨p, l, e, s, m, args, below, meth, c, D, cI, cJ, cZ, ad', d', nL', post'⟩ := Γ
  obtain ⟨rfl, rfl, rfl, rfl, hx, hb, hml, hr, hlk, hown, hts, hK, hN, hAd⟩ := X
  intro H locs ls hP hS hl
  exact W.lret hx hb hr (fun t ht _ => ⟨⟨_, M, rfl, hp, by rw [ht]; exact hP⟩, hS.F ht⟩) hS.2.2 hd hlk
theorem g_vret (X : gX Γ cc own nL none d ad post) (hd : decode cc pc = .ok (.return_, 1)) (hp : post none M) : G Γ M pc L [] := by
  obtain ⟨p, l, e, s, m, args, below, meth, c, D, cI, cJ, cZ, ad', d', nL', post'⟩ := Γ
  obtain ⟨rfl, rfl, rfl, rfl, hx, hb, hml, hr, hlk, hown, hts, hK, hN, hAd⟩ := X
  intro H locs ls hP hS hl
  exact W.vret hx hb hr (fun t ht _ => ⟨⟨_, M, rfl, hp, by rw [ht]; exact hP⟩, hS.F ht⟩) hS.2.2 hd hlk
theorem gT_callee {y : MethodName} {cc : ByteArray} {nL : Nat} {ret : Option FieldType} (h : Cond.code y cc nL ret ∈ gT) : GoodIn gT (.code y cc nL ret :: gT) := by
  intro w hw
  rcases List.mem_cons.mp hw with rfl | hw
  · exact ⟨h, good_of_word (List.mem_filter.mp h).2⟩
  · exact gT_good (fun _ h => h) w hw
theorem wd_blind {ad : Nat → Nat} {D : va_G} {cI cJ cZ : ClassId} {M : Mem} {as : List Value} : FrameBlind (va_Pc as (Wd ad D cI cJ cZ M)) := by
  intro a U g mk h
  obtain ⟨h1, hP, hK, hN, hA⟩ := h
  exact ⟨h1, hP, va_K.moved (u := U) (U := U.calling g mk a) (Vm.Alike.refl U.vm) hK, nestOK.same (u := U) (U := U.calling g mk a) rfl hN, hA⟩
/-- behind a call -/
theorem g_back {p : Program} {l : Launch} {e : Env} {s : State} {m : MethodId} {args a : Array Value} {below : List Frame} {meth : Method} {c : Code} {D : va_G} {cI cJ cZ : ClassId} {post' : Post} {St : List Value} {H : Heap} {locs : List Loc} {ls : Array Slot}
    (hr : va_Run p l e (rmd d) s m args below meth c H locs 0 0 0 0 (F0 m pc ls St) S (Qg ad D cI cJ cZ post' a) (aA ad)) (hS : va_S (aA ad) s.heap H locs) (hl : lv_has ls nL L)
    (kk : ∀ v M', post' v M' → G (p, l, e, s, m, args, below, meth, c, D, cI, cJ, cZ, ad, d, nL, post) M' (pc + 3) L (v.toList ++ S)) : W p l e (rmd d) s m args below meth c H locs 0 0 (MQ below (Qg ad D cI cJ cZ post) args s 0 0 (aA ad)) (F0 m pc ls St) := by
  intro T hT X
  obtain ⟨v, st₀, t, T', Lc, h0, X', hL, e1, e2, ⟨⟨v', M', hv, hp, hb⟩, hz, hk⟩, st⟩ := hr T hT X
  cases hv
  rw [h0] at hz hk
  obtain ⟨t2, a1, b1⟩ := kk v M' hp T'.heap (locs ++ Lc) ls (by rw [e1]; exact hb)
    ⟨Nat.le_trans hS.1 (by rw [e1]; exact hz), fun q h1 h2 => by rw [e1, hk q (Nat.lt_of_lt_of_le h1 hS.1) h2]; exact hS.2.1 q h1 h2, fun q hq => by
      rcases List.mem_append.mp hq with h | h
      · exact hS.2.2 q h
      · exact hL q h⟩ hl T' rfl X'
  exact ⟨t2, st t2 a1, b1⟩
theorem g_callV (X : gX Γ cc own nL ret d ad post) {idx k nL' n d' : Nat} {y : MethodName} {cc' : ByteArray} {ret' : Option FieldType} {post' : Post} {As St : List Value} (h : MV own idx k y cc' nL' ret' n) (hc : Ctr ad y cc' nL' ret' d' (.ref (ad k) :: As) M post') (hn : As.length = n) (hd' : d' + 1 ≤ d ∧ 8 + (nL' + 11) + 38 * d' ≤ 38 * d) (hS8 : (S.map fun v => v.category).sum ≤ 8) (hst : St = As.reverse ++ .ref (ad k) :: S) (hd : decode cc pc = .ok (.invokevirtual idx, 3))
    (kk : ∀ v M', post' v M' → G Γ M' (pc + 3) L (v.toList ++ S)) : G Γ M pc L St := by
  obtain ⟨p, l, e, s, m, args, below, meth, c, D, cI, cJ, cZ, ad', d', nL', post'⟩ := Γ
  obtain ⟨rfl, rfl, rfl, rfl, hx, hb, hml, hr, hlk, hown, hts, hK, hN, hAd⟩ := X
  intro H locs ls hP hS hl
  obtain ⟨⟨ci, fs, T, N, h1, h2⟩, h3, h4, h5, h6, h7, h8⟩ := h
  have he : (wsl ad' cI cJ cZ M)[k]? = some (ad' k, .inr (ci, fs.mapIdx (fun j f => fv ad' M k j f))) := wsl_at h1
  have hrv := va_recv hK hP h2 he
  have hM := hc l D cI cJ cZ
  refine g_back (St := St) (a := (Value.ref (ad' k) :: As).toArray) ?_ hS hl kk
  rcases h3 with h3 | ⟨host, h3⟩
  · exact va_runV (As := As) (rest := S) (Ts := gT) ⟨hx, hb, hml, hown, hts⟩ hM ⟨callB_of n hts (gT_callee h7) rfl rfl rfl (hts _ h6) (hts _ h3) h8 hd', hts _ h4, hts _ h5⟩ ⟨wd_blind, hrv, fun U hU hW => ⟨rfl, by rw [hU]; exact hP, va_K.moved hW.alike hK, hN.warm hW, hAd⟩⟩ rfl hn hl.1 hst (lv_room hS8) hd ⟨Nat.le_refl _, Nat.le_refl _⟩
  · exact va_runVN (As := As) (rest := S) (Ts := gT) (host := host) ⟨hx, hb, hml, hown, hts⟩ hM ⟨va_cnB n hts (gT_callee h7) rfl rfl rfl (hN _ h3 rfl) (hts _ h6) h8 hd', hts _ h4, hts _ h5⟩ ⟨wd_blind, hrv, fun U hU hW => ⟨rfl, by rw [hU]; exact hP, va_K.moved hW.alike hK, hN.warm hW, hAd⟩⟩ rfl hn hl.1 hst (lv_room hS8) hd ⟨Nat.le_refl _, Nat.le_refl _⟩
theorem g_callS (X : gX Γ cc own nL ret d ad post) {idx nL' n d' : Nat} {y : MethodName} {cc' : ByteArray} {ret' : Option FieldType} {post' : Post} {As St : List Value} (h : MS own idx y cc' nL' ret' n) (hc : Ctr ad y cc' nL' ret' d' As M post') (hn : As.length = n) (hd' : d' + 1 ≤ d ∧ 8 + (nL' + 11) + 38 * d' ≤ 38 * d) (hS8 : (S.map fun v => v.category).sum ≤ 8) (hst : St = As.reverse ++ S) (hd : decode cc pc = .ok (.invokestatic idx, 3))
    (kk : ∀ v M', post' v M' → G Γ M' (pc + 3) L (v.toList ++ S)) : G Γ M pc L St := by
  obtain ⟨p, l, e, s, m, args, below, meth, c, D, cI, cJ, cZ, ad', d', nL', post'⟩ := Γ
  obtain ⟨rfl, rfl, rfl, rfl, hx, hb, hml, hr, hlk, hown, hts, hK, hN, hAd⟩ := X
  intro H locs ls hP hS hl
  obtain ⟨h3, h4, h6, h7, h8⟩ := h
  have hM := hc l D cI cJ cZ
  refine g_back (St := St) (a := As.toArray) ?_ hS hl kk
  rcases h3 with h3 | ⟨host, h3⟩
  · exact va_runS (As := As) (rest := S) (Ts := gT) ⟨hx, hb, hml, hown, hts⟩ hM ⟨callB_of n hts (gT_callee h7) rfl rfl rfl (hts _ h6) (hts _ h3) h8 hd', hts _ h4⟩ ⟨wd_blind, fun U hU hW => ⟨rfl, by rw [hU]; exact hP, va_K.moved hW.alike hK, hN.warm hW, hAd⟩⟩ rfl hn hl.1 hst (lv_room hS8) hd ⟨Nat.le_refl _, Nat.le_refl _⟩
  · exact va_runSN (As := As) (rest := S) (Ts := gT) (host := host) ⟨hx, hb, hml, hown, hts⟩ hM ⟨va_cnB n hts (gT_callee h7) rfl rfl rfl (hN _ h3 rfl) (hts _ h6) h8 hd', hts _ h4, trivial⟩ ⟨wd_blind, fun U hU hW => ⟨rfl, by rw [hU]; exact hP, va_K.moved hW.alike hK, hN.warm hW, hAd⟩⟩ rfl hn hl.1 hst (lv_room hS8) hd ⟨Nat.le_refl _, Nat.le_refl _⟩
theorem g_copy (X : gX Γ cc own nL ret d ad post) {idx k0 k n0 n1 : Nat} {sp dp n : Int32} {a b r : Int} (ha : sp.toInt = a) (hb' : dp.toInt = b) (hn : n.toInt = r) (hy0 : lay[k0]? = some (0, n0, [])) (hy : lay[k]? = some (0, n1, [])) (hlink : Cond.methodLink own idx arraycopyName ∈ gT) (hnat : Cond.native arraycopyName ∈ gT) (hst : Cond.static arraycopyName ∈ gT) (hini : Cond.initialized "java/lang/System" ∈ gT) (hd1 : 1 ≤ d) (hS8 : (S.map fun v => v.category).sum ≤ 8) (h : 0 ≤ a ∧ 0 ≤ b ∧ 0 ≤ r ∧ a + r ≤ n0 ∧ b + r ≤ n1) (hd : decode cc pc = .ok (.invokestatic idx, 3))
    (kk : G Γ (uc M k0 a.toNat k b.toNat r.toNat) (pc + 3) L S) : G Γ M pc L (.int n :: .int dp :: .ref (ad k) :: .int sp :: .ref (ad k0) :: S) := by
  subst ha; subst hb'; subst hn
  obtain ⟨p, l, e, s, m, args, below, meth, c, D, cI, cJ, cZ, ad', d', nL', post'⟩ := Γ
  obtain ⟨rfl, rfl, rfl, rfl, hx, hb, hml, hr, hlk, hown, hts, hK, hN, hAd⟩ := X
  intro H locs ls hP hS hl
  obtain ⟨z1, z2, z3, z4, z5⟩ := h
  have n1' : ∀ z : Int32, 0 ≤ z.toInt → ¬ z < 0 := fun z hz q => by
    have := Int32.lt_iff_toInt_lt.mp q
    rw [Int32.toInt_zero] at this
    omega
  have e1 : ∀ z : Int32, z.toNatClampNeg = z.toInt.toNat := fun z => rfl
  refine va_copyi hx hb (hml.trans hl.1.symm) hown (hts _ hlink) (hts _ hnat) (hts _ hst) (hts _ hini) hK hP (wsl_D hAd) hS k0 k 0 0 (ty := .int) (wsl_at hy0) (wsl_at hy) rfl rfl rfl (n1' _ z1) (n1' _ z2) (n1' _ z3) (by rw [e1, e1]; show _ ≤ n0; omega) (by rw [e1, e1]; show _ ≤ n1; omega) (fun _ _ => rfl) hd1 ?_ hd (fun H1 locs1 hP1 _ hS1 => ?_)
  · show (S.map fun v => v.category).sum + (nativeFrameWords "java/lang/System" "arraycopy" 5 + 11) ≤ 38 * d'
    have : nativeFrameWords "java/lang/System" "arraycopy" 5 = 7 := by decide
    omega
  have hset : (wsl ad' cI cJ cZ M).set k (ad' k, cellOf ad' cI cJ cZ (uc M k0 sp.toInt.toNat k dp.toInt.toNat n.toInt.toNat) k (0, n1, [])) = wsl ad' cI cJ cZ (uc M k0 sp.toInt.toNat k dp.toInt.toNat n.toInt.toNat) :=
    wsl_set (M' := uc M k0 sp.toInt.toNat k dp.toInt.toNat n.toInt.toNat) hy (fun a ha => cellE_ne (uc_cell ha) rfl)
  refine kk H1 locs1 ls ?_ hS1 hl
  rw [← hset]
  refine cast (congrArg (fun w => va_P D vwCl ((wsl ad' cI cJ cZ M).set k (ad' k, w)) H1) ?_) hP1
  exact congrArg (fun f => (Sum.inl (cI, n1, Sum.inl f) : va_E)) (cpy_uc (M := M) (k0 := k0) (k := k) (a := sp.toInt.toNat) (b := dp.toInt.toNat) (n := n.toInt.toNat))
end
