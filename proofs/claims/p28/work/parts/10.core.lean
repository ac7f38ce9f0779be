section
def gT : List Cond := lw_tbl.filter goodWord
def isNest : Cond → Bool
  | .fieldLinkNest _ _ _ _ _ _ => true
  | .methodLinkNest _ _ _ _ => true
  | _ => false
def nestOK (U : State) : Prop := ∀ w ∈ lw_tbl, isNest w = true → va_Nw w U
theorem nestOK.warm {s U : State} (hW : s.WarmedH U.vm) (h : nestOK s) : nestOK U := by
  intro w hw hn
  have h1 := h w hw hn
  unfold isNest at hn
  split at hn
  · exact va_Nw.warmF hW h1
  · exact va_Nw.warmM hW h1
  · cases hn
theorem nestOK.same {u U : State} (hvm : u.vm = U.vm) (h : nestOK u) : nestOK U := by
  intro w hw hn
  have h1 := h w hw hn
  unfold isNest at hn
  split at hn
  · exact va_Nw.same rfl hvm h1
  · exact va_Nw.same rfl hvm h1
  · cases hn
theorem gT_of {w : Cond} (i : Nat) (h : lw_tbl[i]? = some w) (hg : goodWord w = true) : w ∈ gT := List.mem_filter.mpr ⟨List.mem_of_getElem? h, hg⟩
theorem gT_in {w : Cond} (h : w ∈ gT) : w ∈ lw_tbl := (List.mem_filter.mp h).1
theorem gT_good {big : List Cond} (hb : ∀ w ∈ gT, w ∈ big) : GoodIn big gT := fun w h => ⟨hb w h, good_of_word (List.mem_filter.mp h).2⟩
abbrev Mem : Type := (Nat → Nat → Int32) × (Nat → Nat → Int64)
def ui (M : Mem) (k j : Nat) (x : Int32) : Mem := (fun a b => if a = k ∧ b = j then x else M.1 a b, M.2)
def ul (M : Mem) (k j : Nat) (x : Int64) : Mem := (M.1, fun a b => if a = k ∧ b = j then x else M.2 a b)
/-- a run of n places of cell k is copied from cell k0 -/
def uc (M : Mem) (k0 sp k dp n : Nat) : Mem := (fun a b => if a = k ∧ dp ≤ b ∧ b < dp + n then M.1 k0 (sp + (b - dp)) else M.1 a b, M.2)
theorem ui_1 (M : Mem) (k j : Nat) (x : Int32) (a b : Nat) : (ui M k j x).1 a b = if a = k ∧ b = j then x else M.1 a b := rfl
theorem ui_2 (M : Mem) (k j : Nat) (x : Int32) : (ui M k j x).2 = M.2 := rfl
theorem ul_1 (M : Mem) (k j : Nat) (x : Int64) : (ul M k j x).1 = M.1 := rfl
theorem ul_2 (M : Mem) (k j : Nat) (x : Int64) (a b : Nat) : (ul M k j x).2 a b = if a = k ∧ b = j then x else M.2 a b := rfl
theorem ui_eq {M : Mem} {k j : Nat} {x : Int32} : (ui M k j x).1 k j = x := by simp [ui]
theorem ui_nk {M : Mem} {k j : Nat} {x : Int32} {a b : Nat} (h : a ≠ k) : (ui M k j x).1 a b = M.1 a b := by simp [ui, h]
theorem ui_nj {M : Mem} {k j : Nat} {x : Int32} {a b : Nat} (h : b ≠ j) : (ui M k j x).1 a b = M.1 a b := by simp [ui, h]
theorem ul_eq {M : Mem} {k j : Nat} {x : Int64} : (ul M k j x).2 k j = x := by simp [ul]
theorem ul_nk {M : Mem} {k j : Nat} {x : Int64} {a b : Nat} (h : a ≠ k) : (ul M k j x).2 a b = M.2 a b := by simp [ul, h]
theorem ul_nj {M : Mem} {k j : Nat} {x : Int64} {a b : Nat} (h : b ≠ j) : (ul M k j x).2 a b = M.2 a b := by simp [ul, h]
def lay : List (Nat × Nat × List Nat) := [(3, 6, [3, 16, 25, 35, 39, 42, 48, 0]), (3, 5, [4, 5, 6, 0, 7, 8, 9, 10, 11, 12, 13, 1, 0, 14, 15, 0]), (0, 40, []), (0, 40, []), (0, 40, []), (0, 10, []), (0, 10, []), (0, 40, []), (0, 40, []), (0, 40, []), (0, 40, []), (1, 8, []), (0, 3, []), (0, 40, []), (3, 2, [17, 0, 18, 19, 0, 0, 20, 21, 22, 23, 24, 0, 0]), (0, 60, []), (0, 60, []), (0, 60, []), (0, 480, []), (0, 480, []), (0, 8, []), (0, 8, []), (0, 8, []), (3, 0, [26, 27, 0, 28, 29, 30, 31, 0, 32, 33, 34]), (0, 8, []), (0, 8, []), (0, 200, []), (0, 200, []), (0, 200, []), (2, 200, []), (0, 40, []), (1, 8, []), (0, 10, []), (3, 4, [3, 16, 36, 0, 37, 0, 38, 0, 0, 0, 0, 1, 1]), (0, 40, []), (0, 40, []), (0, 256, []), (3, 1, [3, 16, 40, 41, 1, 0, 0]), (0, 12350, []), (0, 192, []), (3, 3, [43, 44, 45, 46, 47, 0]), (0, 12, []), (0, 12, []), (0, 12, []), (0, 12, []), (0, 288, []), (0, 24, []), (3, 7, [50, 51, 52, 53, 54, 55, 56, 57, 58, 59, 60, 0, 0, 61, 0, 62, 63, 64, 65, 66, 0, 0, 0, 0, 0, 0, 67, 68, 69, 70, 71, 72, 0, 0, 1, 73, 74, 75, 76, 77, 78, 79, 80, 0, 0, 81, 82, 83, 84, 85, 86, 87, 0, 0, 88, 89, 90, 91, 92, 0]), (0, 40, []), (0, 40, []), (0, 40, []), (0, 10, []), (0, 10, []), (0, 40, []), (0, 40, []), (0, 40, []), (0, 40, []), (0, 40, []), (0, 3, []), (0, 40, []), (0, 60, []), (0, 480, []), (0, 8, []), (0, 8, []), (0, 60, []), (0, 9, []), (0, 9, []), (0, 500, []), (0, 500, []), (0, 40, []), (0, 40, []), (0, 5000, []), (0, 19375, []), (0, 19375, []), (0, 625, []), (0, 625, []), (0, 625, []), (0, 24, []), (0, 24, []), (0, 8, []), (0, 8, []), (0, 200, []), (0, 200, []), (0, 200, []), (2, 200, []), (2, 40, []), (0, 12, []), (0, 12, []), (0, 12, []), (0, 12, []), (0, 288, [])]
abbrev nC : Nat := 91
def fv (ad : Nat → Nat) (M : Mem) (k j : Nat) (f : Nat) : Value := match f with
  | 0 => .int (M.1 k j)
  | 1 => .long (M.2 k j)
  | r + 2 => .ref (ad r)
def cellOf (ad : Nat → Nat) (cI cJ cZ : ClassId) (M : Mem) (k : Nat) (y : Nat × Nat × List Nat) : va_E :=
  if y.1 = 0 then .inl (cI, y.2.1, .inl (M.1 k)) else if y.1 = 1 then .inl (cJ, y.2.1, .inr (.inl (M.2 k))) else if y.1 = 2 then .inl (cZ, y.2.1, .inl (M.1 k)) else .inr (y.2.1, y.2.2.mapIdx (fun j f => fv ad M k j f))
def cellE (ad : Nat → Nat) (cI cJ cZ : ClassId) (M : Mem) (k : Nat) : va_E := cellOf ad cI cJ cZ M k (lay.getD k (0, 0, []))
def wsl (ad : Nat → Nat) (cI cJ cZ : ClassId) (M : Mem) : va_W := (List.range nC).map (fun k => (ad k, cellE ad cI cJ cZ M k))
theorem lay_len : lay.length = nC := by decide +kernel
theorem lay_lt {k : Nat} {y : Nat × Nat × List Nat} (h : lay[k]? = some y) : k < nC := by
  rw [← lay_len]; exact (List.getElem?_eq_some_iff.mp h).1
theorem wsl_at {ad : Nat → Nat} {cI cJ cZ : ClassId} {M : Mem} {k : Nat} {y : Nat × Nat × List Nat} (h : lay[k]? = some y) : (wsl ad cI cJ cZ M)[k]? = some (ad k, cellOf ad cI cJ cZ M k y) := by
  have hk := lay_lt h
  simp [wsl, cellE, List.getD, h, hk]
theorem wsl_set {ad : Nat → Nat} {cI cJ cZ : ClassId} {M M' : Mem} {k : Nat} {y : Nat × Nat × List Nat} (h : lay[k]? = some y) (hne : ∀ j, j ≠ k → cellE ad cI cJ cZ M' j = cellE ad cI cJ cZ M j) : (wsl ad cI cJ cZ M).set k (ad k, cellOf ad cI cJ cZ M' k y) = wsl ad cI cJ cZ M' := by
  have hk := lay_lt h
  apply List.ext_getElem?
  intro i
  by_cases hi : i = k
  · subst hi
    rw [List.getElem?_set_self (by simp [wsl]; exact hk), wsl_at h]
  · rw [List.getElem?_set_ne (Ne.symm hi)]
    by_cases hn : i < nC
    · simp [wsl, hn, hne i hi]
    · simp [wsl, hn]
theorem fv_ne {ad : Nat → Nat} {M M' : Mem} {k : Nat} (h1 : M'.1 k = M.1 k) (h2 : M'.2 k = M.2 k) (j f : Nat) : fv ad M' k j f = fv ad M k j f := by
  unfold fv; split <;> simp [h1, h2]
theorem cellE_ne {ad : Nat → Nat} {cI cJ cZ : ClassId} {M M' : Mem} {k : Nat} (h1 : M'.1 k = M.1 k) (h2 : M'.2 k = M.2 k) : cellE ad cI cJ cZ M' k = cellE ad cI cJ cZ M k := by
  unfold cellE cellOf
  simp only [h1, h2, fv_ne h1 h2]
theorem ui_cell {M : Mem} {k j : Nat} {x : Int32} {a : Nat} (h : a ≠ k) : (ui M k j x).1 a = M.1 a := by funext b; simp [ui, h]
theorem ul_cell {M : Mem} {k j : Nat} {x : Int64} {a : Nat} (h : a ≠ k) : (ul M k j x).2 a = M.2 a := by funext b; simp [ul, h]
theorem uc_cell {M : Mem} {k0 sp k dp n : Nat} {a : Nat} (h : a ≠ k) : (uc M k0 sp k dp n).1 a = M.1 a := by funext b; simp [uc, h]
def AdOK (ad : Nat → Nat) : Prop := ∀ i j, i < nC → j < nC → ad i = ad j → i = j
def aA (ad : Nat → Nat) : Nat → Prop := fun q => ∃ k, k < nC ∧ q = ad k
theorem wsl_D {ad : Nat → Nat} {cI cJ cZ : ClassId} {M : Mem} (h : AdOK ad) : va_D (aA ad) (wsl ad cI cJ cZ M) := by
  refine ⟨fun i j p q hi hj hpq => ?_, fun k q hk => ?_⟩
  · have li : i < nC := by have := (List.getElem?_eq_some_iff.mp hi).1; simpa [wsl] using this
    have lj : j < nC := by have := (List.getElem?_eq_some_iff.mp hj).1; simpa [wsl] using this
    simp [wsl, li] at hi
    simp [wsl, lj] at hj
    rw [← hi, ← hj] at hpq
    exact h i j li lj hpq
  · have lk : k < nC := by have := (List.getElem?_eq_some_iff.mp hk).1; simpa [wsl] using this
    simp [wsl, lk] at hk
    rw [← hk]
    exact ⟨k, lk, rfl⟩
abbrev tyl (cI cJ cZ : ClassId) : List (ClassId × FieldType) := [(cI, .int), (cJ, .long), (cZ, .boolean)]
def Wd (ad : Nat → Nat) (D : va_G) (cI cJ cZ : ClassId) (M : Mem) (U : State) : Prop := va_P D vwCl (wsl ad cI cJ cZ M) U.heap ∧ va_K D vwCl (tyl cI cJ cZ) U ∧ nestOK U ∧ AdOK ad
abbrev Post : Type := Option Value → Mem → Prop
def Qg (ad : Nat → Nat) (D : va_G) (cI cJ cZ : ClassId) (post : Post) : Array Value → State → Outcome → State → Prop := fun _ st oc t => (∃ (v : Option Value) (M' : Mem), oc = .returned v ∧ post v M' ∧ va_P D vwCl (wsl ad cI cJ cZ M') t.heap) ∧ va_F (aA ad) st t
abbrev rmd (d : Nat) : Room := { frames := d, cells := 0, slots := 0, locals := 38 * d }
/-- a method's contract: at these arguments and this memory it returns, with post -/
def Ctr (ad : Nat → Nat) (y : MethodName) (cc : ByteArray) (nL : Nat) (ret : Option FieldType) (d : Nat) (as : List Value) (M : Mem) (post : Post) : Prop :=
  ∀ (l : Launch) (D : va_G) (cI cJ cZ : ClassId), Met l y (.code y cc nL ret :: gT) (rmd d) (va_Pc as (Wd ad D cI cJ cZ M)) (Qg ad D cI cJ cZ post) 0 0 (aA ad)
abbrev GC : Type := Program × Launch × Env × State × MethodId × Array Value × List Frame × Method × Code × va_G × ClassId × ClassId × ClassId × (Nat → Nat) × Nat × Nat × Post
def G (Γ : GC) (M : Mem) (pc : Nat) (L : List (Nat × Value)) (S : List Value) : Prop := match Γ with
  | (p, l, e, s, m, args, below, meth, c, D, cI, cJ, cZ, ad, d, nL, post) => ∀ (H : Heap) (locs : List Loc) (ls : Array Slot), va_P D vwCl (wsl ad cI cJ cZ M) H → va_S (aA ad) s.heap H locs → lv_has ls nL L →
    W p l e (rmd d) s m args below meth c H locs 0 0 (MQ below (Qg ad D cI cJ cZ post) args s 0 0 (aA ad)) (F0 m pc ls S)
def gX (Γ : GC) (cc : ByteArray) (own : String) (nL : Nat) (ret : Option FieldType) (d : Nat) (ad : Nat → Nat) (post : Post) : Prop := match Γ with
  | (p, l, e, s, m, args, below, meth, c, D, cI, cJ, cZ, ad', d', nL', post') => ad' = ad ∧ d' = d ∧ nL' = nL ∧ post' = post ∧ p.tables.exec = Jvm.exec ∧ c.code = cc ∧ c.maxLocals = nL ∧ meth.sig.returnType = ret ∧ meth.locks = false ∧ s.vm.findClass own = some m.cls ∧ (∀ w ∈ gT, w.before args s = true) ∧ va_K D vwCl (tyl cI cJ cZ) s ∧ nestOK s ∧ AdOK ad
theorem ctr_of {ad : Nat → Nat} {y : MethodName} {cc : ByteArray} {nL : Nat} {ret : Option FieldType} {d : Nat} {as : List Value} {M : Mem} {post : Post} {L : List (Nat × Value)} (hy : plainName y.cls = true) (hn : (lg_sl as).length ≤ nL) (hL : lv_args 0 as = L)
    (body : ∀ Γ : GC, gX Γ cc y.cls nL ret d ad post → G Γ M 0 L []) : Ctr ad y cc nL ret d as M post := by
  intro l D cI cJ cZ
  refine Met.ofW (cc := cc) (maxL := nL) (ret := ret) hy rfl ?_
  intro p e s m args below meth c s₁ B hml hv
  obtain ⟨rfl, hP, hK, hN, hAd⟩ := hv
  have hts := atoms_spec (ws := .code y cc nL ret :: gT) B.pre
  have hown : s.vm.findClass y.cls = some m.cls := findClass_of_methodNamed B.named
  have X : gX (p, l, e, s, m, as.toArray, below, meth, c, D, cI, cJ, cZ, ad, d, nL, post) cc y.cls nL ret d ad post :=
    ⟨rfl, rfl, rfl, rfl, B.exec, B.bytes, hml, B.returns, B.notSynchronized, hown, fun w hw => hts w (List.mem_cons_of_mem _ hw), hK, hN, hAd⟩
  have hl := lv_entry as (n := nL) hn
  rw [lg_entry_eq]
  rw [hL] at hl
  exact body _ X s.heap [] _ hP va_S.rf hl
theorem Ctr.weak {ad : Nat → Nat} {y : MethodName} {cc : ByteArray} {nL : Nat} {ret : Option FieldType} {d : Nat} {as : List Value} {M : Mem} {post post' : Post} (h : Ctr ad y cc nL ret d as M post) (hp : ∀ v M', post v M' → post' v M') : Ctr ad y cc nL ret d as M post' := by
  intro l D cI cJ cZ p e a1 a2 a3 s m args below a4 a5 a6 a7
  obtain ⟨t, o, b1, b2, b3, ⟨⟨⟨v, M', e1, e2, e3⟩, hF⟩, b5⟩⟩ := h l D cI cJ cZ p e a1 a2 a3 s m args below a4 a5 a6 a7
  exact ⟨t, o, b1, b2, b3, ⟨⟨⟨v, M', e1, hp v M' e2, e3⟩, hF⟩, b5⟩⟩
variable {Γ : GC} {cc : ByteArray} {own : String} {nL : Nat} {ret : Option FieldType} {d : Nat} {ad : Nat → Nat} {post : Post} {M : Mem} {pc : Nat} {L : List (Nat × Value)} {S : List Value}
/-- other locals: by their places -/
theorem g_sub {L' : List (Nat × Value)} (ks : List Nat) (hl : lv_pick L ks = L') (k : G Γ M pc L' S) : G Γ M pc L S := by
  obtain ⟨p, l, e, s, m, args, below, meth, c, D, cI, cJ, cZ, ad', d', nL', post'⟩ := Γ
  intro H locs ls hP hS h
  exact k H locs ls hP hS (lv_sub h ks hl)
theorem g_iconst (X : gX Γ cc own nL ret d ad post) {n : Int} (v : Int32) (hd : decode cc pc = .ok (.iconst n, 1)) (hv : Int32.ofInt n = v) (k : G Γ M (pc + 1) L (.int v :: S)) : G Γ M pc L S := by
  obtain ⟨p, l, e, s, m, args, below, meth, c, D, cI, cJ, cZ, ad', d', nL', post'⟩ := Γ
  obtain ⟨rfl, rfl, rfl, rfl, hx, hb, hml, hr, hlk, hown, hts, hK, hN, hAd⟩ := X
  intro H locs ls hP hS hl
  exact lv_iconst hx hb hd hv (k H locs ls hP hS hl)
theorem g_bipush (X : gX Γ cc own nL ret d ad post) {n : Int} (v : Int32) (hd : decode cc pc = .ok (.bipush n, 2)) (hv : (Int8.ofInt n).toInt32 = v) (k : G Γ M (pc + 2) L (.int v :: S)) : G Γ M pc L S := by
  obtain ⟨p, l, e, s, m, args, below, meth, c, D, cI, cJ, cZ, ad', d', nL', post'⟩ := Γ
  obtain ⟨rfl, rfl, rfl, rfl, hx, hb, hml, hr, hlk, hown, hts, hK, hN, hAd⟩ := X
  intro H locs ls hP hS hl
  exact lv_bipush hx hb hd hv (k H locs ls hP hS hl)
theorem g_sipush (X : gX Γ cc own nL ret d ad post) {n : Int} (v : Int32) (hd : decode cc pc = .ok (.sipush n, 3)) (hv : (Int16.ofInt n).toInt32 = v) (k : G Γ M (pc + 3) L (.int v :: S)) : G Γ M pc L S := by
  obtain ⟨p, l, e, s, m, args, below, meth, c, D, cI, cJ, cZ, ad', d', nL', post'⟩ := Γ
  obtain ⟨rfl, rfl, rfl, rfl, hx, hb, hml, hr, hlk, hown, hts, hK, hN, hAd⟩ := X
  intro H locs ls hP hS hl
  exact lv_sipush hx hb hd hv (k H locs ls hP hS hl)
theorem g_lconst (X : gX Γ cc own nL ret d ad post) {n : Fin 2} (v : Int64) (hd : decode cc pc = .ok (.lconst n, 1)) (hv : Int64.ofNat (n : Nat) = v) (k : G Γ M (pc + 1) L (.long v :: S)) : G Γ M pc L S := by
  obtain ⟨p, l, e, s, m, args, below, meth, c, D, cI, cJ, cZ, ad', d', nL', post'⟩ := Γ
  obtain ⟨rfl, rfl, rfl, rfl, hx, hb, hml, hr, hlk, hown, hts, hK, hN, hAd⟩ := X
  intro H locs ls hP hS hl
  exact lv_lconst hx hb hd hv (k H locs ls hP hS hl)
theorem g_ldc (X : gX Γ cc own nL ret d ad post) {i : Nat} {v : Int32} (hc : Cond.constant own i v ∈ gT) (hd : decode cc pc = .ok (.ldc i, 2)) (k : G Γ M (pc + 2) L (.int v :: S)) : G Γ M pc L S := by
  obtain ⟨p, l, e, s, m, args, below, meth, c, D, cI, cJ, cZ, ad', d', nL', post'⟩ := Γ
  obtain ⟨rfl, rfl, rfl, rfl, hx, hb, hml, hr, hlk, hown, hts, hK, hN, hAd⟩ := X
  intro H locs ls hP hS hl
  exact lv_ldc hx hb hown (hts _ hc) hd (k H locs ls hP hS hl)
theorem g_ldcw (X : gX Γ cc own nL ret d ad post) {i : Nat} {v : Int32} (hc : Cond.constant own i v ∈ gT) (hd : decode cc pc = .ok (.ldc_w i, 3)) (k : G Γ M (pc + 3) L (.int v :: S)) : G Γ M pc L S := by
  obtain ⟨p, l, e, s, m, args, below, meth, c, D, cI, cJ, cZ, ad', d', nL', post'⟩ := Γ
  obtain ⟨rfl, rfl, rfl, rfl, hx, hb, hml, hr, hlk, hown, hts, hK, hN, hAd⟩ := X
  intro H locs ls hP hS hl
  exact lv_ldcw hx hb hown (hts _ hc) hd (k H locs ls hP hS hl)
theorem g_ldc2 (X : gX Γ cc own nL ret d ad post) {i : Nat} {v : Int64} (hc : Cond.constantLong own i v ∈ gT) (hd : decode cc pc = .ok (.ldc2_w i, 3)) (k : G Γ M (pc + 3) L (.long v :: S)) : G Γ M pc L S := by
  obtain ⟨p, l, e, s, m, args, below, meth, c, D, cI, cJ, cZ, ad', d', nL', post'⟩ := Γ
  obtain ⟨rfl, rfl, rfl, rfl, hx, hb, hml, hr, hlk, hown, hts, hK, hN, hAd⟩ := X
  intro H locs ls hP hS hl
  exact lv_ldc2 hx hb hown (hts _ hc) hd (k H locs ls hP hS hl)
theorem g_iload (X : gX Γ cc own nL ret d ad post) (q : Nat) {i : Nat} {x : Int32} (hq : L[q]? = some (i, .int x)) (hd : decode cc pc = .ok (.iload i, 2)) (k : G Γ M (pc + 2) L (.int x :: S)) : G Γ M pc L S := by
  obtain ⟨p, l, e, s, m, args, below, meth, c, D, cI, cJ, cZ, ad', d', nL', post'⟩ := Γ
  obtain ⟨rfl, rfl, rfl, rfl, hx, hb, hml, hr, hlk, hown, hts, hK, hN, hAd⟩ := X
  intro H locs ls hP hS hl
  exact lv_iload hx hb hd (lv_at hl q hq) (k H locs ls hP hS hl)
theorem g_iload_n (X : gX Γ cc own nL ret d ad post) (q : Nat) {j : Fin 4} {x : Int32} (hq : L[q]? = some ((j : Nat), .int x)) (hd : decode cc pc = .ok (.iload_n j, 1)) (k : G Γ M (pc + 1) L (.int x :: S)) : G Γ M pc L S := by
  obtain ⟨p, l, e, s, m, args, below, meth, c, D, cI, cJ, cZ, ad', d', nL', post'⟩ := Γ
  obtain ⟨rfl, rfl, rfl, rfl, hx, hb, hml, hr, hlk, hown, hts, hK, hN, hAd⟩ := X
  intro H locs ls hP hS hl
  exact lv_iload_n hx hb hd rfl (lv_at hl q hq) (k H locs ls hP hS hl)
theorem g_lload (X : gX Γ cc own nL ret d ad post) (q : Nat) {i : Nat} {x : Int64} (hq : L[q]? = some (i, .long x)) (hd : decode cc pc = .ok (.lload i, 2)) (k : G Γ M (pc + 2) L (.long x :: S)) : G Γ M pc L S := by
  obtain ⟨p, l, e, s, m, args, below, meth, c, D, cI, cJ, cZ, ad', d', nL', post'⟩ := Γ
  obtain ⟨rfl, rfl, rfl, rfl, hx, hb, hml, hr, hlk, hown, hts, hK, hN, hAd⟩ := X
  intro H locs ls hP hS hl
  exact lv_lload hx hb hd (lv_at hl q hq) (k H locs ls hP hS hl)
theorem g_lload_n (X : gX Γ cc own nL ret d ad post) (q : Nat) {j : Fin 4} {x : Int64} (hq : L[q]? = some ((j : Nat), .long x)) (hd : decode cc pc = .ok (.lload_n j, 1)) (k : G Γ M (pc + 1) L (.long x :: S)) : G Γ M pc L S := by
  obtain ⟨p, l, e, s, m, args, below, meth, c, D, cI, cJ, cZ, ad', d', nL', post'⟩ := Γ
  obtain ⟨rfl, rfl, rfl, rfl, hx, hb, hml, hr, hlk, hown, hts, hK, hN, hAd⟩ := X
  intro H locs ls hP hS hl
  exact lv_lload_n hx hb hd rfl (lv_at hl q hq) (k H locs ls hP hS hl)
theorem g_aload (X : gX Γ cc own nL ret d ad post) (q : Nat) {i : Nat} {x : Nat} (hq : L[q]? = some (i, .ref x)) (hd : decode cc pc = .ok (.aload i, 2)) (k : G Γ M (pc + 2) L (.ref x :: S)) : G Γ M pc L S := by
  obtain ⟨p, l, e, s, m, args, below, meth, c, D, cI, cJ, cZ, ad', d', nL', post'⟩ := Γ
  obtain ⟨rfl, rfl, rfl, rfl, hx, hb, hml, hr, hlk, hown, hts, hK, hN, hAd⟩ := X
  intro H locs ls hP hS hl
  exact lv_aload hx hb hd (lv_at hl q hq) (k H locs ls hP hS hl)
theorem g_aload_n (X : gX Γ cc own nL ret d ad post) (q : Nat) {j : Fin 4} {x : Nat} (hq : L[q]? = some ((j : Nat), .ref x)) (hd : decode cc pc = .ok (.aload_n j, 1)) (k : G Γ M (pc + 1) L (.ref x :: S)) : G Γ M pc L S := by
  obtain ⟨p, l, e, s, m, args, below, meth, c, D, cI, cJ, cZ, ad', d', nL', post'⟩ := Γ
  obtain ⟨rfl, rfl, rfl, rfl, hx, hb, hml, hr, hlk, hown, hts, hK, hN, hAd⟩ := X
  intro H locs ls hP hS hl
  exact lv_aload_n hx hb hd rfl (lv_at hl q hq) (k H locs ls hP hS hl)
theorem g_istore (X : gX Γ cc own nL ret d ad post) {i : Nat} {x : Int32} (L' : List (Nat × Value)) (hd : decode cc pc = .ok (.istore i, 2)) (hn : i < nL) (hL : (i, Value.int x) :: L.filter (fun q => !(q.1 == i) && !(q.1 + 1 == i && q.2.category == 2)) = L') (k : G Γ M (pc + 2) L' S) : G Γ M pc L (.int x :: S) := by
  obtain ⟨p, l, e, s, m, args, below, meth, c, D, cI, cJ, cZ, ad', d', nL', post'⟩ := Γ
  obtain ⟨rfl, rfl, rfl, rfl, hx, hb, hml, hr, hlk, hown, hts, hK, hN, hAd⟩ := X
  intro H locs ls hP hS hl
  exact lv_istore hx hb hd hl hn hL (fun ls' hl' => k H locs ls' hP hS hl')
theorem g_istore_n (X : gX Γ cc own nL ret d ad post) {i : Nat} {j : Fin 4} {x : Int32} (L' : List (Nat × Value)) (hd : decode cc pc = .ok (.istore_n j, 1)) (hi : (j : Nat) = i) (hn : i < nL) (hL : (i, Value.int x) :: L.filter (fun q => !(q.1 == i) && !(q.1 + 1 == i && q.2.category == 2)) = L') (k : G Γ M (pc + 1) L' S) : G Γ M pc L (.int x :: S) := by
  obtain ⟨p, l, e, s, m, args, below, meth, c, D, cI, cJ, cZ, ad', d', nL', post'⟩ := Γ
  obtain ⟨rfl, rfl, rfl, rfl, hx, hb, hml, hr, hlk, hown, hts, hK, hN, hAd⟩ := X
  intro H locs ls hP hS hl
  exact lv_istore_n hx hb hd hi hl hn hL (fun ls' hl' => k H locs ls' hP hS hl')
theorem g_lstore (X : gX Γ cc own nL ret d ad post) {i : Nat} {x : Int64} (L' : List (Nat × Value)) (hd : decode cc pc = .ok (.lstore i, 2)) (hn : i + 1 < nL) (hL : (i, Value.long x) :: L.filter (fun q => !(q.1 == i) && (!(q.1 == i + 1) && !(q.1 + 1 == i && q.2.category == 2))) = L') (k : G Γ M (pc + 2) L' S) : G Γ M pc L (.long x :: S) := by
  obtain ⟨p, l, e, s, m, args, below, meth, c, D, cI, cJ, cZ, ad', d', nL', post'⟩ := Γ
  obtain ⟨rfl, rfl, rfl, rfl, hx, hb, hml, hr, hlk, hown, hts, hK, hN, hAd⟩ := X
  intro H locs ls hP hS hl
  exact lv_lstore hx hb hd hl hn hL (fun ls' hl' => k H locs ls' hP hS hl')
theorem g_lstore_n (X : gX Γ cc own nL ret d ad post) {i : Nat} {j : Fin 4} {x : Int64} (L' : List (Nat × Value)) (hd : decode cc pc = .ok (.lstore_n j, 1)) (hi : (j : Nat) = i) (hn : i + 1 < nL) (hL : (i, Value.long x) :: L.filter (fun q => !(q.1 == i) && (!(q.1 == i + 1) && !(q.1 + 1 == i && q.2.category == 2))) = L') (k : G Γ M (pc + 1) L' S) : G Γ M pc L (.long x :: S) := by
  obtain ⟨p, l, e, s, m, args, below, meth, c, D, cI, cJ, cZ, ad', d', nL', post'⟩ := Γ
  obtain ⟨rfl, rfl, rfl, rfl, hx, hb, hml, hr, hlk, hown, hts, hK, hN, hAd⟩ := X
  intro H locs ls hP hS hl
  exact lv_lstore_n hx hb hd hi hl hn hL (fun ls' hl' => k H locs ls' hP hS hl')
theorem g_astore (X : gX Γ cc own nL ret d ad post) {i : Nat} {x : Nat} (L' : List (Nat × Value)) (hd : decode cc pc = .ok (.astore i, 2)) (hn : i < nL) (hL : (i, Value.ref x) :: L.filter (fun q => !(q.1 == i) && !(q.1 + 1 == i && q.2.category == 2)) = L') (k : G Γ M (pc + 2) L' S) : G Γ M pc L (.ref x :: S) := by
  obtain ⟨p, l, e, s, m, args, below, meth, c, D, cI, cJ, cZ, ad', d', nL', post'⟩ := Γ
  obtain ⟨rfl, rfl, rfl, rfl, hx, hb, hml, hr, hlk, hown, hts, hK, hN, hAd⟩ := X
  intro H locs ls hP hS hl
  exact lv_astore hx hb hd hl hn hL (fun ls' hl' => k H locs ls' hP hS hl')
theorem g_astore_n (X : gX Γ cc own nL ret d ad post) {i : Nat} {j : Fin 4} {x : Nat} (L' : List (Nat × Value)) (hd : decode cc pc = .ok (.astore_n j, 1)) (hi : (j : Nat) = i) (hn : i < nL) (hL : (i, Value.ref x) :: L.filter (fun q => !(q.1 == i) && !(q.1 + 1 == i && q.2.category == 2)) = L') (k : G Γ M (pc + 1) L' S) : G Γ M pc L (.ref x :: S) := by
  obtain ⟨p, l, e, s, m, args, below, meth, c, D, cI, cJ, cZ, ad', d', nL', post'⟩ := Γ
  obtain ⟨rfl, rfl, rfl, rfl, hx, hb, hml, hr, hlk, hown, hts, hK, hN, hAd⟩ := X
  intro H locs ls hP hS hl
  exact lv_astore_n hx hb hd hi hl hn hL (fun ls' hl' => k H locs ls' hP hS hl')
theorem g_iinc (X : gX Γ cc own nL ret d ad post) (q : Nat) {i : Nat} {n : Int} {x : Int32} (L' : Int32 → List (Nat × Value)) (hd : decode cc pc = .ok (.iinc i n, 3)) (hq : L[q]? = some (i, .int x)) (hn : i < nL) (hL : ∀ v, (i, Value.int v) :: L.filter (fun q => !(q.1 == i) && !(q.1 + 1 == i && q.2.category == 2)) = L' v) (k : ∀ v : Int32, v = x + Int32.ofInt n → G Γ M (pc + 3) (L' v) S) : G Γ M pc L S := by
  obtain ⟨p, l, e, s, m, args, below, meth, c, D, cI, cJ, cZ, ad', d', nL', post'⟩ := Γ
  obtain ⟨rfl, rfl, rfl, rfl, hx, hb, hml, hr, hlk, hown, hts, hK, hN, hAd⟩ := X
  intro H locs ls hP hS hl
  exact lv_iinc (k := q) hx hb hd hl hq rfl hn (hL _) (fun ls' hl' => k _ rfl H locs ls' hP hS hl')
theorem g_iadd (X : gX Γ cc own nL ret d ad post) {x y : Int32} (hd : decode cc pc = .ok (.iadd, 1)) (k : ∀ z : Int32, z = x + y → G Γ M (pc + 1) L (.int z :: S)) : G Γ M pc L (.int y :: .int x :: S) := by
  obtain ⟨p, l, e, s, m, args, below, meth, c, D, cI, cJ, cZ, ad', d', nL', post'⟩ := Γ
  obtain ⟨rfl, rfl, rfl, rfl, hx, hb, hml, hr, hlk, hown, hts, hK, hN, hAd⟩ := X
  intro H locs ls hP hS hl
  exact lv_iadd hx hb hd (k _ rfl H locs ls hP hS hl)
theorem g_isub (X : gX Γ cc own nL ret d ad post) {x y : Int32} (hd : decode cc pc = .ok (.isub, 1)) (k : ∀ z : Int32, z = x - y → G Γ M (pc + 1) L (.int z :: S)) : G Γ M pc L (.int y :: .int x :: S) := by
  obtain ⟨p, l, e, s, m, args, below, meth, c, D, cI, cJ, cZ, ad', d', nL', post'⟩ := Γ
  obtain ⟨rfl, rfl, rfl, rfl, hx, hb, hml, hr, hlk, hown, hts, hK, hN, hAd⟩ := X
  intro H locs ls hP hS hl
  exact lv_isub hx hb hd (k _ rfl H locs ls hP hS hl)
theorem g_imul (X : gX Γ cc own nL ret d ad post) {x y : Int32} (hd : decode cc pc = .ok (.imul, 1)) (k : ∀ z : Int32, z = x * y → G Γ M (pc + 1) L (.int z :: S)) : G Γ M pc L (.int y :: .int x :: S) := by
  obtain ⟨p, l, e, s, m, args, below, meth, c, D, cI, cJ, cZ, ad', d', nL', post'⟩ := Γ
  obtain ⟨rfl, rfl, rfl, rfl, hx, hb, hml, hr, hlk, hown, hts, hK, hN, hAd⟩ := X
  intro H locs ls hP hS hl
  exact lv_imul hx hb hd (k _ rfl H locs ls hP hS hl)
theorem g_iand (X : gX Γ cc own nL ret d ad post) {x y : Int32} (hd : decode cc pc = .ok (.iand, 1)) (k : ∀ z : Int32, z = x &&& y → G Γ M (pc + 1) L (.int z :: S)) : G Γ M pc L (.int y :: .int x :: S) := by
  obtain ⟨p, l, e, s, m, args, below, meth, c, D, cI, cJ, cZ, ad', d', nL', post'⟩ := Γ
  obtain ⟨rfl, rfl, rfl, rfl, hx, hb, hml, hr, hlk, hown, hts, hK, hN, hAd⟩ := X
  intro H locs ls hP hS hl
  exact lv_iand hx hb hd (k _ rfl H locs ls hP hS hl)
theorem g_ior (X : gX Γ cc own nL ret d ad post) {x y : Int32} (hd : decode cc pc = .ok (.ior, 1)) (k : ∀ z : Int32, z = x ||| y → G Γ M (pc + 1) L (.int z :: S)) : G Γ M pc L (.int y :: .int x :: S) := by
  obtain ⟨p, l, e, s, m, args, below, meth, c, D, cI, cJ, cZ, ad', d', nL', post'⟩ := Γ
  obtain ⟨rfl, rfl, rfl, rfl, hx, hb, hml, hr, hlk, hown, hts, hK, hN, hAd⟩ := X
  intro H locs ls hP hS hl
  exact lv_ior hx hb hd (k _ rfl H locs ls hP hS hl)
theorem g_ixor (X : gX Γ cc own nL ret d ad post) {x y : Int32} (hd : decode cc pc = .ok (.ixor, 1)) (k : ∀ z : Int32, z = x ^^^ y → G Γ M (pc + 1) L (.int z :: S)) : G Γ M pc L (.int y :: .int x :: S) := by
  obtain ⟨p, l, e, s, m, args, below, meth, c, D, cI, cJ, cZ, ad', d', nL', post'⟩ := Γ
  obtain ⟨rfl, rfl, rfl, rfl, hx, hb, hml, hr, hlk, hown, hts, hK, hN, hAd⟩ := X
  intro H locs ls hP hS hl
  exact lv_ixor hx hb hd (k _ rfl H locs ls hP hS hl)
theorem g_ishl (X : gX Γ cc own nL ret d ad post) {x y : Int32} (hd : decode cc pc = .ok (.ishl, 1)) (k : ∀ z : Int32, z = x <<< (y &&& 31) → G Γ M (pc + 1) L (.int z :: S)) : G Γ M pc L (.int y :: .int x :: S) := by
  obtain ⟨p, l, e, s, m, args, below, meth, c, D, cI, cJ, cZ, ad', d', nL', post'⟩ := Γ
  obtain ⟨rfl, rfl, rfl, rfl, hx, hb, hml, hr, hlk, hown, hts, hK, hN, hAd⟩ := X
  intro H locs ls hP hS hl
  exact lv_ishl hx hb hd (k _ rfl H locs ls hP hS hl)
theorem g_ishr (X : gX Γ cc own nL ret d ad post) {x y : Int32} (hd : decode cc pc = .ok (.ishr, 1)) (k : ∀ z : Int32, z = x >>> (y &&& 31) → G Γ M (pc + 1) L (.int z :: S)) : G Γ M pc L (.int y :: .int x :: S) := by
  obtain ⟨p, l, e, s, m, args, below, meth, c, D, cI, cJ, cZ, ad', d', nL', post'⟩ := Γ
  obtain ⟨rfl, rfl, rfl, rfl, hx, hb, hml, hr, hlk, hown, hts, hK, hN, hAd⟩ := X
  intro H locs ls hP hS hl
  exact lv_ishr hx hb hd (k _ rfl H locs ls hP hS hl)
theorem g_idiv (X : gX Γ cc own nL ret d ad post) {x y : Int32} (hd : decode cc pc = .ok (.idiv, 1)) (hne : ¬ y = 0) (k : ∀ z : Int32, z = x / y → G Γ M (pc + 1) L (.int z :: S)) : G Γ M pc L (.int y :: .int x :: S) := by
  obtain ⟨p, l, e, s, m, args, below, meth, c, D, cI, cJ, cZ, ad', d', nL', post'⟩ := Γ
  obtain ⟨rfl, rfl, rfl, rfl, hx, hb, hml, hr, hlk, hown, hts, hK, hN, hAd⟩ := X
  intro H locs ls hP hS hl
  exact lv_idiv hx hb hd hne (k _ rfl H locs ls hP hS hl)
theorem g_irem (X : gX Γ cc own nL ret d ad post) {x y : Int32} (hd : decode cc pc = .ok (.irem, 1)) (hne : ¬ y = 0) (k : ∀ z : Int32, z = x - x / y * y → G Γ M (pc + 1) L (.int z :: S)) : G Γ M pc L (.int y :: .int x :: S) := by
  obtain ⟨p, l, e, s, m, args, below, meth, c, D, cI, cJ, cZ, ad', d', nL', post'⟩ := Γ
  obtain ⟨rfl, rfl, rfl, rfl, hx, hb, hml, hr, hlk, hown, hts, hK, hN, hAd⟩ := X
  intro H locs ls hP hS hl
  exact lv_irem hx hb hd hne (k _ rfl H locs ls hP hS hl)
theorem g_ladd (X : gX Γ cc own nL ret d ad post) {x y : Int64} (hd : decode cc pc = .ok (.ladd, 1)) (k : ∀ z : Int64, z = x + y → G Γ M (pc + 1) L (.long z :: S)) : G Γ M pc L (.long y :: .long x :: S) := by
  obtain ⟨p, l, e, s, m, args, below, meth, c, D, cI, cJ, cZ, ad', d', nL', post'⟩ := Γ
  obtain ⟨rfl, rfl, rfl, rfl, hx, hb, hml, hr, hlk, hown, hts, hK, hN, hAd⟩ := X
  intro H locs ls hP hS hl
  exact lv_ladd hx hb hd (k _ rfl H locs ls hP hS hl)
theorem g_lsub (X : gX Γ cc own nL ret d ad post) {x y : Int64} (hd : decode cc pc = .ok (.lsub, 1)) (k : ∀ z : Int64, z = x - y → G Γ M (pc + 1) L (.long z :: S)) : G Γ M pc L (.long y :: .long x :: S) := by
  obtain ⟨p, l, e, s, m, args, below, meth, c, D, cI, cJ, cZ, ad', d', nL', post'⟩ := Γ
  obtain ⟨rfl, rfl, rfl, rfl, hx, hb, hml, hr, hlk, hown, hts, hK, hN, hAd⟩ := X
  intro H locs ls hP hS hl
  exact lv_lsub hx hb hd (k _ rfl H locs ls hP hS hl)
theorem g_lmul (X : gX Γ cc own nL ret d ad post) {x y : Int64} (hd : decode cc pc = .ok (.lmul, 1)) (k : ∀ z : Int64, z = x * y → G Γ M (pc + 1) L (.long z :: S)) : G Γ M pc L (.long y :: .long x :: S) := by
  obtain ⟨p, l, e, s, m, args, below, meth, c, D, cI, cJ, cZ, ad', d', nL', post'⟩ := Γ
  obtain ⟨rfl, rfl, rfl, rfl, hx, hb, hml, hr, hlk, hown, hts, hK, hN, hAd⟩ := X
  intro H locs ls hP hS hl
  exact lv_lmul hx hb hd (k _ rfl H locs ls hP hS hl)
theorem g_land (X : gX Γ cc own nL ret d ad post) {x y : Int64} (hd : decode cc pc = .ok (.land, 1)) (k : ∀ z : Int64, z = x &&& y → G Γ M (pc + 1) L (.long z :: S)) : G Γ M pc L (.long y :: .long x :: S) := by
  obtain ⟨p, l, e, s, m, args, below, meth, c, D, cI, cJ, cZ, ad', d', nL', post'⟩ := Γ
  obtain ⟨rfl, rfl, rfl, rfl, hx, hb, hml, hr, hlk, hown, hts, hK, hN, hAd⟩ := X
  intro H locs ls hP hS hl
  exact lv_land hx hb hd (k _ rfl H locs ls hP hS hl)
theorem g_lor (X : gX Γ cc own nL ret d ad post) {x y : Int64} (hd : decode cc pc = .ok (.lor, 1)) (k : ∀ z : Int64, z = x ||| y → G Γ M (pc + 1) L (.long z :: S)) : G Γ M pc L (.long y :: .long x :: S) := by
  obtain ⟨p, l, e, s, m, args, below, meth, c, D, cI, cJ, cZ, ad', d', nL', post'⟩ := Γ
  obtain ⟨rfl, rfl, rfl, rfl, hx, hb, hml, hr, hlk, hown, hts, hK, hN, hAd⟩ := X
  intro H locs ls hP hS hl
  exact lv_lor hx hb hd (k _ rfl H locs ls hP hS hl)
theorem g_lxor (X : gX Γ cc own nL ret d ad post) {x y : Int64} (hd : decode cc pc = .ok (.lxor, 1)) (k : ∀ z : Int64, z = x ^^^ y → G Γ M (pc + 1) L (.long z :: S)) : G Γ M pc L (.long y :: .long x :: S) := by
  obtain ⟨p, l, e, s, m, args, below, meth, c, D, cI, cJ, cZ, ad', d', nL', post'⟩ := Γ
  obtain ⟨rfl, rfl, rfl, rfl, hx, hb, hml, hr, hlk, hown, hts, hK, hN, hAd⟩ := X
  intro H locs ls hP hS hl
  exact lv_lxor hx hb hd (k _ rfl H locs ls hP hS hl)
theorem g_ldiv (X : gX Γ cc own nL ret d ad post) {x y : Int64} (hd : decode cc pc = .ok (.ldiv, 1)) (hne : ¬ y = 0) (k : ∀ z : Int64, z = x / y → G Γ M (pc + 1) L (.long z :: S)) : G Γ M pc L (.long y :: .long x :: S) := by
  obtain ⟨p, l, e, s, m, args, below, meth, c, D, cI, cJ, cZ, ad', d', nL', post'⟩ := Γ
  obtain ⟨rfl, rfl, rfl, rfl, hx, hb, hml, hr, hlk, hown, hts, hK, hN, hAd⟩ := X
  intro H locs ls hP hS hl
  exact lv_ldiv hx hb hd hne (k _ rfl H locs ls hP hS hl)
theorem g_lrem (X : gX Γ cc own nL ret d ad post) {x y : Int64} (hd : decode cc pc = .ok (.lrem, 1)) (hne : ¬ y = 0) (k : ∀ z : Int64, z = x - x / y * y → G Γ M (pc + 1) L (.long z :: S)) : G Γ M pc L (.long y :: .long x :: S) := by
  obtain ⟨p, l, e, s, m, args, below, meth, c, D, cI, cJ, cZ, ad', d', nL', post'⟩ := Γ
  obtain ⟨rfl, rfl, rfl, rfl, hx, hb, hml, hr, hlk, hown, hts, hK, hN, hAd⟩ := X
  intro H locs ls hP hS hl
  exact lv_lrem hx hb hd hne (k _ rfl H locs ls hP hS hl)
theorem g_lshl (X : gX Γ cc own nL ret d ad post) {x : Int64} {y : Int32} (hd : decode cc pc = .ok (.lshl, 1)) (k : ∀ z : Int64, z = x <<< (y.toInt64 &&& 63) → G Γ M (pc + 1) L (.long z :: S)) : G Γ M pc L (.int y :: .long x :: S) := by
  obtain ⟨p, l, e, s, m, args, below, meth, c, D, cI, cJ, cZ, ad', d', nL', post'⟩ := Γ
  obtain ⟨rfl, rfl, rfl, rfl, hx, hb, hml, hr, hlk, hown, hts, hK, hN, hAd⟩ := X
  intro H locs ls hP hS hl
  exact lv_lshl hx hb hd rfl (k _ rfl H locs ls hP hS hl)
theorem g_lshr (X : gX Γ cc own nL ret d ad post) {x : Int64} {y : Int32} (hd : decode cc pc = .ok (.lshr, 1)) (k : ∀ z : Int64, z = x >>> (y.toInt64 &&& 63) → G Γ M (pc + 1) L (.long z :: S)) : G Γ M pc L (.int y :: .long x :: S) := by
  obtain ⟨p, l, e, s, m, args, below, meth, c, D, cI, cJ, cZ, ad', d', nL', post'⟩ := Γ
  obtain ⟨rfl, rfl, rfl, rfl, hx, hb, hml, hr, hlk, hown, hts, hK, hN, hAd⟩ := X
  intro H locs ls hP hS hl
  exact lv_lshr hx hb hd rfl (k _ rfl H locs ls hP hS hl)
theorem g_lushr (X : gX Γ cc own nL ret d ad post) {x : Int64} {y : Int32} (hd : decode cc pc = .ok (.lushr, 1)) (k : ∀ z : Int64, z = (x.toUInt64 >>> (y.toInt64.toUInt64 &&& Int64.toUInt64 63)).toInt64 → G Γ M (pc + 1) L (.long z :: S)) : G Γ M pc L (.int y :: .long x :: S) := by
  obtain ⟨p, l, e, s, m, args, below, meth, c, D, cI, cJ, cZ, ad', d', nL', post'⟩ := Γ
  obtain ⟨rfl, rfl, rfl, rfl, hx, hb, hml, hr, hlk, hown, hts, hK, hN, hAd⟩ := X
  intro H locs ls hP hS hl
  exact lv_lushr hx hb hd rfl (k _ rfl H locs ls hP hS hl)
theorem g_i2l (X : gX Γ cc own nL ret d ad post) {x : Int32} (hd : decode cc pc = .ok (.i2l, 1)) (k : ∀ z : Int64, z = x.toInt64 → G Γ M (pc + 1) L (.long z :: S)) : G Γ M pc L (.int x :: S) := by
  obtain ⟨p, l, e, s, m, args, below, meth, c, D, cI, cJ, cZ, ad', d', nL', post'⟩ := Γ
  obtain ⟨rfl, rfl, rfl, rfl, hx, hb, hml, hr, hlk, hown, hts, hK, hN, hAd⟩ := X
  intro H locs ls hP hS hl
  exact lv_i2l hx hb hd rfl (k _ rfl H locs ls hP hS hl)
theorem g_l2i (X : gX Γ cc own nL ret d ad post) {x : Int64} (hd : decode cc pc = .ok (.l2i, 1)) (k : ∀ z : Int32, z = x.toInt32 → G Γ M (pc + 1) L (.int z :: S)) : G Γ M pc L (.long x :: S) := by
  obtain ⟨p, l, e, s, m, args, below, meth, c, D, cI, cJ, cZ, ad', d', nL', post'⟩ := Γ
  obtain ⟨rfl, rfl, rfl, rfl, hx, hb, hml, hr, hlk, hown, hts, hK, hN, hAd⟩ := X
  intro H locs ls hP hS hl
  exact lv_l2i hx hb hd rfl (k _ rfl H locs ls hP hS hl)
theorem g_pop (X : gX Γ cc own nL ret d ad post) {v : Value} (hd : decode cc pc = .ok (.pop, 1)) (hv : v.category = 1) (k : G Γ M (pc + 1) L S) : G Γ M pc L (v :: S) := by
  obtain ⟨p, l, e, s, m, args, below, meth, c, D, cI, cJ, cZ, ad', d', nL', post'⟩ := Γ
  obtain ⟨rfl, rfl, rfl, rfl, hx, hb, hml, hr, hlk, hown, hts, hK, hN, hAd⟩ := X
  intro H locs ls hP hS hl
  exact lv_pop hx hb hd hv (k H locs ls hP hS hl)
theorem g_dup (X : gX Γ cc own nL ret d ad post) {v : Value} (hd : decode cc pc = .ok (.dup, 1)) (hv : v.category = 1) (k : G Γ M (pc + 1) L (v :: v :: S)) : G Γ M pc L (v :: S) := by
  obtain ⟨p, l, e, s, m, args, below, meth, c, D, cI, cJ, cZ, ad', d', nL', post'⟩ := Γ
  obtain ⟨rfl, rfl, rfl, rfl, hx, hb, hml, hr, hlk, hown, hts, hK, hN, hAd⟩ := X
  intro H locs ls hP hS hl
  exact lv_dup hx hb hd hv (k H locs ls hP hS hl)
theorem g_dup2 (X : gX Γ cc own nL ret d ad post) {v u : Value} (hd : decode cc pc = .ok (.dup2, 1)) (hv : v.category = 1) (hu : u.category = 1) (k : G Γ M (pc + 1) L (v :: u :: v :: u :: S)) : G Γ M pc L (v :: u :: S) := by
  obtain ⟨p, l, e, s, m, args, below, meth, c, D, cI, cJ, cZ, ad', d', nL', post'⟩ := Γ
  obtain ⟨rfl, rfl, rfl, rfl, hx, hb, hml, hr, hlk, hown, hts, hK, hN, hAd⟩ := X
  intro H locs ls hP hS hl
  exact lv_dup2_11 hx hb hd hv hu (k H locs ls hP hS hl)
theorem g_goto (X : gX Γ cc own nL ret d ad post) {off : Int} {tgt : Nat} (hd : decode cc pc = .ok (.goto off, 3)) (ht : (pc : Int) + off = (tgt : Int)) (k : G Γ M tgt L S) : G Γ M pc L S := by
  obtain ⟨p, l, e, s, m, args, below, meth, c, D, cI, cJ, cZ, ad', d', nL', post'⟩ := Γ
  obtain ⟨rfl, rfl, rfl, rfl, hx, hb, hml, hr, hlk, hown, hts, hK, hN, hAd⟩ := X
  intro H locs ls hP hS hl
  exact lv_goto hx hb hd ht (k H locs ls hP hS hl)
theorem g_icmp_eq (X : gX Γ cc own nL ret d ad post) {x y : Int32} {a b : Int} (ha : x.toInt = a) (hb' : y.toInt = b) {off : Int} {tgt : Nat} (hd : decode cc pc = .ok (.if_icmp .eq off, 3)) (ht : (pc : Int) + off = (tgt : Int)) (kt : a = b → G Γ M tgt L S) (kf : a ≠ b → G Γ M (pc + 3) L S) : G Γ M pc L (.int y :: .int x :: S) := by
  obtain ⟨p, l, e, s, m, args, below, meth, c, D, cI, cJ, cZ, ad', d', nL', post'⟩ := Γ
  obtain ⟨rfl, rfl, rfl, rfl, hx, hb, hml, hr, hlk, hown, hts, hK, hN, hAd⟩ := X
  intro H locs ls hP hS hl
  refine lv_icmp_eq hx hb hd ht (fun h => ?_) (fun h => ?_)
  · exact (fun h => kt (by rw [← ha, ← hb', h])) h H locs ls hP hS hl
  · exact (fun h => kf (fun q => h (Int32.toInt_inj.mp (by rw [ha, hb', q])))) h H locs ls hP hS hl
theorem g_if_eq (X : gX Γ cc own nL ret d ad post) {x : Int32} {a : Int} (ha : x.toInt = a) {off : Int} {tgt : Nat} (hd : decode cc pc = .ok (.ifCond .eq off, 3)) (ht : (pc : Int) + off = (tgt : Int)) (kt : a = 0 → G Γ M tgt L S) (kf : a ≠ 0 → G Γ M (pc + 3) L S) : G Γ M pc L (.int x :: S) := by
  obtain ⟨p, l, e, s, m, args, below, meth, c, D, cI, cJ, cZ, ad', d', nL', post'⟩ := Γ
  obtain ⟨rfl, rfl, rfl, rfl, hx, hb, hml, hr, hlk, hown, hts, hK, hN, hAd⟩ := X
  intro H locs ls hP hS hl
  refine lv_if_eq hx hb hd ht (fun h => ?_) (fun h => ?_)
  · exact (fun h => kt (by rw [← ha, h]; exact Int32.toInt_zero)) h H locs ls hP hS hl
  · exact (fun h => kf (fun q => h (Int32.toInt_inj.mp (by rw [ha, q, Int32.toInt_zero])))) h H locs ls hP hS hl
theorem g_icmp_ne (X : gX Γ cc own nL ret d ad post) {x y : Int32} {a b : Int} (ha : x.toInt = a) (hb' : y.toInt = b) {off : Int} {tgt : Nat} (hd : decode cc pc = .ok (.if_icmp .ne off, 3)) (ht : (pc : Int) + off = (tgt : Int)) (kt : a ≠ b → G Γ M tgt L S) (kf : a = b → G Γ M (pc + 3) L S) : G Γ M pc L (.int y :: .int x :: S) := by
  obtain ⟨p, l, e, s, m, args, below, meth, c, D, cI, cJ, cZ, ad', d', nL', post'⟩ := Γ
  obtain ⟨rfl, rfl, rfl, rfl, hx, hb, hml, hr, hlk, hown, hts, hK, hN, hAd⟩ := X
  intro H locs ls hP hS hl
  refine lv_icmp_ne hx hb hd ht (fun h => ?_) (fun h => ?_)
  · exact (fun h => kt (fun q => h (Int32.toInt_inj.mp (by rw [ha, hb', q])))) h H locs ls hP hS hl
  · exact (fun h => kf (by rw [← ha, ← hb', h])) h H locs ls hP hS hl
theorem g_if_ne (X : gX Γ cc own nL ret d ad post) {x : Int32} {a : Int} (ha : x.toInt = a) {off : Int} {tgt : Nat} (hd : decode cc pc = .ok (.ifCond .ne off, 3)) (ht : (pc : Int) + off = (tgt : Int)) (kt : a ≠ 0 → G Γ M tgt L S) (kf : a = 0 → G Γ M (pc + 3) L S) : G Γ M pc L (.int x :: S) := by
  obtain ⟨p, l, e, s, m, args, below, meth, c, D, cI, cJ, cZ, ad', d', nL', post'⟩ := Γ
  obtain ⟨rfl, rfl, rfl, rfl, hx, hb, hml, hr, hlk, hown, hts, hK, hN, hAd⟩ := X
  intro H locs ls hP hS hl
  refine lv_if_ne hx hb hd ht (fun h => ?_) (fun h => ?_)
  · exact (fun h => kt (fun q => h (Int32.toInt_inj.mp (by rw [ha, q, Int32.toInt_zero])))) h H locs ls hP hS hl
  · exact (fun h => kf (by rw [← ha, h]; exact Int32.toInt_zero)) h H locs ls hP hS hl
theorem g_icmp_lt (X : gX Γ cc own nL ret d ad post) {x y : Int32} {a b : Int} (ha : x.toInt = a) (hb' : y.toInt = b) {off : Int} {tgt : Nat} (hd : decode cc pc = .ok (.if_icmp .lt off, 3)) (ht : (pc : Int) + off = (tgt : Int)) (kt : a < b → G Γ M tgt L S) (kf : b ≤ a → G Γ M (pc + 3) L S) : G Γ M pc L (.int y :: .int x :: S) := by
  obtain ⟨p, l, e, s, m, args, below, meth, c, D, cI, cJ, cZ, ad', d', nL', post'⟩ := Γ
  obtain ⟨rfl, rfl, rfl, rfl, hx, hb, hml, hr, hlk, hown, hts, hK, hN, hAd⟩ := X
  intro H locs ls hP hS hl
  refine lv_icmp_lt hx hb hd ht (fun h => ?_) (fun h => ?_)
  · exact (fun h => kt (by rw [← ha, ← hb']; exact Int32.lt_iff_toInt_lt.mp h)) h H locs ls hP hS hl
  · exact (fun h => kf (by rw [← ha, ← hb']; exact Int.not_lt.mp (fun q => h (Int32.lt_iff_toInt_lt.mpr q)))) h H locs ls hP hS hl
theorem g_if_lt (X : gX Γ cc own nL ret d ad post) {x : Int32} {a : Int} (ha : x.toInt = a) {off : Int} {tgt : Nat} (hd : decode cc pc = .ok (.ifCond .lt off, 3)) (ht : (pc : Int) + off = (tgt : Int)) (kt : a < 0 → G Γ M tgt L S) (kf : 0 ≤ a → G Γ M (pc + 3) L S) : G Γ M pc L (.int x :: S) := by
  obtain ⟨p, l, e, s, m, args, below, meth, c, D, cI, cJ, cZ, ad', d', nL', post'⟩ := Γ
  obtain ⟨rfl, rfl, rfl, rfl, hx, hb, hml, hr, hlk, hown, hts, hK, hN, hAd⟩ := X
  intro H locs ls hP hS hl
  refine lv_if_lt hx hb hd ht (fun h => ?_) (fun h => ?_)
  · exact (fun h => kt (by rw [← ha, ← Int32.toInt_zero]; exact Int32.lt_iff_toInt_lt.mp h)) h H locs ls hP hS hl
  · exact (fun h => kf (by rw [← ha, ← Int32.toInt_zero]; exact Int.not_lt.mp (fun q => h (Int32.lt_iff_toInt_lt.mpr q)))) h H locs ls hP hS hl
theorem g_icmp_ge (X : gX Γ cc own nL ret d ad post) {x y : Int32} {a b : Int} (ha : x.toInt = a) (hb' : y.toInt = b) {off : Int} {tgt : Nat} (hd : decode cc pc = .ok (.if_icmp .ge off, 3)) (ht : (pc : Int) + off = (tgt : Int)) (kt : b ≤ a → G Γ M tgt L S) (kf : a < b → G Γ M (pc + 3) L S) : G Γ M pc L (.int y :: .int x :: S) := by
  obtain ⟨p, l, e, s, m, args, below, meth, c, D, cI, cJ, cZ, ad', d', nL', post'⟩ := Γ
  obtain ⟨rfl, rfl, rfl, rfl, hx, hb, hml, hr, hlk, hown, hts, hK, hN, hAd⟩ := X
  intro H locs ls hP hS hl
  refine lv_icmp_ge hx hb hd ht (fun h => ?_) (fun h => ?_)
  · exact (fun h => kt (by rw [← ha, ← hb']; exact Int32.le_iff_toInt_le.mp h)) h H locs ls hP hS hl
  · exact (fun h => kf (by rw [← ha, ← hb']; exact Int.not_le.mp (fun q => h (Int32.le_iff_toInt_le.mpr q)))) h H locs ls hP hS hl
theorem g_if_ge (X : gX Γ cc own nL ret d ad post) {x : Int32} {a : Int} (ha : x.toInt = a) {off : Int} {tgt : Nat} (hd : decode cc pc = .ok (.ifCond .ge off, 3)) (ht : (pc : Int) + off = (tgt : Int)) (kt : 0 ≤ a → G Γ M tgt L S) (kf : a < 0 → G Γ M (pc + 3) L S) : G Γ M pc L (.int x :: S) := by
  obtain ⟨p, l, e, s, m, args, below, meth, c, D, cI, cJ, cZ, ad', d', nL', post'⟩ := Γ
  obtain ⟨rfl, rfl, rfl, rfl, hx, hb, hml, hr, hlk, hown, hts, hK, hN, hAd⟩ := X
  intro H locs ls hP hS hl
  refine lv_if_ge hx hb hd ht (fun h => ?_) (fun h => ?_)
  · exact (fun h => kt (by rw [← ha, ← Int32.toInt_zero]; exact Int32.le_iff_toInt_le.mp h)) h H locs ls hP hS hl
  · exact (fun h => kf (by rw [← ha, ← Int32.toInt_zero]; exact Int.not_le.mp (fun q => h (Int32.le_iff_toInt_le.mpr q)))) h H locs ls hP hS hl
theorem g_icmp_gt (X : gX Γ cc own nL ret d ad post) {x y : Int32} {a b : Int} (ha : x.toInt = a) (hb' : y.toInt = b) {off : Int} {tgt : Nat} (hd : decode cc pc = .ok (.if_icmp .gt off, 3)) (ht : (pc : Int) + off = (tgt : Int)) (kt : b < a → G Γ M tgt L S) (kf : a ≤ b → G Γ M (pc + 3) L S) : G Γ M pc L (.int y :: .int x :: S) := by
  obtain ⟨p, l, e, s, m, args, below, meth, c, D, cI, cJ, cZ, ad', d', nL', post'⟩ := Γ
  obtain ⟨rfl, rfl, rfl, rfl, hx, hb, hml, hr, hlk, hown, hts, hK, hN, hAd⟩ := X
  intro H locs ls hP hS hl
  refine lv_icmp_gt hx hb hd ht (fun h => ?_) (fun h => ?_)
  · exact (fun h => kt (by rw [← ha, ← hb']; exact Int32.lt_iff_toInt_lt.mp h)) h H locs ls hP hS hl
  · exact (fun h => kf (by rw [← ha, ← hb']; exact Int.not_lt.mp (fun q => h (Int32.lt_iff_toInt_lt.mpr q)))) h H locs ls hP hS hl
theorem g_if_gt (X : gX Γ cc own nL ret d ad post) {x : Int32} {a : Int} (ha : x.toInt = a) {off : Int} {tgt : Nat} (hd : decode cc pc = .ok (.ifCond .gt off, 3)) (ht : (pc : Int) + off = (tgt : Int)) (kt : 0 < a → G Γ M tgt L S) (kf : a ≤ 0 → G Γ M (pc + 3) L S) : G Γ M pc L (.int x :: S) := by
  obtain ⟨p, l, e, s, m, args, below, meth, c, D, cI, cJ, cZ, ad', d', nL', post'⟩ := Γ
  obtain ⟨rfl, rfl, rfl, rfl, hx, hb, hml, hr, hlk, hown, hts, hK, hN, hAd⟩ := X
  intro H locs ls hP hS hl
  refine lv_if_gt hx hb hd ht (fun h => ?_) (fun h => ?_)
  · exact (fun h => kt (by rw [← ha, ← Int32.toInt_zero]; exact Int32.lt_iff_toInt_lt.mp h)) h H locs ls hP hS hl
  · exact (fun h => kf (by rw [← ha, ← Int32.toInt_zero]; exact Int.not_lt.mp (fun q => h (Int32.lt_iff_toInt_lt.mpr q)))) h H locs ls hP hS hl
theorem g_icmp_le (X : gX Γ cc own nL ret d ad post) {x y : Int32} {a b : Int} (ha : x.toInt = a) (hb' : y.toInt = b) {off : Int} {tgt : Nat} (hd : decode cc pc = .ok (.if_icmp .le off, 3)) (ht : (pc : Int) + off = (tgt : Int)) (kt : a ≤ b → G Γ M tgt L S) (kf : b < a → G Γ M (pc + 3) L S) : G Γ M pc L (.int y :: .int x :: S) := by
  obtain ⟨p, l, e, s, m, args, below, meth, c, D, cI, cJ, cZ, ad', d', nL', post'⟩ := Γ
  obtain ⟨rfl, rfl, rfl, rfl, hx, hb, hml, hr, hlk, hown, hts, hK, hN, hAd⟩ := X
  intro H locs ls hP hS hl
  refine lv_icmp_le hx hb hd ht (fun h => ?_) (fun h => ?_)
  · exact (fun h => kt (by rw [← ha, ← hb']; exact Int32.le_iff_toInt_le.mp h)) h H locs ls hP hS hl
  · exact (fun h => kf (by rw [← ha, ← hb']; exact Int.not_le.mp (fun q => h (Int32.le_iff_toInt_le.mpr q)))) h H locs ls hP hS hl
theorem g_if_le (X : gX Γ cc own nL ret d ad post) {x : Int32} {a : Int} (ha : x.toInt = a) {off : Int} {tgt : Nat} (hd : decode cc pc = .ok (.ifCond .le off, 3)) (ht : (pc : Int) + off = (tgt : Int)) (kt : a ≤ 0 → G Γ M tgt L S) (kf : 0 < a → G Γ M (pc + 3) L S) : G Γ M pc L (.int x :: S) := by
  obtain ⟨p, l, e, s, m, args, below, meth, c, D, cI, cJ, cZ, ad', d', nL', post'⟩ := Γ
  obtain ⟨rfl, rfl, rfl, rfl, hx, hb, hml, hr, hlk, hown, hts, hK, hN, hAd⟩ := X
  intro H locs ls hP hS hl
  refine lv_if_le hx hb hd ht (fun h => ?_) (fun h => ?_)
  · exact (fun h => kt (by rw [← ha, ← Int32.toInt_zero]; exact Int32.le_iff_toInt_le.mp h)) h H locs ls hP hS hl
  · exact (fun h => kf (by rw [← ha, ← Int32.toInt_zero]; exact Int.not_le.mp (fun q => h (Int32.le_iff_toInt_le.mpr q)))) h H locs ls hP hS hl
end
