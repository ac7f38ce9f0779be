section
variable {Γ : IC} {cc : ByteArray} {own : String} {R : Room} {nL base : Nat} {ini : Bool} {nul : Nat → Nat → Bool} {M : Mem} {n mc ms pc : Nat} {L : List (Nat × Value)} {S : List Value}
theorem a_iconst (Y : gY Γ cc own R nL base ini) {q : Int} (v : Int32) (hd : decode cc pc = .ok (.iconst q, 1)) (hv : Int32.ofInt q = v) (k : GA Γ nul M n mc ms (pc + 1) L (.int v :: S)) : GA Γ nul M n mc ms pc L S := by
  obtain ⟨p, l, e, R', s, m, args, below, meth, c, D, cI, cJ, cZ, base', nL', Q⟩ := Γ
  obtain ⟨rfl, rfl, rfl, hx, hbc, hml, hin, hown, hts, hK, hN, hbs⟩ := Y
  intro H locs ls hsz hP hS hl
  exact lv_iconst hx hbc hd hv (k H locs ls hsz hP hS hl)
theorem a_bipush (Y : gY Γ cc own R nL base ini) {q : Int} (v : Int32) (hd : decode cc pc = .ok (.bipush q, 2)) (hv : (Int8.ofInt q).toInt32 = v) (k : GA Γ nul M n mc ms (pc + 2) L (.int v :: S)) : GA Γ nul M n mc ms pc L S := by
  obtain ⟨p, l, e, R', s, m, args, below, meth, c, D, cI, cJ, cZ, base', nL', Q⟩ := Γ
  obtain ⟨rfl, rfl, rfl, hx, hbc, hml, hin, hown, hts, hK, hN, hbs⟩ := Y
  intro H locs ls hsz hP hS hl
  exact lv_bipush hx hbc hd hv (k H locs ls hsz hP hS hl)
theorem a_sipush (Y : gY Γ cc own R nL base ini) {q : Int} (v : Int32) (hd : decode cc pc = .ok (.sipush q, 3)) (hv : (Int16.ofInt q).toInt32 = v) (k : GA Γ nul M n mc ms (pc + 3) L (.int v :: S)) : GA Γ nul M n mc ms pc L S := by
  obtain ⟨p, l, e, R', s, m, args, below, meth, c, D, cI, cJ, cZ, base', nL', Q⟩ := Γ
  obtain ⟨rfl, rfl, rfl, hx, hbc, hml, hin, hown, hts, hK, hN, hbs⟩ := Y
  intro H locs ls hsz hP hS hl
  exact lv_sipush hx hbc hd hv (k H locs ls hsz hP hS hl)
theorem a_lconst (Y : gY Γ cc own R nL base ini) {q : Fin 2} (v : Int64) (hd : decode cc pc = .ok (.lconst q, 1)) (hv : Int64.ofNat (q : Nat) = v) (k : GA Γ nul M n mc ms (pc + 1) L (.long v :: S)) : GA Γ nul M n mc ms pc L S := by
  obtain ⟨p, l, e, R', s, m, args, below, meth, c, D, cI, cJ, cZ, base', nL', Q⟩ := Γ
  obtain ⟨rfl, rfl, rfl, hx, hbc, hml, hin, hown, hts, hK, hN, hbs⟩ := Y
  intro H locs ls hsz hP hS hl
  exact lv_lconst hx hbc hd hv (k H locs ls hsz hP hS hl)
theorem a_iload_n (Y : gY Γ cc own R nL base ini) (q : Nat) {j : Fin 4} {x : Int32} (hq : L[q]? = some ((j : Nat), .int x)) (hd : decode cc pc = .ok (.iload_n j, 1)) (k : GA Γ nul M n mc ms (pc + 1) L (.int x :: S)) : GA Γ nul M n mc ms pc L S := by
  obtain ⟨p, l, e, R', s, m, args, below, meth, c, D, cI, cJ, cZ, base', nL', Q⟩ := Γ
  obtain ⟨rfl, rfl, rfl, hx, hbc, hml, hin, hown, hts, hK, hN, hbs⟩ := Y
  intro H locs ls hsz hP hS hl
  exact lv_iload_n hx hbc hd rfl (lv_at hl q hq) (k H locs ls hsz hP hS hl)
theorem a_aload_n (Y : gY Γ cc own R nL base ini) (q : Nat) {j : Fin 4} {x : Nat} (hq : L[q]? = some ((j : Nat), .ref x)) (hd : decode cc pc = .ok (.aload_n j, 1)) (k : GA Γ nul M n mc ms (pc + 1) L (.ref x :: S)) : GA Γ nul M n mc ms pc L S := by
  obtain ⟨p, l, e, R', s, m, args, below, meth, c, D, cI, cJ, cZ, base', nL', Q⟩ := Γ
  obtain ⟨rfl, rfl, rfl, hx, hbc, hml, hin, hown, hts, hK, hN, hbs⟩ := Y
  intro H locs ls hsz hP hS hl
  exact lv_aload_n hx hbc hd rfl (lv_at hl q hq) (k H locs ls hsz hP hS hl)
theorem a_istore_n (Y : gY Γ cc own R nL base ini) {i : Nat} {j : Fin 4} {x : Int32} (L' : List (Nat × Value)) (hd : decode cc pc = .ok (.istore_n j, 1)) (hi : (j : Nat) = i) (hn : i < nL) (hL : (i, Value.int x) :: L.filter (fun q => !(q.1 == i) && !(q.1 + 1 == i && q.2.category == 2)) = L') (k : GA Γ nul M n mc ms (pc + 1) L' S) : GA Γ nul M n mc ms pc L (.int x :: S) := by
  obtain ⟨p, l, e, R', s, m, args, below, meth, c, D, cI, cJ, cZ, base', nL', Q⟩ := Γ
  obtain ⟨rfl, rfl, rfl, hx, hbc, hml, hin, hown, hts, hK, hN, hbs⟩ := Y
  intro H locs ls hsz hP hS hl
  exact lv_istore_n hx hbc hd hi hl hn hL (fun ls' hl' => k H locs ls' hsz hP hS hl')
theorem a_astore_n (Y : gY Γ cc own R nL base ini) {i : Nat} {j : Fin 4} {x : Nat} (L' : List (Nat × Value)) (hd : decode cc pc = .ok (.astore_n j, 1)) (hi : (j : Nat) = i) (hn : i < nL) (hL : (i, Value.ref x) :: L.filter (fun q => !(q.1 == i) && !(q.1 + 1 == i && q.2.category == 2)) = L') (k : GA Γ nul M n mc ms (pc + 1) L' S) : GA Γ nul M n mc ms pc L (.ref x :: S) := by
  obtain ⟨p, l, e, R', s, m, args, below, meth, c, D, cI, cJ, cZ, base', nL', Q⟩ := Γ
  obtain ⟨rfl, rfl, rfl, hx, hbc, hml, hin, hown, hts, hK, hN, hbs⟩ := Y
  intro H locs ls hsz hP hS hl
  exact lv_astore_n hx hbc hd hi hl hn hL (fun ls' hl' => k H locs ls' hsz hP hS hl')
theorem a_iinc (Y : gY Γ cc own R nL base ini) (q : Nat) {i : Nat} {z : Int} {x : Int32} (L' : Int32 → List (Nat × Value)) (hd : decode cc pc = .ok (.iinc i z, 3)) (hq : L[q]? = some (i, .int x)) (hn : i < nL) (hL : ∀ v, (i, Value.int v) :: L.filter (fun q => !(q.1 == i) && !(q.1 + 1 == i && q.2.category == 2)) = L' v) (k : ∀ v : Int32, v = x + Int32.ofInt z → GA Γ nul M n mc ms (pc + 3) (L' v) S) : GA Γ nul M n mc ms pc L S := by
  obtain ⟨p, l, e, R', s, m, args, below, meth, c, D, cI, cJ, cZ, base', nL', Q⟩ := Γ
  obtain ⟨rfl, rfl, rfl, hx, hbc, hml, hin, hown, hts, hK, hN, hbs⟩ := Y
  intro H locs ls hsz hP hS hl
  exact lv_iinc (k := q) hx hbc hd hl hq rfl hn (hL _) (fun ls' hl' => k _ rfl H locs ls' hsz hP hS hl')
theorem a_dup (Y : gY Γ cc own R nL base ini) {v : Value} (hd : decode cc pc = .ok (.dup, 1)) (hv : v.category = 1) (k : GA Γ nul M n mc ms (pc + 1) L (v :: v :: S)) : GA Γ nul M n mc ms pc L (v :: S) := by
  obtain ⟨p, l, e, R', s, m, args, below, meth, c, D, cI, cJ, cZ, base', nL', Q⟩ := Γ
  obtain ⟨rfl, rfl, rfl, hx, hbc, hml, hin, hown, hts, hK, hN, hbs⟩ := Y
  intro H locs ls hsz hP hS hl
  exact lv_dup hx hbc hd hv (k H locs ls hsz hP hS hl)
theorem a_goto (Y : gY Γ cc own R nL base ini) {off : Int} {tgt : Nat} (hd : decode cc pc = .ok (.goto off, 3)) (ht : (pc : Int) + off = (tgt : Int)) (k : GA Γ nul M n mc ms tgt L S) : GA Γ nul M n mc ms pc L S := by
  obtain ⟨p, l, e, R', s, m, args, below, meth, c, D, cI, cJ, cZ, base', nL', Q⟩ := Γ
  obtain ⟨rfl, rfl, rfl, hx, hbc, hml, hin, hown, hts, hK, hN, hbs⟩ := Y
  intro H locs ls hsz hP hS hl
  exact lv_goto hx hbc hd ht (k H locs ls hsz hP hS hl)
theorem a_icmp_ge (Y : gY Γ cc own R nL base ini) {x y : Int32} {a b : Int} (ha : x.toInt = a) (hb' : y.toInt = b) {off : Int} {tgt : Nat} (hd : decode cc pc = .ok (.if_icmp .ge off, 3)) (ht : (pc : Int) + off = (tgt : Int)) (kt : b ≤ a → GA Γ nul M n mc ms tgt L S) (kf : a < b → GA Γ nul M n mc ms (pc + 3) L S) : GA Γ nul M n mc ms pc L (.int y :: .int x :: S) := by
  obtain ⟨p, l, e, R', s, m, args, below, meth, c, D, cI, cJ, cZ, base', nL', Q⟩ := Γ
  obtain ⟨rfl, rfl, rfl, hx, hbc, hml, hin, hown, hts, hK, hN, hbs⟩ := Y
  intro H locs ls hsz hP hS hl
  refine lv_icmp_ge hx hbc hd ht (fun h => ?_) (fun h => ?_)
  · exact kt (by rw [← ha, ← hb']; exact Int32.le_iff_toInt_le.mp h) H locs ls hsz hP hS hl
  · exact kf (by rw [← ha, ← hb']; exact Int.not_le.mp (fun q => h (Int32.le_iff_toInt_le.mpr q))) H locs ls hsz hP hS hl
theorem a_getr (Y : gY Γ cc own R nL base ini) {idx k j r : Nat} (h : FL own idx k j (r + 2)) (hk : k < n) (hnu : nul k j = false) (hd : decode cc pc = .ok (.getfield idx, 3)) (kk : GA Γ nul M n mc ms (pc + 3) L (.ref (base + r) :: S)) : GA Γ nul M n mc ms pc L (.ref (base + k) :: S) := by
  obtain ⟨p, l, e, R', s, m, args, below, meth, c, D, cI, cJ, cZ, base', nL', Q⟩ := Γ
  obtain ⟨rfl, rfl, rfl, hx, hbc, hml, hin, hown, hts, hK, hN, hbs⟩ := Y
  intro H locs ls hsz hP hS hl
  obtain ⟨ci, fs, C, T, N, h1, h2, h3, h4, h5, h6⟩ := h
  have he : (wsp base' nul cI cJ cZ M n)[k]? = some (base' + k, .inr (ci, fs.mapIdx (fun j f => fvP (fun k => base' + k) nul M k j f))) := wsp_at hk h1
  have hv : (fs.mapIdx (fun j f => fvP (fun k => base' + k) nul M k j f))[j]? = some (.ref (base' + r)) := by simp [List.getElem?_mapIdx, h2, fvP, hnu]
  rcases h6 with h6 | ⟨host, h6⟩
  · exact va_get hx hbc hts h5 hown hK hP k he h3 j h4 (hts _ h6) (fun _ h => h) hv hd (kk H locs ls hsz hP hS hl)
  · exact va_getN hx hbc hts h5 hown hK hP k he h3 j h4 (va_Nw.use rfl (hN _ h6 rfl)) (fun _ h => h) hv hd (kk H locs ls hsz hP hS hl)
theorem a_iast (Y : gY Γ cc own R nL base ini) {k N : Nat} (hy : lay[k]? = some (0, N, [])) (hk : k < n) {i x : Int32} {a : Int} (ha : i.toInt = a) (hd : decode cc pc = .ok (.iastore, 1)) (hi : 0 ≤ a ∧ a < N) (kk : GA Γ nul (ui M k a.toNat x) n mc ms (pc + 1) L S) : GA Γ nul M n mc ms pc L (.int x :: .int i :: .ref (base + k) :: S) := by
  subst ha
  obtain ⟨p, l, e, R', s, m, args, below, meth, c, D, cI, cJ, cZ, base', nL', Q⟩ := Γ
  obtain ⟨rfl, rfl, rfl, hx, hbc, hml, hin, hown, hts, hK, hN, hbs⟩ := Y
  intro H locs ls hsz hP hS hl
  have hc : H[base' + k]? = some (arrV cI N (fun j => .int (M.1 k j))) := hP k _ (wsp_at hk hy)
  refine W.iast hx hbc hc ((hK.2 0 _ rfl).1 N _) (fun q => by cases q) (by rw [arrV_size]; exact vp_in_iff.mpr hi) rfl rfl hd fun H1 e1 z1 o1 => ?_
  refine kk H1 _ ls (by omega) ?_ (hS.put z1 o1 (Nat.le_add_right _ _)) hl
  have hset := wsp_set (base := base') (nul := nul) (nul' := nul) (cI := cI) (cJ := cJ) (cZ := cZ) (M := M) (M' := ui M k i.toInt.toNat x) hk hy (fun a ha y => cellPo_ne (ui_cell ha) rfl rfl y)
  rw [← hset]
  refine hP.set wsp_D (wsp_at hk hy) ?_ o1
  show H1[base' + k]? = some (vp_cell cI (N, Sum.inl ((ui M k i.toInt.toNat x).1 k)))
  rw [e1, vp_cell_i, arrV_store]
  congr 2
  funext q
  show (if q = i.toNatClampNeg then Value.int x else Value.int (M.1 k q)) = Value.int (if k = k ∧ q = i.toInt.toNat then x else M.1 k q)
  by_cases hq : q = i.toNatClampNeg
  · rw [if_pos hq, if_pos ⟨rfl, hq⟩]
  · rw [if_neg hq, if_neg (fun z => hq z.2)]
theorem a_obj (Y : gY Γ cc own R nL base ini) {idx a : Nat} (hlink : Cond.methodLink own idx Lib.objectInit ∈ gT) (hinst : Cond.instanceMethod Lib.objectInit ∈ gT) (hcode : Cond.code Lib.objectInit ⟨#[0xb1]⟩ 1 none ∈ gT) (hr : 1 ≤ R.frames ∧ (S.map fun v => v.category).sum + 12 ≤ R.locals) (hd : decode cc pc = .ok (.invokespecial idx, 3)) (kk : GA Γ nul M n mc ms (pc + 3) L S) : GA Γ nul M n mc ms pc L (.ref a :: S) := by
  obtain ⟨p, l, e, R', s, m, args, below, meth, c, D, cI, cJ, cZ, base', nL', Q⟩ := Γ
  obtain ⟨rfl, rfl, rfl, hx, hbc, hml, hin, hown, hts, hK, hN, hbs⟩ := Y
  intro H locs ls hsz hP hS hl
  exact W.objInit hx hbc hown (hts _ hlink) (hts _ hinst) (hts _ hcode) rfl (hl.1.trans hml.symm) rfl hd hr.1 (by show 2 * (F0 m pc ls (.ref a :: S)).monitorRoom + _ + 12 ≤ R'.locals; have : (F0 m pc ls (Value.ref a :: S)).monitorRoom = 0 := rfl; omega) (kk H locs ls hsz hP hS hl)
/-- a constructor's contract: from this world it comes to that one, with so many cells and slots -/
def QI (base : Nat) (D : va_G) (cI cJ cZ : ClassId) (nul' : Nat → Nat → Bool) (M' : Mem) (n' : Nat) : Array Value → State → Outcome → State → Prop := fun _ st oc t => (oc = .returned none ∧ t.heap.size = base + n' ∧ va_P D vwCl (wsp base nul' cI cJ cZ M' n') t.heap) ∧ va_F (fun q => base ≤ q) st t
def WI (base : Nat) (D : va_G) (cI cJ cZ : ClassId) (nul : Nat → Nat → Bool) (M : Mem) (n : Nat) (U : State) : Prop := U.heap.size = base + n ∧ va_P D vwCl (wsp base nul cI cJ cZ M n) U.heap ∧ va_K D vwCl (tyl cI cJ cZ) U ∧ nestOK U
def CtrI (base : Nat) (y : MethodName) (cc : ByteArray) (nL : Nat) (R0 : Room) (as : List Value) (nul : Nat → Nat → Bool) (M : Mem) (n : Nat) (nul' : Nat → Nat → Bool) (M' : Mem) (n' : Nat) : Prop :=
  ∀ (l : Launch) (D : va_G) (cI cJ cZ : ClassId), Met l y (.code y cc nL none :: gT) R0 (va_Pc as (WI base D cI cJ cZ nul M n)) (QI base D cI cJ cZ nul' M' n') R0.cells R0.slots (fun q => base ≤ q)
def gQ (Γ : IC) (R0 : Room) (nul' : Nat → Nat → Bool) (M' : Mem) (n' : Nat) : Prop := match Γ with
  | (_, _, _, _, s, _, args, below, meth, _, D, cI, cJ, cZ, base, _, Q) => Q = MQ below (QI base D cI cJ cZ nul' M' n') args s R0.cells R0.slots (fun q => base ≤ q) ∧ meth.sig.returnType = none ∧ meth.locks = false
theorem ctrI_of {base : Nat} {y : MethodName} {cc : ByteArray} {nL : Nat} {R0 : Room} {as : List Value} {nul nul' : Nat → Nat → Bool} {M M' : Mem} {n n' : Nat} {L : List (Nat × Value)} (hy : plainName y.cls = true) (hyn : y.name = "<init>") (hn : (lg_sl as).length ≤ nL) (hL : lv_args 0 as = L)
    (body : ∀ Γ : IC, gY Γ cc y.cls R0 nL base true → gQ Γ R0 nul' M' n' → GA Γ nul M n 0 0 0 L []) : CtrI base y cc nL R0 as nul M n nul' M' n' := by
  intro l D cI cJ cZ
  refine Met.ofW (cc := cc) (maxL := nL) (ret := none) hy rfl ?_
  intro p e s m args below meth c s₁ B hml hv
  obtain ⟨rfl, hsz, hP, hK, hN⟩ := hv
  have hts := atoms_spec (ws := .code y cc nL none :: gT) B.pre
  have hown : s.vm.findClass y.cls = some m.cls := findClass_of_methodNamed B.named
  have hnm : meth.name = "<init>" := by rw [(name_of_methodNamed B.named B.method).1]; exact hyn
  have Y : gY (p, l, e, R0, s, m, as.toArray, below, meth, c, D, cI, cJ, cZ, base, nL, MQ below (QI base D cI cJ cZ nul' M' n') as.toArray s R0.cells R0.slots (fun q => base ≤ q)) cc y.cls R0 nL base true :=
    ⟨rfl, rfl, rfl, B.exec, B.bytes, hml, fun _ => hnm, hown, fun w hw => hts w (List.mem_cons_of_mem _ hw), hK, hN, by omega⟩
  have hl := lv_entry as (n := nL) hn
  rw [lg_entry_eq]
  rw [hL] at hl
  exact body _ Y ⟨rfl, B.returns, B.notSynchronized⟩ s.heap [] _ hsz hP va_S.rf hl
theorem a_ret {R0 : Room} (Y : gY Γ cc own R nL base ini) (q : gQ Γ R0 nul M n) (hc : mc = R0.cells ∧ ms = R0.slots) (hd : decode cc pc = .ok (.return_, 1)) : GA Γ nul M n mc ms pc L [] := by
  obtain ⟨p, l, e, R', s, m, args, below, meth, c, D, cI, cJ, cZ, base', nL', Q⟩ := Γ
  obtain ⟨rfl, rfl, rfl, hx, hbc, hml, hin, hown, hts, hK, hN, hbs⟩ := Y
  intro H locs ls hsz hP hS hl
  obtain ⟨rfl, q2, q3⟩ := q
  obtain ⟨rfl, rfl⟩ := hc
  exact W.vret hx hbc q2 (fun t ht _ => ⟨⟨rfl, by rw [ht]; exact hsz, by rw [ht]; exact hP⟩, hS.F ht⟩) hS.2.2 hd q3
theorem wi_blind {base : Nat} {D : va_G} {cI cJ cZ : ClassId} {nul : Nat → Nat → Bool} {M : Mem} {n : Nat} {as : List Value} : FrameBlind (va_Pc as (WI base D cI cJ cZ nul M n)) := by
  intro a U g mk h
  obtain ⟨h1, hz, hP, hK, hN⟩ := h
  exact ⟨h1, hz, hP, va_K.moved (u := U) (U := U.calling g mk a) (Vm.Alike.refl U.vm) hK, nestOK.same (u := U) (U := U.calling g mk a) rfl hN⟩
/-- a constructor is called -/
theorem a_init (Y : gY Γ cc own R nL base ini) {idx k nL' q n' : Nat} {y : MethodName} {cc' : ByteArray} {R0 : Room} {As St : List Value} {nul' : Nat → Nat → Bool} {M' : Mem} (hl3 : MLk own idx y) (hin3 : Cond.instanceMethod y ∈ gT) (hyn : y.name = "<init>") (hyk : YOK y cc' nL' none q) (hc : CtrI base y cc' nL' R0 (.ref (base + k) :: As) nul M n nul' M' n') (hq : As.length = q) (hd' : R0.frames + 1 ≤ R.frames ∧ 8 + (nL' + 11) + R0.locals ≤ R.locals) (hrm : mc + R0.cells ≤ R.cells ∧ ms + R0.slots ≤ R.slots) (hS8 : (S.map fun v => v.category).sum ≤ 8) (hst : St = As.reverse ++ .ref (base + k) :: S) (hd : decode cc pc = .ok (.invokespecial idx, 3)) (kk : GA Γ nul' M' n' (mc + R0.cells) (ms + R0.slots) (pc + 3) L S) : GA Γ nul M n mc ms pc L St := by
  obtain ⟨p, l, e, R', s, m, args, below, meth, c, D, cI, cJ, cZ, base', nL', Q⟩ := Γ
  obtain ⟨rfl, rfl, rfl, hx, hbc, hml, hin, hown, hts, hK, hN, hbs⟩ := Y
  intro H locs ls hsz hP hS hl
  obtain ⟨h6, h7, h8⟩ := hyk
  have hM := hc l D cI cJ cZ
  have run : va_Run p l e R' s m args below meth c H locs mc ms R0.cells R0.slots (F0 m pc ls St) S (QI base' D cI cJ cZ nul' M' n' (Value.ref (base' + k) :: As).toArray) (fun q => base' ≤ q) := by
    have hp : PreS s H (va_Pc (.ref (base' + k) :: As) (WI base' D cI cJ cZ nul M n)) (.ref (base' + k) :: As) := ⟨wi_blind, fun U hU hW => ⟨rfl, by rw [hU]; exact hsz, by rw [hU]; exact hP, va_K.moved hW.alike hK, hN.warm hW⟩⟩
    rcases hl3 with h3 | ⟨host, h3⟩
    · exact va_runI (As := As) (rest := S) (Ts := gT) ⟨hx, hbc, hml, hown, hts⟩ hM ⟨callB_of q hts (gT_callee h7) rfl rfl rfl (hts _ h6) (hts _ h3) h8 hd', hyn, hts _ hin3⟩ hp rfl hq hl.1 hst (lv_room hS8) hd hrm
    · exact va_runIN (As := As) (rest := S) (Ts := gT) (host := host) ⟨hx, hbc, hml, hown, hts⟩ hM ⟨va_cnB q hts (gT_callee h7) rfl rfl rfl (hN _ h3 rfl) (hts _ h6) h8 hd', hyn, hts _ hin3⟩ hp rfl hq hl.1 hst (lv_room hS8) hd hrm
  intro T hT X
  obtain ⟨v, st₀, t, T', Lc, h0, X', hLc, e1, e2, ⟨⟨hv, hz', hP'⟩, hz, hkp⟩, st⟩ := run T hT X
  cases hv
  rw [h0] at hz hkp
  obtain ⟨t2, a1, b1⟩ := kk T'.heap (locs ++ Lc) ls (by rw [e1]; exact hz') (by rw [e1]; exact hP')
    ⟨Nat.le_trans hS.1 (by rw [e1]; exact hz), fun x g1 g2 => by rw [e1, hkp x (Nat.lt_of_lt_of_le g1 hS.1) g2]; exact hS.2.1 x g1 g2, fun x hx => by
      rcases List.mem_append.mp hx with h | h
      · exact hS.2.2 x h
      · exact hLc x h⟩ hl T' rfl X'
  exact ⟨t2, st t2 a1, b1⟩
end
