/-! THE CLAIM OUT OF ONE WALK OF THE LAW'S BODY. Your part is whole_start (and what it stands on); all else here is the same for every law, but numbers. -/
def R_law : String := "LongSongLaw"
def lw_P (b : Addr) (xs : List Int32) (args : Array Value) (s : State) : Prop := args = #[.ref b] ∧ s.IntsAt b xs ∧ xs.length ≤ 3072 ∧ (Jvm.Cond.and given_1 narrow_1).before args s = true
def lw_Q (_ : Array Value) (s : State) (o : Outcome) (t : State) : Prop := o = .returned (some (.int 1)) ∧ Framed s o t [] 91 64723
def lw_Z (below : List Frame) (a : Array Value) (s : State) : State → Prop := fun t => ∃ o, t.status = .running ∧ Ended t below o ∧ lw_Q a s o t
/-- the law's own end, with 1 on the stack, nothing written that was there before, its room as the claim has it -/
theorem lw_ret {p : Program} {l : Launch} {e : Env} {s : State} {m : MethodId} {below : List Frame} {meth : Method} {c : Code} {b : Nat} (hx : p.tables.exec = Jvm.exec) (hb : c.code = code) (hr : meth.sig.returnType = ret) (hlocks : meth.locks = false) {pc : Nat} {H : Heap} {ls : Array Slot} (hdg : decode code pc = .ok (.ireturn, 1)) : W p l e room_1 s m #[Value.ref b] below meth c H [] 91 64723 (lw_Z below #[Value.ref b] s) (F0 m pc ls [.int 1]) := by
  intro T hT X
  obtain ⟨fs, hret, hrun, hended, hW, hframe⟩ := X.leave (v := some (.int 1)) (hlocks := hlocks) (fun h => by rw [hr] at h; cases h)
  have hmeth' : T.vm.method? m = some meth := X.method'
  refine ⟨T.setFrames fs, ?_, .returned (some (.int 1)), hrun, hended, rfl, ⟨_, rfl⟩, hW, hframe⟩
  jvm_step X.here [X.here.top, hx, hb, hdg, hmeth', hr, ret, narrow_b1]
  (try refine ⟨rfl, ?_⟩); (try refine ⟨rfl, ?_⟩)
  first | (intro acts; rw [hret _ acts rfl rfl rfl]) | rw [hret _ _ rfl rfl rfl]
  exact Steps.refl _
/-- what holds at the law's entry: the machine, the code, the tables' words (any of lw_tbl by 'hts w (by decide +kernel)'), the script of L ints xs at the cell b, what the Statement gives of the start (any of its parts by flat_of_before) -/
def lw_At (p : Program) (s : State) (m : MethodId) (meth : Method) (c : Code) (b L : Nat) (xs : Nat → Int32) : Prop :=
  p.tables.exec = Jvm.exec ∧ c.code = code ∧ meth.sig.returnType = ret ∧ c.maxLocals = 4 ∧ s.vm.findClass R_law = some m.cls ∧ (∀ w ∈ lw_tbl, w.before #[Value.ref b] s = true) ∧ va_X b L xs s s.heap ∧ b < s.heap.size ∧ meth.locks = false ∧ (Jvm.Cond.and given_1 narrow_1).before #[Value.ref b] s = true

section
abbrev LC : Type := Program × Launch × Env × State × MethodId × List Frame × Method × Code × va_G × ClassId × ClassId × ClassId × Nat × Nat × (Nat → Int32)
def GL (Γ : LC) (M : Mem) (pc : Nat) (L : List (Nat × Value)) (S : List Value) : Prop := match Γ with
  | (p, l, e, s, m, below, meth, c, D, cI, cJ, cZ, b, _, _) => ∀ (H : Heap) (locs : List Loc) (ls : Array Slot), va_P D vwCl (wsl (fun k => s.heap.size + k) cI cJ cZ M) H → va_S (fun q => s.heap.size ≤ q) s.heap H locs → lv_has ls 4 L → W p l e room_1 s m #[Value.ref b] below meth c H locs 91 64723 (lw_Z below #[Value.ref b] s) (F0 m pc ls S)
def gLX (Γ : LC) (base b N : Nat) (xs : Nat → Int32) : Prop := match Γ with
  | (p, _, _, s, m, _, meth, c, D, cI, cJ, cZ, b', N', xs') => s.heap.size = base ∧ b' = b ∧ N' = N ∧ xs' = xs ∧ p.tables.exec = Jvm.exec ∧ c.code = cL_law ∧ c.maxLocals = 4 ∧ meth.sig.returnType = ret ∧ meth.locks = false ∧ s.vm.findClass RL = some m.cls ∧ (∀ w ∈ gT, w.before #[Value.ref b'] s = true) ∧ va_K D vwCl (tyl cI cJ cZ) s ∧ nestOK s ∧ va_X b' N' xs' s s.heap ∧ b' < s.heap.size ∧ N' ≤ 3072
variable {Γ : LC} {base b N : Nat} {xs : Nat → Int32} {M : Mem} {pc : Nat} {L : List (Nat × Value)} {S : List Value}

theorem l_iload (X : gLX Γ base b N xs) (q : Nat) {j : Fin 4} {x : Int32} (hq : L[q]? = some ((j : Nat), .int x)) (hd : decode cL_law pc = .ok (.iload_n j, 1)) (k : GL Γ M (pc + 1) L (.int x :: S)) : GL Γ M pc L S := by
  obtain ⟨p, l, e, s, m, below, meth, c, D, cI, cJ, cZ, b', N', xs'⟩ := Γ
  obtain ⟨rfl, rfl, rfl, rfl, hx, hb, hml, hr, hlk, hown, hts, hK, hN, hX, hbl, h3072⟩ := X
  intro H locs ls hP hS hl
  exact lv_iload_n hx hb hd rfl (lv_at hl q hq) (k H locs ls hP hS hl)

theorem l_aload (X : gLX Γ base b N xs) (q : Nat) {j : Fin 4} {x : Nat} (hq : L[q]? = some ((j : Nat), .ref x)) (hd : decode cL_law pc = .ok (.aload_n j, 1)) (k : GL Γ M (pc + 1) L (.ref x :: S)) : GL Γ M pc L S := by
  obtain ⟨p, l, e, s, m, below, meth, c, D, cI, cJ, cZ, b', N', xs'⟩ := Γ
  obtain ⟨rfl, rfl, rfl, rfl, hx, hb, hml, hr, hlk, hown, hts, hK, hN, hX, hbl, h3072⟩ := X
  intro H locs ls hP hS hl
  exact lv_aload_n hx hb hd rfl (lv_at hl q hq) (k H locs ls hP hS hl)

theorem l_iconst (X : gLX Γ base b N xs) {n : Int} (v : Int32) (hd : decode cL_law pc = .ok (.iconst n, 1)) (hv : Int32.ofInt n = v) (k : GL Γ M (pc + 1) L (.int v :: S)) : GL Γ M pc L S := by
  obtain ⟨p, l, e, s, m, below, meth, c, D, cI, cJ, cZ, b', N', xs'⟩ := Γ
  obtain ⟨rfl, rfl, rfl, rfl, hx, hb, hml, hr, hlk, hown, hts, hK, hN, hX, hbl, h3072⟩ := X
  intro H locs ls hP hS hl
  exact lv_iconst hx hb hd hv (k H locs ls hP hS hl)

theorem l_bipush (X : gLX Γ base b N xs) {n : Int} (v : Int32) (hd : decode cL_law pc = .ok (.bipush n, 2)) (hv : (Int8.ofInt n).toInt32 = v) (k : GL Γ M (pc + 2) L (.int v :: S)) : GL Γ M pc L S := by
  obtain ⟨p, l, e, s, m, below, meth, c, D, cI, cJ, cZ, b', N', xs'⟩ := Γ
  obtain ⟨rfl, rfl, rfl, rfl, hx, hb, hml, hr, hlk, hown, hts, hK, hN, hX, hbl, h3072⟩ := X
  intro H locs ls hP hS hl
  exact lv_bipush hx hb hd hv (k H locs ls hP hS hl)

theorem l_iadd (X : gLX Γ base b N xs) {x y : Int32} (hd : decode cL_law pc = .ok (.iadd, 1)) (k : ∀ z : Int32, z = x + y → GL Γ M (pc + 1) L (.int z :: S)) : GL Γ M pc L (.int y :: .int x :: S) := by
  obtain ⟨p, l, e, s, m, below, meth, c, D, cI, cJ, cZ, b', N', xs'⟩ := Γ
  obtain ⟨rfl, rfl, rfl, rfl, hx, hb, hml, hr, hlk, hown, hts, hK, hN, hX, hbl, h3072⟩ := X
  intro H locs ls hP hS hl
  exact lv_iadd hx hb hd (k _ rfl H locs ls hP hS hl)

theorem l_isub (X : gLX Γ base b N xs) {x y : Int32} (hd : decode cL_law pc = .ok (.isub, 1)) (k : ∀ z : Int32, z = x - y → GL Γ M (pc + 1) L (.int z :: S)) : GL Γ M pc L (.int y :: .int x :: S) := by
  obtain ⟨p, l, e, s, m, below, meth, c, D, cI, cJ, cZ, b', N', xs'⟩ := Γ
  obtain ⟨rfl, rfl, rfl, rfl, hx, hb, hml, hr, hlk, hown, hts, hK, hN, hX, hbl, h3072⟩ := X
  intro H locs ls hP hS hl
  exact lv_isub hx hb hd (k _ rfl H locs ls hP hS hl)

theorem l_iand (X : gLX Γ base b N xs) {x y : Int32} (hd : decode cL_law pc = .ok (.iand, 1)) (k : ∀ z : Int32, z = x &&& y → GL Γ M (pc + 1) L (.int z :: S)) : GL Γ M pc L (.int y :: .int x :: S) := by
  obtain ⟨p, l, e, s, m, below, meth, c, D, cI, cJ, cZ, b', N', xs'⟩ := Γ
  obtain ⟨rfl, rfl, rfl, rfl, hx, hb, hml, hr, hlk, hown, hts, hK, hN, hX, hbl, h3072⟩ := X
  intro H locs ls hP hS hl
  exact lv_iand hx hb hd (k _ rfl H locs ls hP hS hl)

theorem l_i2l (X : gLX Γ base b N xs) {x : Int32} (hd : decode cL_law pc = .ok (.i2l, 1)) (k : GL Γ M (pc + 1) L (.long x.toInt64 :: S)) : GL Γ M pc L (.int x :: S) := by
  obtain ⟨p, l, e, s, m, below, meth, c, D, cI, cJ, cZ, b', N', xs'⟩ := Γ
  obtain ⟨rfl, rfl, rfl, rfl, hx, hb, hml, hr, hlk, hown, hts, hK, hN, hX, hbl, h3072⟩ := X
  intro H locs ls hP hS hl
  exact lv_i2l hx hb hd rfl (k H locs ls hP hS hl)

theorem l_lshl (X : gLX Γ base b N xs) {x : Int64} {y : Int32} (hd : decode cL_law pc = .ok (.lshl, 1)) (k : GL Γ M (pc + 1) L (.long (x <<< (y.toInt64 &&& 63)) :: S)) : GL Γ M pc L (.int y :: .long x :: S) := by
  obtain ⟨p, l, e, s, m, below, meth, c, D, cI, cJ, cZ, b', N', xs'⟩ := Γ
  obtain ⟨rfl, rfl, rfl, rfl, hx, hb, hml, hr, hlk, hown, hts, hK, hN, hX, hbl, h3072⟩ := X
  intro H locs ls hP hS hl
  exact lv_lshl hx hb hd rfl (k H locs ls hP hS hl)

theorem l_land (X : gLX Γ base b N xs) {x y : Int64} (hd : decode cL_law pc = .ok (.land, 1)) (k : GL Γ M (pc + 1) L (.long (x &&& y) :: S)) : GL Γ M pc L (.long y :: .long x :: S) := by
  obtain ⟨p, l, e, s, m, below, meth, c, D, cI, cJ, cZ, b', N', xs'⟩ := Γ
  obtain ⟨rfl, rfl, rfl, rfl, hx, hb, hml, hr, hlk, hown, hts, hK, hN, hX, hbl, h3072⟩ := X
  intro H locs ls hP hS hl
  exact lv_land hx hb hd (k H locs ls hP hS hl)

theorem l_lor (X : gLX Γ base b N xs) {x y : Int64} (hd : decode cL_law pc = .ok (.lor, 1)) (k : GL Γ M (pc + 1) L (.long (x ||| y) :: S)) : GL Γ M pc L (.long y :: .long x :: S) := by
  obtain ⟨p, l, e, s, m, below, meth, c, D, cI, cJ, cZ, b', N', xs'⟩ := Γ
  obtain ⟨rfl, rfl, rfl, rfl, hx, hb, hml, hr, hlk, hown, hts, hK, hN, hX, hbl, h3072⟩ := X
  intro H locs ls hP hS hl
  exact lv_lor hx hb hd (k H locs ls hP hS hl)

theorem l_ldc2 (X : gLX Γ base b N xs) {i : Nat} {v : Int64} (hc : Cond.constantLong RL i v ∈ gT) (hd : decode cL_law pc = .ok (.ldc2_w i, 3)) (k : GL Γ M (pc + 3) L (.long v :: S)) : GL Γ M pc L S := by
  obtain ⟨p, l, e, s, m, below, meth, c, D, cI, cJ, cZ, b', N', xs'⟩ := Γ
  obtain ⟨rfl, rfl, rfl, rfl, hx, hb, hml, hr, hlk, hown, hts, hK, hN, hX, hbl, h3072⟩ := X
  intro H locs ls hP hS hl
  exact lv_ldc2 hx hb hown (hts _ hc) hd (k H locs ls hP hS hl)

theorem l_pop (X : gLX Γ base b N xs) {v : Value} (hd : decode cL_law pc = .ok (.pop, 1)) (hv : v.category = 1) (k : GL Γ M (pc + 1) L S) : GL Γ M pc L (v :: S) := by
  obtain ⟨p, l, e, s, m, below, meth, c, D, cI, cJ, cZ, b', N', xs'⟩ := Γ
  obtain ⟨rfl, rfl, rfl, rfl, hx, hb, hml, hr, hlk, hown, hts, hK, hN, hX, hbl, h3072⟩ := X
  intro H locs ls hP hS hl
  exact lv_pop hx hb hd hv (k H locs ls hP hS hl)

theorem l_goto (X : gLX Γ base b N xs) {off : Int} {tgt : Nat} (hd : decode cL_law pc = .ok (.goto off, 3)) (ht : (pc : Int) + off = (tgt : Int)) (k : GL Γ M tgt L S) : GL Γ M pc L S := by
  obtain ⟨p, l, e, s, m, below, meth, c, D, cI, cJ, cZ, b', N', xs'⟩ := Γ
  obtain ⟨rfl, rfl, rfl, rfl, hx, hb, hml, hr, hlk, hown, hts, hK, hN, hX, hbl, h3072⟩ := X
  intro H locs ls hP hS hl
  exact lv_goto hx hb hd ht (k H locs ls hP hS hl)

theorem l_iinc (X : gLX Γ base b N xs) (q : Nat) {i : Nat} {z : Int} {x : Int32} (L' : Int32 → List (Nat × Value)) (hd : decode cL_law pc = .ok (.iinc i z, 3)) (hq : L[q]? = some (i, .int x)) (hn : i < 4) (hL : ∀ v, (i, Value.int v) :: L.filter (fun q => !(q.1 == i) && !(q.1 + 1 == i && q.2.category == 2)) = L' v) (k : ∀ v : Int32, v = x + Int32.ofInt z → GL Γ M (pc + 3) (L' v) S) : GL Γ M pc L S := by
  obtain ⟨p, l, e, s, m, below, meth, c, D, cI, cJ, cZ, b', N', xs'⟩ := Γ
  obtain ⟨rfl, rfl, rfl, rfl, hx, hb, hml, hr, hlk, hown, hts, hK, hN, hX, hbl, h3072⟩ := X
  intro H locs ls hP hS hl
  exact lv_iinc (k := q) hx hb hd hl hq rfl hn (hL _) (fun ls' hl' => k _ rfl H locs ls' hP hS hl')

theorem l_sub {L' : List (Nat × Value)} (X : gLX Γ base b N xs) (ks : List Nat) (hl' : lv_pick L ks = L') (k : GL Γ M pc L' S) : GL Γ M pc L S := by
  obtain ⟨p, l, e, s, m, below, meth, c, D, cI, cJ, cZ, b', N', xs'⟩ := Γ
  obtain ⟨rfl, rfl, rfl, rfl, hx, hb, hml, hr, hlk, hown, hts, hK, hN, hX, hbl, h3072⟩ := X
  intro H locs ls hP hS hl
  exact k H locs ls hP hS (lv_sub hl ks hl')

theorem l_sld (X : gLX Γ base b N xs) {i : Int32} {n : Nat} (hi : i.toInt = n) (hn : n < N) (hd : decode cL_law pc = .ok (.iaload, 1)) (k : GL Γ M (pc + 1) L (.int (xs n) :: S)) : GL Γ M pc L (.int i :: .ref b :: S) := by
  obtain ⟨p, l, e, s, m, below, meth, c, D, cI, cJ, cZ, b', N', xs'⟩ := Γ
  obtain ⟨rfl, rfl, rfl, rfl, hx, hb, hml, hr, hlk, hown, hts, hK, hN, hX, hbl, h3072⟩ := X
  intro H locs ls hP hS hl
  have hc : i.toNatClampNeg = n := by show i.toInt.toNat = n; omega
  refine va_sld hx hb hX hbl (Nat.not_le.mpr hbl) hS (vp_in_iff.mpr (by omega)) hd ?_
  rw [hc]
  exact k H locs ls hP hS hl

theorem l_slen (X : gLX Γ base b N xs) (hd : decode cL_law pc = .ok (.arraylength, 1)) (k : GL Γ M (pc + 1) L (.int (Int32.ofNat N) :: S)) : GL Γ M pc L (.ref b :: S) := by
  obtain ⟨p, l, e, s, m, below, meth, c, D, cI, cJ, cZ, b', N', xs'⟩ := Γ
  obtain ⟨rfl, rfl, rfl, rfl, hx, hb, hml, hr, hlk, hown, hts, hK, hN, hX, hbl, h3072⟩ := X
  intro H locs ls hP hS hl
  exact va_slen hx hb hX hbl (Nat.not_le.mpr hbl) hS hd (k H locs ls hP hS hl)

theorem l_tabIn (X : gLX Γ base b N xs) {dflt lo hi : Int} {offs : Array Int} {len : Nat} {x : Int32} {a off : Int} {tgt : Nat} (hd : decode cL_law pc = .ok (.tableswitch dflt lo hi offs, len)) (ha : x.toInt = a) (h1 : lo ≤ a) (h2 : a ≤ hi) (ho : offs[(a - lo).toNat]? = some off) (ht : (pc : Int) + off = (tgt : Int)) (k : GL Γ M tgt L S) : GL Γ M pc L (.int x :: S) := by
  obtain ⟨p, l, e, s, m, below, meth, c, D, cI, cJ, cZ, b', N', xs'⟩ := Γ
  obtain ⟨rfl, rfl, rfl, rfl, hx, hb, hml, hr, hlk, hown, hts, hK, hN, hX, hbl, h3072⟩ := X
  intro H locs ls hP hS hl
  subst ha
  exact lv_tableIn hx hb hd (by omega) (by omega) ho ht (k H locs ls hP hS hl)

theorem l_tabOut (X : gLX Γ base b N xs) {dflt lo hi : Int} {offs : Array Int} {len : Nat} {x : Int32} {a : Int} {tgt : Nat} (hd : decode cL_law pc = .ok (.tableswitch dflt lo hi offs, len)) (ha : x.toInt = a) (h1 : a < lo ∨ hi < a) (ht : (pc : Int) + dflt = (tgt : Int)) (k : GL Γ M tgt L S) : GL Γ M pc L (.int x :: S) := by
  obtain ⟨p, l, e, s, m, below, meth, c, D, cI, cJ, cZ, b', N', xs'⟩ := Γ
  obtain ⟨rfl, rfl, rfl, rfl, hx, hb, hml, hr, hlk, hown, hts, hK, hN, hX, hbl, h3072⟩ := X
  intro H locs ls hP hS hl
  subst ha
  exact lv_tableOut hx hb hd h1 ht (k H locs ls hP hS hl)

theorem l_eq (X : gLX Γ base b N xs) {x y : Int32} (hxy : x = y) {off : Int} {tgt : Nat} (hd : decode cL_law pc = .ok (.if_icmp .eq off, 3)) (ht : (pc : Int) + off = (tgt : Int)) (k : GL Γ M tgt L S) : GL Γ M pc L (.int y :: .int x :: S) := by
  obtain ⟨p, l, e, s, m, below, meth, c, D, cI, cJ, cZ, b', N', xs'⟩ := Γ
  obtain ⟨rfl, rfl, rfl, rfl, hx, hb, hml, hr, hlk, hown, hts, hK, hN, hX, hbl, h3072⟩ := X
  intro H locs ls hP hS hl
  exact lv_icmp_eq hx hb hd ht (fun _ => k H locs ls hP hS hl) (fun h => absurd hxy h)

theorem l_gt (X : gLX Γ base b N xs) {x y : Int32} {a b' : Int} (ha : x.toInt = a) (hb' : y.toInt = b') {off : Int} {tgt : Nat} (hd : decode cL_law pc = .ok (.if_icmp .gt off, 3)) (ht : (pc : Int) + off = (tgt : Int)) (kt : b' < a → GL Γ M tgt L S) (kf : a ≤ b' → GL Γ M (pc + 3) L S) : GL Γ M pc L (.int y :: .int x :: S) := by
  obtain ⟨p, l, e, s, m, below, meth, c, D, cI, cJ, cZ, b', N', xs'⟩ := Γ
  obtain ⟨rfl, rfl, rfl, rfl, hx, hb, hml, hr, hlk, hown, hts, hK, hN, hX, hbl, h3072⟩ := X
  intro H locs ls hP hS hl
  refine lv_icmp_gt hx hb hd ht (fun h => ?_) (fun h => ?_)
  · exact kt (by rw [← ha, ← hb']; exact Int32.lt_iff_toInt_lt.mp h) H locs ls hP hS hl
  · exact kf (by rw [← ha, ← hb']; exact Int.not_lt.mp (fun q => h (Int32.lt_iff_toInt_lt.mpr q))) H locs ls hP hS hl

theorem l_end (X : gLX Γ base b N xs) (hd : decode cL_law pc = .ok (.ireturn, 1)) : GL Γ M pc L [.int 1] := by
  obtain ⟨p, l, e, s, m, below, meth, c, D, cI, cJ, cZ, b', N', xs'⟩ := Γ
  obtain ⟨rfl, rfl, rfl, rfl, hx, hb, hml, hr, hlk, hown, hts, hK, hN, hX, hbl, h3072⟩ := X
  intro H locs ls hP hS hl
  exact va_forget (fun q hq => hS.2.2 q hq) (lw_ret hx hb hr hlk hd)

theorem l_callV (X : gLX Γ base b N xs) {idx k nL' n d' : Nat} {y : MethodName} {cc' : ByteArray} {ret' : Option FieldType} {post' : Post} {As St : List Value} (h : MV RL idx k y cc' nL' ret' n) (hc : Ctr (fun k => base + k) y cc' nL' ret' d' (.ref (base + k) :: As) M post') (hn : As.length = n) (hd' : d' + 1 ≤ 10 ∧ 8 + (nL' + 11) + 38 * d' ≤ 388) (hS8 : (S.map fun v => v.category).sum ≤ 8) (hst : St = As.reverse ++ .ref (base + k) :: S) (hd : decode cL_law pc = .ok (.invokevirtual idx, 3))
    (kk : ∀ v M', post' v M' → GL Γ M' (pc + 3) L (v.toList ++ S)) : GL Γ M pc L St := by
  obtain ⟨p, l, e, s, m, below, meth, c, D, cI, cJ, cZ, b', N', xs'⟩ := Γ
  obtain ⟨rfl, rfl, rfl, rfl, hx, hb, hml, hr, hlk, hown, hts, hK, hN, hX, hbl, h3072⟩ := X
  intro H locs ls hP hS hl
  obtain ⟨⟨ci, fs, T, N, h1, h2⟩, h3, h4, h5, h6, h7, h8⟩ := h
  have hAd : AdOK (fun k => s.heap.size + k) := fun i j _ _ h => Nat.add_left_cancel h
  have he : (wsl (fun k => s.heap.size + k) cI cJ cZ M)[k]? = some (s.heap.size + k, .inr (ci, fs.mapIdx (fun j f => fv (fun k => s.heap.size + k) M k j f))) := wsl_at h1
  have hrv := va_recv hK hP h2 he
  have hM := hc l D cI cJ cZ
  have run : va_Run p l e room_1 s m #[Value.ref b'] below meth c H locs 91 64723 0 0 (F0 m pc ls St) S (Qg (fun k => s.heap.size + k) D cI cJ cZ post' (Value.ref (s.heap.size + k) :: As).toArray) (aA (fun k => s.heap.size + k)) := by
    rcases h3 with h3 | ⟨host, h3⟩
    · exact va_runV (As := As) (rest := S) (Ts := gT) ⟨hx, hb, hml, hown, hts⟩ hM ⟨callB_of n hts (gT_callee h7) rfl rfl rfl (hts _ h6) (hts _ h3) h8 hd', hts _ h4, hts _ h5⟩ ⟨wd_blind, hrv, fun U hU hW => ⟨rfl, by rw [hU]; exact hP, va_K.moved hW.alike hK, hN.warm hW, hAd⟩⟩ rfl hn hl.1 hst (lv_room hS8) hd ⟨Nat.le_refl _, Nat.le_refl _⟩
    · exact va_runVN (As := As) (rest := S) (Ts := gT) (host := host) ⟨hx, hb, hml, hown, hts⟩ hM ⟨va_cnB n hts (gT_callee h7) rfl rfl rfl (hN _ h3 rfl) (hts _ h6) h8 hd', hts _ h4, hts _ h5⟩ ⟨wd_blind, hrv, fun U hU hW => ⟨rfl, by rw [hU]; exact hP, va_K.moved hW.alike hK, hN.warm hW, hAd⟩⟩ rfl hn hl.1 hst (lv_room hS8) hd ⟨Nat.le_refl _, Nat.le_refl _⟩
  intro T hT Xs
  obtain ⟨v, st₀, t, T', Lc, h0, X', hL, e1, e2, ⟨⟨v', M', hv, hp, hbP⟩, hz, hkq⟩, st⟩ := run T hT Xs
  cases hv
  rw [h0] at hz hkq
  have hno : ∀ q, ¬ s.heap.size ≤ q → ¬ aA (fun k => s.heap.size + k) q := fun q hq ⟨k, _, e⟩ => hq (by rw [e]; exact Nat.le_add_right _ _)
  obtain ⟨t2, a1, b1⟩ := kk v M' hp T'.heap (locs ++ Lc) ls (by rw [e1]; exact hbP)
    ⟨Nat.le_trans hS.1 (by rw [e1]; exact hz), fun q g1 g2 => by rw [e1, hkq q (Nat.lt_of_lt_of_le g1 hS.1) (hno q g2)]; exact hS.2.1 q g1 g2, fun q hq => by
      rcases List.mem_append.mp hq with h | h
      · exact hS.2.2 q h
      · obtain ⟨k, _, ek⟩ := hL q h
        show s.heap.size ≤ q.base
        rw [ek]; exact Nat.le_add_right _ _⟩ hl T' rfl X'
  exact ⟨t2, st t2 a1, b1⟩

abbrev LL (b base : Nat) (y : Int32) : List (Nat × Value) := [(0, .ref b), (1, .ref (base + 0)), (2, .ref (base + 47)), (3, .int y)]
/-- the k-th number behind the call's own -/
theorem l_arg (X : gLX Γ base b N xs) {y : Int32} {i : Nat} (hy : y.toInt = i) (hi : i + 6 ≤ N) (hN : N ≤ 3072) {z : Int} (k : Nat) (hk : k ≤ 5 ∧ (Int32.ofInt z).toInt = k) (d0 : decode cL_law pc = .ok (.aload_n 0, 1)) (d1 : decode cL_law (pc + 1) = .ok (.iload_n 3, 1)) (d2 : decode cL_law (pc + 1 + 1) = .ok (.iconst z, 1)) (d3 : decode cL_law (pc + 1 + 1 + 1) = .ok (.iadd, 1)) (d4 : decode cL_law (pc + 1 + 1 + 1 + 1) = .ok (.iaload, 1)) (kk : GL Γ M (pc + 1 + 1 + 1 + 1 + 1) (LL b base y) (.int (xs (i + k)) :: S)) : GL Γ M pc (LL b base y) S := by
  refine l_aload X 0 rfl d0 ?_
  refine l_iload X 3 rfl d1 ?_
  refine l_iconst X _ d2 rfl ?_
  refine l_iadd X d3 (fun v ev => ?_)
  have tv : v.toInt = (i : Int) + k := add_nw ev hy hk.2 (by omega)
  exact l_sld X (n := i + k) (by omega) (by omega) d4 kk
def lgw (x y : Int32) : Int64 := (x.toInt64 <<< ((32 : Int32).toInt64 &&& 63)) ||| (y.toInt64 &&& 4294967295)
end
section
theorem land31 {x z : Int32} (e : z = x &&& 31) : 0 ≤ z.toInt ∧ z.toInt ≤ 31 := by
  have h1 : z.toBitVec.toNat ≤ 31 := by
    rw [e, Int32.toBitVec_and, BitVec.toNat_and]
    exact Nat.le_trans Nat.and_le_right (by decide)
  have h2 : z.toInt = z.toBitVec.toNat := BitVec.toInt_eq_toNat_of_lt (by omega)
  omega
theorem lo_in {W : List (Nat × Nat)} (h : W.all (fun q => decide (q.1 < 47)) = true) {k : Nat} (hk : 47 ≤ k) (j : Nat) : inW W k j = false := by
  refine noW_in (List.all_eq_true.mpr fun q hq => ?_) j
  have := of_decide_eq_true (List.all_eq_true.mp h q hq)
  simp only [bne_iff_ne]
  omega
theorem hi_in {W : List (Nat × Nat)} (h : W.all (fun q => decide (47 ≤ q.1)) = true) {k : Nat} (hk : k < 47) (j : Nat) : inW W k j = false := by
  refine noW_in (List.all_eq_true.mpr fun q hq => ?_) j
  have := of_decide_eq_true (List.all_eq_true.mp h q hq)
  simp only [bne_iff_ne]
  omega
def LX (M : Mem) : Prop := Iv TX M ∧ 0 ≤ (M.2 33 12).toInt
def LM (M : Mem) : Prop := Iv TM M ∧ WFM M ∧ WFT M ∧ 0 ≤ (M.2 47 34).toInt
theorem LX_fr {W : List (Nat × Nat)} {M M' : Mem} (h : LX M) (fr : Fr W M M') (hw : W.all (fun q => decide (47 ≤ q.1)) = true) : LX M' := by
  refine ⟨fun q hq j h0 h1 => ?_, by rw [fr.atL 33 12 (hi_in hw (by decide) _)]; exact h.2⟩
  have hq' : q.1 < 47 := of_decide_eq_true (List.all_eq_true.mp (show TX.all (fun q => decide (q.1 < 47)) = true by decide +kernel) q hq)
  rw [fr.at q.1 j (hi_in hw hq' j)]
  exact h.1 q hq j h0 h1
theorem LM_fr {W : List (Nat × Nat)} {M M' : Mem} (h : LM M) (fr : Fr W M M') (hw : W.all (fun q => decide (q.1 < 47)) = true) : LM M' := by
  refine ⟨fun q hq j h0 h1 => ?_, WFM_fr0 h.2.1 fr (lo_in hw (by decide)) (lo_in hw (by decide)) (lo_in hw (by decide)), fun x hx => ?_, by rw [fr.atL 47 34 (lo_in hw (by decide) _)]; exact h.2.2.2⟩
  · have hq' : 47 ≤ q.1 := of_decide_eq_true (List.all_eq_true.mp (show TM.all (fun q => decide (47 ≤ q.1)) = true by decide +kernel) q hq)
    rw [fr.at q.1 j (lo_in hw hq' j)]
    exact h.1 q hq j h0 h1
  · have := h.2.2.1 x hx
    unfold tel at this ⊢
    rw [fr.at 63 x (lo_in hw (by decide) x), fr.at 47 23 (lo_in hw (by decide) 23)]
    exact this
/-- the numbers that both sides keep, by their places -/
def RE (M : Mem) : Prop := ((M.1 1 3).toInt = (M.1 47 11).toInt ∧ (M.1 1 12).toInt = (M.1 47 12).toInt ∧ (M.1 14 1).toInt = (M.1 47 20).toInt ∧ (M.1 14 12).toInt = (M.1 47 24).toInt ∧ (M.1 23 2).toInt = (M.1 47 52).toInt ∧ (M.1 23 7).toInt = (M.1 47 53).toInt ∧ (M.1 0 7).toInt = (M.1 47 43).toInt) ∧ (∀ j, j < 10 → M.1 5 j = M.1 51 j) ∧ (∀ j, j < 3 → M.1 12 j = M.1 58 j) ∧ (∀ j, j < 8 → M.1 25 j = M.1 80 j)
def LI (n : Nat) (M : Mem) : Prop := LX M ∧ LM M ∧ RE M ∧ 0 ≤ (M.1 47 23).toInt ∧ (M.1 47 23).toInt ≤ n
theorem row_keep {W W' : List (Nat × Nat)} {M M1 M2 : Mem} {k k' n : Nat} (h : ∀ j, j < n → M.1 k j = M.1 k' j) (F : Fr W M M1) (F' : Fr W' M1 M2) (h1 : noW W k = true) (h2 : noW W k' = true) (h3 : noW W' k = true) (h4 : noW W' k' = true) : ∀ j, j < n → M2.1 k j = M2.1 k' j := by
  intro j hj
  rw [F'.at k j (noW_in h3 j), F.at k j (noW_in h1 j), F'.at k' j (noW_in h4 j), F.at k' j (noW_in h2 j)]
  exact h j hj
theorem row_eq {W W' : List (Nat × Nat)} {M M1 M2 : Mem} {k k' n q : Nat} {x : Int32} {C C' : Prop} (h : ∀ j, j < n → M.1 k j = M.1 k' j) (hc : C ↔ C') (g : (C → M1.1 k = M.1 k) ∧ (¬ C → M1.1 k = (ui M k q x).1 k)) (g' : (C' → M2.1 k' = M1.1 k') ∧ (¬ C' → M2.1 k' = (ui M1 k' q x).1 k')) (F : Fr W M M1) (F' : Fr W' M1 M2) (h2 : noW W k' = true) (h3 : noW W' k = true) : ∀ j, j < n → M2.1 k j = M2.1 k' j := by
  intro j hj
  rw [F'.at k j (noW_in h3 j)]
  by_cases hC : C
  · rw [g.1 hC, g'.1 (hc.mp hC), F.at k' j (noW_in h2 j)]
    exact h j hj
  · rw [g.2 hC, g'.2 (fun z => hC (hc.mpr z))]
    by_cases hq : j = q
    · subst hq; rw [ui_eq, ui_eq]
    · rw [ui_nj hq, ui_nj hq, F.at k' j (noW_in h2 j)]
      exact h j hj
end
