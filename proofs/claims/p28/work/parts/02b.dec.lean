def dqWd (c d : ByteArray) (p : Nat) : Prop := ∀ i (h : i < d.size), ∃ h' : p + i < c.size, c[p+i] = d[i]
theorem dqu1_eq (x : ByteArray) (n : Nat) : (Reader.u1 : Decoder Nat) x n = if h : n < x.size then .ok (x[n].toNat, n + 1) else .error (HasTruncated.truncated n) := by
    by_cases hn : n < x.size
    · simp only [hn, dite_true]
      show (if h : n < x.size then _ else _ : Decoder Nat) x n = _
      rw [dif_pos hn]; rfl
    · simp only [hn, dite_false]
      show (if h : n < x.size then _ else _ : Decoder Nat) x n = _
      rw [dif_neg hn]; rfl
theorem dqbind_eq {α β : Type} (r : Decoder α) (f : α → Decoder β) (x : ByteArray) (n : Nat) : (r >>= f) x n = (match r x n with | .ok (a, m) => f a x m | .error e => .error e) := by
    show (StateT.bind (r x) (fun a => f a x)) n = _
    unfold StateT.bind
    show (r x n >>= fun y => _) = _
    cases r x n <;> rfl
abbrev dqLF (c : ByteArray) (p : Nat) (l : List UInt8) : Prop := (c.data.toList.drop p).take l.length = l
theorem dqLF_wd {c p l} (h : dqLF c p l) : dqWd c ⟨⟨l⟩⟩ p := by
  intro i hi
  have hi' : i < l.length := hi
  have h1 : l[i]? = some l[i] := List.getElem?_eq_getElem hi'
  have h2 : l[i]? = c.data.toList[p + i]? := by
    have h0 : l[i]? = ((c.data.toList.drop p).take l.length)[i]? := by rw [show (c.data.toList.drop p).take l.length = l from h]
    rw [h0, List.getElem?_take, if_pos hi', List.getElem?_drop]
  rw [h1] at h2
  have h3 := List.getElem?_eq_some_iff.mp h2.symm
  obtain ⟨h4, h5⟩ := h3
  refine ⟨h4, ?_⟩
  exact h5
def dqby1 : List UInt8 → Nat → Nat
  | x :: _, 0 => x.toNat
  | _ :: l, j + 1 => dqby1 l j
  | [], _ => 256
theorem dqby1_u1 {c p l} (h : dqLF c p l) {j b : Nat} (hb : dqby1 l j = b) (hlt : b < 256) : (Reader.u1 : Decoder Nat) c (p + j) = .ok (b, p + j + 1) := by
  have key : ∀ (l : List UInt8) (j : Nat), dqby1 l j < 256 → ∃ h : j < l.length, l[j].toNat = dqby1 l j := by
    intro l
    induction l with
    | nil => intro j h; exact absurd h (by show ¬ (256 < 256); omega)
    | cons x l ih =>
      intro j h
      cases j with
      | zero => exact ⟨Nat.zero_lt_succ _, rfl⟩
      | succ j =>
        obtain ⟨h1, h2⟩ := ih j h
        exact ⟨Nat.succ_lt_succ h1, h2⟩
  obtain ⟨hj, hv⟩ := key l j (by omega)
  obtain ⟨h1, h2⟩ := dqLF_wd h j hj
  rw [dqu1_eq, dif_pos h1, h2]
  have : (({ data := { toList := l } } : ByteArray)[j]'hj).toNat = b := by rw [← hb, ← hv]; rfl
  rw [this]
theorem dqdecode_eq (c : ByteArray) (pc : Nat) : decode c pc = (match Decoder.instr pc c pc with | .ok (i, m) => .ok (i, m - pc) | .error e => .error e) := by
    unfold decode Reader.runAt
    show (Decoder.instr pc c pc >>= fun y => _) = _
    cases Decoder.instr pc c pc <;> rfl
def dqKof (pc b : Nat) (k : Decoder Instr) : Prop := ∃ K : Nat → Decoder Instr, Decoder.instr pc = (Reader.u1 >>= K) ∧ K b = k
theorem dqdec_ok {c pc b k i m n} (hK : dqKof pc b k) (h0 : (Reader.u1 : Decoder Nat) c pc = .ok (b, pc + 1)) (h1 : k c (pc + 1) = .ok (i, m)) (hn : m = pc + n) : decode c pc = .ok (i, n) := by
  obtain ⟨K, h, hb⟩ := hK
  rw [dqdecode_eq, h, dqbind_eq, h0]
  simp only [hb, h1]
  rw [hn, Nat.add_sub_cancel_left]
theorem dqr0 {c p l b pc} {i : Instr} (hK : ∀ pc, dqKof pc b (Pure.pure i)) (hw : dqLF c p l) (j : Nat) (hb : dqby1 l j = b) (hpc : p + j = pc) (hlt : b < 256 := by decide) : decode c pc = .ok (i, 1) := by
  subst hpc
  exact dqdec_ok (hK _) (dqby1_u1 hw hb hlt) rfl rfl
theorem dqr1 {c p l b pc x} {f : Nat → Instr} (hK : ∀ pc, dqKof pc b (Reader.u1 >>= fun x => Pure.pure (f x))) (hw : dqLF c p l) (j : Nat) (hb : dqby1 l j = b) (hpc : p + j = pc)
    (hx : dqby1 l (j + 1) = x) (hxl : x < 256 := by decide) (hlt : b < 256 := by decide) : decode c pc = .ok (f x, 2) := by
  subst hpc
  refine dqdec_ok (m := p + j + 2) (hK _) (dqby1_u1 hw hb hlt) ?_ rfl
  rw [dqbind_eq, Nat.add_assoc, dqby1_u1 hw hx hxl]
  rfl
theorem dqr2 {c p l b pc x y v} {f : Nat → Instr} (hK : ∀ pc, dqKof pc b (Reader.u2 >>= fun x => Pure.pure (f x))) (hw : dqLF c p l) (j : Nat) (hb : dqby1 l j = b) (hpc : p + j = pc)
    (hx : dqby1 l (j + 1) = x) (hy : dqby1 l (j + 2) = y) (hv : x * 256 + y = v) (hxl : x < 256 := by decide) (hyl : y < 256 := by decide) (hlt : b < 256 := by decide) : decode c pc = .ok (f v, 3) := by
  subst hpc; subst hv
  refine dqdec_ok (m := p + j + 3) (hK _) (dqby1_u1 hw hb hlt) ?_ rfl
  rw [dqbind_eq]
  have e : (Reader.u2 : Decoder Nat) c (p + j + 1) = .ok (x * 256 + y, p + j + 3) := by
    show (Reader.u1 >>= fun hi => Reader.u1 >>= fun lo => Pure.pure (hi * 256 + lo) : Decoder Nat) c (p + j + 1) = _
    rw [dqbind_eq, Nat.add_assoc, dqby1_u1 hw hx hxl]
    show (Reader.u1 >>= fun lo => Pure.pure (x * 256 + lo) : Decoder Nat) c (p + (j + 1) + 1) = _
    rw [dqbind_eq]
    have e2 : p + (j + 1) + 1 = p + (j + 2) := by omega
    rw [e2, dqby1_u1 hw hy hyl]
    rfl
  rw [e]; rfl
theorem dqrs1 {c p l b pc x v} {f : Int → Instr} (hK : ∀ pc, dqKof pc b (Reader.s1 >>= fun x => Pure.pure (f x))) (hw : dqLF c p l) (j : Nat) (hb : dqby1 l j = b) (hpc : p + j = pc)
    (hx : dqby1 l (j + 1) = x) (hv : Reader.signed 8 x = v) (hxl : x < 256 := by decide) (hlt : b < 256 := by decide) : decode c pc = .ok (f v, 2) := by
  subst hpc; subst hv
  refine dqdec_ok (m := p + j + 2) (hK _) (dqby1_u1 hw hb hlt) ?_ rfl
  have e : (Reader.s1 : Decoder Int) c (p + j + 1) = .ok (Reader.signed 8 x, p + j + 2) := by
    show (Reader.u1 >>= fun a => Pure.pure (Reader.signed 8 a) : Decoder Int) c (p + j + 1) = _
    rw [dqbind_eq, Nat.add_assoc, dqby1_u1 hw hx hxl]
    rfl
  rw [dqbind_eq, e]; rfl
theorem dqu2_at {c p l x y} (hw : dqLF c p l) (j : Nat) (hx : dqby1 l (j + 1) = x) (hy : dqby1 l (j + 2) = y) (hxl : x < 256) (hyl : y < 256) :
    (Reader.u2 : Decoder Nat) c (p + j + 1) = .ok (x * 256 + y, p + j + 3) := by
  show (Reader.u1 >>= fun hi => Reader.u1 >>= fun lo => Pure.pure (hi * 256 + lo) : Decoder Nat) c (p + j + 1) = _
  rw [dqbind_eq, Nat.add_assoc, dqby1_u1 hw hx hxl]
  show (Reader.u1 >>= fun lo => Pure.pure (x * 256 + lo) : Decoder Nat) c (p + (j + 1) + 1) = _
  rw [dqbind_eq]
  have e2 : p + (j + 1) + 1 = p + (j + 2) := by omega
  rw [e2, dqby1_u1 hw hy hyl]
  rfl
theorem dqrs2 {c p l b pc x y v} {f : Int → Instr} (hK : ∀ pc, dqKof pc b (Reader.s2 >>= fun x => Pure.pure (f x))) (hw : dqLF c p l) (j : Nat) (hb : dqby1 l j = b) (hpc : p + j = pc)
    (hx : dqby1 l (j + 1) = x) (hy : dqby1 l (j + 2) = y) (hv : Reader.signed 16 (x * 256 + y) = v) (hxl : x < 256 := by decide) (hyl : y < 256 := by decide) (hlt : b < 256 := by decide) : decode c pc = .ok (f v, 3) := by
  subst hpc; subst hv
  refine dqdec_ok (m := p + j + 3) (hK _) (dqby1_u1 hw hb hlt) ?_ rfl
  have e : (Reader.s2 : Decoder Int) c (p + j + 1) = .ok (Reader.signed 16 (x * 256 + y), p + j + 3) := by
    show (Reader.u2 >>= fun a => Pure.pure (Reader.signed 16 a) : Decoder Int) c (p + j + 1) = _
    rw [dqbind_eq, dqu2_at hw j hx hy hxl hyl]
    rfl
  rw [dqbind_eq, e]; rfl
theorem dqri {c p l b pc x y v} {f : Nat → Int → Instr} (hK : ∀ pc, dqKof pc b (Reader.u1 >>= fun x => Reader.s1 >>= fun y => Pure.pure (f x y))) (hw : dqLF c p l) (j : Nat) (hb : dqby1 l j = b) (hpc : p + j = pc)
    (hx : dqby1 l (j + 1) = x) (hy : dqby1 l (j + 2) = y) (hv : Reader.signed 8 y = v) (hxl : x < 256 := by decide) (hyl : y < 256 := by decide) (hlt : b < 256 := by decide) : decode c pc = .ok (f x v, 3) := by
  subst hpc; subst hv
  refine dqdec_ok (m := p + j + 3) (hK _) (dqby1_u1 hw hb hlt) ?_ rfl
  have e : (Reader.s1 : Decoder Int) c (p + (j + 1) + 1) = .ok (Reader.signed 8 y, p + j + 3) := by
    show (Reader.u1 >>= fun a => Pure.pure (Reader.signed 8 a) : Decoder Int) c (p + (j + 1) + 1) = _
    have e2 : p + (j + 1) + 1 = p + (j + 2) := by omega
    rw [e2, dqbind_eq, dqby1_u1 hw hy hyl]
    rfl
  rw [dqbind_eq, Nat.add_assoc, dqby1_u1 hw hx hxl]
  show (Reader.s1 >>= fun y => Pure.pure (f x y) : Decoder Instr) c (p + (j + 1) + 1) = _
  rw [dqbind_eq, e]; rfl
section
set_option maxRecDepth 16384
theorem dqK_0 (pc : Nat) : dqKof pc 0 (Pure.pure (Instr.nop)) := ⟨_, rfl, rfl⟩
theorem dqK_1 (pc : Nat) : dqKof pc 1 (Pure.pure (Instr.aconst_null)) := ⟨_, rfl, rfl⟩
theorem dqK_2 (pc : Nat) : dqKof pc 2 (Pure.pure (Instr.iconst (-1))) := ⟨_, rfl, rfl⟩
theorem dqK_3 (pc : Nat) : dqKof pc 3 (Pure.pure (Instr.iconst 0)) := ⟨_, rfl, rfl⟩
theorem dqK_4 (pc : Nat) : dqKof pc 4 (Pure.pure (Instr.iconst 1)) := ⟨_, rfl, rfl⟩
theorem dqK_5 (pc : Nat) : dqKof pc 5 (Pure.pure (Instr.iconst 2)) := ⟨_, rfl, rfl⟩
theorem dqK_6 (pc : Nat) : dqKof pc 6 (Pure.pure (Instr.iconst 3)) := ⟨_, rfl, rfl⟩
theorem dqK_7 (pc : Nat) : dqKof pc 7 (Pure.pure (Instr.iconst 4)) := ⟨_, rfl, rfl⟩
theorem dqK_8 (pc : Nat) : dqKof pc 8 (Pure.pure (Instr.iconst 5)) := ⟨_, rfl, rfl⟩
theorem dqK_9 (pc : Nat) : dqKof pc 9 (Pure.pure (Instr.lconst 0)) := ⟨_, rfl, rfl⟩
theorem dqK_10 (pc : Nat) : dqKof pc 10 (Pure.pure (Instr.lconst 1)) := ⟨_, rfl, rfl⟩
theorem dqK_26 (pc : Nat) : dqKof pc 26 (Pure.pure (Instr.iload_n 0)) := ⟨_, rfl, rfl⟩
theorem dqK_27 (pc : Nat) : dqKof pc 27 (Pure.pure (Instr.iload_n 1)) := ⟨_, rfl, rfl⟩
theorem dqK_28 (pc : Nat) : dqKof pc 28 (Pure.pure (Instr.iload_n 2)) := ⟨_, rfl, rfl⟩
theorem dqK_29 (pc : Nat) : dqKof pc 29 (Pure.pure (Instr.iload_n 3)) := ⟨_, rfl, rfl⟩
theorem dqK_30 (pc : Nat) : dqKof pc 30 (Pure.pure (Instr.lload_n 0)) := ⟨_, rfl, rfl⟩
theorem dqK_31 (pc : Nat) : dqKof pc 31 (Pure.pure (Instr.lload_n 1)) := ⟨_, rfl, rfl⟩
theorem dqK_32 (pc : Nat) : dqKof pc 32 (Pure.pure (Instr.lload_n 2)) := ⟨_, rfl, rfl⟩
theorem dqK_33 (pc : Nat) : dqKof pc 33 (Pure.pure (Instr.lload_n 3)) := ⟨_, rfl, rfl⟩
theorem dqK_42 (pc : Nat) : dqKof pc 42 (Pure.pure (Instr.aload_n 0)) := ⟨_, rfl, rfl⟩
theorem dqK_43 (pc : Nat) : dqKof pc 43 (Pure.pure (Instr.aload_n 1)) := ⟨_, rfl, rfl⟩
theorem dqK_44 (pc : Nat) : dqKof pc 44 (Pure.pure (Instr.aload_n 2)) := ⟨_, rfl, rfl⟩
theorem dqK_45 (pc : Nat) : dqKof pc 45 (Pure.pure (Instr.aload_n 3)) := ⟨_, rfl, rfl⟩
theorem dqK_46 (pc : Nat) : dqKof pc 46 (Pure.pure (Instr.iaload)) := ⟨_, rfl, rfl⟩
theorem dqK_47 (pc : Nat) : dqKof pc 47 (Pure.pure (Instr.laload)) := ⟨_, rfl, rfl⟩
theorem dqK_50 (pc : Nat) : dqKof pc 50 (Pure.pure (Instr.aaload)) := ⟨_, rfl, rfl⟩
theorem dqK_51 (pc : Nat) : dqKof pc 51 (Pure.pure (Instr.baload)) := ⟨_, rfl, rfl⟩
theorem dqK_59 (pc : Nat) : dqKof pc 59 (Pure.pure (Instr.istore_n 0)) := ⟨_, rfl, rfl⟩
theorem dqK_60 (pc : Nat) : dqKof pc 60 (Pure.pure (Instr.istore_n 1)) := ⟨_, rfl, rfl⟩
theorem dqK_61 (pc : Nat) : dqKof pc 61 (Pure.pure (Instr.istore_n 2)) := ⟨_, rfl, rfl⟩
theorem dqK_62 (pc : Nat) : dqKof pc 62 (Pure.pure (Instr.istore_n 3)) := ⟨_, rfl, rfl⟩
theorem dqK_63 (pc : Nat) : dqKof pc 63 (Pure.pure (Instr.lstore_n 0)) := ⟨_, rfl, rfl⟩
theorem dqK_64 (pc : Nat) : dqKof pc 64 (Pure.pure (Instr.lstore_n 1)) := ⟨_, rfl, rfl⟩
theorem dqK_65 (pc : Nat) : dqKof pc 65 (Pure.pure (Instr.lstore_n 2)) := ⟨_, rfl, rfl⟩
theorem dqK_66 (pc : Nat) : dqKof pc 66 (Pure.pure (Instr.lstore_n 3)) := ⟨_, rfl, rfl⟩
theorem dqK_75 (pc : Nat) : dqKof pc 75 (Pure.pure (Instr.astore_n 0)) := ⟨_, rfl, rfl⟩
theorem dqK_76 (pc : Nat) : dqKof pc 76 (Pure.pure (Instr.astore_n 1)) := ⟨_, rfl, rfl⟩
theorem dqK_77 (pc : Nat) : dqKof pc 77 (Pure.pure (Instr.astore_n 2)) := ⟨_, rfl, rfl⟩
theorem dqK_78 (pc : Nat) : dqKof pc 78 (Pure.pure (Instr.astore_n 3)) := ⟨_, rfl, rfl⟩
theorem dqK_79 (pc : Nat) : dqKof pc 79 (Pure.pure (Instr.iastore)) := ⟨_, rfl, rfl⟩
theorem dqK_80 (pc : Nat) : dqKof pc 80 (Pure.pure (Instr.lastore)) := ⟨_, rfl, rfl⟩
theorem dqK_83 (pc : Nat) : dqKof pc 83 (Pure.pure (Instr.aastore)) := ⟨_, rfl, rfl⟩
theorem dqK_84 (pc : Nat) : dqKof pc 84 (Pure.pure (Instr.bastore)) := ⟨_, rfl, rfl⟩
theorem dqK_87 (pc : Nat) : dqKof pc 87 (Pure.pure (Instr.pop)) := ⟨_, rfl, rfl⟩
theorem dqK_88 (pc : Nat) : dqKof pc 88 (Pure.pure (Instr.pop2)) := ⟨_, rfl, rfl⟩
theorem dqK_89 (pc : Nat) : dqKof pc 89 (Pure.pure (Instr.dup)) := ⟨_, rfl, rfl⟩
theorem dqK_90 (pc : Nat) : dqKof pc 90 (Pure.pure (Instr.dup_x1)) := ⟨_, rfl, rfl⟩
theorem dqK_91 (pc : Nat) : dqKof pc 91 (Pure.pure (Instr.dup_x2)) := ⟨_, rfl, rfl⟩
theorem dqK_92 (pc : Nat) : dqKof pc 92 (Pure.pure (Instr.dup2)) := ⟨_, rfl, rfl⟩
theorem dqK_96 (pc : Nat) : dqKof pc 96 (Pure.pure (Instr.iadd)) := ⟨_, rfl, rfl⟩
theorem dqK_97 (pc : Nat) : dqKof pc 97 (Pure.pure (Instr.ladd)) := ⟨_, rfl, rfl⟩
theorem dqK_100 (pc : Nat) : dqKof pc 100 (Pure.pure (Instr.isub)) := ⟨_, rfl, rfl⟩
theorem dqK_101 (pc : Nat) : dqKof pc 101 (Pure.pure (Instr.lsub)) := ⟨_, rfl, rfl⟩
theorem dqK_104 (pc : Nat) : dqKof pc 104 (Pure.pure (Instr.imul)) := ⟨_, rfl, rfl⟩
theorem dqK_105 (pc : Nat) : dqKof pc 105 (Pure.pure (Instr.lmul)) := ⟨_, rfl, rfl⟩
theorem dqK_108 (pc : Nat) : dqKof pc 108 (Pure.pure (Instr.idiv)) := ⟨_, rfl, rfl⟩
theorem dqK_109 (pc : Nat) : dqKof pc 109 (Pure.pure (Instr.ldiv)) := ⟨_, rfl, rfl⟩
theorem dqK_112 (pc : Nat) : dqKof pc 112 (Pure.pure (Instr.irem)) := ⟨_, rfl, rfl⟩
theorem dqK_113 (pc : Nat) : dqKof pc 113 (Pure.pure (Instr.lrem)) := ⟨_, rfl, rfl⟩
theorem dqK_116 (pc : Nat) : dqKof pc 116 (Pure.pure (Instr.ineg)) := ⟨_, rfl, rfl⟩
theorem dqK_117 (pc : Nat) : dqKof pc 117 (Pure.pure (Instr.lneg)) := ⟨_, rfl, rfl⟩
theorem dqK_120 (pc : Nat) : dqKof pc 120 (Pure.pure (Instr.ishl)) := ⟨_, rfl, rfl⟩
theorem dqK_121 (pc : Nat) : dqKof pc 121 (Pure.pure (Instr.lshl)) := ⟨_, rfl, rfl⟩
theorem dqK_122 (pc : Nat) : dqKof pc 122 (Pure.pure (Instr.ishr)) := ⟨_, rfl, rfl⟩
theorem dqK_123 (pc : Nat) : dqKof pc 123 (Pure.pure (Instr.lshr)) := ⟨_, rfl, rfl⟩
theorem dqK_124 (pc : Nat) : dqKof pc 124 (Pure.pure (Instr.iushr)) := ⟨_, rfl, rfl⟩
theorem dqK_125 (pc : Nat) : dqKof pc 125 (Pure.pure (Instr.lushr)) := ⟨_, rfl, rfl⟩
theorem dqK_126 (pc : Nat) : dqKof pc 126 (Pure.pure (Instr.iand)) := ⟨_, rfl, rfl⟩
theorem dqK_127 (pc : Nat) : dqKof pc 127 (Pure.pure (Instr.land)) := ⟨_, rfl, rfl⟩
theorem dqK_128 (pc : Nat) : dqKof pc 128 (Pure.pure (Instr.ior)) := ⟨_, rfl, rfl⟩
theorem dqK_129 (pc : Nat) : dqKof pc 129 (Pure.pure (Instr.lor)) := ⟨_, rfl, rfl⟩
theorem dqK_130 (pc : Nat) : dqKof pc 130 (Pure.pure (Instr.ixor)) := ⟨_, rfl, rfl⟩
theorem dqK_131 (pc : Nat) : dqKof pc 131 (Pure.pure (Instr.lxor)) := ⟨_, rfl, rfl⟩
theorem dqK_133 (pc : Nat) : dqKof pc 133 (Pure.pure (Instr.i2l)) := ⟨_, rfl, rfl⟩
theorem dqK_136 (pc : Nat) : dqKof pc 136 (Pure.pure (Instr.l2i)) := ⟨_, rfl, rfl⟩
theorem dqK_148 (pc : Nat) : dqKof pc 148 (Pure.pure (Instr.lcmp)) := ⟨_, rfl, rfl⟩
theorem dqK_172 (pc : Nat) : dqKof pc 172 (Pure.pure (Instr.ireturn)) := ⟨_, rfl, rfl⟩
theorem dqK_173 (pc : Nat) : dqKof pc 173 (Pure.pure (Instr.lreturn)) := ⟨_, rfl, rfl⟩
theorem dqK_176 (pc : Nat) : dqKof pc 176 (Pure.pure (Instr.areturn)) := ⟨_, rfl, rfl⟩
theorem dqK_177 (pc : Nat) : dqKof pc 177 (Pure.pure (Instr.return_)) := ⟨_, rfl, rfl⟩
theorem dqK_190 (pc : Nat) : dqKof pc 190 (Pure.pure (Instr.arraylength)) := ⟨_, rfl, rfl⟩
theorem dqK_191 (pc : Nat) : dqKof pc 191 (Pure.pure (Instr.athrow)) := ⟨_, rfl, rfl⟩
theorem dqK_18 (pc : Nat) : dqKof pc 18 (Reader.u1 >>= fun x => Pure.pure (Instr.ldc x)) := ⟨_, rfl, rfl⟩
theorem dqK_21 (pc : Nat) : dqKof pc 21 (Reader.u1 >>= fun x => Pure.pure (Instr.iload x)) := ⟨_, rfl, rfl⟩
theorem dqK_22 (pc : Nat) : dqKof pc 22 (Reader.u1 >>= fun x => Pure.pure (Instr.lload x)) := ⟨_, rfl, rfl⟩
theorem dqK_25 (pc : Nat) : dqKof pc 25 (Reader.u1 >>= fun x => Pure.pure (Instr.aload x)) := ⟨_, rfl, rfl⟩
theorem dqK_54 (pc : Nat) : dqKof pc 54 (Reader.u1 >>= fun x => Pure.pure (Instr.istore x)) := ⟨_, rfl, rfl⟩
theorem dqK_55 (pc : Nat) : dqKof pc 55 (Reader.u1 >>= fun x => Pure.pure (Instr.lstore x)) := ⟨_, rfl, rfl⟩
theorem dqK_58 (pc : Nat) : dqKof pc 58 (Reader.u1 >>= fun x => Pure.pure (Instr.astore x)) := ⟨_, rfl, rfl⟩
theorem dqK_16 (pc : Nat) : dqKof pc 16 (Reader.s1 >>= fun x => Pure.pure (Instr.bipush x)) := ⟨_, rfl, rfl⟩
theorem dqK_19 (pc : Nat) : dqKof pc 19 (Reader.u2 >>= fun x => Pure.pure (Instr.ldc_w x)) := ⟨_, rfl, rfl⟩
theorem dqK_20 (pc : Nat) : dqKof pc 20 (Reader.u2 >>= fun x => Pure.pure (Instr.ldc2_w x)) := ⟨_, rfl, rfl⟩
theorem dqK_178 (pc : Nat) : dqKof pc 178 (Reader.u2 >>= fun x => Pure.pure (Instr.getstatic x)) := ⟨_, rfl, rfl⟩
theorem dqK_179 (pc : Nat) : dqKof pc 179 (Reader.u2 >>= fun x => Pure.pure (Instr.putstatic x)) := ⟨_, rfl, rfl⟩
theorem dqK_180 (pc : Nat) : dqKof pc 180 (Reader.u2 >>= fun x => Pure.pure (Instr.getfield x)) := ⟨_, rfl, rfl⟩
theorem dqK_181 (pc : Nat) : dqKof pc 181 (Reader.u2 >>= fun x => Pure.pure (Instr.putfield x)) := ⟨_, rfl, rfl⟩
theorem dqK_182 (pc : Nat) : dqKof pc 182 (Reader.u2 >>= fun x => Pure.pure (Instr.invokevirtual x)) := ⟨_, rfl, rfl⟩
theorem dqK_183 (pc : Nat) : dqKof pc 183 (Reader.u2 >>= fun x => Pure.pure (Instr.invokespecial x)) := ⟨_, rfl, rfl⟩
theorem dqK_184 (pc : Nat) : dqKof pc 184 (Reader.u2 >>= fun x => Pure.pure (Instr.invokestatic x)) := ⟨_, rfl, rfl⟩
theorem dqK_187 (pc : Nat) : dqKof pc 187 (Reader.u2 >>= fun x => Pure.pure (Instr.new x)) := ⟨_, rfl, rfl⟩
theorem dqK_189 (pc : Nat) : dqKof pc 189 (Reader.u2 >>= fun x => Pure.pure (Instr.anewarray x)) := ⟨_, rfl, rfl⟩
theorem dqK_192 (pc : Nat) : dqKof pc 192 (Reader.u2 >>= fun x => Pure.pure (Instr.checkcast x)) := ⟨_, rfl, rfl⟩
theorem dqK_17 (pc : Nat) : dqKof pc 17 (Reader.s2 >>= fun x => Pure.pure (Instr.sipush x)) := ⟨_, rfl, rfl⟩
theorem dqK_153 (pc : Nat) : dqKof pc 153 (Reader.s2 >>= fun x => Pure.pure (Instr.ifCond .eq x)) := ⟨_, rfl, rfl⟩
theorem dqK_154 (pc : Nat) : dqKof pc 154 (Reader.s2 >>= fun x => Pure.pure (Instr.ifCond .ne x)) := ⟨_, rfl, rfl⟩
theorem dqK_155 (pc : Nat) : dqKof pc 155 (Reader.s2 >>= fun x => Pure.pure (Instr.ifCond .lt x)) := ⟨_, rfl, rfl⟩
theorem dqK_156 (pc : Nat) : dqKof pc 156 (Reader.s2 >>= fun x => Pure.pure (Instr.ifCond .ge x)) := ⟨_, rfl, rfl⟩
theorem dqK_157 (pc : Nat) : dqKof pc 157 (Reader.s2 >>= fun x => Pure.pure (Instr.ifCond .gt x)) := ⟨_, rfl, rfl⟩
theorem dqK_158 (pc : Nat) : dqKof pc 158 (Reader.s2 >>= fun x => Pure.pure (Instr.ifCond .le x)) := ⟨_, rfl, rfl⟩
theorem dqK_159 (pc : Nat) : dqKof pc 159 (Reader.s2 >>= fun x => Pure.pure (Instr.if_icmp .eq x)) := ⟨_, rfl, rfl⟩
theorem dqK_160 (pc : Nat) : dqKof pc 160 (Reader.s2 >>= fun x => Pure.pure (Instr.if_icmp .ne x)) := ⟨_, rfl, rfl⟩
theorem dqK_161 (pc : Nat) : dqKof pc 161 (Reader.s2 >>= fun x => Pure.pure (Instr.if_icmp .lt x)) := ⟨_, rfl, rfl⟩
theorem dqK_162 (pc : Nat) : dqKof pc 162 (Reader.s2 >>= fun x => Pure.pure (Instr.if_icmp .ge x)) := ⟨_, rfl, rfl⟩
theorem dqK_163 (pc : Nat) : dqKof pc 163 (Reader.s2 >>= fun x => Pure.pure (Instr.if_icmp .gt x)) := ⟨_, rfl, rfl⟩
theorem dqK_164 (pc : Nat) : dqKof pc 164 (Reader.s2 >>= fun x => Pure.pure (Instr.if_icmp .le x)) := ⟨_, rfl, rfl⟩
theorem dqK_167 (pc : Nat) : dqKof pc 167 (Reader.s2 >>= fun x => Pure.pure (Instr.goto x)) := ⟨_, rfl, rfl⟩
theorem dqK_198 (pc : Nat) : dqKof pc 198 (Reader.s2 >>= fun x => Pure.pure (Instr.ifnull x)) := ⟨_, rfl, rfl⟩
theorem dqK_199 (pc : Nat) : dqKof pc 199 (Reader.s2 >>= fun x => Pure.pure (Instr.ifnonnull x)) := ⟨_, rfl, rfl⟩
theorem dqK_132 (pc : Nat) : dqKof pc 132 (Reader.u1 >>= fun x => Reader.s1 >>= fun y => Pure.pure (Instr.iinc x y)) := ⟨_, rfl, rfl⟩
end
