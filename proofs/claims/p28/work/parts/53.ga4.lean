section
variable {Γ : IC} {cc : ByteArray} {own : String} {R : Room} {nL base : Nat} {ini : Bool} {nul : Nat → Nat → Bool} {M : Mem} {n mc ms pc : Nat} {L : List (Nat × Value)} {S : List Value}
theorem wsp_done2 {base : Nat} {nul : Nat → Nat → Bool} {cI cJ cZ : ClassId} {M : Mem} (h : (List.range nC).all (fun k => (lay.getD k (0, 0, [])).2.2.zipIdx.all (fun q => decide (q.1 < 2) || !nul k q.2)) = true) : wsp base nul cI cJ cZ M nC = wsl (fun k => base + k) cI cJ cZ M := by
  unfold wsp wsl
  apply List.map_congr_left
  intro k hk
  have hk2 := List.all_eq_true.mp h k hk
  unfold cellE cellOf cellPo
  generalize lay.getD k (0, 0, []) = y at hk2 ⊢
  have e : y.2.2.mapIdx (fun j f => fvP (fun k => base + k) nul M k j f) = y.2.2.mapIdx (fun j f => fv (fun k => base + k) M k j f) := by
    apply List.ext_getElem?
    intro i
    rw [List.getElem?_mapIdx, List.getElem?_mapIdx]
    cases hf : y.2.2[i]? with
    | none => rfl
    | some f =>
      have hm : (f, i) ∈ y.2.2.zipIdx := by
        rw [List.mem_zipIdx_iff_getElem?]; exact hf
      have := List.all_eq_true.mp hk2 (f, i) hm
      simp only [Bool.or_eq_true, decide_eq_true_eq, Bool.not_eq_true'] at this
      simp only [Option.map_some]
      congr 1
      unfold fvP fv
      split
      · rfl
      · rfl
      · rcases this with z | z
        · omega
        · simp [z]
  rw [e]
theorem a_alen (Y : gY Γ cc own R nL base ini) {k N : Nat} (hy : lay[k]? = some (0, N, [])) (hk : k < n) (v : Int32) (hv : Int32.ofNat N = v) (hd : decode cc pc = .ok (.arraylength, 1)) (kk : GA Γ nul M n mc ms (pc + 1) L (.int v :: S)) : GA Γ nul M n mc ms pc L (.ref (base + k) :: S) := by
  obtain ⟨p, l, e, R', s, m, args, below, meth, c, D, cI, cJ, cZ, base', nL', Q⟩ := Γ
  obtain ⟨rfl, rfl, rfl, hx, hbc, hml, hin, hown, hts, hK, hN, hbs⟩ := Y
  intro H locs ls hsz hP hS hl
  exact va_alen hx hbc hK hP k 0 (wsp_at hk hy) rfl (ty := .int) hv hd (kk H locs ls hsz hP hS hl)
theorem a_sub {L' : List (Nat × Value)} (ks : List Nat) (hl : lv_pick L ks = L') (k : GA Γ nul M n mc ms pc L' S) : GA Γ nul M n mc ms pc L S := by
  obtain ⟨p, l, e, R', s, m, args, below, meth, c, D, cI, cJ, cZ, base', nL', Q⟩ := Γ
  intro H locs ls hsz hP hS h
  exact k H locs ls hsz hP hS (lv_sub h ks hl)
theorem ctrS_of {base : Nat} {y : MethodName} {cc : ByteArray} {nL : Nat} {R0 : Room} {as : List Value} {nul nul' : Nat → Nat → Bool} {M M' : Mem} {n n' : Nat} {L : List (Nat × Value)} (hy : plainName y.cls = true) (hn : (lg_sl as).length ≤ nL) (hL : lv_args 0 as = L)
    (body : ∀ Γ : IC, gY Γ cc y.cls R0 nL base false → gQ Γ R0 nul' M' n' → GA Γ nul M n 0 0 0 L []) : CtrI base y cc nL R0 as nul M n nul' M' n' := by
  intro l D cI cJ cZ
  refine Met.ofW (cc := cc) (maxL := nL) (ret := none) hy rfl ?_
  intro p e s m args below meth c s₁ B hml hv
  obtain ⟨rfl, hsz, hP, hK, hN⟩ := hv
  have hts := atoms_spec (ws := .code y cc nL none :: gT) B.pre
  have hown : s.vm.findClass y.cls = some m.cls := findClass_of_methodNamed B.named
  have Y : gY (p, l, e, R0, s, m, as.toArray, below, meth, c, D, cI, cJ, cZ, base, nL, MQ below (QI base D cI cJ cZ nul' M' n') as.toArray s R0.cells R0.slots (fun q => base ≤ q)) cc y.cls R0 nL base false :=
    ⟨rfl, rfl, rfl, B.exec, B.bytes, hml, (fun h => nomatch h), hown, fun w hw => hts w (List.mem_cons_of_mem _ hw), hK, hN, by omega⟩
  have hl := lv_entry as (n := nL) hn
  rw [lg_entry_eq]
  rw [hL] at hl
  exact body _ Y ⟨rfl, B.returns, B.notSynchronized⟩ s.heap [] _ hsz hP va_S.rf hl
theorem a_callS (Y : gY Γ cc own R nL base ini) {idx nL' q n' : Nat} {y : MethodName} {cc' : ByteArray} {R0 : Room} {As St : List Value} {nul' : Nat → Nat → Bool} {M' : Mem} (h : MS own idx y cc' nL' none q) (hc : CtrI base y cc' nL' R0 As nul M n nul' M' n') (hq : As.length = q) (hd' : R0.frames + 1 ≤ R.frames ∧ 8 + (nL' + 11) + R0.locals ≤ R.locals) (hrm : mc + R0.cells ≤ R.cells ∧ ms + R0.slots ≤ R.slots) (hS8 : (S.map fun v => v.category).sum ≤ 8) (hst : St = As.reverse ++ S) (hd : decode cc pc = .ok (.invokestatic idx, 3)) (kk : GA Γ nul' M' n' (mc + R0.cells) (ms + R0.slots) (pc + 3) L S) : GA Γ nul M n mc ms pc L St := by
  obtain ⟨p, l, e, R', s, m, args, below, meth, c, D, cI, cJ, cZ, base', nL', Q⟩ := Γ
  obtain ⟨rfl, rfl, rfl, hx, hbc, hml, hin, hown, hts, hK, hN, hbs⟩ := Y
  intro H locs ls hsz hP hS hl
  obtain ⟨hl3, hst3, h6, h7, h8⟩ := h
  have hM := hc l D cI cJ cZ
  have run : va_Run p l e R' s m args below meth c H locs mc ms R0.cells R0.slots (F0 m pc ls St) S (QI base' D cI cJ cZ nul' M' n' As.toArray) (fun q => base' ≤ q) := by
    have hp : PreS s H (va_Pc As (WI base' D cI cJ cZ nul M n)) As := ⟨wi_blind, fun U hU hW => ⟨rfl, by rw [hU]; exact hsz, by rw [hU]; exact hP, va_K.moved hW.alike hK, hN.warm hW⟩⟩
    rcases hl3 with h3 | ⟨host, h3⟩
    · exact va_runS (As := As) (rest := S) (Ts := gT) ⟨hx, hbc, hml, hown, hts⟩ hM ⟨callB_of q hts (gT_callee h7) rfl rfl rfl (hts _ h6) (hts _ h3) h8 hd', hts _ hst3⟩ hp rfl hq hl.1 hst (lv_room hS8) hd hrm
    · exact va_runSN (As := As) (rest := S) (Ts := gT) (host := host) ⟨hx, hbc, hml, hown, hts⟩ hM ⟨va_cnB q hts (gT_callee h7) rfl rfl rfl (hN _ h3 rfl) (hts _ h6) h8 hd', hts _ hst3, trivial⟩ hp rfl hq hl.1 hst (lv_room hS8) hd hrm
  intro T hT X
  obtain ⟨v, st₀, t, T', Lc, h0, X', hLc, e1, e2, ⟨⟨hv, hz', hP'⟩, hz, hkp⟩, st⟩ := run T hT X
  cases hv
  rw [h0] at hz hkp
  obtain ⟨t2, a1, b1⟩ := kk T'.heap (locs ++ Lc) ls (by rw [e1]; exact hz') (by rw [e1]; exact hP')
    ⟨Nat.le_trans hS.1 (by rw [e1]; exact hz), fun x g1 g2 => by rw [e1, hkp x (Nat.lt_of_lt_of_le g1 hS.1) g2]; exact hS.2.1 x g1 g2, fun x hx => by
      rcases List.mem_append.mp hx with h | h
      · exact hS.2.2 x h
      · exact hLc x h⟩ hl T' rfl X'
  exact ⟨t2, st t2 a1, b1⟩
def fillM (M : Mem) (k N : Nat) (v : Int32) : Mem := (fun a b => if a = k ∧ b < N then v else M.1 a b, M.2)
theorem fillM_0 {M : Mem} {k : Nat} {v : Int32} : fillM M k 0 v = M := by
  unfold fillM
  have : (fun a b => if a = k ∧ b < 0 then v else M.1 a b) = M.1 := by funext a b; rw [if_neg (by omega)]
  rw [this]
theorem fillM_s {M : Mem} {k N : Nat} {v : Int32} : ui (fillM M k N v) k N v = fillM M k (N + 1) v := by
  unfold ui fillM
  have : (fun a b => if a = k ∧ b = N then v else if a = k ∧ b < N then v else M.1 a b) = (fun a b => if a = k ∧ b < N + 1 then v else M.1 a b) := by
    funext a b
    by_cases h1 : a = k ∧ b = N
    · rw [if_pos h1, if_pos (by omega)]
    · by_cases h2 : a = k ∧ b < N
      · rw [if_neg h1, if_pos h2, if_pos (by omega)]
      · rw [if_neg h1, if_neg h2, if_neg (by omega)]
  simp only [this]
set_option maxHeartbeats 4000000 in
theorem ci_fill (base : Nat) (nul : Nat → Nat → Bool) (M : Mem) (n k N : Nat) (hk : k < n) (hy : lay[k]? = some (0, N, [])) (hN : N < 100000) (v : Int32) : CtrI base yJ7_fill_53178 cJ7_fill_53178 4 { frames := 0, cells := 0, slots := 0, locals := 0 } [.ref (base + k), .int v] nul M n nul (fillM M k N v) n := by
  refine ctrS_of (L := [(0, .ref (base + k)), (1, .int v)]) (by decide) (Nat.le_of_ble_eq_true rfl) rfl ?_
  intro Γ Y q
  have Y : gY Γ cJ7_fill_53178 RJ7 _ 4 base false := Y
  refine a_iconst Y 0 dJ7_fill_53178_0 (by decide) ?_
  refine a_istore_n Y (i := 2) [(2, .int 0), (0, .ref (base + k)), (1, .int v)] dJ7_fill_53178_1 rfl (by decide) rfl ?_
  refine a_aload_n Y 1 rfl dJ7_fill_53178_2 ?_
  refine a_alen Y hy hk (Int32.ofNat N) rfl dJ7_fill_53178_3 ?_
  refine a_istore_n Y (i := 3) [(3, .int (Int32.ofNat N)), (2, .int 0), (0, .ref (base + k)), (1, .int v)] dJ7_fill_53178_4 rfl (by decide) rfl ?_
  have hNi : (Int32.ofNat N).toInt = N := nI_toInt (by omega)
  have lp : ∀ (r i : Nat), i + r = N → ∀ y : Int32, y.toInt = i → GA Γ nul (fillM M k i v) n 0 0 5 [(3, .int (Int32.ofNat N)), (2, .int y), (0, .ref (base + k)), (1, .int v)] [] := by
    intro r
    induction r with
    | zero =>
      intro i hi y hyi
      refine a_iload_n Y 1 rfl dJ7_fill_53178_5 ?_
      refine a_iload_n Y 0 rfl dJ7_fill_53178_6 ?_
      refine a_icmp_ge Y hyi hNi (tgt := 20) dJ7_fill_53178_7 (by decide) (fun _ => ?_) (fun c => by omega)
      rw [show i = N by omega]
      exact a_ret Y q ⟨rfl, rfl⟩ dJ7_fill_53178_20
    | succ r ih =>
      intro i hi y hyi
      refine a_iload_n Y 1 rfl dJ7_fill_53178_5 ?_
      refine a_iload_n Y 0 rfl dJ7_fill_53178_6 ?_
      refine a_icmp_ge Y hyi hNi (tgt := 20) dJ7_fill_53178_7 (by decide) (fun c => by omega) (fun _ => ?_)
      refine a_aload_n Y 2 rfl dJ7_fill_53178_10 ?_
      refine a_iload_n Y 1 rfl dJ7_fill_53178_11 ?_
      refine a_iload_n Y 3 rfl dJ7_fill_53178_12 ?_
      refine a_iast Y hy hk hyi dJ7_fill_53178_13 (by omega) ?_
      rw [show ((i : Int)).toNat = i from rfl, fillM_s]
      refine a_iinc Y 1 (fun z => [(2, .int z), (3, .int (Int32.ofNat N)), (0, .ref (base + k)), (1, .int v)]) dJ7_fill_53178_14 rfl (by decide) (fun _ => rfl) (fun z ez => ?_)
      have tz : z.toInt = (i : Int) + 1 := add_nw ez hyi (show (Int32.ofInt 1).toInt = 1 by decide) (by omega)
      refine a_goto Y (tgt := 5) dJ7_fill_53178_17 (by decide) ?_
      refine a_sub [1, 0, 2, 3] rfl ?_
      exact ih (i + 1) (by omega) z (by omega)
  have := lp N 0 (by omega) 0 (by decide)
  rw [fillM_0] at this
  exact this
end
