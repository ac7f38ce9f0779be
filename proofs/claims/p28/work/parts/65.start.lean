section
theorem Iv_of {T : RT} {M : Mem} (h : T.all (fun q => (List.range q.2.2.1).all (fun j => decide (j < q.2.1) || (decide (q.2.2.2.1 ≤ (M.1 q.1 j).toInt) && decide ((M.1 q.1 j).toInt ≤ q.2.2.2.2)))) = true) : Iv T M := by
  intro q hq j h0 h1
  have a := List.all_eq_true.mp (List.all_eq_true.mp h q hq) j (List.mem_range.mpr h1)
  simp only [Bool.or_eq_true, decide_eq_true_eq, Bool.and_eq_true] at a
  rcases a with a | a
  · omega
  · exact a
theorem tel0 : ∀ x, x < 8 → tel mem_X7 x = 0 := by decide +kernel
theorem LI0 : LI 0 mem_X7 := by
  refine ⟨⟨Iv_of (by decide +kernel), by decide +kernel⟩, ⟨Iv_of (by decide +kernel), fun x hx h => ?_, fun x hx => ?_, by decide +kernel⟩, ⟨⟨by decide +kernel, by decide +kernel, by decide +kernel, by decide +kernel, by decide +kernel, by decide +kernel, by decide +kernel⟩, by decide +kernel, by decide +kernel, by decide +kernel⟩, by decide +kernel, by decide +kernel⟩
  · rw [tel0 x hx] at h; omega
  · rw [tel0 x hx]; decide +kernel
theorem LJ0 : LJ 0 mem_X7 := ⟨LI0, fun _ _ => rfl, fun _ _ => rfl, fun _ _ => rfl, fun _ _ => rfl, fun _ _ => rfl, fun k _ => (show (0 : Int) ≤ (0 : Int32).toInt by decide), fun k hk => absurd hk (by have e : (mem_X7.1 23 7).toInt = 0 := (by decide +kernel); omega)⟩
theorem SL0 : SL mem_X7 := fun l _ => (by have e : mem_X7.2 1 11 = 0 := rfl; have e2 : (mem_X7.1 1 12).toInt = 0 := (by decide +kernel); rw [e, b64_0, e2, decide_eq_false (by omega)]; rfl)
theorem LJ20 : LJ2 0 mem_X7 := ⟨LJ0, SL0, fun _ _ => rfl⟩
theorem nul_done : (List.range nC).all (fun k => (lay.getD k (0, 0, [])).2.2.zipIdx.all (fun q => decide (q.1 < 2) || !nul_X7 k q.2)) = true := by decide +kernel
def dvv (f : Nat) : Value := match f with
  | 0 => .int 0
  | 1 => .long 0
  | _ + 2 => .null
theorem fvP_new {ad : Nat → Nat} {nul : Nat → Nat → Bool} {M : Mem} {k : Nat} (h : ∀ j, M.1 k j = 0 ∧ M.2 k j = 0 ∧ nul k j = true) (j f : Nat) : fvP ad nul M k j f = dvv f := by
  obtain ⟨h1, h2, h3⟩ := h j
  match f with
  | 0 => show Value.int _ = .int 0; rw [h1]
  | 1 => show Value.long _ = .long 0; rw [h2]
  | r + 2 => show (if nul k j = true then Value.null else _) = .null; rw [if_pos h3]
theorem mapIdx_dvv {ad : Nat → Nat} {nul : Nat → Nat → Bool} {M : Mem} {k : Nat} (h : ∀ j, M.1 k j = 0 ∧ M.2 k j = 0 ∧ nul k j = true) (fs : List Nat) : fs.mapIdx (fun j f => fvP ad nul M k j f) = fs.map dvv := by
  apply List.ext_getElem?
  intro i
  rw [List.getElem?_mapIdx, List.getElem?_map]
  cases fs[i]? with
  | none => rfl
  | some f => simp only [Option.map_some, fvP_new h]
theorem dv47 : ∀ j, j < 60 → defaultValue (tyX7 j) = vp_V (((lay.getD 47 (0, 0, [])).2.2).map dvv) j := by decide +kernel
theorem new47 (j : Nat) : mem_X6.1 47 j = 0 ∧ mem_X6.2 47 j = 0 ∧ nul_X6 47 j = true := ⟨rfl, rfl, rfl⟩
variable {Γ : IC} {base b : Nat}
set_option maxHeartbeats 4000000 in
set_option maxRecDepth 20000 in
theorem lw_made (Y : gY Γ cL_law RL room_1 4 base false) (kk : GA Γ nul_X7 mem_X7 91 91 64723 18 (LL b base 0) []) : GA Γ nl0 mZ 0 0 0 0 [(0, .ref b)] [] := by
  refine a_new Y tyX6 (ci := 6) rfl rfl inG_X6 tyX6_ok cl_L_7 is_X6 it_X6 (by
    intro j hj
    match j, hj with
    | 0, _ => rfl
    | 1, _ => rfl
    | 2, _ => rfl
    | 3, _ => rfl
    | 4, _ => rfl
    | 5, _ => rfl
    | 6, _ => rfl
    | 7, _ => rfl
    | j + 8, h => exact absurd h (by omega)) (by decide) dL_law_0 ?_
  refine a_dup Y dL_law_3 rfl ?_
  refine a_init Y li_L_9 ii_X6 rfl iy_X6 (ci_X6 base) rfl (by decide) (by decide) (Nat.le_of_ble_eq_true rfl) rfl dL_law_4 ?_
  refine a_astore_n Y (i := 1) [(1, .ref (base + 0)), (0, .ref b)] dL_law_7 rfl (by decide) rfl ?_
  refine a_new Y tyX7 (ci := 7) (fs := (lay.getD 47 (0, 0, [])).2.2) rfl rfl inG_X7 tyX7_ok cl_L_10 is_X7 it_X7 (fun j hj => by rw [mapIdx_dvv new47]; exact dv47 j hj) (by decide) dL_law_8 ?_
  refine a_dup Y dL_law_11 rfl ?_
  refine a_init Y li_L_12 ii_X7 rfl iy_X7 (ci_X7 base) rfl (by decide) (by decide) (Nat.le_of_ble_eq_true rfl) rfl dL_law_12 ?_
  refine a_astore_n Y (i := 2) [(2, .ref (base + 47)), (1, .ref (base + 0)), (0, .ref b)] dL_law_15 rfl (by decide) rfl ?_
  refine a_iconst Y 0 dL_law_16 (by decide) ?_
  refine a_istore_n Y (i := 3) [(3, .int 0), (2, .ref (base + 47)), (1, .ref (base + 0)), (0, .ref b)] dL_law_17 rfl (by decide) rfl ?_
  exact a_sub [3, 2, 1, 0] rfl kk
theorem nest_on {w : Cond} (h : isNest w = true) : w.onTables = true := by
  unfold isNest at h
  split at h
  · rfl
  · rfl
  · cases h
set_option maxHeartbeats 4000000 in
theorem whole_start {p : Program} {e : Env} {s : State} {m : MethodId} {below : List Frame} {meth : Method} {c : Code} (l : Launch) {b L : Nat} {xs : Nat → Int32} (hL : L ≤ 3072) (C0 : lw_At p s m meth c b L xs) : W p l e room_1 s m #[Value.ref b] below meth c s.heap [] 0 0 (lw_Z below #[Value.ref b] s) (entryFrame m ([Value.ref b] : List Value).toArray 4) := by
  obtain ⟨hx, hb, hr, hml, hown, hts, hX, hbl, hlocks, hgv⟩ := C0
  have htg : ∀ w ∈ gT, w.before #[Value.ref b] s = true := fun w hw => hts w (gT_in hw)
  have hN : nestOK s := fun w hw hn => va_Nw.of (nest_on hn) (hts w hw)
  obtain ⟨c0, i0, k0⟩ := u_known (C := RX0) (T := TX0) (N := 11) (n := 11) htg inG_X0 (htg _ is_X0)
  obtain ⟨c1, i1, k1⟩ := u_known (C := RX1) (T := TX1) (N := 7) (n := 7) htg inG_X1 (htg _ is_X1)
  obtain ⟨c2, i2, k2⟩ := u_known (C := RX2) (T := TX2) (N := 13) (n := 13) htg inG_X2 (htg _ is_X2)
  obtain ⟨c3, i3, k3⟩ := u_known (C := RX3) (T := TX3) (N := 6) (n := 6) htg inG_X3 (htg _ is_X3)
  obtain ⟨c4, i4, k4⟩ := u_known (C := RX4) (T := TX4) (N := 13) (n := 13) htg inG_X4 (htg _ is_X4)
  obtain ⟨c5, i5, k5⟩ := u_known (C := RX5) (T := TX5) (N := 16) (n := 16) htg inG_X5 (htg _ is_X5)
  obtain ⟨c6, i6, k6⟩ := u_known (C := RX6) (T := TX6) (N := 8) (n := 8) htg inG_X6 (htg _ is_X6)
  obtain ⟨c7, i7, k7⟩ := u_known (C := RX7) (T := TX7) (N := 60) (n := 60) htg inG_X7 (htg _ is_X7)
  obtain ⟨dC, dI, hKc⟩ : ∃ (dC : Nat → ClassId) (dI : Nat → Nat → Nat), ∀ (k : Nat) (q : vw_C), vwCl[k]? = some q → u_Kn s q.1 q.2.1 q.2.2 (dC k) (dI k) := by
    refine ⟨fun k => if k = 0 then c0 else if k = 1 then c1 else if k = 2 then c2 else if k = 3 then c3 else if k = 4 then c4 else if k = 5 then c5 else if k = 6 then c6 else c7, fun k => if k = 0 then i0 else if k = 1 then i1 else if k = 2 then i2 else if k = 3 then i3 else if k = 4 then i4 else if k = 5 then i5 else if k = 6 then i6 else i7, ?_⟩
    intro k q hq
    match k, hq with
    | 0, hq => cases hq; exact k0
    | 1, hq => cases hq; exact k1
    | 2, hq => cases hq; exact k2
    | 3, hq => cases hq; exact k3
    | 4, hq => cases hq; exact k4
    | 5, hq => cases hq; exact k5
    | 6, hq => cases hq; exact k6
    | 7, hq => cases hq; exact k7
    | k + 8, hq => simp [vwCl] at hq
  obtain ⟨cI, kI, pI, aI1, aI2, aI3⟩ := Cond.arrayClass_spec (htg _ ac_int)
  obtain ⟨cJ, kJ, pJ, aJ1, aJ2, aJ3⟩ := Cond.arrayClass_spec (htg _ ac_long)
  obtain ⟨cZ, kZ, pZ, aZ1, aZ2, aZ3⟩ := Cond.arrayClass_spec (htg _ ac_boolean)
  have hK : va_K (dC, dI) vwCl (tyl cI cJ cZ) s := by
    refine ⟨hKc, fun k q hq => ?_⟩
    match k, hq with
    | 0, hq => cases hq; exact ⟨fun n z => ⟨fun k h => (by cases h), kI, aI2, pI, aI3⟩, aI1⟩
    | 1, hq => cases hq; exact ⟨fun n z => ⟨fun k h => (by cases h), kJ, aJ2, pJ, aJ3⟩, aJ1⟩
    | 2, hq => cases hq; exact ⟨fun n z => ⟨fun k h => (by cases h), kZ, aZ2, pZ, aZ3⟩, aZ1⟩
    | k + 3, hq => simp [tyl] at hq
  have hl := lv_entry ([.ref b]) (n := 4) (Nat.le_of_ble_eq_true rfl)
  rw [lg_entry_eq]
  generalize (lg_sl ([.ref b]) ++ List.replicate (4 - (lg_sl ([.ref b])).length) Slot.unset).toArray = ls at hl ⊢
  have hl : lv_has ls 4 [(0, .ref b)] := hl
  have Y : gY (p, l, e, room_1, s, m, #[Value.ref b], below, meth, c, (dC, dI), cI, cJ, cZ, s.heap.size, 4, lw_Z below #[Value.ref b] s) cL_law RL room_1 4 s.heap.size false :=
    ⟨rfl, rfl, rfl, hx, hb, hml, (fun h => nomatch h), hown, htg, hK, hN, Nat.le_refl _⟩
  have X : gLX (p, l, e, s, m, below, meth, c, (dC, dI), cI, cJ, cZ, b, L, xs) s.heap.size b L xs :=
    ⟨rfl, rfl, rfl, rfl, hx, hb, hml, hr, hlocks, hown, htg, hK, hN, hX, hbl, hL⟩
  have GG : GL (p, l, e, s, m, below, meth, c, (dC, dI), cI, cJ, cZ, b, L, xs) mem_X7 18 (LL b s.heap.size 0) [] := lw_loop X hL 512 0 (by omega) (by omega) 0 mem_X7 (by decide) LJ20
  have K : GA (p, l, e, room_1, s, m, #[Value.ref b], below, meth, c, (dC, dI), cI, cJ, cZ, s.heap.size, 4, lw_Z below #[Value.ref b] s) nl0 mZ 0 0 0 0 [(0, .ref b)] [] := by
    refine lw_made Y ?_
    intro H locs ls hsz hP hS hl
    have hP : va_P (dC, dI) vwCl (wsp s.heap.size nul_X7 cI cJ cZ mem_X7 nC) H := hP
    rw [wsp_done2 nul_done] at hP
    exact GG H locs ls hP hS hl
  exact K s.heap [] ls rfl (fun k q h => by simp [wsp] at h) va_S.rf hl
end
