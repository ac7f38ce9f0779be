section
def SIM (M : Mem) (deep loops : Int) : Prop := SI (txt M) (tsz M) (tel M) (fun d => (M.1 65 d).toInt) (fun d => (M.1 66 d).toInt) (fun i => (M.1 67 i).toInt) (fun i => (M.1 68 i).toInt) deep loops
def ST (M M' : Mem) : Prop := txt M' = txt M ∧ tsz M' = tsz M ∧ tel M' = tel M
theorem ST_of {M M' : Mem} (h1 : ∀ j, M'.1 61 j = M.1 61 j) (h2 : ∀ j, M'.1 62 j = M.1 62 j) (h3 : ∀ j, M'.1 63 j = M.1 63 j) : ST M M' :=
  ⟨by funext x k; unfold txt; rw [h1], by funext x; unfold tsz; rw [h2], by funext x; unfold tel; rw [h3]⟩
theorem ST_ui {M M' : Mem} {k j : Nat} {x : Int32} (h : ST M M') (h1 : k ≠ 61) (h2 : k ≠ 62) (h3 : k ≠ 63) : ST M (ui M' k j x) := by
  have e : ST M' (ui M' k j x) := ST_of (fun _ => ui_nk (Ne.symm h1)) (fun _ => ui_nk (Ne.symm h2)) (fun _ => ui_nk (Ne.symm h3))
  exact ⟨e.1.trans h.1, e.2.1.trans h.2.1, e.2.2.trans h.2.2⟩
theorem SIM_of {M M' : Mem} {deep loops : Int} (h : ST M M') (hs : SI (txt M) (tsz M) (tel M) (fun d => (M'.1 65 d).toInt) (fun d => (M'.1 66 d).toInt) (fun i => (M'.1 67 i).toInt) (fun i => (M'.1 68 i).toInt) deep loops) : SIM M' deep loops := by
  unfold SIM; rw [h.1, h.2.1, h.2.2]; exact hs
/-- but for the place of level D in goesAt, what the singing rests on stands as it was -/
def R6 (M M' : Mem) (D : Nat) (v : Int32) : Prop := ST M M' ∧ (∀ j, M'.1 65 j = M.1 65 j) ∧ (∀ j, M'.1 67 j = M.1 67 j) ∧ (∀ j, M'.1 68 j = M.1 68 j) ∧ (∀ d, d ≠ D → M'.1 66 d = M.1 66 d) ∧ M'.1 66 D = v
theorem R6_0 {M : Mem} {D : Nat} {v : Int32} : R6 M (ui M 66 D v) D v :=
  ⟨ST_ui ⟨rfl, rfl, rfl⟩ (by decide) (by decide) (by decide), fun _ => ui_nk (by decide), fun _ => ui_nk (by decide), fun _ => ui_nk (by decide), fun _ hd => ui_nj hd, ui_eq⟩
theorem R6_set {M M' : Mem} {D : Nat} {v w : Int32} (h : R6 M M' D v) : R6 M (ui M' 66 D w) D w :=
  ⟨ST_ui h.1 (by decide) (by decide) (by decide), fun j => (ui_nk (by decide)).trans (h.2.1 j), fun j => (ui_nk (by decide)).trans (h.2.2.1 j), fun j => (ui_nk (by decide)).trans (h.2.2.2.1 j), fun d hd => (ui_nj hd).trans (h.2.2.2.2.1 d hd), ui_eq⟩
theorem R6_ui {M M' : Mem} {D k j : Nat} {v x : Int32} (h : R6 M M' D v) (hk : (k != 61 && k != 62 && k != 63 && k != 65 && k != 66 && k != 67 && k != 68) = true) : R6 M (ui M' k j x) D v := by
  simp only [Bool.and_eq_true, bne_iff_ne] at hk
  obtain ⟨⟨⟨⟨⟨⟨k1, k2⟩, k3⟩, k5⟩, k6⟩, k7⟩, k8⟩ := hk
  exact ⟨ST_ui h.1 k1 k2 k3, fun j => (ui_nk (Ne.symm k5)).trans (h.2.1 j), fun j => (ui_nk (Ne.symm k7)).trans (h.2.2.1 j), fun j => (ui_nk (Ne.symm k8)).trans (h.2.2.2.1 j), fun d hd => (ui_nk (Ne.symm k6)).trans (h.2.2.2.2.1 d hd), (ui_nk (Ne.symm k6)).trans h.2.2.2.2.2⟩
theorem R6_fr {W : List (Nat × Nat)} {M M' M'' : Mem} {D : Nat} {v : Int32} (h : R6 M M' D v) (fr : Fr W M' M'') (hw : (noW W 61 && noW W 62 && noW W 63 && noW W 65 && noW W 66 && noW W 67 && noW W 68) = true) : R6 M M'' D v := by
  simp only [Bool.and_eq_true] at hw
  obtain ⟨⟨⟨⟨⟨⟨k1, k2⟩, k3⟩, k5⟩, k6⟩, k7⟩, k8⟩ := hw
  have e : ST M' M'' := ST_of (fun j => fr.at 61 j (noW_in k1 j)) (fun j => fr.at 62 j (noW_in k2 j)) (fun j => fr.at 63 j (noW_in k3 j))
  exact ⟨⟨e.1.trans h.1.1, e.2.1.trans h.1.2.1, e.2.2.trans h.1.2.2⟩, fun j => (fr.at 65 j (noW_in k5 j)).trans (h.2.1 j), fun j => (fr.at 67 j (noW_in k7 j)).trans (h.2.2.1 j), fun j => (fr.at 68 j (noW_in k8 j)).trans (h.2.2.2.1 j), fun d hd => (fr.at 66 d (noW_in k6 d)).trans (h.2.2.2.2.1 d hd), (fr.at 66 D (noW_in k6 D)).trans h.2.2.2.2.2⟩
theorem ST.wf {M M' : Mem} (h : ST M M') (hw : WFM M) : WFM M' := by
  unfold WFM; rw [h.1, h.2.1, h.2.2]; exact hw
theorem cntL_fr {W : List (Nat × Nat)} {M M' : Mem} (fr : Fr W M M') (hw : (noW W 85 && noW W 55) = true) (s : Int) : ∀ n, cntL M' s n = cntL M s n
  | 0 => rfl
  | n + 1 => by
    simp only [Bool.and_eq_true] at hw
    show cntL M' s n + _ = cntL M s n + _
    rw [cntL_fr fr (by simp only [Bool.and_eq_true]; exact hw) s n, fr.at 85 n (noW_in hw.1 n), fr.at 55 n (noW_in hw.2 n)]
def sr (r : Nat → Int) : Nat → Int
  | 0 => 0
  | n + 1 => sr r n + r n
theorem sr_congr {r r' : Nat → Int} : ∀ n, (∀ i, i < n → r' i = r i) → sr r' n = sr r n
  | 0, _ => rfl
  | n + 1, h => by
    show sr r' n + r' n = sr r n + r n
    rw [sr_congr n (fun i hi => h i (by omega)), h n (by omega)]
theorem sr_rng {r : Nat → Int} : ∀ n : Nat, (∀ i, i < n → 1 ≤ r i ∧ r i ≤ 3) → 0 ≤ sr r n ∧ sr r n ≤ 3 * n
  | 0, _ => ⟨Int.le_refl _, by show (0 : Int) ≤ _; omega⟩
  | n + 1, h => by
    have h1 := sr_rng n (fun i hi => h i (by omega))
    have h2 := h n (by omega)
    show 0 ≤ sr r n + r n ∧ sr r n + r n ≤ 3 * ((n + 1 : Nat) : Int)
    omega
def gD (M : Mem) (deep : Int) : Int := if 0 ≤ deep then (M.1 66 deep.toNat).toInt else 0
def mS (M : Mem) (deep gone loops : Int) : Nat := ((2001 - gone) * 10000000 + sr (fun i => (M.1 67 i).toInt) loops.toNat * 1000 + (deep + 1) * 60 - gD M deep).toNat
theorem SIM_lim {M : Mem} {deep loops : Int} (h : SIM M deep loops) (I : Iv TM M) : (0 ≤ loops ∧ loops ≤ 464 ∧ -1 ≤ deep ∧ deep ≤ 7) ∧ (0 ≤ sr (fun i => (M.1 67 i).toInt) loops.toNat ∧ sr (fun i => (M.1 67 i).toInt) loops.toNat ≤ 1392) ∧ 0 ≤ gD M deep ∧ gD M deep ≤ 58 := by
  have hl := SI_lim h (fun x hx => (ig_62 I x hx).2)
  have h2 := h
  obtain ⟨st, h1, -, h3, -⟩ := h2
  have h4 := sr_rng (r := fun i => (M.1 67 i).toInt) loops.toNat (fun i hi => h3 i (by omega))
  refine ⟨by omega, by omega, ?_⟩
  unfold gD
  by_cases q : 0 ≤ deep
  · rw [if_pos q]
    obtain ⟨⟨a1, a2, a3, a4, a5, -⟩, -⟩ := h1 deep.toNat (by omega)
    have a2' : (M.1 65 deep.toNat).toInt ≤ 7 := a2
    have := (ig_62 I ((M.1 65 deep.toNat).toInt).toNat (by omega)).2
    have a5' : (M.1 66 deep.toNat).toInt ≤ (M.1 62 ((M.1 65 deep.toNat).toInt).toNat).toInt := a5
    have a4' : 0 ≤ (M.1 66 deep.toNat).toInt := a4
    omega
  · rw [if_neg q]; omega
theorem mS_item {M M' : Mem} {deep loops deep' loops' gone : Int} (h : SIM M deep loops) (I : Iv TM M) (h' : SIM M' deep' loops') (I' : Iv TM M') (hg : gone ≤ 2000) : mS M' deep' (gone + 1) loops' < mS M deep gone loops := by
  have a := SIM_lim h I
  have b := SIM_lim h' I'
  unfold mS
  omega
/-- what holds at level deep -/
theorem SIM_at {M : Mem} {deep loops : Int} (h : SIM M deep loops) (h0 : 0 ≤ deep) : (0 ≤ (M.1 65 deep.toNat).toInt ∧ (M.1 65 deep.toNat).toInt ≤ 7) ∧ 0 < tel M ((M.1 65 deep.toNat).toInt).toNat ∧ (0 ≤ (M.1 66 deep.toNat).toInt ∧ (M.1 66 deep.toNat).toInt ≤ (M.1 62 ((M.1 65 deep.toNat).toInt).toNat).toInt) ∧ (rkN (tel M) (tel M ((M.1 65 deep.toNat).toInt).toNat) 8 + deep ≤ 7) ∧ ∃ s, skN (txt M ((M.1 65 deep.toNat).toInt).toNat) ((M.1 66 deep.toNat).toInt).toNat = some s := by
  obtain ⟨⟨a1, a2, a3, a4, a5, a6⟩, b⟩ := SI_sk h h0
  exact ⟨⟨a1, a2⟩, a3, ⟨a4, a5⟩, a6, b⟩
theorem T_pop {M : Mem} {deep loops gone : Int} (hw : WFM M) (I : Iv TM M) (h : SIM M deep loops) (h0 : 0 ≤ deep) (hg : gone ≤ 2000) (he : (M.1 66 deep.toNat).toInt = (M.1 62 ((M.1 65 deep.toNat).toInt).toNat).toInt) : SIM M (deep + -1) loops ∧ mS M (deep + -1) gone loops < mS M deep gone loops := by
  obtain ⟨a1, a2, a3, -⟩ := SIM_at h h0
  have h2 : SIM M (deep - 1) loops := SI_pop h h0 (hw _ (by omega) a2).1 he
  rw [show deep + -1 = deep - 1 by omega]
  refine ⟨h2, ?_⟩
  have q1 := SIM_lim h I
  have q2 := SIM_lim h2 I
  unfold mS
  omega
theorem T_mv {M M' : Mem} {deep loops : Int} {v : Int32} {a : Int} {s s' : List Int} (h : SIM M deep loops) (h0 : 0 ≤ deep) (r : R6 M M' deep.toNat v) (ha : v.toInt = a) (hs : skN (txt M ((M.1 65 deep.toNat).toInt).toNat) ((M.1 66 deep.toNat).toInt).toNat = some s) (p : 0 ≤ a ∧ a ≤ (M.1 62 ((M.1 65 deep.toNat).toInt).toNat).toInt) (hs' : skN (txt M ((M.1 65 deep.toNat).toInt).toNat) a.toNat = some s') (e : EQV s s') : SIM M' deep loops := by
  refine SIM_of r.1 ?_
  have e1 : (fun d => (M'.1 65 d).toInt) = (fun d => (M.1 65 d).toInt) := by funext d; rw [r.2.1]
  have e2 : (fun i => (M'.1 67 i).toInt) = (fun i => (M.1 67 i).toInt) := by funext d; rw [r.2.2.1]
  have e3 : (fun i => (M'.1 68 i).toInt) = (fun i => (M.1 68 i).toInt) := by funext d; rw [r.2.2.2.1]
  rw [e1, e2, e3]
  exact SI_move h h0 (fun d hd => by show (M'.1 66 d).toInt = _; rw [r.2.2.2.2.1 d (by omega)]) (by show (M'.1 66 _).toInt = a; rw [r.2.2.2.2.2, ha]) hs p.1 p.2 hs' e
theorem mS_mv {M M' : Mem} {deep loops gone : Int} {v : Int32} {a : Int} (h : SIM M deep loops) (I : Iv TM M) (h0 : 0 ≤ deep) (hg : gone ≤ 2000) (r : R6 M M' deep.toNat v) (ha : v.toInt = a) (hlt : (M.1 66 deep.toNat).toInt < a) (hb : a ≤ 58) : mS M' deep gone loops < mS M deep gone loops := by
  have q := SIM_lim h I
  have e : sr (fun i => (M'.1 67 i).toInt) loops.toNat = sr (fun i => (M.1 67 i).toInt) loops.toNat := sr_congr _ (fun i _ => by show (M'.1 67 i).toInt = _; rw [r.2.2.1])
  have e1 : gD M' deep = a := by unfold gD; rw [if_pos h0, r.2.2.2.2.2, ha]
  have e2 : gD M deep = (M.1 66 deep.toNat).toInt := by unfold gD; rw [if_pos h0]
  unfold mS
  rw [e, e1]
  omega
theorem EQV_of {s s2 : List Int} (h : s2 = s ∨ s2 = 124 :: s) : EQV s s2 := by
  rcases h with e | e
  · rw [e]; exact EQV.rf
  · rw [e]; exact EQV.rf.push (by decide)
theorem SIM_ch {M : Mem} {deep loops : Int} (hw : WFM M) (h : SIM M deep loops) (h0 : 0 ≤ deep) (hlt : (M.1 66 deep.toNat).toInt ≠ (M.1 62 ((M.1 65 deep.toNat).toInt).toNat).toInt) : (97 ≤ txt M ((M.1 65 deep.toNat).toInt).toNat ((M.1 66 deep.toNat).toInt).toNat ∧ txt M ((M.1 65 deep.toNat).toInt).toNat ((M.1 66 deep.toNat).toInt).toNat ≤ 104) ∨ (65 ≤ txt M ((M.1 65 deep.toNat).toInt).toNat ((M.1 66 deep.toNat).toInt).toNat ∧ txt M ((M.1 65 deep.toNat).toInt).toNat ((M.1 66 deep.toNat).toInt).toNat ≤ 72) ∨ (40 ≤ txt M ((M.1 65 deep.toNat).toInt).toNat ((M.1 66 deep.toNat).toInt).toNat ∧ txt M ((M.1 65 deep.toNat).toInt).toNat ((M.1 66 deep.toNat).toInt).toNat ≤ 41) ∨ txt M ((M.1 65 deep.toNat).toInt).toNat ((M.1 66 deep.toNat).toInt).toNat = 91 ∨ txt M ((M.1 65 deep.toNat).toInt).toNat ((M.1 66 deep.toNat).toInt).toNat = 93 ∨ (123 ≤ txt M ((M.1 65 deep.toNat).toInt).toNat ((M.1 66 deep.toNat).toInt).toNat ∧ txt M ((M.1 65 deep.toNat).toInt).toNat ((M.1 66 deep.toNat).toInt).toNat ≤ 125) := by
  obtain ⟨a1, a2, a3, a4, s, hs⟩ := SIM_at h h0
  have := TI_ch (hw _ (by omega) a2).1 ⟨s, hs, rfl⟩ a3.1 (by show _ < (((M.1 62 ((M.1 65 deep.toNat).toInt).toNat).toInt).toNat : Int); omega)
  omega
/-- one sign on, but for braces -/
theorem T_adv {M M' : Mem} {deep loops : Int} {v : Int32} (hw : WFM M) (h : SIM M deep loops) (h0 : 0 ≤ deep) (r : R6 M M' deep.toNat v) (ha : v.toInt = (M.1 66 deep.toNat).toInt + 1) (hlt : (M.1 66 deep.toNat).toInt ≠ (M.1 62 ((M.1 65 deep.toNat).toInt).toNat).toInt) (hc : txt M ((M.1 65 deep.toNat).toInt).toNat ((M.1 66 deep.toNat).toInt).toNat ≠ 123 ∧ txt M ((M.1 65 deep.toNat).toInt).toNat ((M.1 66 deep.toNat).toInt).toNat ≠ 125) : SIM M' deep loops := by
  obtain ⟨a1, a2, a3, a4, s, hs⟩ := SIM_at h h0
  have hwx := (hw _ (by omega) a2).1
  obtain ⟨s', e1, e2⟩ := skN_next hwx (show ((M.1 66 deep.toNat).toInt).toNat < (tsz M ((M.1 65 deep.toNat).toInt).toNat).toNat by show _ < ((M.1 62 ((M.1 65 deep.toNat).toInt).toNat).toInt).toNat; omega) hs
  exact T_mv h h0 r ha hs (by omega) (by rw [show ((M.1 66 deep.toNat).toInt + 1).toNat = ((M.1 66 deep.toNat).toInt).toNat + 1 by omega]; exact e2) (stp_eqv e1 hc.1 hc.2)
theorem T_bar {M : Mem} {deep loops : Int} (hw : WFM M) (h : SIM M deep loops) (h0 : 0 ≤ deep) (hlt : (M.1 66 deep.toNat).toInt ≠ (M.1 62 ((M.1 65 deep.toNat).toInt).toNat).toInt) (hc : txt M ((M.1 65 deep.toNat).toInt).toNat ((M.1 66 deep.toNat).toInt).toNat = 124) : ∃ S0 : List Int, skN (txt M ((M.1 65 deep.toNat).toInt).toNat) ((M.1 66 deep.toNat).toInt).toNat = some (40 :: S0) ∧ skN (txt M ((M.1 65 deep.toNat).toInt).toNat) (((M.1 66 deep.toNat).toInt).toNat + 1) = some (124 :: S0) := by
  obtain ⟨a1, a2, a3, a4, s, hs⟩ := SIM_at h h0
  have hwx := (hw _ (by omega) a2).1
  obtain ⟨s', e1, e2⟩ := skN_next hwx (show ((M.1 66 deep.toNat).toInt).toNat < (tsz M ((M.1 65 deep.toNat).toInt).toNat).toNat by show _ < ((M.1 62 ((M.1 65 deep.toNat).toInt).toNat).toInt).toNat; omega) hs
  rw [hc] at e1
  obtain ⟨r, q1, q2⟩ := stp_124 e1
  exact ⟨r, by rw [hs, q1], by rw [e2, q2]⟩
theorem T_brace {M : Mem} {deep loops : Int} (hw : WFM M) (h : SIM M deep loops) (h0 : 0 ≤ deep) (hlt : (M.1 66 deep.toNat).toInt ≠ (M.1 62 ((M.1 65 deep.toNat).toInt).toNat).toInt) (hc : txt M ((M.1 65 deep.toNat).toInt).toNat ((M.1 66 deep.toNat).toInt).toNat = 125) : ∃ b : List Int, skN (txt M ((M.1 65 deep.toNat).toInt).toNat) ((M.1 66 deep.toNat).toInt).toNat = some (123 :: b) ∧ skN (txt M ((M.1 65 deep.toNat).toInt).toNat) (((M.1 66 deep.toNat).toInt).toNat + 1) = some b ∧ 1 ≤ loops ∧ (1 ≤ (M.1 67 (loops - 1).toNat).toInt ∧ (M.1 67 (loops - 1).toNat).toInt ≤ 3) ∧ (0 ≤ (M.1 68 (loops - 1).toNat).toInt ∧ (M.1 68 (loops - 1).toNat).toInt ≤ (M.1 62 ((M.1 65 deep.toNat).toInt).toNat).toInt) := by
  obtain ⟨a1, a2, a3, a4, s, hs⟩ := SIM_at h h0
  have hwx := (hw _ (by omega) a2).1
  obtain ⟨s', e1, e2⟩ := skN_next hwx (show ((M.1 66 deep.toNat).toInt).toNat < (tsz M ((M.1 65 deep.toNat).toInt).toNat).toNat by show _ < ((M.1 62 ((M.1 65 deep.toNat).toInt).toNat).toInt).toNat; omega) hs
  rw [hc] at e1
  have q1 := stp_125 e1
  rw [q1] at hs
  obtain ⟨t1, t2, t3, t4⟩ := SI_top h h0 hs
  have h2 := h
  obtain ⟨st, -, -, h3, -⟩ := h2
  exact ⟨s', hs, e2, t1, h3 (loops - 1).toNat (by omega), t3, t4⟩
theorem T_jump {M M1 : Mem} {deep loops gone : Int} {z w v : Int32} {b : List Int} (h : SIM M deep loops) (I : Iv TM M) (h0 : 0 ≤ deep) (hg : gone ≤ 2000) (hs : skN (txt M ((M.1 65 deep.toNat).toInt).toNat) ((M.1 66 deep.toNat).toInt).toNat = some (123 :: b)) (hl : 1 ≤ loops) (r : R6 M M1 deep.toNat z) (hw : w.toInt = (M.1 67 (loops - 1).toNat).toInt - 1) (hw0 : 0 < w.toInt) (hw3 : (M.1 67 (loops - 1).toNat).toInt ≤ 3) (hv : v = M.1 68 (loops - 1).toNat) : SIM (ui (ui M1 67 (loops - 1).toNat w) 66 deep.toNat v) deep loops ∧ (Iv TM (ui (ui M1 67 (loops - 1).toNat w) 66 deep.toNat v) → mS (ui (ui M1 67 (loops - 1).toNat w) 66 deep.toNat v) deep gone loops < mS M deep gone loops) := by
  have e1 : (fun d => ((ui (ui M1 67 (loops - 1).toNat w) 66 deep.toNat v).1 65 d).toInt) = (fun d => (M.1 65 d).toInt) := by funext d; rw [ui_nk (by decide), ui_nk (by decide), r.2.1]
  have e3 : (fun i => ((ui (ui M1 67 (loops - 1).toNat w) 66 deep.toNat v).1 68 i).toInt) = (fun i => (M.1 68 i).toInt) := by funext d; rw [ui_nk (by decide), ui_nk (by decide), r.2.2.2.1]
  have hs2 : SIM (ui (ui M1 67 (loops - 1).toNat w) 66 deep.toNat v) deep loops := by
    refine SIM_of (ST_ui (ST_ui r.1 (by decide) (by decide) (by decide)) (by decide) (by decide) (by decide)) ?_
    rw [e1, e3]
    refine SI_jump h h0 hs (fun d hd => ?_) ?_ (fun i hi => ?_) ?_
    · show ((ui (ui M1 67 _ w) 66 _ v).1 66 d).toInt = _
      rw [ui_nj (by omega), ui_nk (by decide), r.2.2.2.2.1 d (by omega)]
    · show ((ui (ui M1 67 _ w) 66 _ v).1 66 _).toInt = _
      rw [ui_eq, hv]
    · show ((ui (ui M1 67 _ w) 66 _ v).1 67 i).toInt = _
      rw [ui_nk (by decide), ui_nj (by omega), r.2.2.1]
    · show 1 ≤ ((ui (ui M1 67 _ w) 66 _ v).1 67 _).toInt ∧ ((ui (ui M1 67 _ w) 66 _ v).1 67 _).toInt ≤ 3
      rw [ui_nk (by decide), ui_eq]
      omega
  refine ⟨hs2, fun I2 => ?_⟩
  have q1 := SIM_lim h I
  have q2 := SIM_lim hs2 I2
  have e4 : sr (fun i => ((ui (ui M1 67 (loops - 1).toNat w) 66 deep.toNat v).1 67 i).toInt) loops.toNat = sr (fun i => (M.1 67 i).toInt) loops.toNat - 1 := by
    rw [show loops.toNat = (loops - 1).toNat + 1 by omega]
    show sr _ (loops - 1).toNat + ((ui (ui M1 67 (loops - 1).toNat w) 66 deep.toNat v).1 67 (loops - 1).toNat).toInt = sr _ (loops - 1).toNat + (M.1 67 (loops - 1).toNat).toInt - 1
    rw [ui_nk (by decide), ui_eq, sr_congr (r := fun i => (M.1 67 i).toInt) (loops - 1).toNat (fun i hi => by
      show ((ui (ui M1 67 _ w) 66 _ v).1 67 i).toInt = _
      rw [ui_nk (by decide), ui_nj (by omega), r.2.2.1])]
    omega
  unfold mS
  rw [e4]
  omega
theorem T_end {M M1 : Mem} {deep loops gone : Int} {z w : Int32} {b : List Int} (h : SIM M deep loops) (I : Iv TM M) (h0 : 0 ≤ deep) (hg : gone ≤ 2000) (hs : skN (txt M ((M.1 65 deep.toNat).toInt).toNat) ((M.1 66 deep.toNat).toInt).toNat = some (123 :: b)) (hb : skN (txt M ((M.1 65 deep.toNat).toInt).toNat) (((M.1 66 deep.toNat).toInt).toNat + 1) = some b) (hl : 1 ≤ loops) (r : R6 M M1 deep.toNat z) (hz : z.toInt = (M.1 66 deep.toNat).toInt + 1) (hp : 0 ≤ (M.1 66 deep.toNat).toInt ∧ z.toInt ≤ (M.1 62 ((M.1 65 deep.toNat).toInt).toNat).toInt) (hr : 1 ≤ (M.1 67 (loops - 1).toNat).toInt) : SIM (ui M1 67 (loops - 1).toNat w) deep (loops + -1) ∧ (Iv TM (ui M1 67 (loops - 1).toNat w) → mS (ui M1 67 (loops - 1).toNat w) deep gone (loops + -1) < mS M deep gone loops) := by
  have e1 : (fun d => ((ui M1 67 (loops - 1).toNat w).1 65 d).toInt) = (fun d => (M.1 65 d).toInt) := by funext d; rw [ui_nk (by decide), r.2.1]
  have e3 : (fun i => ((ui M1 67 (loops - 1).toNat w).1 68 i).toInt) = (fun i => (M.1 68 i).toInt) := by funext d; rw [ui_nk (by decide), r.2.2.2.1]
  rw [show loops + -1 = loops - 1 by omega]
  have hs2 : SIM (ui M1 67 (loops - 1).toNat w) deep (loops - 1) := by
    refine SIM_of (ST_ui r.1 (by decide) (by decide) (by decide)) ?_
    rw [e1, e3]
    refine SI_end (p := z.toInt) h h0 hs (fun d hd => ?_) ?_ (by omega) hp.2 (by rw [hz, show ((M.1 66 deep.toNat).toInt + 1).toNat = ((M.1 66 deep.toNat).toInt).toNat + 1 by omega]; exact hb) (fun i hi => ?_)
    · show ((ui M1 67 _ w).1 66 d).toInt = _
      rw [ui_nk (by decide), r.2.2.2.2.1 d (by omega)]
    · show ((ui M1 67 _ w).1 66 _).toInt = _
      rw [ui_nk (by decide), r.2.2.2.2.2]
    · show ((ui M1 67 _ w).1 67 i).toInt = _
      rw [ui_nj (by omega), r.2.2.1]
  refine ⟨hs2, fun I2 => ?_⟩
  have q1 := SIM_lim h I
  have q2 := SIM_lim hs2 I2
  have e4 : sr (fun i => ((ui M1 67 (loops - 1).toNat w).1 67 i).toInt) (loops - 1).toNat = sr (fun i => (M.1 67 i).toInt) (loops - 1).toNat := sr_congr _ (fun i hi => by
    show ((ui M1 67 _ w).1 67 i).toInt = _
    rw [ui_nj (by omega), r.2.2.1])
  have e5 : sr (fun i => (M.1 67 i).toInt) loops.toNat = sr (fun i => (M.1 67 i).toInt) (loops - 1).toNat + (M.1 67 (loops - 1).toNat).toInt := by
    rw [show loops.toNat = (loops - 1).toNat + 1 by omega]; rfl
  unfold mS
  rw [e4]
  omega
theorem T_open {M M1 : Mem} {deep loops : Int} {z n v : Int32} (hw : WFM M) (h : SIM M deep loops) (h0 : 0 ≤ deep) (hl : 0 ≤ loops) (hlt : (M.1 66 deep.toNat).toInt ≠ (M.1 62 ((M.1 65 deep.toNat).toInt).toNat).toInt) (hc : txt M ((M.1 65 deep.toNat).toInt).toNat ((M.1 66 deep.toNat).toInt).toNat = 123) (r : R6 M M1 deep.toNat z) (hz : z.toInt = (M.1 66 deep.toNat).toInt + 1) (hn : 1 ≤ n.toInt ∧ n.toInt ≤ 3) (hv : v.toInt = (M.1 66 deep.toNat).toInt + 1) : SIM (ui (ui M1 67 loops.toNat n) 68 loops.toNat v) deep (loops + 1) := by
  obtain ⟨a1, a2, a3, a4, s, hs⟩ := SIM_at h h0
  have hwx := (hw _ (by omega) a2).1
  obtain ⟨s', e1, e2⟩ := skN_next hwx (show ((M.1 66 deep.toNat).toInt).toNat < (tsz M ((M.1 65 deep.toNat).toInt).toNat).toNat by show _ < ((M.1 62 ((M.1 65 deep.toNat).toInt).toNat).toInt).toNat; omega) hs
  rw [hc, stp_123] at e1
  rw [← Option.some.inj e1] at e2
  refine SIM_of (ST_ui (ST_ui r.1 (by decide) (by decide) (by decide)) (by decide) (by decide) (by decide)) ?_
  have q1 : (fun d => ((ui (ui M1 67 loops.toNat n) 68 loops.toNat v).1 65 d).toInt) = (fun d => (M.1 65 d).toInt) := by funext d; rw [ui_nk (by decide), ui_nk (by decide), r.2.1]
  rw [q1]
  refine SI_open (p := (M.1 66 deep.toNat).toInt + 1) h h0 hs (fun d hd => ?_) ?_ (by omega) (by show _ ≤ (M.1 62 _).toInt; omega) (by rw [show ((M.1 66 deep.toNat).toInt + 1).toNat = ((M.1 66 deep.toNat).toInt).toNat + 1 by omega]; exact e2) (fun i hi => ?_) ?_ (fun i hi => ?_) ?_
  · show ((ui (ui M1 67 _ n) 68 _ v).1 66 d).toInt = _
    rw [ui_nk (by decide), ui_nk (by decide), r.2.2.2.2.1 d (by omega)]
  · show ((ui (ui M1 67 _ n) 68 _ v).1 66 _).toInt = _
    rw [ui_nk (by decide), ui_nk (by decide), r.2.2.2.2.2, hz]
  · show ((ui (ui M1 67 _ n) 68 _ v).1 67 i).toInt = _
    rw [ui_nk (by decide), ui_nj (by omega), r.2.2.1]
  · show 1 ≤ ((ui (ui M1 67 _ n) 68 _ v).1 67 _).toInt ∧ ((ui (ui M1 67 _ n) 68 _ v).1 67 _).toInt ≤ 3
    rw [ui_nk (by decide), ui_eq]
    exact hn
  · show ((ui (ui M1 67 _ n) 68 _ v).1 68 i).toInt = _
    rw [ui_nj (by omega), ui_nk (by decide), r.2.2.2.1]
  · show ((ui (ui M1 67 _ n) 68 _ v).1 68 _).toInt = _
    rw [ui_eq, hv]
theorem T_call {M M1 : Mem} {deep loops : Int} {z y o : Int32} (hw : WFM M) (I : Iv TM M) (h : SIM M deep loops) (h0 : 0 ≤ deep) (hlt : (M.1 66 deep.toNat).toInt ≠ (M.1 62 ((M.1 65 deep.toNat).toInt).toNat).toInt) (hc : 65 ≤ txt M ((M.1 65 deep.toNat).toInt).toNat ((M.1 66 deep.toNat).toInt).toNat ∧ txt M ((M.1 65 deep.toNat).toInt).toNat ((M.1 66 deep.toNat).toInt).toNat ≤ 72) (r : R6 M M1 deep.toNat z) (hz : z.toInt = (M.1 66 deep.toNat).toInt + 1) (hy : y.toInt = txt M ((M.1 65 deep.toNat).toInt).toNat ((M.1 66 deep.toNat).toInt).toNat - 65) (ho : o.toInt = 0) : SIM (ui (ui M1 65 (deep + 1).toNat y) 66 (deep + 1).toNat o) (deep + 1) loops := by
  obtain ⟨a1, a2, a3, a4, s, hs⟩ := SIM_at h h0
  have hwx := hw _ (by omega) a2
  have hk : ((M.1 66 deep.toNat).toInt).toNat < (tsz M ((M.1 65 deep.toNat).toInt).toNat).toNat := by show _ < ((M.1 62 ((M.1 65 deep.toNat).toInt).toNat).toInt).toNat; omega
  obtain ⟨s', e1, e2⟩ := skN_next hwx.1 hk hs
  obtain ⟨t1, t2⟩ := hwx.2 _ hk hc.1 hc.2
  rw [← hy] at t1 t2
  have eD : (deep + 1).toNat = deep.toNat + 1 := by omega
  refine SIM_of (ST_ui (ST_ui r.1 (by decide) (by decide) (by decide)) (by decide) (by decide) (by decide)) ?_
  have q2 : (fun i => ((ui (ui M1 65 (deep + 1).toNat y) 66 (deep + 1).toNat o).1 67 i).toInt) = (fun i => (M.1 67 i).toInt) := by funext d; rw [ui_nk (by decide), ui_nk (by decide), r.2.2.1]
  have q3 : (fun i => ((ui (ui M1 65 (deep + 1).toNat y) 66 (deep + 1).toNat o).1 68 i).toInt) = (fun i => (M.1 68 i).toInt) := by funext d; rw [ui_nk (by decide), ui_nk (by decide), r.2.2.2.1]
  rw [q2, q3]
  refine SI_call (y := y.toInt) (p := (M.1 66 deep.toNat).toInt + 1) h h0 hs (fun d hd => ?_) ?_ (fun d hd => ?_) ?_ (by omega) (by show _ ≤ (M.1 62 _).toInt; omega) (by rw [show ((M.1 66 deep.toNat).toInt + 1).toNat = ((M.1 66 deep.toNat).toInt).toNat + 1 by omega]; exact e2) (stp_eqv e1 (by omega) (by omega)) ?_ (by omega) t1 (ig_62 I _ (by omega)).1 t2
  · show ((ui (ui M1 65 _ y) 66 _ o).1 65 d).toInt = _
    rw [ui_nk (by decide), ui_nj (by omega), r.2.1]
  · show ((ui (ui M1 65 _ y) 66 _ o).1 65 _).toInt = _
    rw [ui_nk (by decide), eD, ui_eq]
  · show ((ui (ui M1 65 _ y) 66 _ o).1 66 d).toInt = _
    rw [ui_nj (by omega), ui_nk (by decide), r.2.2.2.2.1 d (by omega)]
  · show ((ui (ui M1 65 _ y) 66 _ o).1 66 _).toInt = _
    rw [ui_nj (by omega), ui_nk (by decide), r.2.2.2.2.2, hz]
  · show ((ui (ui M1 65 _ y) 66 _ o).1 66 _).toInt = 0
    rw [eD, ui_eq, ho]
theorem SIM_0 {M : Mem} {x o : Int32} {a : Int} (hx : x.toInt = a) (ho : o.toInt = 0) (h : 0 ≤ a ∧ a ≤ 7) (ht : 0 < tel M a.toNat) (I : Iv TM M) {n : Int32} : SIM (ui (ui (ui M 65 0 x) 66 0 o) 47 33 n) 0 0 := by
  refine SIM_of (M := M) (ST_ui (ST_ui (ST_ui ⟨rfl, rfl, rfl⟩ (by decide) (by decide) (by decide)) (by decide) (by decide) (by decide)) (by decide) (by decide) (by decide)) ?_
  have hk := rk_7 (tel M) (v := tel M a.toNat) (x := a.toNat) (Int.le_refl _) 8 (by omega)
  refine ⟨fun _ => [], fun d hd => ?_, rfl, fun i hi => by omega, by omega, by omega⟩
  have e : d = 0 := by omega
  subst e
  have e1 : ((ui (ui (ui M 65 0 x) 66 0 o) 47 33 n).1 65 0).toInt = a := by rw [ui_nk (by decide), ui_nk (by decide), ui_eq, hx]
  have e2 : ((ui (ui (ui M 65 0 x) 66 0 o) 47 33 n).1 66 0).toInt = 0 := by rw [ui_nk (by decide), ui_eq, ho]
  simp only [e1, e2]
  refine ⟨⟨h.1, h.2, ht, Int.le_refl _, (ig_62 I _ (by omega)).1, by omega⟩, rfl, fun b hb => ?_⟩
  have := List.IsSuffix.length_le hb
  simp at this
end
