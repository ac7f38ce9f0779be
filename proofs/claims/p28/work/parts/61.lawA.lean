section
theorem ans2 {C : Prop} {a a' u v : Int} (h : (C ∧ a = u) ∨ (¬ C ∧ a = v)) (h' : (C ∧ a' = u) ∨ (¬ C ∧ a' = v)) : a = a' := by
  rcases h with ⟨c, e⟩ | ⟨c, e⟩ <;> rcases h' with ⟨c', e'⟩ | ⟨c', e'⟩
  · rw [e, e']
  · exact absurd c c'
  · exact absurd c' c
  · rw [e, e']
theorem ans2f {C B : Prop} {a a' u v : Int} (h : (C ∧ B ∧ a = u) ∨ (¬ (C ∧ B) ∧ a = v)) (h' : (C ∧ B ∧ a' = u) ∨ (¬ (C ∧ B) ∧ a' = v)) : a = a' := by
  rcases h with ⟨c, c1, e⟩ | ⟨c, e⟩ <;> rcases h' with ⟨c', c1', e'⟩ | ⟨c', e'⟩
  · rw [e, e']
  · exact absurd ⟨c, c1⟩ c'
  · exact absurd ⟨c', c1'⟩ c
  · rw [e, e']
theorem ans3 {C B : Prop} {a a' u v z z' : Int} (h : (C ∧ a = u) ∨ (¬ C ∧ B ∧ a = v) ∨ (¬ C ∧ ¬ B ∧ a = z)) (h' : (C ∧ a' = u) ∨ (¬ C ∧ B ∧ a' = v) ∨ (¬ C ∧ ¬ B ∧ a' = z')) (hz : ¬ C → z = z') : a = a' := by
  rcases h with ⟨c, e⟩ | ⟨c, d, e⟩ | ⟨c, d, e⟩ <;> rcases h' with ⟨c', e'⟩ | ⟨c', d', e'⟩ | ⟨c', d', e'⟩ <;> first | exact absurd c c' | exact absurd c' c | exact absurd d d' | exact absurd d' d | (rw [e, e']; done) | (rw [e, e', hz c])
theorem ans4 {C B A : Prop} {a a' u v z y : Int} (h : (C ∧ a = u) ∨ (¬ C ∧ B ∧ a = v) ∨ (¬ C ∧ ¬ B ∧ A ∧ a = z) ∨ (¬ C ∧ ¬ B ∧ ¬ A ∧ a = y)) (h' : (C ∧ a' = u) ∨ (¬ C ∧ B ∧ a' = v) ∨ (¬ C ∧ ¬ B ∧ A ∧ a' = z) ∨ (¬ C ∧ ¬ B ∧ ¬ A ∧ a' = y)) : a = a' := by
  rcases h with ⟨c, e⟩ | ⟨c, d, e⟩ | ⟨c, d, f, e⟩ | ⟨c, d, f, e⟩ <;> rcases h' with ⟨c', e'⟩ | ⟨c', d', e'⟩ | ⟨c', d', f', e'⟩ | ⟨c', d', f', e'⟩ <;> first | exact absurd c c' | exact absurd c' c | exact absurd d d' | exact absurd d' d | exact absurd f f' | exact absurd f' f | (rw [e, e'])
theorem sc_keep {W W' : List (Nat × Nat)} {M M1 M2 : Mem} {k j k' j' : Nat} (h : (M.1 k j).toInt = (M.1 k' j').toInt) (F : Fr W M M1) (F' : Fr W' M1 M2) (h1 : inW W k j = false) (h2 : inW W k' j' = false) (h3 : inW W' k j = false) (h4 : inW W' k' j' = false) : (M2.1 k j).toInt = (M2.1 k' j').toInt := by
  rw [F'.at k j h3, F.at k j h1, F'.at k' j' h4, F.at k' j' h2]
  exact h
theorem gen_LX {W : List (Nat × Nat)} {M M1 : Mem} (h : LX M) (F : Fr W M M1) (I : Iv TX M1) (hw : inW W 33 12 = false) : LX M1 := ⟨I, by rw [F.atL 33 12 hw]; exact h.2⟩
theorem gen_LM {W : List (Nat × Nat)} {M M1 : Mem} (h : LM M) (F : Fr W M M1) (I : Iv TM M1) (hw : (noW W 61 && (noW W 62 && ((noW W 63 && !inW W 47 23) && !inW W 47 34))) = true) : LM M1 := by
  rw [Bool.and_eq_true, Bool.and_eq_true, Bool.and_eq_true] at hw
  obtain ⟨h1, h2, h3, h4⟩ := hw
  have h5 : noW W 63 = true := by rw [Bool.and_eq_true] at h3; exact h3.1
  exact ⟨I, WFM_fr0 h.2.1 F (noW_in h1) (noW_in h2) (noW_in h5), WFT_fr h.2.2.1 F h3, by rw [F.atL 47 34 (by simpa using h4)]; exact h.2.2.2⟩
/-- the books of both sides are alike -/
def BK (M : Mem) : Prop := (∀ j, j < 8 → M.1 24 j = M.1 79 j) ∧ (∀ j, j < 200 → M.1 26 j = M.1 81 j) ∧ (∀ j, j < 200 → M.1 27 j = M.1 82 j) ∧ (∀ j, j < 200 → M.1 28 j = M.1 83 j) ∧ (∀ j, j < 200 → M.1 29 j = M.1 84 j) ∧ (∀ k : Nat, k < 200 → 0 ≤ (M.1 28 k).toInt) ∧ (∀ k : Nat, (k : Int) < (M.1 23 7).toInt → (M.1 27 k).toInt < (M.1 1 12).toInt)
def LJ (n : Nat) (M : Mem) : Prop := LI n M ∧ BK M
def bkW (W : List (Nat × Nat)) : Bool := ((noW W 24 && noW W 79) && ((noW W 26 && noW W 81) && ((noW W 27 && noW W 82) && ((noW W 28 && noW W 83) && ((noW W 29 && noW W 84) && !inW W 23 7)))))
theorem BK_keep {W W' : List (Nat × Nat)} {M M1 M2 : Mem} (h : BK M) (F : Fr W M M1) (F' : Fr W' M1 M2) (hw : bkW W = true) (hw' : bkW W' = true) (hl : (M.1 1 12).toInt ≤ (M2.1 1 12).toInt) : BK M2 := by
  unfold bkW at hw hw'
  simp only [Bool.and_eq_true, Bool.not_eq_true'] at hw hw'
  obtain ⟨⟨a1, a2⟩, ⟨b1, b2⟩, ⟨c1, c2⟩, ⟨d1, d2⟩, ⟨e1, e2⟩, f1⟩ := hw
  obtain ⟨⟨a3, a4⟩, ⟨b3, b4⟩, ⟨c3, c4⟩, ⟨d3, d4⟩, ⟨e3, e4⟩, f3⟩ := hw'
  refine ⟨row_keep h.1 F F' a1 a2 a3 a4, row_keep h.2.1 F F' b1 b2 b3 b4, row_keep h.2.2.1 F F' c1 c2 c3 c4, row_keep h.2.2.2.1 F F' d1 d2 d3 d4, row_keep h.2.2.2.2.1 F F' e1 e2 e3 e4, fun k hk => ?_, fun k hk => ?_⟩
  · rw [F'.at 28 k (noW_in d3 k), F.at 28 k (noW_in d1 k)]
    exact h.2.2.2.2.2.1 k hk
  · rw [F'.at 23 7 f3, F.at 23 7 f1] at hk
    rw [F'.at 27 k (noW_in c3 k), F.at 27 k (noW_in c1 k)]
    have := h.2.2.2.2.2.2 k hk
    omega
theorem bk_hy {M M1 : Mem} {C : Prop} {n : Nat} {x : Int32} (h : ∀ k : Nat, k < 200 → 0 ≤ (M.1 28 k).toInt) (p : (C → M1.1 28 = M.1 28) ∧ (¬ C → M1.1 28 = (ui M 28 n x).1 28)) (hx : ¬ C → 0 ≤ x.toInt) : ∀ k : Nat, k < 200 → 0 ≤ (M1.1 28 k).toInt := by
  intro k hk
  by_cases c : C
  · rw [p.1 c]; exact h k hk
  · rw [p.2 c]
    by_cases q : k = n
    · subst q; rw [ui_eq]; exact hx c
    · rw [ui_nj q]; exact h k hk
theorem bk_hw {M M1 : Mem} {C : Prop} {n n' L : Int} {x : Int32} (hn : 0 ≤ n) (h : ∀ k : Nat, (k : Int) < n → (M.1 27 k).toInt < L) (p : (C → M1.1 27 = M.1 27) ∧ (¬ C → M1.1 27 = (ui M 27 n.toNat x).1 27)) (e : (C ∧ n' = n) ∨ (¬ C ∧ n' = n + 1)) (hx : ¬ C → x.toInt < L) : ∀ k : Nat, (k : Int) < n' → (M1.1 27 k).toInt < L := by
  intro k hk
  rcases e with ⟨c, e⟩ | ⟨c, e⟩
  · rw [p.1 c]; exact h k (by omega)
  · rw [p.2 c]
    by_cases q : k = n.toNat
    · subst q; rw [ui_eq]; exact hx c
    · rw [ui_nj q]; exact h k (by omega)
theorem upk_le {k e : Int} (h : -1 ≤ k ∧ k ≤ e) (he : 0 ≤ e ∧ e ≤ 200) : (upk k e).toNat ≤ 200 := by unfold upk; split <;> omega
theorem upk_le2 {k e : Int} (h : -1 ≤ k ∧ k ≤ e) : upk k e ≤ e := by unfold upk; split <;> omega
theorem hs_eq {M : Mem} (h : BK M) {n : Nat} (hn : n ≤ 200) {s l y : Int} : hsM M s l y n = hsX M s l y n := by
  unfold hsM hsX
  apply hsl_cong
  intro k hk
  unfold eW
  rw [h.2.1 k (by omega), h.2.2.1 k (by omega), h.2.2.2.1 k (by omega), h.2.2.2.2.1 k (by omega)]
  exact ⟨rfl, rfl, rfl, rfl⟩
theorem hs_out {M : Mem} (h : BK M) {u : Int} (hu : u ≤ (M.1 23 7).toInt) {s y : Int} {l : Nat} (hl : (M.1 1 12).toInt ≤ l) : hsX M s l y u.toNat = false := by
  unfold hsX
  apply hsl_none
  intro k hk
  have := h.2.2.2.2.2.2 k (by omega)
  unfold eW
  omega
theorem bb_ans {P : Prop} {a a' : Int} (h : (a = 1 ∧ P) ∨ (a = 0 ∧ ¬ P)) (h' : (a' = 1 ∧ P) ∨ (a' = 0 ∧ ¬ P)) : a = a' := by
  rcases h with ⟨e, p⟩ | ⟨e, p⟩ <;> rcases h' with ⟨e', p'⟩ | ⟨e', p'⟩
  · rw [e, e']
  · exact absurd p p'
  · exact absurd p' p
  · rw [e, e']
theorem ansB {C B : Prop} {a a' u v : Int} {P Q : Prop} (h : (C ∧ a = u) ∨ (¬ C ∧ B ∧ a = v) ∨ (¬ C ∧ ¬ B ∧ P)) (h' : (C ∧ a' = u) ∨ (¬ C ∧ B ∧ a' = v) ∨ (¬ C ∧ ¬ B ∧ Q)) (hz : ¬ C → ¬ B → P → Q → a = a') : a = a' := by
  rcases h with ⟨c, e⟩ | ⟨c, d, e⟩ | ⟨c, d, e⟩ <;> rcases h' with ⟨c', e'⟩ | ⟨c', d', e'⟩ | ⟨c', d', e'⟩ <;> first | exact absurd c c' | exact absurd c' c | exact absurd d d' | exact absurd d' d | (rw [e, e']; done) | exact hz c d e e'
theorem stk_eq {M : Mem} (h : BK M) {u s y : Int} (h2 : u.toNat ≤ 200) (hu : u ≤ (M.1 23 7).toInt) (gl : 0 ≤ (M.1 1 12).toInt ∧ (M.1 1 12).toInt ≤ 40) : ctb (fun l => hsX M s l y u.toNat) 64 = ctb (fun l => hsM M s l y u.toNat) ((M.1 1 12).toInt).toNat := by
  have e : (64 : Nat) = ((M.1 1 12).toInt).toNat + (64 - ((M.1 1 12).toInt).toNat) := by omega
  rw [e, ctb_out _ (fun k h1 _ => hs_out h hu (by omega))]
  exact ctb_cong (fun k _ => (hs_eq h h2).symm)
theorem unl_eq {M M1 : Mem} (h : BK M) (hq : hsM M1 = hsM M) (g : (M1.1 47 12).toInt = (M.1 1 12).toInt) {u y a b : Int} (h2 : u.toNat ≤ 200) (hu : u ≤ (M.1 23 7).toInt) (gl : 0 ≤ (M.1 1 12).toInt ∧ (M.1 1 12).toInt ≤ 40) : ((unl (fun s l => hsX M s l y u.toNat) a b 64 : Nat) : Int) = uM M1 a b y u.toNat := by
  unfold uM
  rw [hq, g, unl_out (n := ((M.1 1 12).toInt).toNat) (fun s l hl => hs_out h hu (by omega)) (by omega)]
  have e : unl (fun s l => hsX M s l y u.toNat) a b ((M.1 1 12).toInt).toNat = unl (fun s l => hsM M s l y u.toNat) a b ((M.1 1 12).toInt).toNat := ctb_cong (fun k _ => by
    show (hsX M a k y u.toNat != hsX M b k y u.toNat) = (hsM M a k y u.toNat != hsM M b k y u.toNat)
    rw [hs_eq h h2, hs_eq h h2])
  rw [e]
theorem mst_eq {M M1 : Mem} (h : BK M) (hq : hsM M1 = hsM M) (h79 : eW M1 79 = eW M 79) (g : (M1.1 47 12).toInt = (M.1 1 12).toInt) {u y a : Int} (h2 : u.toNat ≤ 200) (hu : u ≤ (M.1 23 7).toInt) (gl : 0 ≤ (M.1 1 12).toInt ∧ (M.1 1 12).toInt ≤ 40) (gs : 0 ≤ (M.1 23 2).toInt ∧ (M.1 23 2).toInt ≤ 8) (ha : 0 ≤ a ∧ a < (M.1 23 2).toInt) : mst (eW M 24) (fun k => ((unl (fun s l => hsX M s l y u.toNat) k a 64 : Nat) : Int)) (eW M 24 a.toNat) ((M.1 23 2).toInt).toNat = mstM M1 a y u.toNat ((M.1 23 2).toInt).toNat := by
  unfold mstM
  rw [h79]
  have e0 : eW M 79 a.toNat = eW M 24 a.toNat := by unfold eW; rw [h.1 a.toNat (by omega)]
  rw [e0]
  apply mst_cong
  intro k hk
  refine ⟨by unfold eW; rw [h.1 k (by omega)], ?_⟩
  rw [unl_eq h hq g h2 hu gl]
  unfold uM
  rw [unl_sym]
theorem ans5 {m m' a a' : Int} (h : (a = -5 ∧ m < 0) ∨ (0 ≤ a ∧ a = m)) (h' : (a' = -5 ∧ m' < 0) ∨ (0 ≤ a' ∧ a' = m')) (e : m = m') : a = a' := by omega
theorem ln_eq {M M1 : Mem} (h : BK M) (hq : hsM M1 = hsM M) (h79 : eW M1 79 = eW M 79) (g : (M1.1 47 12).toInt = (M.1 1 12).toInt) (g2 : (M1.1 47 52).toInt = (M.1 23 2).toInt) {u y : Int} (h2 : u.toNat ≤ 200) (hu : u ≤ (M.1 23 7).toInt) (gl : 0 ≤ (M.1 1 12).toInt ∧ (M.1 1 12).toInt ≤ 40) (gs : 0 ≤ (M.1 23 2).toInt ∧ (M.1 23 2).toInt ≤ 8) : lng (fun s => lnH (eW M 24) (fun s l => hsX M s l y u.toNat) 64 ((M.1 23 2).toInt).toNat s) ((M.1 23 2).toInt).toNat = lng (lnM M1 y u.toNat) ((M.1 23 2).toInt).toNat := by
  apply lng_cong
  intro s hs
  have e := mst_eq (a := (s : Int)) (y := y) h hq h79 g h2 hu gl gs (by omega)
  rw [show ((s : Int)).toNat = s by omega] at e
  unfold lnH lnM
  rw [g2, ← e]
  split
  · rfl
  · exact unl_eq h hq g h2 hu gl
def SL (M : Mem) : Prop := ∀ l : Nat, l < 64 → b64 (M.2 1 11) l = (decide ((l : Int) < (M.1 1 12).toInt) && decide ((M.1 57 l).toInt = 1))
def GR (M : Mem) : Prop := ∀ j, j < 24 → M.1 46 j = M.1 77 j
def LJ2 (n : Nat) (M : Mem) : Prop := LJ n M ∧ SL M ∧ GR M
theorem SL_keep {W W' : List (Nat × Nat)} {M M1 M2 : Mem} (h : SL M) (F : Fr W M M1) (F' : Fr W' M1 M2) (hw : ((!inW W 1 11 && !inW W 1 12) && noW W 57) = true) (hw' : ((!inW W' 1 11 && !inW W' 1 12) && noW W' 57) = true) : SL M2 := by
  simp only [Bool.and_eq_true, Bool.not_eq_true'] at hw hw'
  intro l hl
  rw [F'.atL 1 11 hw'.1.1, F.atL 1 11 hw.1.1, F'.at 1 12 hw'.1.2, F.at 1 12 hw.1.2, F'.at 57 l (noW_in hw'.2 l), F.at 57 l (noW_in hw.2 l)]
  exact h l hl
theorem SL_line {W W' : List (Nat × Nat)} {M M1 M2 : Mem} {C : Prop} {x : Int32} (h : SL M) (F : Fr W M M1) (F' : Fr W' M1 M2) (gl : 0 ≤ (M.1 1 12).toInt ∧ (M.1 1 12).toInt ≤ 40) (p : (C → M1.2 1 11 = M.2 1 11) ∧ (¬ C → ∀ l : Nat, l < 64 → b64 (M1.2 1 11) l = (b64 (M.2 1 11) l || (decide ((l : Int) = (M.1 1 12).toInt) && decide (x.toInt = 1))))) (p2 : (C → M2.1 57 = M1.1 57) ∧ (¬ C → M2.1 57 = (ui M1 57 ((M.1 1 12).toInt).toNat x).1 57)) (e : (C ∧ (M1.1 1 12).toInt = (M.1 1 12).toInt) ∨ (¬ C ∧ (M1.1 1 12).toInt = (M.1 1 12).toInt + 1)) (h57 : noW W 57 = true) (h11 : inW W' 1 11 = false) (h12 : inW W' 1 12 = false) : SL M2 := by
  intro l hl
  rw [F'.atL 1 11 h11, F'.at 1 12 h12]
  rcases e with ⟨c, e⟩ | ⟨c, e⟩
  · rw [p.1 c, e, p2.1 c, F.at 57 l (noW_in h57 l)]
    exact h l hl
  · rw [p.2 c l hl, e, p2.2 c, h l hl]
    by_cases q : l = ((M.1 1 12).toInt).toNat
    · rw [q, ui_eq]
      have e1 : ((((M.1 1 12).toInt).toNat : Nat) : Int) = (M.1 1 12).toInt := by omega
      rw [e1, decide_eq_false (Int.lt_irrefl _), decide_eq_true (show (M.1 1 12).toInt = (M.1 1 12).toInt from rfl), decide_eq_true (show (M.1 1 12).toInt < (M.1 1 12).toInt + 1 by omega)]
      simp
    · rw [ui_nj q, F.at 57 l (noW_in h57 l)]
      have n1 : ¬ ((l : Int) = (M.1 1 12).toInt) := by omega
      rw [decide_eq_false n1]
      simp only [Bool.false_and, Bool.or_false]
      by_cases q2 : (l : Int) < (M.1 1 12).toInt
      · rw [decide_eq_true q2, decide_eq_true (show (l : Int) < (M.1 1 12).toInt + 1 by omega)]
      · rw [decide_eq_false q2, decide_eq_false (show ¬ (l : Int) < (M.1 1 12).toInt + 1 by omega)]
theorem lo_eq {M M1 : Mem} (h : BK M) (hs : SL M) (hq : hsM M1 = hsM M) (h57 : eW M1 57 = eW M 57) {u y a b ma mb : Int} (h2 : u.toNat ≤ 200) (hu : u ≤ (M.1 23 7).toInt) (gl : 0 ≤ (M.1 1 12).toInt ∧ (M.1 1 12).toInt ≤ 40) : ctb (loH (fun s l => hsX M s l y u.toNat) (b64 (M.2 1 11)) a b ma mb) 64 = ctb (loM M1 a b y u.toNat ma mb) ((M.1 1 12).toInt).toNat := by
  have e : (64 : Nat) = ((M.1 1 12).toInt).toNat + (64 - ((M.1 1 12).toInt).toNat) := by omega
  rw [e, ctb_out _ (fun k h1 _ => by show ((((hsX M a k y u.toNat && hsX M b k y u.toNat) && b64 (M.2 1 11) k) && !(decide (0 ≤ ma) && hsX M ma k y u.toNat)) && !(decide (0 ≤ mb) && hsX M mb k y u.toNat)) = false; rw [hs_out (s := a) h hu (by omega)]; rfl)]
  apply ctb_cong
  intro l hl
  have s1 := hs l (by omega)
  rw [decide_eq_true (show (l : Int) < (M.1 1 12).toInt by omega), Bool.true_and] at s1
  show ((((hsX M a l y u.toNat && hsX M b l y u.toNat) && b64 (M.2 1 11) l) && !(decide (0 ≤ ma) && hsX M ma l y u.toNat)) && !(decide (0 ≤ mb) && hsX M mb l y u.toNat)) = _
  unfold loM haM boM
  have e57 : (M1.1 57 l).toInt = (M.1 57 l).toInt := congrFun h57 l
  rw [hq, e57, s1, hs_eq h h2, hs_eq h h2, hs_eq h h2, hs_eq h h2]
  generalize hsX M a l y u.toNat = A
  generalize hsX M b l y u.toNat = B
  generalize hsX M ma l y u.toNat = C
  generalize hsX M mb l y u.toNat = D
  generalize decide ((M.1 57 l).toInt = 1) = S
  generalize decide (0 ≤ ma) = P
  generalize decide (0 ≤ mb) = Q
  cases A <;> cases B <;> cases C <;> cases D <;> cases S <;> cases P <;> cases Q <;> rfl
theorem nr_eq {M M1 : Mem} (h : BK M) (hq : hsM M1 = hsM M) (h79 : eW M1 79 = eW M 79) (g : (M1.1 47 12).toInt = (M.1 1 12).toInt) (g2 : (M1.1 47 52).toInt = (M.1 23 2).toInt) {u y a v : Int} (h2 : u.toNat ≤ 200) (hu : u ≤ (M.1 23 7).toInt) (gl : 0 ≤ (M.1 1 12).toInt ∧ (M.1 1 12).toInt ≤ 40) (gs : 0 ≤ (M.1 23 2).toInt ∧ (M.1 23 2).toInt ≤ 8) (ha : 0 ≤ a ∧ a < (M.1 23 2).toInt) : nrM M1 a v y u.toNat = nrH (eW M 24) (fun s l => hsX M s l y u.toNat) 64 ((M.1 23 2).toInt).toNat a v := by
  have em : ∀ s : Int, 0 ≤ s ∧ s < (M.1 23 2).toInt → mstM M1 s y u.toNat ((M.1 23 2).toInt).toNat = mH (eW M 24) (fun s l => hsX M s l y u.toNat) 64 ((M.1 23 2).toInt).toNat s := fun s hs => (mst_eq h hq h79 g h2 hu gl gs hs).symm
  have rm := mst_rng (eW M 24) (fun k => ((unl (fun s l => hsX M s l y u.toNat) k a 64 : Nat) : Int)) (eW M 24 a.toNat) ((M.1 23 2).toInt).toNat
  have rm2 : -1 ≤ mH (eW M 24) (fun s l => hsX M s l y u.toNat) 64 ((M.1 23 2).toInt).toNat a ∧ mH (eW M 24) (fun s l => hsX M s l y u.toNat) 64 ((M.1 23 2).toInt).toNat a < ((M.1 23 2).toInt).toNat := rm
  have eh : ∀ s : Int, hsM M1 s v y u.toNat = hsX M s v y u.toNat := fun s => by rw [hq]; exact hs_eq h h2
  unfold nrM nrF nrH
  rw [eh a, g2]
  have e1 : anyb (fun k => nrp M1 a y u.toNat k && hsM M1 k v y u.toNat) ((M.1 23 2).toInt).toNat = anyb (fun k => (decide (mH (eW M 24) (fun s l => hsX M s l y u.toNat) 64 ((M.1 23 2).toInt).toNat a = k) || decide (mH (eW M 24) (fun s l => hsX M s l y u.toNat) 64 ((M.1 23 2).toInt).toNat k = a)) && hsX M k v y u.toNat) ((M.1 23 2).toInt).toNat := anyb_cong (fun k hk => by
    show (nrp M1 a y u.toNat k && hsM M1 k v y u.toNat) = _
    unfold nrp
    rw [eh k, g2, em a ha, em k (by omega)])
  rw [e1]
  generalize hm : mH (eW M 24) (fun s l => hsX M s l y u.toNat) 64 ((M.1 23 2).toInt).toNat = m at rm2
  rw [Bool.or_assoc]
  congr 1
  apply Bool.eq_iff_iff.mpr
  rw [Bool.or_eq_true, anyb_iff, anyb_iff]
  constructor
  · rintro ⟨k, k1, k2⟩
    simp only [Bool.and_eq_true, Bool.or_eq_true, decide_eq_true_eq] at k2
    rcases k2 with ⟨q | q, r⟩
    · left
      simp only [Bool.and_eq_true, decide_eq_true_eq]
      rw [q]
      exact ⟨by omega, r⟩
    · right
      exact ⟨k, k1, by simp only [Bool.and_eq_true, decide_eq_true_eq]; exact ⟨q, r⟩⟩
  · rintro (q | ⟨k, k1, k2⟩)
    · simp only [Bool.and_eq_true, decide_eq_true_eq] at q
      refine ⟨(m a).toNat, by omega, ?_⟩
      simp only [Bool.and_eq_true, Bool.or_eq_true, decide_eq_true_eq]
      rw [show (((m a).toNat : Nat) : Int) = m a by omega]
      exact ⟨Or.inl rfl, q.2⟩
    · simp only [Bool.and_eq_true, decide_eq_true_eq] at k2
      exact ⟨k, k1, by simp only [Bool.and_eq_true, Bool.or_eq_true, decide_eq_true_eq]; exact ⟨Or.inr k2.1, k2.2⟩⟩
theorem ansB4 {C B A : Prop} {a a' u v w : Int} {P Q : Prop} (h : (C ∧ a = u) ∨ (¬ C ∧ B ∧ a = v) ∨ (¬ C ∧ ¬ B ∧ A ∧ a = w) ∨ (¬ C ∧ ¬ B ∧ ¬ A ∧ P)) (h' : (C ∧ a' = u) ∨ (¬ C ∧ B ∧ a' = v) ∨ (¬ C ∧ ¬ B ∧ A ∧ a' = w) ∨ (¬ C ∧ ¬ B ∧ ¬ A ∧ Q)) (hz : ¬ C → ¬ B → P → Q → a = a') : a = a' := by
  rcases h with ⟨c, e⟩ | ⟨c, d, e⟩ | ⟨c, d, f, e⟩ | ⟨c, d, f, e⟩ <;> rcases h' with ⟨c', e'⟩ | ⟨c', d', e'⟩ | ⟨c', d', f', e'⟩ | ⟨c', d', f', e'⟩ <;> first | exact absurd c c' | exact absurd c' c | exact absurd d d' | exact absurd d' d | exact absurd f f' | exact absurd f' f | (rw [e, e']; done) | exact hz c d e e'
theorem m_L_13 : MV RL 13 0 yX6_half cX6_half 4 (some .int) 3 := ⟨⟨6, _, _, _, rfl, rfl⟩, Or.inl (gC_2 87 (by decide +kernel) (by decide +kernel)), iv_X6_half.1, iv_X6_half.2, yk_X6_half⟩
theorem m_L_17 : MV RL 17 47 yX7_half cX7_half 4 (some .int) 3 := ⟨⟨7, _, _, _, rfl, rfl⟩, Or.inl (gC_5 66 (by decide +kernel) (by decide +kernel)), iv_X7_half.1, iv_X7_half.2, yk_X7_half⟩
theorem m_L_18 : MV RL 18 0 yX6_name cX6_name 5 (some .int) 3 := ⟨⟨6, _, _, _, rfl, rfl⟩, Or.inl (gC_2 101 (by decide +kernel) (by decide +kernel)), iv_X6_name.1, iv_X6_name.2, yk_X6_name⟩
theorem m_L_21 : MV RL 21 47 yX7_name cX7_name 5 (some .int) 3 := ⟨⟨7, _, _, _, rfl, rfl⟩, Or.inl (gC_5 75 (by decide +kernel) (by decide +kernel)), iv_X7_name.1, iv_X7_name.2, yk_X7_name⟩
theorem m_L_22 : MV RL 22 0 yX6_line cX6_line 6 (some .int) 5 := ⟨⟨6, _, _, _, rfl, rfl⟩, Or.inl (gC_2 105 (by decide +kernel) (by decide +kernel)), iv_X6_line.1, iv_X6_line.2, yk_X6_line⟩
theorem m_L_26 : MV RL 26 47 yX7_line cX7_line 6 (some .int) 5 := ⟨⟨7, _, _, _, rfl, rfl⟩, Or.inl (gC_5 83 (by decide +kernel) (by decide +kernel)), iv_X7_line.1, iv_X7_line.2, yk_X7_line⟩
theorem m_L_27 : MV RL 27 0 yX6_metre cX6_metre 4 (some .int) 2 := ⟨⟨6, _, _, _, rfl, rfl⟩, Or.inl (gC_2 117 (by decide +kernel) (by decide +kernel)), iv_X6_metre.1, iv_X6_metre.2, yk_X6_metre⟩
theorem m_L_31 : MV RL 31 47 yX7_metre cX7_metre 4 (some .int) 2 := ⟨⟨7, _, _, _, rfl, rfl⟩, Or.inl (gC_5 92 (by decide +kernel) (by decide +kernel)), iv_X7_metre.1, iv_X7_metre.2, yk_X7_metre⟩
theorem m_L_32 : MV RL 32 0 yX6_told cX6_told 3 (some .int) 2 := ⟨⟨6, _, _, _, rfl, rfl⟩, Or.inl (gC_2 121 (by decide +kernel) (by decide +kernel)), iv_X6_told.1, iv_X6_told.2, yk_X6_told⟩
theorem m_L_35 : MV RL 35 47 yX7_told cX7_told 3 (some .int) 2 := ⟨⟨7, _, _, _, rfl, rfl⟩, Or.inl (gC_5 99 (by decide +kernel) (by decide +kernel)), iv_X7_told.1, iv_X7_told.2, yk_X7_told⟩
theorem m_L_36 : MV RL 36 0 yX6_swap cX6_swap 3 (some .int) 2 := ⟨⟨6, _, _, _, rfl, rfl⟩, Or.inl (gC_2 160 (by decide +kernel) (by decide +kernel)), iv_X6_swap.1, iv_X6_swap.2, yk_X6_swap⟩
theorem m_L_39 : MV RL 39 47 yX7_swap cX7_swap 5 (some .int) 2 := ⟨⟨7, _, _, _, rfl, rfl⟩, Or.inl (gC_5 123 (by decide +kernel) (by decide +kernel)), iv_X7_swap.1, iv_X7_swap.2, yk_X7_swap⟩
theorem m_L_40 : MV RL 40 0 yX6_broken cX6_broken 2 (some .int) 1 := ⟨⟨6, _, _, _, rfl, rfl⟩, Or.inl (gC_2 185 (by decide +kernel) (by decide +kernel)), iv_X6_broken.1, iv_X6_broken.2, yk_X6_broken⟩
theorem m_L_44 : MV RL 44 47 yX7_broken cX7_broken 2 (some .int) 1 := ⟨⟨7, _, _, _, rfl, rfl⟩, Or.inl (gC_5 131 (by decide +kernel) (by decide +kernel)), iv_X7_broken.1, iv_X7_broken.2, yk_X7_broken⟩
theorem m_L_47 : MV RL 47 0 yX6_feed cX6_feed 4 (some .int) 2 := ⟨⟨6, _, _, _, rfl, rfl⟩, Or.inl (gC_2 192 (by decide +kernel) (by decide +kernel)), iv_X6_feed.1, iv_X6_feed.2, yk_X6_feed⟩
theorem m_L_51 : MV RL 51 47 yX7_feed cX7_feed 5 (some .int) 2 := ⟨⟨7, _, _, _, rfl, rfl⟩, Or.inl (gC_5 135 (by decide +kernel) (by decide +kernel)), iv_X7_feed.1, iv_X7_feed.2, yk_X7_feed⟩
theorem m_L_52 : MV RL 52 0 yX6_scene cX6_scene 1 (some .int) 0 := ⟨⟨6, _, _, _, rfl, rfl⟩, Or.inl (gC_2 201 (by decide +kernel) (by decide +kernel)), iv_X6_scene.1, iv_X6_scene.2, yk_X6_scene⟩
theorem m_L_56 : MV RL 56 47 yX7_scene cX7_scene 5 (some .int) 0 := ⟨⟨7, _, _, _, rfl, rfl⟩, Or.inl (gC_5 140 (by decide +kernel) (by decide +kernel)), iv_X7_scene.1, iv_X7_scene.2, yk_X7_scene⟩
theorem m_L_57 : MV RL 57 0 yX6_hall cX6_hall 3 (some .int) 1 := ⟨⟨6, _, _, _, rfl, rfl⟩, Or.inl (gC_3 21 (by decide +kernel) (by decide +kernel)), iv_X6_hall.1, iv_X6_hall.2, yk_X6_hall⟩
theorem m_L_60 : MV RL 60 47 yX7_hall cX7_hall 3 (some .int) 1 := ⟨⟨7, _, _, _, rfl, rfl⟩, Or.inl (gC_5 166 (by decide +kernel) (by decide +kernel)), iv_X7_hall.1, iv_X7_hall.2, yk_X7_hall⟩
theorem m_L_61 : MV RL 61 0 yX6_sing cX6_sing 7 (some .int) 4 := ⟨⟨6, _, _, _, rfl, rfl⟩, Or.inl (gC_3 25 (by decide +kernel) (by decide +kernel)), iv_X6_sing.1, iv_X6_sing.2, yk_X6_sing⟩
theorem m_L_65 : MV RL 65 47 yX7_sing cX7_sing 7 (some .int) 4 := ⟨⟨7, _, _, _, rfl, rfl⟩, Or.inl (gC_5 171 (by decide +kernel) (by decide +kernel)), iv_X7_sing.1, iv_X7_sing.2, yk_X7_sing⟩
theorem m_L_66 : MV RL 66 0 yX6_sung cX6_sung 2 (some .int) 1 := ⟨⟨6, _, _, _, rfl, rfl⟩, Or.inl (gC_3 104 (by decide +kernel) (by decide +kernel)), iv_X6_sung.1, iv_X6_sung.2, yk_X6_sung⟩
theorem m_L_69 : MV RL 69 47 yX7_sung cX7_sung 2 (some .int) 1 := ⟨⟨7, _, _, _, rfl, rfl⟩, Or.inl (gC_5 214 (by decide +kernel) (by decide +kernel)), iv_X7_sung.1, iv_X7_sung.2, yk_X7_sung⟩
theorem m_L_70 : MV RL 70 0 yX6_singer cX6_singer 2 (some .int) 1 := ⟨⟨6, _, _, _, rfl, rfl⟩, Or.inl (gC_3 108 (by decide +kernel) (by decide +kernel)), iv_X6_singer.1, iv_X6_singer.2, yk_X6_singer⟩
theorem m_L_73 : MV RL 73 47 yX7_singer cX7_singer 2 (some .int) 1 := ⟨⟨7, _, _, _, rfl, rfl⟩, Or.inl (gC_5 218 (by decide +kernel) (by decide +kernel)), iv_X7_singer.1, iv_X7_singer.2, yk_X7_singer⟩
theorem m_L_74 : MV RL 74 0 yX6_village cX6_village 4 (some .int) 2 := ⟨⟨6, _, _, _, rfl, rfl⟩, Or.inl (gC_3 116 (by decide +kernel) (by decide +kernel)), iv_X6_village.1, iv_X6_village.2, yk_X6_village⟩
theorem m_L_77 : MV RL 77 47 yX7_village cX7_village 4 (some .int) 2 := ⟨⟨7, _, _, _, rfl, rfl⟩, Or.inl (gC_5 222 (by decide +kernel) (by decide +kernel)), iv_X7_village.1, iv_X7_village.2, yk_X7_village⟩
theorem m_L_78 : MV RL 78 0 yX6_learn cX6_learn 5 (some .int) 4 := ⟨⟨6, _, _, _, rfl, rfl⟩, Or.inl (gC_3 120 (by decide +kernel) (by decide +kernel)), iv_X6_learn.1, iv_X6_learn.2, yk_X6_learn⟩
theorem m_L_82 : MV RL 82 47 yX7_learn cX7_learn 5 (some .int) 4 := ⟨⟨7, _, _, _, rfl, rfl⟩, Or.inl (gC_5 227 (by decide +kernel) (by decide +kernel)), iv_X7_learn.1, iv_X7_learn.2, yk_X7_learn⟩
theorem m_L_83 : MV RL 83 0 yX6_forget cX6_forget 4 (some .int) 3 := ⟨⟨6, _, _, _, rfl, rfl⟩, Or.inl (gC_3 128 (by decide +kernel) (by decide +kernel)), iv_X6_forget.1, iv_X6_forget.2, yk_X6_forget⟩
theorem m_L_86 : MV RL 86 47 yX7_forget cX7_forget 4 (some .int) 3 := ⟨⟨7, _, _, _, rfl, rfl⟩, Or.inl (gC_5 235 (by decide +kernel) (by decide +kernel)), iv_X7_forget.1, iv_X7_forget.2, yk_X7_forget⟩
theorem m_L_87 : MV RL 87 0 yX6_has cX6_has 5 (some .int) 4 := ⟨⟨6, _, _, _, rfl, rfl⟩, Or.inl (gC_3 132 (by decide +kernel) (by decide +kernel)), iv_X6_has.1, iv_X6_has.2, yk_X6_has⟩
theorem m_L_90 : MV RL 90 47 yX7_has cX7_has 5 (some .int) 4 := ⟨⟨7, _, _, _, rfl, rfl⟩, Or.inl (gC_5 239 (by decide +kernel) (by decide +kernel)), iv_X7_has.1, iv_X7_has.2, yk_X7_has⟩
theorem m_L_91 : MV RL 91 0 yX6_stock cX6_stock 4 (some .int) 3 := ⟨⟨6, _, _, _, rfl, rfl⟩, Or.inl (gC_3 140 (by decide +kernel) (by decide +kernel)), iv_X6_stock.1, iv_X6_stock.2, yk_X6_stock⟩
theorem m_L_94 : MV RL 94 47 yX7_stock cX7_stock 6 (some .int) 3 := ⟨⟨7, _, _, _, rfl, rfl⟩, Or.inl (gC_6 11 (by decide +kernel) (by decide +kernel)), iv_X7_stock.1, iv_X7_stock.2, yk_X7_stock⟩
theorem m_L_95 : MV RL 95 0 yX6_unlike cX6_unlike 5 (some .int) 4 := ⟨⟨6, _, _, _, rfl, rfl⟩, Or.inl (gC_3 145 (by decide +kernel) (by decide +kernel)), iv_X6_unlike.1, iv_X6_unlike.2, yk_X6_unlike⟩
theorem m_L_98 : MV RL 98 47 yX7_unlike cX7_unlike 5 (some .int) 4 := ⟨⟨7, _, _, _, rfl, rfl⟩, Or.inl (gC_6 15 (by decide +kernel) (by decide +kernel)), iv_X7_unlike.1, iv_X7_unlike.2, yk_X7_unlike⟩
theorem m_L_99 : MV RL 99 0 yX6_master cX6_master 4 (some .int) 3 := ⟨⟨6, _, _, _, rfl, rfl⟩, Or.inl (gC_3 159 (by decide +kernel) (by decide +kernel)), iv_X6_master.1, iv_X6_master.2, yk_X6_master⟩
theorem m_L_102 : MV RL 102 47 yX7_master cX7_master 5 (some .int) 3 := ⟨⟨7, _, _, _, rfl, rfl⟩, Or.inl (gC_6 23 (by decide +kernel) (by decide +kernel)), iv_X7_master.1, iv_X7_master.2, yk_X7_master⟩
theorem m_L_103 : MV RL 103 0 yX6_lineage cX6_lineage 6 (some .int) 2 := ⟨⟨6, _, _, _, rfl, rfl⟩, Or.inl (gC_3 172 (by decide +kernel) (by decide +kernel)), iv_X6_lineage.1, iv_X6_lineage.2, yk_X6_lineage⟩
theorem m_L_106 : MV RL 106 47 yX7_lineage cX7_lineage 6 (some .int) 2 := ⟨⟨7, _, _, _, rfl, rfl⟩, Or.inl (gC_6 31 (by decide +kernel) (by decide +kernel)), iv_X7_lineage.1, iv_X7_lineage.2, yk_X7_lineage⟩
theorem m_L_107 : MV RL 107 0 yX6_loan cX6_loan 7 (some .int) 4 := ⟨⟨6, _, _, _, rfl, rfl⟩, Or.inl (gC_3 176 (by decide +kernel) (by decide +kernel)), iv_X6_loan.1, iv_X6_loan.2, yk_X6_loan⟩
theorem m_L_110 : MV RL 110 47 yX7_loan cX7_loan 12 (some .int) 4 := ⟨⟨7, _, _, _, rfl, rfl⟩, Or.inl (gC_6 35 (by decide +kernel) (by decide +kernel)), iv_X7_loan.1, iv_X7_loan.2, yk_X7_loan⟩
theorem m_L_111 : MV RL 111 0 yX6_core cX6_core 6 (some .int) 3 := ⟨⟨6, _, _, _, rfl, rfl⟩, Or.inl (gC_3 186 (by decide +kernel) (by decide +kernel)), iv_X6_core.1, iv_X6_core.2, yk_X6_core⟩
theorem m_L_114 : MV RL 114 47 yX7_core cX7_core 8 (some .int) 3 := ⟨⟨7, _, _, _, rfl, rfl⟩, Or.inl (gC_6 39 (by decide +kernel) (by decide +kernel)), iv_X7_core.1, iv_X7_core.2, yk_X7_core⟩
theorem m_L_115 : MV RL 115 0 yX6_whose cX6_whose 4 (some .int) 3 := ⟨⟨6, _, _, _, rfl, rfl⟩, Or.inl (gC_3 195 (by decide +kernel) (by decide +kernel)), iv_X6_whose.1, iv_X6_whose.2, yk_X6_whose⟩
theorem m_L_118 : MV RL 118 47 yX7_whose cX7_whose 9 (some .int) 3 := ⟨⟨7, _, _, _, rfl, rfl⟩, Or.inl (gC_6 43 (by decide +kernel) (by decide +kernel)), iv_X7_whose.1, iv_X7_whose.2, yk_X7_whose⟩
theorem m_L_119 : MV RL 119 0 yX6_put cX6_put 3 (some .int) 2 := ⟨⟨6, _, _, _, rfl, rfl⟩, Or.inl (gC_3 204 (by decide +kernel) (by decide +kernel)), iv_X6_put.1, iv_X6_put.2, yk_X6_put⟩
theorem m_L_122 : MV RL 122 47 yX7_put cX7_put 3 (some .int) 2 := ⟨⟨7, _, _, _, rfl, rfl⟩, Or.inl (gC_6 47 (by decide +kernel) (by decide +kernel)), iv_X7_put.1, iv_X7_put.2, yk_X7_put⟩
theorem m_L_123 : MV RL 123 0 yX6_runs cX6_runs 5 (some .int) 4 := ⟨⟨6, _, _, _, rfl, rfl⟩, Or.inl (gC_3 208 (by decide +kernel) (by decide +kernel)), iv_X6_runs.1, iv_X6_runs.2, yk_X6_runs⟩
theorem m_L_126 : MV RL 126 47 yX7_runs cX7_runs 5 (some .int) 4 := ⟨⟨7, _, _, _, rfl, rfl⟩, Or.inl (gC_6 51 (by decide +kernel) (by decide +kernel)), iv_X7_runs.1, iv_X7_runs.2, yk_X7_runs⟩
theorem m_L_127 : MV RL 127 0 yX6_forged cX6_forged 7 (some .int) 3 := ⟨⟨6, _, _, _, rfl, rfl⟩, Or.inl (gC_4 49 (by decide +kernel) (by decide +kernel)), iv_X6_forged.1, iv_X6_forged.2, yk_X6_forged⟩
theorem m_L_130 : MV RL 130 47 yX7_forged cX7_forged 5 (some .int) 3 := ⟨⟨7, _, _, _, rfl, rfl⟩, Or.inl (gC_6 96 (by decide +kernel) (by decide +kernel)), iv_X7_forged.1, iv_X7_forged.2, yk_X7_forged⟩
theorem m_L_131 : MV RL 131 0 yX6_record cX6_record 4 (some .int) 3 := ⟨⟨6, _, _, _, rfl, rfl⟩, Or.inl (gC_4 58 (by decide +kernel) (by decide +kernel)), iv_X6_record.1, iv_X6_record.2, yk_X6_record⟩
theorem m_L_134 : MV RL 134 47 yX7_record cX7_record 5 (some .int) 3 := ⟨⟨7, _, _, _, rfl, rfl⟩, Or.inl (gC_6 104 (by decide +kernel) (by decide +kernel)), iv_X7_record.1, iv_X7_record.2, yk_X7_record⟩
theorem m_L_135 : MV RL 135 0 yX6_heard cX6_heard 4 (some .int) 3 := ⟨⟨6, _, _, _, rfl, rfl⟩, Or.inl (gC_4 67 (by decide +kernel) (by decide +kernel)), iv_X6_heard.1, iv_X6_heard.2, yk_X6_heard⟩
theorem m_L_138 : MV RL 138 47 yX7_heard cX7_heard 7 (some .int) 3 := ⟨⟨7, _, _, _, rfl, rfl⟩, Or.inl (gC_6 108 (by decide +kernel) (by decide +kernel)), iv_X7_heard.1, iv_X7_heard.2, yk_X7_heard⟩
theorem m_L_139 : MV RL 139 0 yX6_filled cX6_filled 5 (some .int) 3 := ⟨⟨6, _, _, _, rfl, rfl⟩, Or.inl (gC_4 96 (by decide +kernel) (by decide +kernel)), iv_X6_filled.1, iv_X6_filled.2, yk_X6_filled⟩
theorem m_L_142 : MV RL 142 47 yX7_filled cX7_filled 6 (some .int) 3 := ⟨⟨7, _, _, _, rfl, rfl⟩, Or.inl (gC_6 120 (by decide +kernel) (by decide +kernel)), iv_X7_filled.1, iv_X7_filled.2, yk_X7_filled⟩
theorem m_L_143 : MV RL 143 0 yX6_count cX6_count 2 (some .int) 1 := ⟨⟨6, _, _, _, rfl, rfl⟩, Or.inl (gC_4 111 (by decide +kernel) (by decide +kernel)), iv_X6_count.1, iv_X6_count.2, yk_X6_count⟩
theorem m_L_146 : MV RL 146 47 yX7_count cX7_count 4 (some .int) 1 := ⟨⟨7, _, _, _, rfl, rfl⟩, Or.inl (gC_6 124 (by decide +kernel) (by decide +kernel)), iv_X7_count.1, iv_X7_count.2, yk_X7_count⟩
theorem is_X6 : Cond.instantiable RX6 8 ∈ gT := gC_1 14 (by decide +kernel) (by decide +kernel)
theorem it_X6 : Cond.initialized RX6 ∈ gT := gC_1 1 (by decide +kernel) (by decide +kernel)
theorem ii_X6 : Cond.instanceMethod yX6_init ∈ gT := gC_1 16 (by decide +kernel) (by decide +kernel)
theorem iy_X6 : YOK yX6_init cX6_init 1 none 0 := ⟨gC_1 1 (by decide +kernel) (by decide +kernel), gC_1 17 (by decide +kernel) (by decide +kernel), by decide +kernel, by decide +kernel, by decide +kernel⟩
theorem is_X7 : Cond.instantiable RX7 60 ∈ gT := gC_4 120 (by decide +kernel) (by decide +kernel)
theorem it_X7 : Cond.initialized RX7 ∈ gT := gC_1 9 (by decide +kernel) (by decide +kernel)
theorem ii_X7 : Cond.instanceMethod yX7_init ∈ gT := gC_4 122 (by decide +kernel) (by decide +kernel)
theorem iy_X7 : YOK yX7_init cX7_init 2 none 0 := ⟨gC_1 9 (by decide +kernel) (by decide +kernel), gC_4 123 (by decide +kernel) (by decide +kernel), by decide +kernel, by decide +kernel, by decide +kernel⟩
theorem cl_L_7 : Cond.classLink RL 7 RX6 ∈ gT := gC_1 13 (by decide +kernel) (by decide +kernel)
theorem li_L_9 : MLk RL 9 yX6_init := Or.inl (gC_1 15 (by decide +kernel) (by decide +kernel))
theorem cl_L_10 : Cond.classLink RL 10 RX7 ∈ gT := gC_4 119 (by decide +kernel) (by decide +kernel)
theorem li_L_12 : MLk RL 12 yX7_init := Or.inl (gC_4 121 (by decide +kernel) (by decide +kernel))
variable {Γ : LC} {base b N : Nat} {xs : Nat → Int32}
set_option maxHeartbeats 4000000 in
theorem cs_half (X : gLX Γ base b N xs) {n i : Nat} {y : Int32} (hy : y.toInt = i) (hi : i + 6 ≤ N) (hN : N ≤ 3072) (hn : n ≤ 512) {M : Mem} (h : LJ2 n M) (kk : ∀ M', LJ2 (n + 1) M' → GL Γ M' 1445 (LL b base y) []) : GL Γ M 172 (LL b base y) [] := by
  obtain ⟨⟨⟨hX, hM, hR, ht0, ht1⟩, hB⟩, hS, hG⟩ := h
  refine l_aload X 1 rfl dL_law_172 ?_
  refine l_arg X hy hi hN 1 ⟨by decide, by decide⟩ dL_law_173 dL_law_174 dL_law_175 dL_law_176 dL_law_177 ?_
  refine l_arg X hy hi hN 2 ⟨by decide, by decide⟩ dL_law_178 dL_law_179 dL_law_180 dL_law_181 dL_law_182 ?_
  refine l_arg X hy hi hN 3 ⟨by decide, by decide⟩ dL_law_183 dL_law_184 dL_law_185 dL_law_186 dL_law_187 ?_
  refine l_callV X m_L_13 (c_X6_half (fun k => base + k) M (xs (i + 1)) rfl (xs (i + 2)) rfl (xs (i + 3)) rfl hX.1) rfl (by decide) (Nat.le_of_ble_eq_true rfl) (S := []) rfl dL_law_188 (fun v M1 q1 => ?_)
  obtain ⟨r1, a1, rfl, e1, A1, E1, I1, F1⟩ := q1
  have F1 : Fr W_X6_half M M1 := F1
  have hX1 : LX M1 := gen_LX hX F1 I1 (by decide)
  have hM1 : LM M1 := LM_fr hM F1 (by decide)
  have tM1 : (M1.1 47 23).toInt = (M.1 47 23).toInt := by rw [F1.at 47 23 (by decide)]
  show GL Γ M1 191 (LL b base y) [.int r1]
  refine l_pop X dL_law_191 rfl ?_
  refine l_aload X 2 rfl dL_law_192 ?_
  refine l_arg X hy hi hN 1 ⟨by decide, by decide⟩ dL_law_193 dL_law_194 dL_law_195 dL_law_196 dL_law_197 ?_
  refine l_arg X hy hi hN 2 ⟨by decide, by decide⟩ dL_law_198 dL_law_199 dL_law_200 dL_law_201 dL_law_202 ?_
  refine l_arg X hy hi hN 3 ⟨by decide, by decide⟩ dL_law_203 dL_law_204 dL_law_205 dL_law_206 dL_law_207 ?_
  refine l_callV X m_L_17 (c_X7_half (fun k => base + k) M1 (xs (i + 1)) rfl (xs (i + 2)) rfl (xs (i + 3)) rfl hM1.1) rfl (by decide) (Nat.le_of_ble_eq_true rfl) (S := []) rfl dL_law_208 (fun v M2 q2 => ?_)
  obtain ⟨r2, a2, rfl, e2, A2, E2, I2, F2⟩ := q2
  have F2 : Fr W_X7_half M1 M2 := F2
  have hX2 : LX M2 := LX_fr hX1 F2 (by decide)
  have hM2 : LM M2 := gen_LM hM1 F2 I2 (by decide)
  have tM2 : 0 ≤ (M2.1 47 23).toInt ∧ (M2.1 47 23).toInt ≤ n + 1 := by rw [F2.at 47 23 (by decide)]; omega
  have g_47_11 : (M1.1 47 11).toInt = (M.1 1 3).toInt := by rw [F1.at 47 11 (by decide)]; exact hR.1.1.symm
  simp only [g_47_11] at A2 E2
  have s0 : (M2.1 1 3).toInt = (M2.1 47 11).toInt := by rw [F2.at 1 3 (by decide)]; exact ans2 E1 E2
  have s1 : (M2.1 1 12).toInt = (M2.1 47 12).toInt := sc_keep hR.1.2.1 F1 F2 (by decide) (by decide) (by decide) (by decide)
  have s2 : (M2.1 14 1).toInt = (M2.1 47 20).toInt := sc_keep hR.1.2.2.1 F1 F2 (by decide) (by decide) (by decide) (by decide)
  have s3 : (M2.1 14 12).toInt = (M2.1 47 24).toInt := sc_keep hR.1.2.2.2.1 F1 F2 (by decide) (by decide) (by decide) (by decide)
  have s4 : (M2.1 23 2).toInt = (M2.1 47 52).toInt := sc_keep hR.1.2.2.2.2.1 F1 F2 (by decide) (by decide) (by decide) (by decide)
  have s5 : (M2.1 23 7).toInt = (M2.1 47 53).toInt := sc_keep hR.1.2.2.2.2.2.1 F1 F2 (by decide) (by decide) (by decide) (by decide)
  have s6 : (M2.1 0 7).toInt = (M2.1 47 43).toInt := sc_keep hR.1.2.2.2.2.2.2 F1 F2 (by decide) (by decide) (by decide) (by decide)
  have t0 : ∀ j, j < 10 → M2.1 5 j = M2.1 51 j := row_keep hR.2.1 F1 F2 (by decide) (by decide) (by decide) (by decide)
  have t1 : ∀ j, j < 3 → M2.1 12 j = M2.1 58 j := row_keep hR.2.2.1 F1 F2 (by decide) (by decide) (by decide) (by decide)
  have t2 : ∀ j, j < 8 → M2.1 25 j = M2.1 80 j := row_keep hR.2.2.2 F1 F2 (by decide) (by decide) (by decide) (by decide)
  have ans : a1 = a2 := ans3 A1 A2 (fun _ => rfl)
  have hl2 : (M.1 1 12).toInt ≤ (M2.1 1 12).toInt := by rw [F2.at 1 12 (by decide), F1.at 1 12 (by decide)]; exact Int.le_refl _
  have bk2 : BK M2 := BK_keep hB F1 F2 (by decide) (by decide) hl2
  have sl2 : SL M2 := SL_keep hS F1 F2 (by decide) (by decide)
  have gr2 : GR M2 := row_keep hG F1 F2 (by decide) (by decide) (by decide) (by decide)
  show GL Γ M2 211 (LL b base y) [.int r2]
  refine l_pop X dL_law_211 rfl ?_
  refine l_goto X (tgt := 1445) dL_law_212 (by decide) ?_
  exact kk M2 ⟨⟨⟨hX2, hM2, ⟨⟨s0, s1, s2, s3, s4, s5, s6⟩, t0, t1, t2⟩, tM2⟩, bk2⟩, sl2, gr2⟩
set_option maxHeartbeats 4000000 in
theorem cs_name (X : gLX Γ base b N xs) {n i : Nat} {y : Int32} (hy : y.toInt = i) (hi : i + 6 ≤ N) (hN : N ≤ 3072) (hn : n ≤ 512) {M : Mem} (h : LJ2 n M) (kk : ∀ M', LJ2 (n + 1) M' → GL Γ M' 1445 (LL b base y) []) : GL Γ M 215 (LL b base y) [] := by
  obtain ⟨⟨⟨hX, hM, hR, ht0, ht1⟩, hB⟩, hS, hG⟩ := h
  refine l_aload X 1 rfl dL_law_215 ?_
  refine l_arg X hy hi hN 1 ⟨by decide, by decide⟩ dL_law_216 dL_law_217 dL_law_218 dL_law_219 dL_law_220 ?_
  refine l_arg X hy hi hN 2 ⟨by decide, by decide⟩ dL_law_221 dL_law_222 dL_law_223 dL_law_224 dL_law_225 ?_
  refine l_arg X hy hi hN 3 ⟨by decide, by decide⟩ dL_law_226 dL_law_227 dL_law_228 dL_law_229 dL_law_230 ?_
  refine l_callV X m_L_18 (c_X6_name (fun k => base + k) M (xs (i + 1)) rfl (xs (i + 2)) rfl (xs (i + 3)) rfl hX.1) rfl (by decide) (Nat.le_of_ble_eq_true rfl) (S := []) rfl dL_law_231 (fun v M1 q1 => ?_)
  obtain ⟨r1, a1, rfl, e1, A1, E1, I1, F1⟩ := q1
  have F1 : Fr W_X6_name M M1 := F1
  have hX1 : LX M1 := gen_LX hX F1 I1 (by decide)
  have hM1 : LM M1 := LM_fr hM F1 (by decide)
  have tM1 : (M1.1 47 23).toInt = (M.1 47 23).toInt := by rw [F1.at 47 23 (by decide)]
  show GL Γ M1 234 (LL b base y) [.int r1]
  refine l_pop X dL_law_234 rfl ?_
  refine l_aload X 2 rfl dL_law_235 ?_
  refine l_arg X hy hi hN 1 ⟨by decide, by decide⟩ dL_law_236 dL_law_237 dL_law_238 dL_law_239 dL_law_240 ?_
  refine l_arg X hy hi hN 2 ⟨by decide, by decide⟩ dL_law_241 dL_law_242 dL_law_243 dL_law_244 dL_law_245 ?_
  refine l_arg X hy hi hN 3 ⟨by decide, by decide⟩ dL_law_246 dL_law_247 dL_law_248 dL_law_249 dL_law_250 ?_
  refine l_callV X m_L_21 (c_X7_name (fun k => base + k) M1 (xs (i + 1)) rfl (xs (i + 2)) rfl (xs (i + 3)) rfl hM1.1) rfl (by decide) (Nat.le_of_ble_eq_true rfl) (S := []) rfl dL_law_251 (fun v M2 q2 => ?_)
  obtain ⟨r2, a2, rfl, e2, A2, E2, I2, F2⟩ := q2
  have F2 : Fr W_X7_name M1 M2 := F2
  have hX2 : LX M2 := LX_fr hX1 F2 (by decide)
  have hM2 : LM M2 := gen_LM hM1 F2 I2 (by decide)
  have tM2 : 0 ≤ (M2.1 47 23).toInt ∧ (M2.1 47 23).toInt ≤ n + 1 := by rw [F2.at 47 23 (by decide)]; omega
  have s0 : (M2.1 1 3).toInt = (M2.1 47 11).toInt := sc_keep hR.1.1 F1 F2 (by decide) (by decide) (by decide) (by decide)
  have s1 : (M2.1 1 12).toInt = (M2.1 47 12).toInt := sc_keep hR.1.2.1 F1 F2 (by decide) (by decide) (by decide) (by decide)
  have s2 : (M2.1 14 1).toInt = (M2.1 47 20).toInt := sc_keep hR.1.2.2.1 F1 F2 (by decide) (by decide) (by decide) (by decide)
  have s3 : (M2.1 14 12).toInt = (M2.1 47 24).toInt := sc_keep hR.1.2.2.2.1 F1 F2 (by decide) (by decide) (by decide) (by decide)
  have s4 : (M2.1 23 2).toInt = (M2.1 47 52).toInt := sc_keep hR.1.2.2.2.2.1 F1 F2 (by decide) (by decide) (by decide) (by decide)
  have s5 : (M2.1 23 7).toInt = (M2.1 47 53).toInt := sc_keep hR.1.2.2.2.2.2.1 F1 F2 (by decide) (by decide) (by decide) (by decide)
  have s6 : (M2.1 0 7).toInt = (M2.1 47 43).toInt := sc_keep hR.1.2.2.2.2.2.2 F1 F2 (by decide) (by decide) (by decide) (by decide)
  have t0 : ∀ j, j < 10 → M2.1 5 j = M2.1 51 j := row_eq hR.2.1 Iff.rfl E1 E2 F1 F2 (by decide) (by decide)
  have t1 : ∀ j, j < 3 → M2.1 12 j = M2.1 58 j := row_keep hR.2.2.1 F1 F2 (by decide) (by decide) (by decide) (by decide)
  have t2 : ∀ j, j < 8 → M2.1 25 j = M2.1 80 j := row_keep hR.2.2.2 F1 F2 (by decide) (by decide) (by decide) (by decide)
  have ans : a1 = a2 := ans3 A1 A2 (fun c => by rw [F1.at 51 _ (noW_in (by decide) _), hR.2.1 _ (by omega)])
  have hl2 : (M.1 1 12).toInt ≤ (M2.1 1 12).toInt := by rw [F2.at 1 12 (by decide), F1.at 1 12 (by decide)]; exact Int.le_refl _
  have bk2 : BK M2 := BK_keep hB F1 F2 (by decide) (by decide) hl2
  have sl2 : SL M2 := SL_keep hS F1 F2 (by decide) (by decide)
  have gr2 : GR M2 := row_keep hG F1 F2 (by decide) (by decide) (by decide) (by decide)
  show GL Γ M2 254 (LL b base y) [.int r2]
  refine l_pop X dL_law_254 rfl ?_
  refine l_goto X (tgt := 1445) dL_law_255 (by decide) ?_
  exact kk M2 ⟨⟨⟨hX2, hM2, ⟨⟨s0, s1, s2, s3, s4, s5, s6⟩, t0, t1, t2⟩, tM2⟩, bk2⟩, sl2, gr2⟩
set_option maxHeartbeats 4000000 in
theorem cs_line (X : gLX Γ base b N xs) {n i : Nat} {y : Int32} (hy : y.toInt = i) (hi : i + 6 ≤ N) (hN : N ≤ 3072) (hn : n ≤ 512) {M : Mem} (h : LJ2 n M) (kk : ∀ M', LJ2 (n + 1) M' → GL Γ M' 1445 (LL b base y) []) : GL Γ M 258 (LL b base y) [] := by
  obtain ⟨⟨⟨hX, hM, hR, ht0, ht1⟩, hB⟩, hS, hG⟩ := h
  refine l_aload X 1 rfl dL_law_258 ?_
  refine l_arg X hy hi hN 1 ⟨by decide, by decide⟩ dL_law_259 dL_law_260 dL_law_261 dL_law_262 dL_law_263 ?_
  refine l_arg X hy hi hN 2 ⟨by decide, by decide⟩ dL_law_264 dL_law_265 dL_law_266 dL_law_267 dL_law_268 ?_
  refine l_arg X hy hi hN 3 ⟨by decide, by decide⟩ dL_law_269 dL_law_270 dL_law_271 dL_law_272 dL_law_273 ?_
  refine l_arg X hy hi hN 4 ⟨by decide, by decide⟩ dL_law_274 dL_law_275 dL_law_276 dL_law_277 dL_law_278 ?_
  refine l_arg X hy hi hN 5 ⟨by decide, by decide⟩ dL_law_279 dL_law_280 dL_law_281 dL_law_282 dL_law_283 ?_
  refine l_callV X m_L_22 (c_X6_line_E (fun k => base + k) M (xs (i + 1)) rfl (xs (i + 2)) rfl (xs (i + 3)) rfl (xs (i + 4)) rfl (xs (i + 5)) rfl hX.1) rfl (by decide) (Nat.le_of_ble_eq_true rfl) (S := []) rfl dL_law_284 (fun v M1 q1 => ?_)
  obtain ⟨r1, a1, rfl, e1, A1, E1, I1, F1⟩ := q1
  have F1 : Fr W_X6_line_E M M1 := F1
  have hX1 : LX M1 := gen_LX hX F1 I1 (by decide)
  have hM1 : LM M1 := LM_fr hM F1 (by decide)
  have tM1 : (M1.1 47 23).toInt = (M.1 47 23).toInt := by rw [F1.at 47 23 (by decide)]
  show GL Γ M1 287 (LL b base y) [.int r1]
  refine l_pop X dL_law_287 rfl ?_
  refine l_aload X 2 rfl dL_law_288 ?_
  refine l_arg X hy hi hN 1 ⟨by decide, by decide⟩ dL_law_289 dL_law_290 dL_law_291 dL_law_292 dL_law_293 ?_
  refine l_arg X hy hi hN 2 ⟨by decide, by decide⟩ dL_law_294 dL_law_295 dL_law_296 dL_law_297 dL_law_298 ?_
  refine l_arg X hy hi hN 3 ⟨by decide, by decide⟩ dL_law_299 dL_law_300 dL_law_301 dL_law_302 dL_law_303 ?_
  refine l_arg X hy hi hN 4 ⟨by decide, by decide⟩ dL_law_304 dL_law_305 dL_law_306 dL_law_307 dL_law_308 ?_
  refine l_arg X hy hi hN 5 ⟨by decide, by decide⟩ dL_law_309 dL_law_310 dL_law_311 dL_law_312 dL_law_313 ?_
  refine l_callV X m_L_26 (c_X7_line_E (fun k => base + k) M1 (xs (i + 1)) rfl (xs (i + 2)) rfl (xs (i + 3)) rfl (xs (i + 4)) rfl (xs (i + 5)) rfl hM1.1) rfl (by decide) (Nat.le_of_ble_eq_true rfl) (S := []) rfl dL_law_314 (fun v M2 q2 => ?_)
  obtain ⟨r2, a2, rfl, e2, A2, E2, I2, F2⟩ := q2
  have F2 : Fr W_X7_line_E M1 M2 := F2
  have hX2 : LX M2 := LX_fr hX1 F2 (by decide)
  have hM2 : LM M2 := gen_LM hM1 F2 I2 (by decide)
  have tM2 : 0 ≤ (M2.1 47 23).toInt ∧ (M2.1 47 23).toInt ≤ n + 1 := by rw [F2.at 47 23 (by decide)]; omega
  have g_47_11 : (M1.1 47 11).toInt = (M.1 1 3).toInt := by rw [F1.at 47 11 (by decide)]; exact hR.1.1.symm
  have g_47_12 : (M1.1 47 12).toInt = (M.1 1 12).toInt := by rw [F1.at 47 12 (by decide)]; exact hR.1.2.1.symm
  simp only [g_47_11, g_47_12] at A2 E2
  have s0 : (M2.1 1 3).toInt = (M2.1 47 11).toInt := sc_keep hR.1.1 F1 F2 (by decide) (by decide) (by decide) (by decide)
  have s1 : (M2.1 1 12).toInt = (M2.1 47 12).toInt := by rw [F2.at 1 12 (by decide)]; exact ans2 E1.1 E2.1
  have s2 : (M2.1 14 1).toInt = (M2.1 47 20).toInt := sc_keep hR.1.2.2.1 F1 F2 (by decide) (by decide) (by decide) (by decide)
  have s3 : (M2.1 14 12).toInt = (M2.1 47 24).toInt := sc_keep hR.1.2.2.2.1 F1 F2 (by decide) (by decide) (by decide) (by decide)
  have s4 : (M2.1 23 2).toInt = (M2.1 47 52).toInt := sc_keep hR.1.2.2.2.2.1 F1 F2 (by decide) (by decide) (by decide) (by decide)
  have s5 : (M2.1 23 7).toInt = (M2.1 47 53).toInt := sc_keep hR.1.2.2.2.2.2.1 F1 F2 (by decide) (by decide) (by decide) (by decide)
  have s6 : (M2.1 0 7).toInt = (M2.1 47 43).toInt := sc_keep hR.1.2.2.2.2.2.2 F1 F2 (by decide) (by decide) (by decide) (by decide)
  have t0 : ∀ j, j < 10 → M2.1 5 j = M2.1 51 j := row_keep hR.2.1 F1 F2 (by decide) (by decide) (by decide) (by decide)
  have t1 : ∀ j, j < 3 → M2.1 12 j = M2.1 58 j := row_keep hR.2.2.1 F1 F2 (by decide) (by decide) (by decide) (by decide)
  have t2 : ∀ j, j < 8 → M2.1 25 j = M2.1 80 j := row_keep hR.2.2.2 F1 F2 (by decide) (by decide) (by decide) (by decide)
  have ans : a1 = a2 := ans4 A1 A2
  have hl2 : (M.1 1 12).toInt ≤ (M2.1 1 12).toInt := by rw [F2.at 1 12 (by decide)]; omega
  have bk2 : BK M2 := BK_keep hB F1 F2 (by decide) (by decide) hl2
  have sl2 : SL M2 := SL_line hS F1 F2 (ig_1_12 hX.1) E1.2 E2.2 E1.1 (by decide) (by decide) (by decide)
  have gr2 : GR M2 := row_keep hG F1 F2 (by decide) (by decide) (by decide) (by decide)
  show GL Γ M2 317 (LL b base y) [.int r2]
  refine l_pop X dL_law_317 rfl ?_
  refine l_goto X (tgt := 1445) dL_law_318 (by decide) ?_
  exact kk M2 ⟨⟨⟨hX2, hM2, ⟨⟨s0, s1, s2, s3, s4, s5, s6⟩, t0, t1, t2⟩, tM2⟩, bk2⟩, sl2, gr2⟩
set_option maxHeartbeats 4000000 in
theorem cs_metre (X : gLX Γ base b N xs) {n i : Nat} {y : Int32} (hy : y.toInt = i) (hi : i + 6 ≤ N) (hN : N ≤ 3072) (hn : n ≤ 512) {M : Mem} (h : LJ2 n M) (kk : ∀ M', LJ2 (n + 1) M' → GL Γ M' 1445 (LL b base y) []) : GL Γ M 321 (LL b base y) [] := by
  obtain ⟨⟨⟨hX, hM, hR, ht0, ht1⟩, hB⟩, hS, hG⟩ := h
  refine l_aload X 1 rfl dL_law_321 ?_
  refine l_arg X hy hi hN 1 ⟨by decide, by decide⟩ dL_law_322 dL_law_323 dL_law_324 dL_law_325 dL_law_326 ?_
  refine l_arg X hy hi hN 2 ⟨by decide, by decide⟩ dL_law_327 dL_law_328 dL_law_329 dL_law_330 dL_law_331 ?_
  refine l_callV X m_L_27 (c_X6_metre (fun k => base + k) M (xs (i + 1)) rfl (xs (i + 2)) rfl hX.1) rfl (by decide) (Nat.le_of_ble_eq_true rfl) (S := []) rfl dL_law_332 (fun v M1 q1 => ?_)
  obtain ⟨r1, a1, rfl, e1, A1, E1, I1, F1⟩ := q1
  have F1 : Fr W_X6_metre M M1 := F1
  have hX1 : LX M1 := gen_LX hX F1 I1 (by decide)
  have hM1 : LM M1 := LM_fr hM F1 (by decide)
  have tM1 : (M1.1 47 23).toInt = (M.1 47 23).toInt := by rw [F1.at 47 23 (by decide)]
  show GL Γ M1 335 (LL b base y) [.int r1]
  refine l_pop X dL_law_335 rfl ?_
  refine l_aload X 2 rfl dL_law_336 ?_
  refine l_arg X hy hi hN 1 ⟨by decide, by decide⟩ dL_law_337 dL_law_338 dL_law_339 dL_law_340 dL_law_341 ?_
  refine l_arg X hy hi hN 2 ⟨by decide, by decide⟩ dL_law_342 dL_law_343 dL_law_344 dL_law_345 dL_law_346 ?_
  refine l_callV X m_L_31 (c_X7_metre (fun k => base + k) M1 (xs (i + 1)) rfl (xs (i + 2)) rfl hM1.1) rfl (by decide) (Nat.le_of_ble_eq_true rfl) (S := []) rfl dL_law_347 (fun v M2 q2 => ?_)
  obtain ⟨r2, a2, rfl, e2, A2, E2, I2, F2⟩ := q2
  have F2 : Fr W_X7_metre M1 M2 := F2
  have hX2 : LX M2 := LX_fr hX1 F2 (by decide)
  have hM2 : LM M2 := gen_LM hM1 F2 I2 (by decide)
  have tM2 : 0 ≤ (M2.1 47 23).toInt ∧ (M2.1 47 23).toInt ≤ n + 1 := by rw [F2.at 47 23 (by decide)]; omega
  have s0 : (M2.1 1 3).toInt = (M2.1 47 11).toInt := sc_keep hR.1.1 F1 F2 (by decide) (by decide) (by decide) (by decide)
  have s1 : (M2.1 1 12).toInt = (M2.1 47 12).toInt := sc_keep hR.1.2.1 F1 F2 (by decide) (by decide) (by decide) (by decide)
  have s2 : (M2.1 14 1).toInt = (M2.1 47 20).toInt := sc_keep hR.1.2.2.1 F1 F2 (by decide) (by decide) (by decide) (by decide)
  have s3 : (M2.1 14 12).toInt = (M2.1 47 24).toInt := sc_keep hR.1.2.2.2.1 F1 F2 (by decide) (by decide) (by decide) (by decide)
  have s4 : (M2.1 23 2).toInt = (M2.1 47 52).toInt := sc_keep hR.1.2.2.2.2.1 F1 F2 (by decide) (by decide) (by decide) (by decide)
  have s5 : (M2.1 23 7).toInt = (M2.1 47 53).toInt := sc_keep hR.1.2.2.2.2.2.1 F1 F2 (by decide) (by decide) (by decide) (by decide)
  have s6 : (M2.1 0 7).toInt = (M2.1 47 43).toInt := sc_keep hR.1.2.2.2.2.2.2 F1 F2 (by decide) (by decide) (by decide) (by decide)
  have t0 : ∀ j, j < 10 → M2.1 5 j = M2.1 51 j := row_keep hR.2.1 F1 F2 (by decide) (by decide) (by decide) (by decide)
  have t1 : ∀ j, j < 3 → M2.1 12 j = M2.1 58 j := row_eq hR.2.2.1 Iff.rfl E1 E2 F1 F2 (by decide) (by decide)
  have t2 : ∀ j, j < 8 → M2.1 25 j = M2.1 80 j := row_keep hR.2.2.2 F1 F2 (by decide) (by decide) (by decide) (by decide)
  have ans : a1 = a2 := ans3 A1 A2 (fun c => by rw [F1.at 58 _ (noW_in (by decide) _), hR.2.2.1 _ (by omega)])
  have hl2 : (M.1 1 12).toInt ≤ (M2.1 1 12).toInt := by rw [F2.at 1 12 (by decide), F1.at 1 12 (by decide)]; exact Int.le_refl _
  have bk2 : BK M2 := BK_keep hB F1 F2 (by decide) (by decide) hl2
  have sl2 : SL M2 := SL_keep hS F1 F2 (by decide) (by decide)
  have gr2 : GR M2 := row_keep hG F1 F2 (by decide) (by decide) (by decide) (by decide)
  show GL Γ M2 350 (LL b base y) [.int r2]
  refine l_pop X dL_law_350 rfl ?_
  refine l_goto X (tgt := 1445) dL_law_351 (by decide) ?_
  exact kk M2 ⟨⟨⟨hX2, hM2, ⟨⟨s0, s1, s2, s3, s4, s5, s6⟩, t0, t1, t2⟩, tM2⟩, bk2⟩, sl2, gr2⟩
set_option maxHeartbeats 4000000 in
theorem cs_told (X : gLX Γ base b N xs) {n i : Nat} {y : Int32} (hy : y.toInt = i) (hi : i + 6 ≤ N) (hN : N ≤ 3072) (hn : n ≤ 512) {M : Mem} (h : LJ2 n M) (kk : ∀ M', LJ2 (n + 1) M' → GL Γ M' 1445 (LL b base y) []) : GL Γ M 354 (LL b base y) [] := by
  obtain ⟨⟨⟨hX, hM, hR, ht0, ht1⟩, hB⟩, hS, hG⟩ := h
  refine l_aload X 1 rfl dL_law_354 ?_
  refine l_arg X hy hi hN 1 ⟨by decide, by decide⟩ dL_law_355 dL_law_356 dL_law_357 dL_law_358 dL_law_359 ?_
  refine l_arg X hy hi hN 2 ⟨by decide, by decide⟩ dL_law_360 dL_law_361 dL_law_362 dL_law_363 dL_law_364 ?_
  refine l_callV X m_L_32 (c_X6_told (fun k => base + k) M (xs (i + 1)) rfl (xs (i + 2)) rfl hX.1) rfl (by decide) (Nat.le_of_ble_eq_true rfl) (S := []) rfl dL_law_365 (fun v M1 q1 => ?_)
  obtain ⟨r1, a1, rfl, e1, -, q1⟩ := q1
  have F1 : Fr [] M M1 := by rw [← q1]; exact Fr.rf
  have I1 : Iv TX M1 := by rw [← q1]; exact hX.1
  have F1 : Fr [] M M1 := F1
  have hX1 : LX M1 := gen_LX hX F1 I1 (by decide)
  have hM1 : LM M1 := LM_fr hM F1 (by decide)
  have tM1 : (M1.1 47 23).toInt = (M.1 47 23).toInt := by rw [F1.at 47 23 (by decide)]
  show GL Γ M1 368 (LL b base y) [.int r1]
  refine l_pop X dL_law_368 rfl ?_
  refine l_aload X 2 rfl dL_law_369 ?_
  refine l_arg X hy hi hN 1 ⟨by decide, by decide⟩ dL_law_370 dL_law_371 dL_law_372 dL_law_373 dL_law_374 ?_
  refine l_arg X hy hi hN 2 ⟨by decide, by decide⟩ dL_law_375 dL_law_376 dL_law_377 dL_law_378 dL_law_379 ?_
  refine l_callV X m_L_35 (c_X7_told (fun k => base + k) M1 (xs (i + 1)) rfl (xs (i + 2)) rfl hM1.1) rfl (by decide) (Nat.le_of_ble_eq_true rfl) (S := []) rfl dL_law_380 (fun v M2 q2 => ?_)
  obtain ⟨r2, a2, rfl, e2, -, q2⟩ := q2
  have F2 : Fr [] M1 M2 := by rw [← q2]; exact Fr.rf
  have I2 : Iv TM M2 := by rw [← q2]; exact hM1.1
  have F2 : Fr [] M1 M2 := F2
  have hX2 : LX M2 := LX_fr hX1 F2 (by decide)
  have hM2 : LM M2 := gen_LM hM1 F2 I2 (by decide)
  have tM2 : 0 ≤ (M2.1 47 23).toInt ∧ (M2.1 47 23).toInt ≤ n + 1 := by rw [F2.at 47 23 (by decide)]; omega
  have s0 : (M2.1 1 3).toInt = (M2.1 47 11).toInt := sc_keep hR.1.1 F1 F2 (by decide) (by decide) (by decide) (by decide)
  have s1 : (M2.1 1 12).toInt = (M2.1 47 12).toInt := sc_keep hR.1.2.1 F1 F2 (by decide) (by decide) (by decide) (by decide)
  have s2 : (M2.1 14 1).toInt = (M2.1 47 20).toInt := sc_keep hR.1.2.2.1 F1 F2 (by decide) (by decide) (by decide) (by decide)
  have s3 : (M2.1 14 12).toInt = (M2.1 47 24).toInt := sc_keep hR.1.2.2.2.1 F1 F2 (by decide) (by decide) (by decide) (by decide)
  have s4 : (M2.1 23 2).toInt = (M2.1 47 52).toInt := sc_keep hR.1.2.2.2.2.1 F1 F2 (by decide) (by decide) (by decide) (by decide)
  have s5 : (M2.1 23 7).toInt = (M2.1 47 53).toInt := sc_keep hR.1.2.2.2.2.2.1 F1 F2 (by decide) (by decide) (by decide) (by decide)
  have s6 : (M2.1 0 7).toInt = (M2.1 47 43).toInt := sc_keep hR.1.2.2.2.2.2.2 F1 F2 (by decide) (by decide) (by decide) (by decide)
  have t0 : ∀ j, j < 10 → M2.1 5 j = M2.1 51 j := row_keep hR.2.1 F1 F2 (by decide) (by decide) (by decide) (by decide)
  have t1 : ∀ j, j < 3 → M2.1 12 j = M2.1 58 j := row_keep hR.2.2.1 F1 F2 (by decide) (by decide) (by decide) (by decide)
  have t2 : ∀ j, j < 8 → M2.1 25 j = M2.1 80 j := row_keep hR.2.2.2 F1 F2 (by decide) (by decide) (by decide) (by decide)
  have hl2 : (M.1 1 12).toInt ≤ (M2.1 1 12).toInt := by rw [F2.at 1 12 (by decide), F1.at 1 12 (by decide)]; exact Int.le_refl _
  have bk2 : BK M2 := BK_keep hB F1 F2 (by decide) (by decide) hl2
  have sl2 : SL M2 := SL_keep hS F1 F2 (by decide) (by decide)
  have gr2 : GR M2 := row_keep hG F1 F2 (by decide) (by decide) (by decide) (by decide)
  show GL Γ M2 383 (LL b base y) [.int r2]
  refine l_pop X dL_law_383 rfl ?_
  refine l_goto X (tgt := 1445) dL_law_384 (by decide) ?_
  exact kk M2 ⟨⟨⟨hX2, hM2, ⟨⟨s0, s1, s2, s3, s4, s5, s6⟩, t0, t1, t2⟩, tM2⟩, bk2⟩, sl2, gr2⟩
set_option maxHeartbeats 4000000 in
theorem cs_swap (X : gLX Γ base b N xs) {n i : Nat} {y : Int32} (hy : y.toInt = i) (hi : i + 6 ≤ N) (hN : N ≤ 3072) (hn : n ≤ 512) {M : Mem} (h : LJ2 n M) (kk : ∀ M', LJ2 (n + 1) M' → GL Γ M' 1445 (LL b base y) []) : GL Γ M 387 (LL b base y) [] := by
  obtain ⟨⟨⟨hX, hM, hR, ht0, ht1⟩, hB⟩, hS, hG⟩ := h
  refine l_aload X 1 rfl dL_law_387 ?_
  refine l_arg X hy hi hN 1 ⟨by decide, by decide⟩ dL_law_388 dL_law_389 dL_law_390 dL_law_391 dL_law_392 ?_
  refine l_arg X hy hi hN 2 ⟨by decide, by decide⟩ dL_law_393 dL_law_394 dL_law_395 dL_law_396 dL_law_397 ?_
  refine l_callV X m_L_36 (c_X6_swap (fun k => base + k) M (xs (i + 1)) rfl (xs (i + 2)) rfl hX.1) rfl (by decide) (Nat.le_of_ble_eq_true rfl) (S := []) rfl dL_law_398 (fun v M1 q1 => ?_)
  obtain ⟨r1, a1, rfl, e1, -, I1, F1⟩ := q1
  have F1 : Fr W_X6_swap M M1 := F1
  have hX1 : LX M1 := gen_LX hX F1 I1 (by decide)
  have hM1 : LM M1 := LM_fr hM F1 (by decide)
  have tM1 : (M1.1 47 23).toInt = (M.1 47 23).toInt := by rw [F1.at 47 23 (by decide)]
  show GL Γ M1 401 (LL b base y) [.int r1]
  refine l_pop X dL_law_401 rfl ?_
  refine l_aload X 2 rfl dL_law_402 ?_
  refine l_arg X hy hi hN 1 ⟨by decide, by decide⟩ dL_law_403 dL_law_404 dL_law_405 dL_law_406 dL_law_407 ?_
  refine l_arg X hy hi hN 2 ⟨by decide, by decide⟩ dL_law_408 dL_law_409 dL_law_410 dL_law_411 dL_law_412 ?_
  refine l_callV X m_L_39 (c_X7_swap (fun k => base + k) M1 (xs (i + 1)) rfl (xs (i + 2)) rfl hM1.1) rfl (by decide) (Nat.le_of_ble_eq_true rfl) (S := []) rfl dL_law_413 (fun v M2 q2 => ?_)
  obtain ⟨r2, a2, rfl, e2, -, I2, F2⟩ := q2
  have F2 : Fr W_X7_swap M1 M2 := F2
  have hX2 : LX M2 := LX_fr hX1 F2 (by decide)
  have hM2 : LM M2 := gen_LM hM1 F2 I2 (by decide)
  have tM2 : 0 ≤ (M2.1 47 23).toInt ∧ (M2.1 47 23).toInt ≤ n + 1 := by rw [F2.at 47 23 (by decide)]; omega
  have s0 : (M2.1 1 3).toInt = (M2.1 47 11).toInt := sc_keep hR.1.1 F1 F2 (by decide) (by decide) (by decide) (by decide)
  have s1 : (M2.1 1 12).toInt = (M2.1 47 12).toInt := sc_keep hR.1.2.1 F1 F2 (by decide) (by decide) (by decide) (by decide)
  have s2 : (M2.1 14 1).toInt = (M2.1 47 20).toInt := sc_keep hR.1.2.2.1 F1 F2 (by decide) (by decide) (by decide) (by decide)
  have s3 : (M2.1 14 12).toInt = (M2.1 47 24).toInt := sc_keep hR.1.2.2.2.1 F1 F2 (by decide) (by decide) (by decide) (by decide)
  have s4 : (M2.1 23 2).toInt = (M2.1 47 52).toInt := sc_keep hR.1.2.2.2.2.1 F1 F2 (by decide) (by decide) (by decide) (by decide)
  have s5 : (M2.1 23 7).toInt = (M2.1 47 53).toInt := sc_keep hR.1.2.2.2.2.2.1 F1 F2 (by decide) (by decide) (by decide) (by decide)
  have s6 : (M2.1 0 7).toInt = (M2.1 47 43).toInt := sc_keep hR.1.2.2.2.2.2.2 F1 F2 (by decide) (by decide) (by decide) (by decide)
  have t0 : ∀ j, j < 10 → M2.1 5 j = M2.1 51 j := row_keep hR.2.1 F1 F2 (by decide) (by decide) (by decide) (by decide)
  have t1 : ∀ j, j < 3 → M2.1 12 j = M2.1 58 j := row_keep hR.2.2.1 F1 F2 (by decide) (by decide) (by decide) (by decide)
  have t2 : ∀ j, j < 8 → M2.1 25 j = M2.1 80 j := row_keep hR.2.2.2 F1 F2 (by decide) (by decide) (by decide) (by decide)
  have hl2 : (M.1 1 12).toInt ≤ (M2.1 1 12).toInt := by rw [F2.at 1 12 (by decide), F1.at 1 12 (by decide)]; exact Int.le_refl _
  have bk2 : BK M2 := BK_keep hB F1 F2 (by decide) (by decide) hl2
  have sl2 : SL M2 := SL_keep hS F1 F2 (by decide) (by decide)
  have gr2 : GR M2 := row_keep hG F1 F2 (by decide) (by decide) (by decide) (by decide)
  show GL Γ M2 416 (LL b base y) [.int r2]
  refine l_pop X dL_law_416 rfl ?_
  refine l_goto X (tgt := 1445) dL_law_417 (by decide) ?_
  exact kk M2 ⟨⟨⟨hX2, hM2, ⟨⟨s0, s1, s2, s3, s4, s5, s6⟩, t0, t1, t2⟩, tM2⟩, bk2⟩, sl2, gr2⟩
set_option maxHeartbeats 4000000 in
theorem cs_broken (X : gLX Γ base b N xs) {n i : Nat} {y : Int32} (hy : y.toInt = i) (hi : i + 6 ≤ N) (hN : N ≤ 3072) (hn : n ≤ 512) {M : Mem} (h : LJ2 n M) (kk : ∀ M', LJ2 (n + 1) M' → GL Γ M' 1445 (LL b base y) []) : GL Γ M 420 (LL b base y) [] := by
  obtain ⟨⟨⟨hX, hM, hR, ht0, ht1⟩, hB⟩, hS, hG⟩ := h
  refine l_aload X 1 rfl dL_law_420 ?_
  refine l_arg X hy hi hN 1 ⟨by decide, by decide⟩ dL_law_421 dL_law_422 dL_law_423 dL_law_424 dL_law_425 ?_
  refine l_callV X m_L_40 (c_X6_broken (fun k => base + k) M (xs (i + 1)) rfl hX.1) rfl (by decide) (Nat.le_of_ble_eq_true rfl) (S := []) rfl dL_law_426 (fun v M1 q1 => ?_)
  obtain ⟨r1, a1, rfl, e1, -, q1⟩ := q1
  have F1 : Fr [] M M1 := by rw [← q1]; exact Fr.rf
  have I1 : Iv TX M1 := by rw [← q1]; exact hX.1
  have F1 : Fr [] M M1 := F1
  have hX1 : LX M1 := gen_LX hX F1 I1 (by decide)
  have hM1 : LM M1 := LM_fr hM F1 (by decide)
  have tM1 : (M1.1 47 23).toInt = (M.1 47 23).toInt := by rw [F1.at 47 23 (by decide)]
  show GL Γ M1 429 (LL b base y) [.int r1]
  refine l_pop X dL_law_429 rfl ?_
  refine l_aload X 2 rfl dL_law_430 ?_
  refine l_arg X hy hi hN 1 ⟨by decide, by decide⟩ dL_law_431 dL_law_432 dL_law_433 dL_law_434 dL_law_435 ?_
  refine l_callV X m_L_44 (c_X7_broken (fun k => base + k) M1 (xs (i + 1)) rfl hM1.1) rfl (by decide) (Nat.le_of_ble_eq_true rfl) (S := []) rfl dL_law_436 (fun v M2 q2 => ?_)
  obtain ⟨r2, a2, rfl, e2, -, q2⟩ := q2
  have F2 : Fr [] M1 M2 := by rw [← q2]; exact Fr.rf
  have I2 : Iv TM M2 := by rw [← q2]; exact hM1.1
  have F2 : Fr [] M1 M2 := F2
  have hX2 : LX M2 := LX_fr hX1 F2 (by decide)
  have hM2 : LM M2 := gen_LM hM1 F2 I2 (by decide)
  have tM2 : 0 ≤ (M2.1 47 23).toInt ∧ (M2.1 47 23).toInt ≤ n + 1 := by rw [F2.at 47 23 (by decide)]; omega
  have s0 : (M2.1 1 3).toInt = (M2.1 47 11).toInt := sc_keep hR.1.1 F1 F2 (by decide) (by decide) (by decide) (by decide)
  have s1 : (M2.1 1 12).toInt = (M2.1 47 12).toInt := sc_keep hR.1.2.1 F1 F2 (by decide) (by decide) (by decide) (by decide)
  have s2 : (M2.1 14 1).toInt = (M2.1 47 20).toInt := sc_keep hR.1.2.2.1 F1 F2 (by decide) (by decide) (by decide) (by decide)
  have s3 : (M2.1 14 12).toInt = (M2.1 47 24).toInt := sc_keep hR.1.2.2.2.1 F1 F2 (by decide) (by decide) (by decide) (by decide)
  have s4 : (M2.1 23 2).toInt = (M2.1 47 52).toInt := sc_keep hR.1.2.2.2.2.1 F1 F2 (by decide) (by decide) (by decide) (by decide)
  have s5 : (M2.1 23 7).toInt = (M2.1 47 53).toInt := sc_keep hR.1.2.2.2.2.2.1 F1 F2 (by decide) (by decide) (by decide) (by decide)
  have s6 : (M2.1 0 7).toInt = (M2.1 47 43).toInt := sc_keep hR.1.2.2.2.2.2.2 F1 F2 (by decide) (by decide) (by decide) (by decide)
  have t0 : ∀ j, j < 10 → M2.1 5 j = M2.1 51 j := row_keep hR.2.1 F1 F2 (by decide) (by decide) (by decide) (by decide)
  have t1 : ∀ j, j < 3 → M2.1 12 j = M2.1 58 j := row_keep hR.2.2.1 F1 F2 (by decide) (by decide) (by decide) (by decide)
  have t2 : ∀ j, j < 8 → M2.1 25 j = M2.1 80 j := row_keep hR.2.2.2 F1 F2 (by decide) (by decide) (by decide) (by decide)
  have hl2 : (M.1 1 12).toInt ≤ (M2.1 1 12).toInt := by rw [F2.at 1 12 (by decide), F1.at 1 12 (by decide)]; exact Int.le_refl _
  have bk2 : BK M2 := BK_keep hB F1 F2 (by decide) (by decide) hl2
  have sl2 : SL M2 := SL_keep hS F1 F2 (by decide) (by decide)
  have gr2 : GR M2 := row_keep hG F1 F2 (by decide) (by decide) (by decide) (by decide)
  show GL Γ M2 439 (LL b base y) [.int r2]
  refine l_pop X dL_law_439 rfl ?_
  refine l_goto X (tgt := 1445) dL_law_440 (by decide) ?_
  exact kk M2 ⟨⟨⟨hX2, hM2, ⟨⟨s0, s1, s2, s3, s4, s5, s6⟩, t0, t1, t2⟩, tM2⟩, bk2⟩, sl2, gr2⟩
set_option maxHeartbeats 4000000 in
theorem cs_feed (X : gLX Γ base b N xs) {n i : Nat} {y : Int32} (hy : y.toInt = i) (hi : i + 6 ≤ N) (hN : N ≤ 3072) (hn : n ≤ 512) {M : Mem} (h : LJ2 n M) (kk : ∀ M', LJ2 (n + 1) M' → GL Γ M' 1445 (LL b base y) []) : GL Γ M 443 (LL b base y) [] := by
  obtain ⟨⟨⟨hX, hM, hR, ht0, ht1⟩, hB⟩, hS, hG⟩ := h
  refine l_aload X 1 rfl dL_law_443 ?_
  refine l_arg X hy hi hN 1 ⟨by decide, by decide⟩ dL_law_444 dL_law_445 dL_law_446 dL_law_447 dL_law_448 ?_
  refine l_i2l X dL_law_449 ?_
  refine l_bipush X 32 dL_law_450 (by decide) ?_
  refine l_lshl X dL_law_452 ?_
  refine l_arg X hy hi hN 2 ⟨by decide, by decide⟩ dL_law_453 dL_law_454 dL_law_455 dL_law_456 dL_law_457 ?_
  refine l_i2l X dL_law_458 ?_
  refine l_ldc2 X k_L_45 dL_law_459 ?_
  refine l_land X dL_law_462 ?_
  refine l_lor X dL_law_463 ?_
  refine l_arg X hy hi hN 3 ⟨by decide, by decide⟩ dL_law_464 dL_law_465 dL_law_466 dL_law_467 dL_law_468 ?_
  refine l_callV X m_L_47 (c_X6_feed (fun k => base + k) M (((xs (i + 1)).toInt64 <<< ((32 : Int32).toInt64 &&& 63)) ||| ((xs (i + 2)).toInt64 &&& 4294967295)) rfl (xs (i + 3)) rfl hX.1) rfl (by decide) (Nat.le_of_ble_eq_true rfl) (S := []) rfl dL_law_469 (fun v M1 q1 => ?_)
  obtain ⟨r1, a1, rfl, e1, A1, E1, I1, F1⟩ := q1
  have F1 : Fr W_X6_feed M M1 := F1
  have hX1 : LX M1 := gen_LX hX F1 I1 (by decide)
  have hM1 : LM M1 := LM_fr hM F1 (by decide)
  have tM1 : (M1.1 47 23).toInt = (M.1 47 23).toInt := by rw [F1.at 47 23 (by decide)]
  show GL Γ M1 472 (LL b base y) [.int r1]
  refine l_pop X dL_law_472 rfl ?_
  refine l_aload X 2 rfl dL_law_473 ?_
  refine l_arg X hy hi hN 1 ⟨by decide, by decide⟩ dL_law_474 dL_law_475 dL_law_476 dL_law_477 dL_law_478 ?_
  refine l_i2l X dL_law_479 ?_
  refine l_bipush X 32 dL_law_480 (by decide) ?_
  refine l_lshl X dL_law_482 ?_
  refine l_arg X hy hi hN 2 ⟨by decide, by decide⟩ dL_law_483 dL_law_484 dL_law_485 dL_law_486 dL_law_487 ?_
  refine l_i2l X dL_law_488 ?_
  refine l_ldc2 X k_L_45 dL_law_489 ?_
  refine l_land X dL_law_492 ?_
  refine l_lor X dL_law_493 ?_
  refine l_arg X hy hi hN 3 ⟨by decide, by decide⟩ dL_law_494 dL_law_495 dL_law_496 dL_law_497 dL_law_498 ?_
  refine l_callV X m_L_51 (c_X7_feed (fun k => base + k) M1 (((xs (i + 1)).toInt64 <<< ((32 : Int32).toInt64 &&& 63)) ||| ((xs (i + 2)).toInt64 &&& 4294967295)) rfl (xs (i + 3)) rfl hM1.1) rfl (by decide) (Nat.le_of_ble_eq_true rfl) (S := []) rfl dL_law_499 (fun v M2 q2 => ?_)
  obtain ⟨r2, a2, rfl, e2, A2, E2, I2, F2⟩ := q2
  have F2 : Fr W_X7_feed M1 M2 := F2
  have hX2 : LX M2 := LX_fr hX1 F2 (by decide)
  have hM2 : LM M2 := gen_LM hM1 F2 I2 (by decide)
  have tM2 : 0 ≤ (M2.1 47 23).toInt ∧ (M2.1 47 23).toInt ≤ n + 1 := by rw [F2.at 47 23 (by decide)]; omega
  have g_47_20 : (M1.1 47 20).toInt = (M.1 14 1).toInt := by rw [F1.at 47 20 (by decide)]; exact hR.1.2.2.1.symm
  simp only [g_47_20] at A2 E2
  have s0 : (M2.1 1 3).toInt = (M2.1 47 11).toInt := sc_keep hR.1.1 F1 F2 (by decide) (by decide) (by decide) (by decide)
  have s1 : (M2.1 1 12).toInt = (M2.1 47 12).toInt := sc_keep hR.1.2.1 F1 F2 (by decide) (by decide) (by decide) (by decide)
  have s2 : (M2.1 14 1).toInt = (M2.1 47 20).toInt := by rw [F2.at 14 1 (by decide)]; exact ans2f E1 E2
  have s3 : (M2.1 14 12).toInt = (M2.1 47 24).toInt := sc_keep hR.1.2.2.2.1 F1 F2 (by decide) (by decide) (by decide) (by decide)
  have s4 : (M2.1 23 2).toInt = (M2.1 47 52).toInt := sc_keep hR.1.2.2.2.2.1 F1 F2 (by decide) (by decide) (by decide) (by decide)
  have s5 : (M2.1 23 7).toInt = (M2.1 47 53).toInt := sc_keep hR.1.2.2.2.2.2.1 F1 F2 (by decide) (by decide) (by decide) (by decide)
  have s6 : (M2.1 0 7).toInt = (M2.1 47 43).toInt := sc_keep hR.1.2.2.2.2.2.2 F1 F2 (by decide) (by decide) (by decide) (by decide)
  have t0 : ∀ j, j < 10 → M2.1 5 j = M2.1 51 j := row_keep hR.2.1 F1 F2 (by decide) (by decide) (by decide) (by decide)
  have t1 : ∀ j, j < 3 → M2.1 12 j = M2.1 58 j := row_keep hR.2.2.1 F1 F2 (by decide) (by decide) (by decide) (by decide)
  have t2 : ∀ j, j < 8 → M2.1 25 j = M2.1 80 j := row_keep hR.2.2.2 F1 F2 (by decide) (by decide) (by decide) (by decide)
  have ans : a1 = a2 := ans3 A1 A2 (fun _ => rfl)
  have hl2 : (M.1 1 12).toInt ≤ (M2.1 1 12).toInt := by rw [F2.at 1 12 (by decide), F1.at 1 12 (by decide)]; exact Int.le_refl _
  have bk2 : BK M2 := BK_keep hB F1 F2 (by decide) (by decide) hl2
  have sl2 : SL M2 := SL_keep hS F1 F2 (by decide) (by decide)
  have gr2 : GR M2 := row_keep hG F1 F2 (by decide) (by decide) (by decide) (by decide)
  show GL Γ M2 502 (LL b base y) [.int r2]
  refine l_pop X dL_law_502 rfl ?_
  refine l_goto X (tgt := 1445) dL_law_503 (by decide) ?_
  exact kk M2 ⟨⟨⟨hX2, hM2, ⟨⟨s0, s1, s2, s3, s4, s5, s6⟩, t0, t1, t2⟩, tM2⟩, bk2⟩, sl2, gr2⟩
set_option maxHeartbeats 4000000 in
theorem cs_scene (X : gLX Γ base b N xs) {n i : Nat} {y : Int32} (hy : y.toInt = i) (hi : i + 6 ≤ N) (hN : N ≤ 3072) (hn : n ≤ 512) {M : Mem} (h : LJ2 n M) (kk : ∀ M', LJ2 (n + 1) M' → GL Γ M' 1445 (LL b base y) []) : GL Γ M 506 (LL b base y) [] := by
  obtain ⟨⟨⟨hX, hM, hR, ht0, ht1⟩, hB⟩, hS, hG⟩ := h
  refine l_aload X 1 rfl dL_law_506 ?_
  refine l_callV X m_L_52 (c_X6_scene (fun k => base + k) M  hX.1) rfl (by decide) (Nat.le_of_ble_eq_true rfl) (S := []) rfl dL_law_507 (fun v M1 q1 => ?_)
  obtain ⟨r1, a1, rfl, e1, -, z1, I1, F1⟩ := q1
  have F1 : Fr W_X6_scene M M1 := F1
  have hX1 : LX M1 := gen_LX hX F1 I1 (by decide)
  have hM1 : LM M1 := LM_fr hM F1 (by decide)
  have tM1 : (M1.1 47 23).toInt = (M.1 47 23).toInt := by rw [F1.at 47 23 (by decide)]
  show GL Γ M1 510 (LL b base y) [.int r1]
  refine l_pop X dL_law_510 rfl ?_
  refine l_aload X 2 rfl dL_law_511 ?_
  refine l_callV X m_L_56 (c_X7_scene (fun k => base + k) M1  hM1.1 ⟨by omega, by omega⟩ hM1.2.1 hM1.2.2.1) rfl (by decide) (Nat.le_of_ble_eq_true rfl) (S := []) rfl dL_law_512 (fun v M2 q2 => ?_)
  obtain ⟨r2, a2, rfl, e2, -, z2, I2, F2⟩ := q2
  have F2 : Fr W_X7_scene M1 M2 := F2
  have hX2 : LX M2 := LX_fr hX1 F2 (by decide)
  have hM2 : LM M2 := ⟨I2, z2.1, z2.2.1, by rw [F2.atL 47 34 (by decide)]; exact hM1.2.2.2⟩
  have tM2 : 0 ≤ (M2.1 47 23).toInt ∧ (M2.1 47 23).toInt ≤ n + 1 := by obtain ⟨-, -, -, u1, u2⟩ := z2; omega
  have s0 : (M2.1 1 3).toInt = (M2.1 47 11).toInt := sc_keep hR.1.1 F1 F2 (by decide) (by decide) (by decide) (by decide)
  have s1 : (M2.1 1 12).toInt = (M2.1 47 12).toInt := sc_keep hR.1.2.1 F1 F2 (by decide) (by decide) (by decide) (by decide)
  have s2 : (M2.1 14 1).toInt = (M2.1 47 20).toInt := by rw [F2.at 14 1 (by decide), z1, z2.2.2.1]
  have s3 : (M2.1 14 12).toInt = (M2.1 47 24).toInt := sc_keep hR.1.2.2.2.1 F1 F2 (by decide) (by decide) (by decide) (by decide)
  have s4 : (M2.1 23 2).toInt = (M2.1 47 52).toInt := sc_keep hR.1.2.2.2.2.1 F1 F2 (by decide) (by decide) (by decide) (by decide)
  have s5 : (M2.1 23 7).toInt = (M2.1 47 53).toInt := sc_keep hR.1.2.2.2.2.2.1 F1 F2 (by decide) (by decide) (by decide) (by decide)
  have s6 : (M2.1 0 7).toInt = (M2.1 47 43).toInt := sc_keep hR.1.2.2.2.2.2.2 F1 F2 (by decide) (by decide) (by decide) (by decide)
  have t0 : ∀ j, j < 10 → M2.1 5 j = M2.1 51 j := row_keep hR.2.1 F1 F2 (by decide) (by decide) (by decide) (by decide)
  have t1 : ∀ j, j < 3 → M2.1 12 j = M2.1 58 j := row_keep hR.2.2.1 F1 F2 (by decide) (by decide) (by decide) (by decide)
  have t2 : ∀ j, j < 8 → M2.1 25 j = M2.1 80 j := row_keep hR.2.2.2 F1 F2 (by decide) (by decide) (by decide) (by decide)
  have hl2 : (M.1 1 12).toInt ≤ (M2.1 1 12).toInt := by rw [F2.at 1 12 (by decide), F1.at 1 12 (by decide)]; exact Int.le_refl _
  have bk2 : BK M2 := BK_keep hB F1 F2 (by decide) (by decide) hl2
  have sl2 : SL M2 := SL_keep hS F1 F2 (by decide) (by decide)
  have gr2 : GR M2 := row_keep hG F1 F2 (by decide) (by decide) (by decide) (by decide)
  show GL Γ M2 515 (LL b base y) [.int r2]
  refine l_pop X dL_law_515 rfl ?_
  refine l_goto X (tgt := 1445) dL_law_516 (by decide) ?_
  exact kk M2 ⟨⟨⟨hX2, hM2, ⟨⟨s0, s1, s2, s3, s4, s5, s6⟩, t0, t1, t2⟩, tM2⟩, bk2⟩, sl2, gr2⟩
set_option maxHeartbeats 4000000 in
theorem cs_hall (X : gLX Γ base b N xs) {n i : Nat} {y : Int32} (hy : y.toInt = i) (hi : i + 6 ≤ N) (hN : N ≤ 3072) (hn : n ≤ 512) {M : Mem} (h : LJ2 n M) (kk : ∀ M', LJ2 (n + 1) M' → GL Γ M' 1445 (LL b base y) []) : GL Γ M 519 (LL b base y) [] := by
  obtain ⟨⟨⟨hX, hM, hR, ht0, ht1⟩, hB⟩, hS, hG⟩ := h
  refine l_aload X 1 rfl dL_law_519 ?_
  refine l_arg X hy hi hN 1 ⟨by decide, by decide⟩ dL_law_520 dL_law_521 dL_law_522 dL_law_523 dL_law_524 ?_
  refine l_callV X m_L_57 (c_X6_hall (fun k => base + k) M (xs (i + 1)) rfl hX.1) rfl (by decide) (Nat.le_of_ble_eq_true rfl) (S := []) rfl dL_law_525 (fun v M1 q1 => ?_)
  obtain ⟨r1, a1, rfl, e1, A1, E1, I1, F1⟩ := q1
  have F1 : Fr W_X6_hall M M1 := F1
  have hX1 : LX M1 := gen_LX hX F1 I1 (by decide)
  have hM1 : LM M1 := LM_fr hM F1 (by decide)
  have tM1 : (M1.1 47 23).toInt = (M.1 47 23).toInt := by rw [F1.at 47 23 (by decide)]
  show GL Γ M1 528 (LL b base y) [.int r1]
  refine l_pop X dL_law_528 rfl ?_
  refine l_aload X 2 rfl dL_law_529 ?_
  refine l_arg X hy hi hN 1 ⟨by decide, by decide⟩ dL_law_530 dL_law_531 dL_law_532 dL_law_533 dL_law_534 ?_
  refine l_callV X m_L_60 (c_X7_hall (fun k => base + k) M1 (xs (i + 1)) rfl hM1.1) rfl (by decide) (Nat.le_of_ble_eq_true rfl) (S := []) rfl dL_law_535 (fun v M2 q2 => ?_)
  obtain ⟨r2, a2, rfl, e2, A2, E2, I2, F2⟩ := q2
  have F2 : Fr W_X7_hall M1 M2 := F2
  have hX2 : LX M2 := LX_fr hX1 F2 (by decide)
  have hM2 : LM M2 := gen_LM hM1 F2 I2 (by decide)
  have tM2 : 0 ≤ (M2.1 47 23).toInt ∧ (M2.1 47 23).toInt ≤ n + 1 := by rw [F2.at 47 23 (by decide)]; omega
  have g_47_24 : (M1.1 47 24).toInt = (M.1 14 12).toInt := by rw [F1.at 47 24 (by decide)]; exact hR.1.2.2.2.1.symm
  simp only [g_47_24] at A2 E2
  have s0 : (M2.1 1 3).toInt = (M2.1 47 11).toInt := sc_keep hR.1.1 F1 F2 (by decide) (by decide) (by decide) (by decide)
  have s1 : (M2.1 1 12).toInt = (M2.1 47 12).toInt := sc_keep hR.1.2.1 F1 F2 (by decide) (by decide) (by decide) (by decide)
  have s2 : (M2.1 14 1).toInt = (M2.1 47 20).toInt := sc_keep hR.1.2.2.1 F1 F2 (by decide) (by decide) (by decide) (by decide)
  have s3 : (M2.1 14 12).toInt = (M2.1 47 24).toInt := by rw [F2.at 14 12 (by decide)]; exact ans2 E1 E2
  have s4 : (M2.1 23 2).toInt = (M2.1 47 52).toInt := sc_keep hR.1.2.2.2.2.1 F1 F2 (by decide) (by decide) (by decide) (by decide)
  have s5 : (M2.1 23 7).toInt = (M2.1 47 53).toInt := sc_keep hR.1.2.2.2.2.2.1 F1 F2 (by decide) (by decide) (by decide) (by decide)
  have s6 : (M2.1 0 7).toInt = (M2.1 47 43).toInt := sc_keep hR.1.2.2.2.2.2.2 F1 F2 (by decide) (by decide) (by decide) (by decide)
  have t0 : ∀ j, j < 10 → M2.1 5 j = M2.1 51 j := row_keep hR.2.1 F1 F2 (by decide) (by decide) (by decide) (by decide)
  have t1 : ∀ j, j < 3 → M2.1 12 j = M2.1 58 j := row_keep hR.2.2.1 F1 F2 (by decide) (by decide) (by decide) (by decide)
  have t2 : ∀ j, j < 8 → M2.1 25 j = M2.1 80 j := row_keep hR.2.2.2 F1 F2 (by decide) (by decide) (by decide) (by decide)
  have ans : a1 = a2 := ans2 A1 A2
  have hl2 : (M.1 1 12).toInt ≤ (M2.1 1 12).toInt := by rw [F2.at 1 12 (by decide), F1.at 1 12 (by decide)]; exact Int.le_refl _
  have bk2 : BK M2 := BK_keep hB F1 F2 (by decide) (by decide) hl2
  have sl2 : SL M2 := SL_keep hS F1 F2 (by decide) (by decide)
  have gr2 : GR M2 := row_keep hG F1 F2 (by decide) (by decide) (by decide) (by decide)
  show GL Γ M2 538 (LL b base y) [.int r2]
  refine l_pop X dL_law_538 rfl ?_
  refine l_goto X (tgt := 1445) dL_law_539 (by decide) ?_
  exact kk M2 ⟨⟨⟨hX2, hM2, ⟨⟨s0, s1, s2, s3, s4, s5, s6⟩, t0, t1, t2⟩, tM2⟩, bk2⟩, sl2, gr2⟩
set_option maxHeartbeats 4000000 in
theorem cs_sing (X : gLX Γ base b N xs) {n i : Nat} {y : Int32} (hy : y.toInt = i) (hi : i + 6 ≤ N) (hN : N ≤ 3072) (hn : n ≤ 512) {M : Mem} (h : LJ2 n M) (kk : ∀ M', LJ2 (n + 1) M' → GL Γ M' 1445 (LL b base y) []) : GL Γ M 542 (LL b base y) [] := by
  obtain ⟨⟨⟨hX, hM, hR, ht0, ht1⟩, hB⟩, hS, hG⟩ := h
  refine l_aload X 1 rfl dL_law_542 ?_
  refine l_arg X hy hi hN 1 ⟨by decide, by decide⟩ dL_law_543 dL_law_544 dL_law_545 dL_law_546 dL_law_547 ?_
  refine l_arg X hy hi hN 2 ⟨by decide, by decide⟩ dL_law_548 dL_law_549 dL_law_550 dL_law_551 dL_law_552 ?_
  refine l_arg X hy hi hN 3 ⟨by decide, by decide⟩ dL_law_553 dL_law_554 dL_law_555 dL_law_556 dL_law_557 ?_
  refine l_arg X hy hi hN 4 ⟨by decide, by decide⟩ dL_law_558 dL_law_559 dL_law_560 dL_law_561 dL_law_562 ?_
  refine l_i2l X dL_law_563 ?_
  refine l_bipush X 32 dL_law_564 (by decide) ?_
  refine l_lshl X dL_law_566 ?_
  refine l_arg X hy hi hN 5 ⟨by decide, by decide⟩ dL_law_567 dL_law_568 dL_law_569 dL_law_570 dL_law_571 ?_
  refine l_i2l X dL_law_572 ?_
  refine l_ldc2 X k_L_45 dL_law_573 ?_
  refine l_land X dL_law_576 ?_
  refine l_lor X dL_law_577 ?_
  refine l_callV X m_L_61 (c_X6_sing (fun k => base + k) M (xs (i + 1)) rfl (xs (i + 2)) rfl (xs (i + 3)) rfl (((xs (i + 4)).toInt64 <<< ((32 : Int32).toInt64 &&& 63)) ||| ((xs (i + 5)).toInt64 &&& 4294967295)) rfl hX.1 hX.2) rfl (by decide) (Nat.le_of_ble_eq_true rfl) (S := []) rfl dL_law_578 (fun v M1 q1 => ?_)
  obtain ⟨r1, a1, rfl, e1, -, z1, I1, F1⟩ := q1
  have F1 : Fr W_X6_sing M M1 := F1
  have hX1 : LX M1 := ⟨I1, z1⟩
  have hM1 : LM M1 := LM_fr hM F1 (by decide)
  have tM1 : (M1.1 47 23).toInt = (M.1 47 23).toInt := by rw [F1.at 47 23 (by decide)]
  show GL Γ M1 581 (LL b base y) [.int r1]
  refine l_pop X dL_law_581 rfl ?_
  refine l_aload X 2 rfl dL_law_582 ?_
  refine l_arg X hy hi hN 1 ⟨by decide, by decide⟩ dL_law_583 dL_law_584 dL_law_585 dL_law_586 dL_law_587 ?_
  refine l_arg X hy hi hN 2 ⟨by decide, by decide⟩ dL_law_588 dL_law_589 dL_law_590 dL_law_591 dL_law_592 ?_
  refine l_arg X hy hi hN 3 ⟨by decide, by decide⟩ dL_law_593 dL_law_594 dL_law_595 dL_law_596 dL_law_597 ?_
  refine l_arg X hy hi hN 4 ⟨by decide, by decide⟩ dL_law_598 dL_law_599 dL_law_600 dL_law_601 dL_law_602 ?_
  refine l_i2l X dL_law_603 ?_
  refine l_bipush X 32 dL_law_604 (by decide) ?_
  refine l_lshl X dL_law_606 ?_
  refine l_arg X hy hi hN 5 ⟨by decide, by decide⟩ dL_law_607 dL_law_608 dL_law_609 dL_law_610 dL_law_611 ?_
  refine l_i2l X dL_law_612 ?_
  refine l_ldc2 X k_L_45 dL_law_613 ?_
  refine l_land X dL_law_616 ?_
  refine l_lor X dL_law_617 ?_
  refine l_callV X m_L_65 (c_X7_sing (fun k => base + k) M1 (xs (i + 1)) rfl (xs (i + 2)) rfl (xs (i + 3)) rfl (((xs (i + 4)).toInt64 <<< ((32 : Int32).toInt64 &&& 63)) ||| ((xs (i + 5)).toInt64 &&& 4294967295)) rfl hM1.1 hM1.2.2.2 hM1.2.1) rfl (by decide) (Nat.le_of_ble_eq_true rfl) (S := []) rfl dL_law_618 (fun v M2 q2 => ?_)
  obtain ⟨r2, a2, rfl, e2, -, z2, I2, F2⟩ := q2
  have F2 : Fr W_X7_sing M1 M2 := F2
  have hX2 : LX M2 := LX_fr hX1 F2 (by decide)
  have hM2 : LM M2 := ⟨I2, WFM_fr0 hM1.2.1 F2 (noW_in (by decide)) (noW_in (by decide)) (noW_in (by decide)), WFT_fr hM1.2.2.1 F2 (by decide), z2⟩
  have tM2 : 0 ≤ (M2.1 47 23).toInt ∧ (M2.1 47 23).toInt ≤ n + 1 := by rw [F2.at 47 23 (by decide)]; omega
  have s0 : (M2.1 1 3).toInt = (M2.1 47 11).toInt := sc_keep hR.1.1 F1 F2 (by decide) (by decide) (by decide) (by decide)
  have s1 : (M2.1 1 12).toInt = (M2.1 47 12).toInt := sc_keep hR.1.2.1 F1 F2 (by decide) (by decide) (by decide) (by decide)
  have s2 : (M2.1 14 1).toInt = (M2.1 47 20).toInt := sc_keep hR.1.2.2.1 F1 F2 (by decide) (by decide) (by decide) (by decide)
  have s3 : (M2.1 14 12).toInt = (M2.1 47 24).toInt := sc_keep hR.1.2.2.2.1 F1 F2 (by decide) (by decide) (by decide) (by decide)
  have s4 : (M2.1 23 2).toInt = (M2.1 47 52).toInt := sc_keep hR.1.2.2.2.2.1 F1 F2 (by decide) (by decide) (by decide) (by decide)
  have s5 : (M2.1 23 7).toInt = (M2.1 47 53).toInt := sc_keep hR.1.2.2.2.2.2.1 F1 F2 (by decide) (by decide) (by decide) (by decide)
  have s6 : (M2.1 0 7).toInt = (M2.1 47 43).toInt := sc_keep hR.1.2.2.2.2.2.2 F1 F2 (by decide) (by decide) (by decide) (by decide)
  have t0 : ∀ j, j < 10 → M2.1 5 j = M2.1 51 j := row_keep hR.2.1 F1 F2 (by decide) (by decide) (by decide) (by decide)
  have t1 : ∀ j, j < 3 → M2.1 12 j = M2.1 58 j := row_keep hR.2.2.1 F1 F2 (by decide) (by decide) (by decide) (by decide)
  have t2 : ∀ j, j < 8 → M2.1 25 j = M2.1 80 j := row_keep hR.2.2.2 F1 F2 (by decide) (by decide) (by decide) (by decide)
  have hl2 : (M.1 1 12).toInt ≤ (M2.1 1 12).toInt := by rw [F2.at 1 12 (by decide), F1.at 1 12 (by decide)]; exact Int.le_refl _
  have bk2 : BK M2 := BK_keep hB F1 F2 (by decide) (by decide) hl2
  have sl2 : SL M2 := SL_keep hS F1 F2 (by decide) (by decide)
  have gr2 : GR M2 := row_keep hG F1 F2 (by decide) (by decide) (by decide) (by decide)
  show GL Γ M2 621 (LL b base y) [.int r2]
  refine l_pop X dL_law_621 rfl ?_
  refine l_goto X (tgt := 1445) dL_law_622 (by decide) ?_
  exact kk M2 ⟨⟨⟨hX2, hM2, ⟨⟨s0, s1, s2, s3, s4, s5, s6⟩, t0, t1, t2⟩, tM2⟩, bk2⟩, sl2, gr2⟩
set_option maxHeartbeats 4000000 in
theorem cs_sung (X : gLX Γ base b N xs) {n i : Nat} {y : Int32} (hy : y.toInt = i) (hi : i + 6 ≤ N) (hN : N ≤ 3072) (hn : n ≤ 512) {M : Mem} (h : LJ2 n M) (kk : ∀ M', LJ2 (n + 1) M' → GL Γ M' 1445 (LL b base y) []) : GL Γ M 625 (LL b base y) [] := by
  obtain ⟨⟨⟨hX, hM, hR, ht0, ht1⟩, hB⟩, hS, hG⟩ := h
  refine l_aload X 1 rfl dL_law_625 ?_
  refine l_arg X hy hi hN 1 ⟨by decide, by decide⟩ dL_law_626 dL_law_627 dL_law_628 dL_law_629 dL_law_630 ?_
  refine l_callV X m_L_66 (c_X6_sung (fun k => base + k) M (xs (i + 1)) rfl hX.1) rfl (by decide) (Nat.le_of_ble_eq_true rfl) (S := []) rfl dL_law_631 (fun v M1 q1 => ?_)
  obtain ⟨r1, a1, rfl, e1, -, q1⟩ := q1
  have F1 : Fr [] M M1 := by rw [← q1]; exact Fr.rf
  have I1 : Iv TX M1 := by rw [← q1]; exact hX.1
  have F1 : Fr [] M M1 := F1
  have hX1 : LX M1 := gen_LX hX F1 I1 (by decide)
  have hM1 : LM M1 := LM_fr hM F1 (by decide)
  have tM1 : (M1.1 47 23).toInt = (M.1 47 23).toInt := by rw [F1.at 47 23 (by decide)]
  show GL Γ M1 634 (LL b base y) [.int r1]
  refine l_pop X dL_law_634 rfl ?_
  refine l_aload X 2 rfl dL_law_635 ?_
  refine l_arg X hy hi hN 1 ⟨by decide, by decide⟩ dL_law_636 dL_law_637 dL_law_638 dL_law_639 dL_law_640 ?_
  refine l_callV X m_L_69 (c_X7_sung (fun k => base + k) M1 (xs (i + 1)) rfl hM1.1) rfl (by decide) (Nat.le_of_ble_eq_true rfl) (S := []) rfl dL_law_641 (fun v M2 q2 => ?_)
  obtain ⟨r2, a2, rfl, e2, -, q2⟩ := q2
  have F2 : Fr [] M1 M2 := by rw [← q2]; exact Fr.rf
  have I2 : Iv TM M2 := by rw [← q2]; exact hM1.1
  have F2 : Fr [] M1 M2 := F2
  have hX2 : LX M2 := LX_fr hX1 F2 (by decide)
  have hM2 : LM M2 := gen_LM hM1 F2 I2 (by decide)
  have tM2 : 0 ≤ (M2.1 47 23).toInt ∧ (M2.1 47 23).toInt ≤ n + 1 := by rw [F2.at 47 23 (by decide)]; omega
  have s0 : (M2.1 1 3).toInt = (M2.1 47 11).toInt := sc_keep hR.1.1 F1 F2 (by decide) (by decide) (by decide) (by decide)
  have s1 : (M2.1 1 12).toInt = (M2.1 47 12).toInt := sc_keep hR.1.2.1 F1 F2 (by decide) (by decide) (by decide) (by decide)
  have s2 : (M2.1 14 1).toInt = (M2.1 47 20).toInt := sc_keep hR.1.2.2.1 F1 F2 (by decide) (by decide) (by decide) (by decide)
  have s3 : (M2.1 14 12).toInt = (M2.1 47 24).toInt := sc_keep hR.1.2.2.2.1 F1 F2 (by decide) (by decide) (by decide) (by decide)
  have s4 : (M2.1 23 2).toInt = (M2.1 47 52).toInt := sc_keep hR.1.2.2.2.2.1 F1 F2 (by decide) (by decide) (by decide) (by decide)
  have s5 : (M2.1 23 7).toInt = (M2.1 47 53).toInt := sc_keep hR.1.2.2.2.2.2.1 F1 F2 (by decide) (by decide) (by decide) (by decide)
  have s6 : (M2.1 0 7).toInt = (M2.1 47 43).toInt := sc_keep hR.1.2.2.2.2.2.2 F1 F2 (by decide) (by decide) (by decide) (by decide)
  have t0 : ∀ j, j < 10 → M2.1 5 j = M2.1 51 j := row_keep hR.2.1 F1 F2 (by decide) (by decide) (by decide) (by decide)
  have t1 : ∀ j, j < 3 → M2.1 12 j = M2.1 58 j := row_keep hR.2.2.1 F1 F2 (by decide) (by decide) (by decide) (by decide)
  have t2 : ∀ j, j < 8 → M2.1 25 j = M2.1 80 j := row_keep hR.2.2.2 F1 F2 (by decide) (by decide) (by decide) (by decide)
  have hl2 : (M.1 1 12).toInt ≤ (M2.1 1 12).toInt := by rw [F2.at 1 12 (by decide), F1.at 1 12 (by decide)]; exact Int.le_refl _
  have bk2 : BK M2 := BK_keep hB F1 F2 (by decide) (by decide) hl2
  have sl2 : SL M2 := SL_keep hS F1 F2 (by decide) (by decide)
  have gr2 : GR M2 := row_keep hG F1 F2 (by decide) (by decide) (by decide) (by decide)
  show GL Γ M2 644 (LL b base y) [.int r2]
  refine l_pop X dL_law_644 rfl ?_
  refine l_goto X (tgt := 1445) dL_law_645 (by decide) ?_
  exact kk M2 ⟨⟨⟨hX2, hM2, ⟨⟨s0, s1, s2, s3, s4, s5, s6⟩, t0, t1, t2⟩, tM2⟩, bk2⟩, sl2, gr2⟩
set_option maxHeartbeats 4000000 in
theorem cs_singer (X : gLX Γ base b N xs) {n i : Nat} {y : Int32} (hy : y.toInt = i) (hi : i + 6 ≤ N) (hN : N ≤ 3072) (hn : n ≤ 512) {M : Mem} (h : LJ2 n M) (kk : ∀ M', LJ2 (n + 1) M' → GL Γ M' 1445 (LL b base y) []) : GL Γ M 648 (LL b base y) [] := by
  obtain ⟨⟨⟨hX, hM, hR, ht0, ht1⟩, hB⟩, hS, hG⟩ := h
  refine l_aload X 1 rfl dL_law_648 ?_
  refine l_arg X hy hi hN 1 ⟨by decide, by decide⟩ dL_law_649 dL_law_650 dL_law_651 dL_law_652 dL_law_653 ?_
  refine l_callV X m_L_70 (c_X6_singer_E (fun k => base + k) M (xs (i + 1)) rfl hX.1) rfl (by decide) (Nat.le_of_ble_eq_true rfl) (S := []) rfl dL_law_654 (fun v M1 q1 => ?_)
  obtain ⟨r1, a1, rfl, e1, A1, E1, I1, F1⟩ := q1
  have F1 : Fr W_X6_singer_E M M1 := F1
  have hX1 : LX M1 := gen_LX hX F1 I1 (by decide)
  have hM1 : LM M1 := LM_fr hM F1 (by decide)
  have tM1 : (M1.1 47 23).toInt = (M.1 47 23).toInt := by rw [F1.at 47 23 (by decide)]
  show GL Γ M1 657 (LL b base y) [.int r1]
  refine l_pop X dL_law_657 rfl ?_
  refine l_aload X 2 rfl dL_law_658 ?_
  refine l_arg X hy hi hN 1 ⟨by decide, by decide⟩ dL_law_659 dL_law_660 dL_law_661 dL_law_662 dL_law_663 ?_
  refine l_callV X m_L_73 (c_X7_singer_E (fun k => base + k) M1 (xs (i + 1)) rfl hM1.1) rfl (by decide) (Nat.le_of_ble_eq_true rfl) (S := []) rfl dL_law_664 (fun v M2 q2 => ?_)
  obtain ⟨r2, a2, rfl, e2, A2, E2, I2, F2⟩ := q2
  have F2 : Fr W_X7_singer_E M1 M2 := F2
  have hX2 : LX M2 := LX_fr hX1 F2 (by decide)
  have hM2 : LM M2 := gen_LM hM1 F2 I2 (by decide)
  have tM2 : 0 ≤ (M2.1 47 23).toInt ∧ (M2.1 47 23).toInt ≤ n + 1 := by rw [F2.at 47 23 (by decide)]; omega
  have g_47_52 : (M1.1 47 52).toInt = (M.1 23 2).toInt := by rw [F1.at 47 52 (by decide)]; exact hR.1.2.2.2.2.1.symm
  simp only [g_47_52] at A2 E2
  have s0 : (M2.1 1 3).toInt = (M2.1 47 11).toInt := sc_keep hR.1.1 F1 F2 (by decide) (by decide) (by decide) (by decide)
  have s1 : (M2.1 1 12).toInt = (M2.1 47 12).toInt := sc_keep hR.1.2.1 F1 F2 (by decide) (by decide) (by decide) (by decide)
  have s2 : (M2.1 14 1).toInt = (M2.1 47 20).toInt := sc_keep hR.1.2.2.1 F1 F2 (by decide) (by decide) (by decide) (by decide)
  have s3 : (M2.1 14 12).toInt = (M2.1 47 24).toInt := sc_keep hR.1.2.2.2.1 F1 F2 (by decide) (by decide) (by decide) (by decide)
  have s4 : (M2.1 23 2).toInt = (M2.1 47 52).toInt := by rw [F2.at 23 2 (by decide)]; exact ans2 E1.1 E2.1
  have s5 : (M2.1 23 7).toInt = (M2.1 47 53).toInt := sc_keep hR.1.2.2.2.2.2.1 F1 F2 (by decide) (by decide) (by decide) (by decide)
  have s6 : (M2.1 0 7).toInt = (M2.1 47 43).toInt := sc_keep hR.1.2.2.2.2.2.2 F1 F2 (by decide) (by decide) (by decide) (by decide)
  have t0 : ∀ j, j < 10 → M2.1 5 j = M2.1 51 j := row_keep hR.2.1 F1 F2 (by decide) (by decide) (by decide) (by decide)
  have t1 : ∀ j, j < 3 → M2.1 12 j = M2.1 58 j := row_keep hR.2.2.1 F1 F2 (by decide) (by decide) (by decide) (by decide)
  have t2 : ∀ j, j < 8 → M2.1 25 j = M2.1 80 j := row_keep hR.2.2.2 F1 F2 (by decide) (by decide) (by decide) (by decide)
  have ans : a1 = a2 := ans3 A1 A2 (fun _ => rfl)
  have bk2 : BK M2 := ⟨row_eq hB.1 Iff.rfl E1.2 E2.2 F1 F2 (by decide) (by decide), row_keep hB.2.1 F1 F2 (by decide) (by decide) (by decide) (by decide), row_keep hB.2.2.1 F1 F2 (by decide) (by decide) (by decide) (by decide), row_keep hB.2.2.2.1 F1 F2 (by decide) (by decide) (by decide) (by decide), row_keep hB.2.2.2.2.1 F1 F2 (by decide) (by decide) (by decide) (by decide), fun k hk => by rw [F2.at 28 k (hi_in (by decide) (by decide) k), F1.at 28 k (noW_in (by decide) k)]; exact hB.2.2.2.2.2.1 k hk, fun k hk => by rw [F2.at 23 7 (by decide), F1.at 23 7 (by decide)] at hk; rw [F2.at 27 k (hi_in (by decide) (by decide) k), F1.at 27 k (noW_in (by decide) k), F2.at 1 12 (by decide), F1.at 1 12 (by decide)]; exact hB.2.2.2.2.2.2 k hk⟩
  have sl2 : SL M2 := SL_keep hS F1 F2 (by decide) (by decide)
  have gr2 : GR M2 := row_keep hG F1 F2 (by decide) (by decide) (by decide) (by decide)
  show GL Γ M2 667 (LL b base y) [.int r2]
  refine l_pop X dL_law_667 rfl ?_
  refine l_goto X (tgt := 1445) dL_law_668 (by decide) ?_
  exact kk M2 ⟨⟨⟨hX2, hM2, ⟨⟨s0, s1, s2, s3, s4, s5, s6⟩, t0, t1, t2⟩, tM2⟩, bk2⟩, sl2, gr2⟩
set_option maxHeartbeats 4000000 in
theorem cs_village (X : gLX Γ base b N xs) {n i : Nat} {y : Int32} (hy : y.toInt = i) (hi : i + 6 ≤ N) (hN : N ≤ 3072) (hn : n ≤ 512) {M : Mem} (h : LJ2 n M) (kk : ∀ M', LJ2 (n + 1) M' → GL Γ M' 1445 (LL b base y) []) : GL Γ M 671 (LL b base y) [] := by
  obtain ⟨⟨⟨hX, hM, hR, ht0, ht1⟩, hB⟩, hS, hG⟩ := h
  refine l_aload X 1 rfl dL_law_671 ?_
  refine l_arg X hy hi hN 1 ⟨by decide, by decide⟩ dL_law_672 dL_law_673 dL_law_674 dL_law_675 dL_law_676 ?_
  refine l_arg X hy hi hN 2 ⟨by decide, by decide⟩ dL_law_677 dL_law_678 dL_law_679 dL_law_680 dL_law_681 ?_
  refine l_callV X m_L_74 (c_X6_village (fun k => base + k) M (xs (i + 1)) rfl (xs (i + 2)) rfl hX.1) rfl (by decide) (Nat.le_of_ble_eq_true rfl) (S := []) rfl dL_law_682 (fun v M1 q1 => ?_)
  obtain ⟨r1, a1, rfl, e1, A1, E1, I1, F1⟩ := q1
  have F1 : Fr W_X6_village M M1 := F1
  have hX1 : LX M1 := gen_LX hX F1 I1 (by decide)
  have hM1 : LM M1 := LM_fr hM F1 (by decide)
  have tM1 : (M1.1 47 23).toInt = (M.1 47 23).toInt := by rw [F1.at 47 23 (by decide)]
  show GL Γ M1 685 (LL b base y) [.int r1]
  refine l_pop X dL_law_685 rfl ?_
  refine l_aload X 2 rfl dL_law_686 ?_
  refine l_arg X hy hi hN 1 ⟨by decide, by decide⟩ dL_law_687 dL_law_688 dL_law_689 dL_law_690 dL_law_691 ?_
  refine l_arg X hy hi hN 2 ⟨by decide, by decide⟩ dL_law_692 dL_law_693 dL_law_694 dL_law_695 dL_law_696 ?_
  refine l_callV X m_L_77 (c_X7_village (fun k => base + k) M1 (xs (i + 1)) rfl (xs (i + 2)) rfl hM1.1) rfl (by decide) (Nat.le_of_ble_eq_true rfl) (S := []) rfl dL_law_697 (fun v M2 q2 => ?_)
  obtain ⟨r2, a2, rfl, e2, A2, E2, I2, F2⟩ := q2
  have F2 : Fr W_X7_village M1 M2 := F2
  have hX2 : LX M2 := LX_fr hX1 F2 (by decide)
  have hM2 : LM M2 := gen_LM hM1 F2 I2 (by decide)
  have tM2 : 0 ≤ (M2.1 47 23).toInt ∧ (M2.1 47 23).toInt ≤ n + 1 := by rw [F2.at 47 23 (by decide)]; omega
  have g_47_52 : (M1.1 47 52).toInt = (M.1 23 2).toInt := by rw [F1.at 47 52 (by decide)]; exact hR.1.2.2.2.2.1.symm
  simp only [g_47_52] at A2 E2
  have s0 : (M2.1 1 3).toInt = (M2.1 47 11).toInt := sc_keep hR.1.1 F1 F2 (by decide) (by decide) (by decide) (by decide)
  have s1 : (M2.1 1 12).toInt = (M2.1 47 12).toInt := sc_keep hR.1.2.1 F1 F2 (by decide) (by decide) (by decide) (by decide)
  have s2 : (M2.1 14 1).toInt = (M2.1 47 20).toInt := sc_keep hR.1.2.2.1 F1 F2 (by decide) (by decide) (by decide) (by decide)
  have s3 : (M2.1 14 12).toInt = (M2.1 47 24).toInt := sc_keep hR.1.2.2.2.1 F1 F2 (by decide) (by decide) (by decide) (by decide)
  have s4 : (M2.1 23 2).toInt = (M2.1 47 52).toInt := sc_keep hR.1.2.2.2.2.1 F1 F2 (by decide) (by decide) (by decide) (by decide)
  have s5 : (M2.1 23 7).toInt = (M2.1 47 53).toInt := sc_keep hR.1.2.2.2.2.2.1 F1 F2 (by decide) (by decide) (by decide) (by decide)
  have s6 : (M2.1 0 7).toInt = (M2.1 47 43).toInt := sc_keep hR.1.2.2.2.2.2.2 F1 F2 (by decide) (by decide) (by decide) (by decide)
  have t0 : ∀ j, j < 10 → M2.1 5 j = M2.1 51 j := row_keep hR.2.1 F1 F2 (by decide) (by decide) (by decide) (by decide)
  have t1 : ∀ j, j < 3 → M2.1 12 j = M2.1 58 j := row_keep hR.2.2.1 F1 F2 (by decide) (by decide) (by decide) (by decide)
  have t2 : ∀ j, j < 8 → M2.1 25 j = M2.1 80 j := row_eq hR.2.2.2 Iff.rfl E1 E2 F1 F2 (by decide) (by decide)
  have ans : a1 = a2 := ans3 A1 A2 (fun c => by have := (ig_23_2 hX.1); rw [F1.at 80 _ (noW_in (by decide) _), hR.2.2.2 _ (by omega)])
  have hl2 : (M.1 1 12).toInt ≤ (M2.1 1 12).toInt := by rw [F2.at 1 12 (by decide), F1.at 1 12 (by decide)]; exact Int.le_refl _
  have bk2 : BK M2 := BK_keep hB F1 F2 (by decide) (by decide) hl2
  have sl2 : SL M2 := SL_keep hS F1 F2 (by decide) (by decide)
  have gr2 : GR M2 := row_keep hG F1 F2 (by decide) (by decide) (by decide) (by decide)
  show GL Γ M2 700 (LL b base y) [.int r2]
  refine l_pop X dL_law_700 rfl ?_
  refine l_goto X (tgt := 1445) dL_law_701 (by decide) ?_
  exact kk M2 ⟨⟨⟨hX2, hM2, ⟨⟨s0, s1, s2, s3, s4, s5, s6⟩, t0, t1, t2⟩, tM2⟩, bk2⟩, sl2, gr2⟩
set_option maxHeartbeats 4000000 in
theorem cs_learn (X : gLX Γ base b N xs) {n i : Nat} {y : Int32} (hy : y.toInt = i) (hi : i + 6 ≤ N) (hN : N ≤ 3072) (hn : n ≤ 512) {M : Mem} (h : LJ2 n M) (kk : ∀ M', LJ2 (n + 1) M' → GL Γ M' 1445 (LL b base y) []) : GL Γ M 704 (LL b base y) [] := by
  obtain ⟨⟨⟨hX, hM, hR, ht0, ht1⟩, hB⟩, hS, hG⟩ := h
  refine l_aload X 1 rfl dL_law_704 ?_
  refine l_arg X hy hi hN 1 ⟨by decide, by decide⟩ dL_law_705 dL_law_706 dL_law_707 dL_law_708 dL_law_709 ?_
  refine l_arg X hy hi hN 2 ⟨by decide, by decide⟩ dL_law_710 dL_law_711 dL_law_712 dL_law_713 dL_law_714 ?_
  refine l_arg X hy hi hN 3 ⟨by decide, by decide⟩ dL_law_715 dL_law_716 dL_law_717 dL_law_718 dL_law_719 ?_
  refine l_arg X hy hi hN 4 ⟨by decide, by decide⟩ dL_law_720 dL_law_721 dL_law_722 dL_law_723 dL_law_724 ?_
  refine l_callV X m_L_78 (c_X6_learn_E (fun k => base + k) M (xs (i + 1)) rfl (xs (i + 2)) rfl (xs (i + 3)) rfl (xs (i + 4)) rfl hX.1) rfl (by decide) (Nat.le_of_ble_eq_true rfl) (S := []) rfl dL_law_725 (fun v M1 q1 => ?_)
  obtain ⟨r1, a1, rfl, e1, A1, E1, I1, F1⟩ := q1
  have F1 : Fr W_X6_learn_E M M1 := F1
  have hX1 : LX M1 := gen_LX hX F1 I1 (by decide)
  have hM1 : LM M1 := LM_fr hM F1 (by decide)
  have tM1 : (M1.1 47 23).toInt = (M.1 47 23).toInt := by rw [F1.at 47 23 (by decide)]
  show GL Γ M1 728 (LL b base y) [.int r1]
  refine l_pop X dL_law_728 rfl ?_
  refine l_aload X 2 rfl dL_law_729 ?_
  refine l_arg X hy hi hN 1 ⟨by decide, by decide⟩ dL_law_730 dL_law_731 dL_law_732 dL_law_733 dL_law_734 ?_
  refine l_arg X hy hi hN 2 ⟨by decide, by decide⟩ dL_law_735 dL_law_736 dL_law_737 dL_law_738 dL_law_739 ?_
  refine l_arg X hy hi hN 3 ⟨by decide, by decide⟩ dL_law_740 dL_law_741 dL_law_742 dL_law_743 dL_law_744 ?_
  refine l_arg X hy hi hN 4 ⟨by decide, by decide⟩ dL_law_745 dL_law_746 dL_law_747 dL_law_748 dL_law_749 ?_
  refine l_callV X m_L_82 (c_X7_learn_E (fun k => base + k) M1 (xs (i + 1)) rfl (xs (i + 2)) rfl (xs (i + 3)) rfl (xs (i + 4)) rfl hM1.1) rfl (by decide) (Nat.le_of_ble_eq_true rfl) (S := []) rfl dL_law_750 (fun v M2 q2 => ?_)
  obtain ⟨r2, a2, rfl, e2, A2, E2, I2, F2⟩ := q2
  have F2 : Fr W_X7_learn_E M1 M2 := F2
  have hX2 : LX M2 := LX_fr hX1 F2 (by decide)
  have hM2 : LM M2 := gen_LM hM1 F2 I2 (by decide)
  have tM2 : 0 ≤ (M2.1 47 23).toInt ∧ (M2.1 47 23).toInt ≤ n + 1 := by rw [F2.at 47 23 (by decide)]; omega
  have g_47_52 : (M1.1 47 52).toInt = (M.1 23 2).toInt := by rw [F1.at 47 52 (by decide)]; exact hR.1.2.2.2.2.1.symm
  have g_47_12 : (M1.1 47 12).toInt = (M.1 1 12).toInt := by rw [F1.at 47 12 (by decide)]; exact hR.1.2.1.symm
  have g_47_53 : (M1.1 47 53).toInt = (M.1 23 7).toInt := by rw [F1.at 47 53 (by decide)]; exact hR.1.2.2.2.2.2.1.symm
  simp only [g_47_52, g_47_12, g_47_53] at A2 E2
  have s0 : (M2.1 1 3).toInt = (M2.1 47 11).toInt := sc_keep hR.1.1 F1 F2 (by decide) (by decide) (by decide) (by decide)
  have s1 : (M2.1 1 12).toInt = (M2.1 47 12).toInt := sc_keep hR.1.2.1 F1 F2 (by decide) (by decide) (by decide) (by decide)
  have s2 : (M2.1 14 1).toInt = (M2.1 47 20).toInt := sc_keep hR.1.2.2.1 F1 F2 (by decide) (by decide) (by decide) (by decide)
  have s3 : (M2.1 14 12).toInt = (M2.1 47 24).toInt := sc_keep hR.1.2.2.2.1 F1 F2 (by decide) (by decide) (by decide) (by decide)
  have s4 : (M2.1 23 2).toInt = (M2.1 47 52).toInt := sc_keep hR.1.2.2.2.2.1 F1 F2 (by decide) (by decide) (by decide) (by decide)
  have s5 : (M2.1 23 7).toInt = (M2.1 47 53).toInt := by rw [F2.at 23 7 (by decide)]; exact ans2 E1.1 E2.1
  have s6 : (M2.1 0 7).toInt = (M2.1 47 43).toInt := sc_keep hR.1.2.2.2.2.2.2 F1 F2 (by decide) (by decide) (by decide) (by decide)
  have t0 : ∀ j, j < 10 → M2.1 5 j = M2.1 51 j := row_keep hR.2.1 F1 F2 (by decide) (by decide) (by decide) (by decide)
  have t1 : ∀ j, j < 3 → M2.1 12 j = M2.1 58 j := row_keep hR.2.2.1 F1 F2 (by decide) (by decide) (by decide) (by decide)
  have t2 : ∀ j, j < 8 → M2.1 25 j = M2.1 80 j := row_keep hR.2.2.2 F1 F2 (by decide) (by decide) (by decide) (by decide)
  have ans : a1 = a2 := ans4 A1 A2
  have zn := (ig_23_7 hX.1).1
  have bk2 : BK M2 := ⟨row_keep hB.1 F1 F2 (by decide) (by decide) (by decide) (by decide), row_eq hB.2.1 Iff.rfl E1.2.1 E2.2.1 F1 F2 (by decide) (by decide), row_eq hB.2.2.1 Iff.rfl E1.2.2.1 E2.2.2.1 F1 F2 (by decide) (by decide), row_eq hB.2.2.2.1 Iff.rfl E1.2.2.2.1 E2.2.2.2.1 F1 F2 (by decide) (by decide), row_eq hB.2.2.2.2.1 Iff.rfl E1.2.2.2.2 E2.2.2.2.2 F1 F2 (by decide) (by decide), fun k hk => by rw [F2.at 28 k (hi_in (by decide) (by decide) k)]; exact bk_hy hB.2.2.2.2.2.1 E1.2.2.2.1 (fun c => by omega) k hk, fun k hk => by rw [F2.at 23 7 (by decide)] at hk; rw [F2.at 27 k (hi_in (by decide) (by decide) k), F2.at 1 12 (by decide), F1.at 1 12 (by decide)]; exact bk_hw zn hB.2.2.2.2.2.2 E1.2.2.1 E1.1 (fun c => by omega) k hk⟩
  have sl2 : SL M2 := SL_keep hS F1 F2 (by decide) (by decide)
  have gr2 : GR M2 := row_keep hG F1 F2 (by decide) (by decide) (by decide) (by decide)
  show GL Γ M2 753 (LL b base y) [.int r2]
  refine l_pop X dL_law_753 rfl ?_
  refine l_goto X (tgt := 1445) dL_law_754 (by decide) ?_
  exact kk M2 ⟨⟨⟨hX2, hM2, ⟨⟨s0, s1, s2, s3, s4, s5, s6⟩, t0, t1, t2⟩, tM2⟩, bk2⟩, sl2, gr2⟩
set_option maxHeartbeats 4000000 in
theorem cs_forget (X : gLX Γ base b N xs) {n i : Nat} {y : Int32} (hy : y.toInt = i) (hi : i + 6 ≤ N) (hN : N ≤ 3072) (hn : n ≤ 512) {M : Mem} (h : LJ2 n M) (kk : ∀ M', LJ2 (n + 1) M' → GL Γ M' 1445 (LL b base y) []) : GL Γ M 757 (LL b base y) [] := by
  obtain ⟨⟨⟨hX, hM, hR, ht0, ht1⟩, hB⟩, hS, hG⟩ := h
  refine l_aload X 1 rfl dL_law_757 ?_
  refine l_arg X hy hi hN 1 ⟨by decide, by decide⟩ dL_law_758 dL_law_759 dL_law_760 dL_law_761 dL_law_762 ?_
  refine l_arg X hy hi hN 2 ⟨by decide, by decide⟩ dL_law_763 dL_law_764 dL_law_765 dL_law_766 dL_law_767 ?_
  refine l_arg X hy hi hN 3 ⟨by decide, by decide⟩ dL_law_768 dL_law_769 dL_law_770 dL_law_771 dL_law_772 ?_
  refine l_callV X m_L_83 (c_X6_forget_E (fun k => base + k) M (xs (i + 1)) rfl (xs (i + 2)) rfl (xs (i + 3)) rfl hX.1) rfl (by decide) (Nat.le_of_ble_eq_true rfl) (S := []) rfl dL_law_773 (fun v M1 q1 => ?_)
  obtain ⟨r1, a1, rfl, e1, A1, E1, I1, F1⟩ := q1
  have F1 : Fr W_X6_forget_E M M1 := F1
  have hX1 : LX M1 := gen_LX hX F1 I1 (by decide)
  have hM1 : LM M1 := LM_fr hM F1 (by decide)
  have tM1 : (M1.1 47 23).toInt = (M.1 47 23).toInt := by rw [F1.at 47 23 (by decide)]
  show GL Γ M1 776 (LL b base y) [.int r1]
  refine l_pop X dL_law_776 rfl ?_
  refine l_aload X 2 rfl dL_law_777 ?_
  refine l_arg X hy hi hN 1 ⟨by decide, by decide⟩ dL_law_778 dL_law_779 dL_law_780 dL_law_781 dL_law_782 ?_
  refine l_arg X hy hi hN 2 ⟨by decide, by decide⟩ dL_law_783 dL_law_784 dL_law_785 dL_law_786 dL_law_787 ?_
  refine l_arg X hy hi hN 3 ⟨by decide, by decide⟩ dL_law_788 dL_law_789 dL_law_790 dL_law_791 dL_law_792 ?_
  refine l_callV X m_L_86 (c_X7_forget_E (fun k => base + k) M1 (xs (i + 1)) rfl (xs (i + 2)) rfl (xs (i + 3)) rfl hM1.1) rfl (by decide) (Nat.le_of_ble_eq_true rfl) (S := []) rfl dL_law_793 (fun v M2 q2 => ?_)
  obtain ⟨r2, a2, rfl, e2, A2, E2, I2, F2⟩ := q2
  have F2 : Fr W_X7_forget_E M1 M2 := F2
  have hX2 : LX M2 := LX_fr hX1 F2 (by decide)
  have hM2 : LM M2 := gen_LM hM1 F2 I2 (by decide)
  have tM2 : 0 ≤ (M2.1 47 23).toInt ∧ (M2.1 47 23).toInt ≤ n + 1 := by rw [F2.at 47 23 (by decide)]; omega
  have g_47_52 : (M1.1 47 52).toInt = (M.1 23 2).toInt := by rw [F1.at 47 52 (by decide)]; exact hR.1.2.2.2.2.1.symm
  have g_47_12 : (M1.1 47 12).toInt = (M.1 1 12).toInt := by rw [F1.at 47 12 (by decide)]; exact hR.1.2.1.symm
  have g_47_53 : (M1.1 47 53).toInt = (M.1 23 7).toInt := by rw [F1.at 47 53 (by decide)]; exact hR.1.2.2.2.2.2.1.symm
  simp only [g_47_52, g_47_12, g_47_53] at A2 E2
  have s0 : (M2.1 1 3).toInt = (M2.1 47 11).toInt := sc_keep hR.1.1 F1 F2 (by decide) (by decide) (by decide) (by decide)
  have s1 : (M2.1 1 12).toInt = (M2.1 47 12).toInt := sc_keep hR.1.2.1 F1 F2 (by decide) (by decide) (by decide) (by decide)
  have s2 : (M2.1 14 1).toInt = (M2.1 47 20).toInt := sc_keep hR.1.2.2.1 F1 F2 (by decide) (by decide) (by decide) (by decide)
  have s3 : (M2.1 14 12).toInt = (M2.1 47 24).toInt := sc_keep hR.1.2.2.2.1 F1 F2 (by decide) (by decide) (by decide) (by decide)
  have s4 : (M2.1 23 2).toInt = (M2.1 47 52).toInt := sc_keep hR.1.2.2.2.2.1 F1 F2 (by decide) (by decide) (by decide) (by decide)
  have s5 : (M2.1 23 7).toInt = (M2.1 47 53).toInt := by rw [F2.at 23 7 (by decide)]; exact ans2 E1.1 E2.1
  have s6 : (M2.1 0 7).toInt = (M2.1 47 43).toInt := sc_keep hR.1.2.2.2.2.2.2 F1 F2 (by decide) (by decide) (by decide) (by decide)
  have t0 : ∀ j, j < 10 → M2.1 5 j = M2.1 51 j := row_keep hR.2.1 F1 F2 (by decide) (by decide) (by decide) (by decide)
  have t1 : ∀ j, j < 3 → M2.1 12 j = M2.1 58 j := row_keep hR.2.2.1 F1 F2 (by decide) (by decide) (by decide) (by decide)
  have t2 : ∀ j, j < 8 → M2.1 25 j = M2.1 80 j := row_keep hR.2.2.2 F1 F2 (by decide) (by decide) (by decide) (by decide)
  have ans : a1 = a2 := ans4 A1 A2
  have zn := (ig_23_7 hX.1).1
  have bk2 : BK M2 := ⟨row_keep hB.1 F1 F2 (by decide) (by decide) (by decide) (by decide), row_eq hB.2.1 Iff.rfl E1.2.1 E2.2.1 F1 F2 (by decide) (by decide), row_eq hB.2.2.1 Iff.rfl E1.2.2.1 E2.2.2.1 F1 F2 (by decide) (by decide), row_eq hB.2.2.2.1 Iff.rfl E1.2.2.2.1 E2.2.2.2.1 F1 F2 (by decide) (by decide), row_eq hB.2.2.2.2.1 Iff.rfl E1.2.2.2.2 E2.2.2.2.2 F1 F2 (by decide) (by decide), fun k hk => by rw [F2.at 28 k (hi_in (by decide) (by decide) k)]; exact bk_hy hB.2.2.2.2.2.1 E1.2.2.2.1 (fun c => by omega) k hk, fun k hk => by rw [F2.at 23 7 (by decide)] at hk; rw [F2.at 27 k (hi_in (by decide) (by decide) k), F2.at 1 12 (by decide), F1.at 1 12 (by decide)]; exact bk_hw zn hB.2.2.2.2.2.2 E1.2.2.1 E1.1 (fun c => by omega) k hk⟩
  have sl2 : SL M2 := SL_keep hS F1 F2 (by decide) (by decide)
  have gr2 : GR M2 := row_keep hG F1 F2 (by decide) (by decide) (by decide) (by decide)
  show GL Γ M2 796 (LL b base y) [.int r2]
  refine l_pop X dL_law_796 rfl ?_
  refine l_goto X (tgt := 1445) dL_law_797 (by decide) ?_
  exact kk M2 ⟨⟨⟨hX2, hM2, ⟨⟨s0, s1, s2, s3, s4, s5, s6⟩, t0, t1, t2⟩, tM2⟩, bk2⟩, sl2, gr2⟩
end
