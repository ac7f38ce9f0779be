section
theorem ans2 {C : Prop} {a a' u v : Int} (h : (C ∧ a = u) ∨ (¬ C ∧ a = v)) (h' : (C ∧ a' = u) ∨ (¬ C ∧ a' = v)) : a = a' := by
  rcases h with ⟨c, e⟩ | ⟨c, e⟩ <;> rcases h' with ⟨c', e'⟩ | ⟨c', e'⟩
  · rw [e, e']
  · exact absurd c c'
  · exact absurd c' c
  · rw [e, e']
theorem ans2f {C B : Prop} {a a' u v : Int} (h : (C ∧ B ∧ a = u) ∨ (¬ (C ∧ B) ∧ a = v)) (h' : (C ∧ B ∧ a' = u) ∨ (¬ (C ∧ B) ∧ a' = v)) : a = a' := by
  rcases h with ⟨c, c1, e⟩ | ⟨c, e⟩ <;> rcases h' with ⟨c', c1', e'⟩ | ⟨c', e'⟩
  · rw [e, e']
  · exact absurd ⟨c, c1⟩ c'
  · exact absurd ⟨c', c1'⟩ c
  · rw [e, e']
theorem ans3 {C B : Prop} {a a' u v z z' : Int} (h : (C ∧ a = u) ∨ (¬ C ∧ B ∧ a = v) ∨ (¬ C ∧ ¬ B ∧ a = z)) (h' : (C ∧ a' = u) ∨ (¬ C ∧ B ∧ a' = v) ∨ (¬ C ∧ ¬ B ∧ a' = z')) (hz : ¬ C → z = z') : a = a' := by
  rcases h with ⟨c, e⟩ | ⟨c, d, e⟩ | ⟨c, d, e⟩ <;> rcases h' with ⟨c', e'⟩ | ⟨c', d', e'⟩ | ⟨c', d', e'⟩ <;> first | exact absurd c c' | exact absurd c' c | exact absurd d d' | exact absurd d' d | (rw [e, e']; done) | (rw [e, e', hz c])
theorem ans4 {C B A : Prop} {a a' u v z y : Int} (h : (C ∧ a = u) ∨ (¬ C ∧ B ∧ a = v) ∨ (¬ C ∧ ¬ B ∧ A ∧ a = z) ∨ (¬ C ∧ ¬ B ∧ ¬ A ∧ a = y)) (h' : (C ∧ a' = u) ∨ (¬ C ∧ B ∧ a' = v) ∨ (¬ C ∧ ¬ B ∧ A ∧ a' = z) ∨ (¬ C ∧ ¬ B ∧ ¬ A ∧ a' = y)) : a = a' := by
  rcases h with ⟨c, e⟩ | ⟨c, d, e⟩ | ⟨c, d, f, e⟩ | ⟨c, d, f, e⟩ <;> rcases h' with ⟨c', e'⟩ | ⟨c', d', e'⟩ | ⟨c', d', f', e'⟩ | ⟨c', d', f', e'⟩ <;> first | exact absurd c c' | exact absurd c' c | exact absurd d d' | exact absurd d' d | exact absurd f f' | exact absurd f' f | (rw [e, e'])
theorem sc_keep {W W' : List (Nat × Nat)} {M M1 M2 : Mem} {k j k' j' : Nat} (h : (M.1 k j).toInt = (M.1 k' j').toInt) (F : Fr W M M1) (F' : Fr W' M1 M2) (h1 : inW W k j = false) (h2 : inW W k' j' = false) (h3 : inW W' k j = false) (h4 : inW W' k' j' = false) : (M2.1 k j).toInt = (M2.1 k' j').toInt := by
  rw [F'.at k j h3, F.at k j h1, F'.at k' j' h4, F.at k' j' h2]
  exact h
theorem gen_LX {W : List (Nat × Nat)} {M M1 : Mem} (h : LX M) (F : Fr W M M1) (I : Iv TX M1) (hw : inW W 33 12 = false) : LX M1 := ⟨I, by rw [F.atL 33 12 hw]; exact h.2⟩
theorem gen_LM {W : List (Nat × Nat)} {M M1 : Mem} (h : LM M) (F : Fr W M M1) (I : Iv TM M1) (hw : (noW W 61 && (noW W 62 && ((noW W 63 && !inW W 47 23) && !inW W 47 34))) = true) : LM M1 := by
  rw [Bool.and_eq_true, Bool.and_eq_true, Bool.and_eq_true] at hw
  obtain ⟨h1, h2, h3, h4⟩ := hw
  have h5 : noW W 63 = true := by rw [Bool.and_eq_true] at h3; exact h3.1
  exact ⟨I, WFM_fr0 h.2.1 F (noW_in h1) (noW_in h2) (noW_in h5), WFT_fr h.2.2.1 F h3, by rw [F.atL 47 34 (by simpa using h4)]; exact h.2.2.2⟩
def SL (M : Mem) : Prop := ∀ l : Nat, l < 64 → b64 (M.2 1 11) l = (decide ((l : Int) < (M.1 1 12).toInt) && decide ((M.1 57 l).toInt = 1))
theorem SL_keep {W W' : List (Nat × Nat)} {M M1 M2 : Mem} (h : SL M) (F : Fr W M M1) (F' : Fr W' M1 M2) (hw : ((!inW W 1 11 && !inW W 1 12) && noW W 57) = true) (hw' : ((!inW W' 1 11 && !inW W' 1 12) && noW W' 57) = true) : SL M2 := by
  simp only [Bool.and_eq_true, Bool.not_eq_true'] at hw hw'
  intro l hl
  rw [F'.atL 1 11 hw'.1.1, F.atL 1 11 hw.1.1, F'.at 1 12 hw'.1.2, F.at 1 12 hw.1.2, F'.at 57 l (noW_in hw'.2 l), F.at 57 l (noW_in hw.2 l)]
  exact h l hl
theorem SL_line {W W' : List (Nat × Nat)} {M M1 M2 : Mem} {C : Prop} {x : Int32} (h : SL M) (F : Fr W M M1) (F' : Fr W' M1 M2) (gl : 0 ≤ (M.1 1 12).toInt ∧ (M.1 1 12).toInt ≤ 40) (p : (C → M1.2 1 11 = M.2 1 11) ∧ (¬ C → ∀ l : Nat, l < 64 → b64 (M1.2 1 11) l = (b64 (M.2 1 11) l || (decide ((l : Int) = (M.1 1 12).toInt) && decide (x.toInt = 1))))) (p2 : (C → M2.1 57 = M1.1 57) ∧ (¬ C → M2.1 57 = (ui M1 57 ((M.1 1 12).toInt).toNat x).1 57)) (e : (C ∧ (M1.1 1 12).toInt = (M.1 1 12).toInt) ∨ (¬ C ∧ (M1.1 1 12).toInt = (M.1 1 12).toInt + 1)) (h57 : noW W 57 = true) (h11 : inW W' 1 11 = false) (h12 : inW W' 1 12 = false) : SL M2 := by
  intro l hl
  rw [F'.atL 1 11 h11, F'.at 1 12 h12]
  rcases e with ⟨c, e⟩ | ⟨c, e⟩
  · rw [p.1 c, e, p2.1 c, F.at 57 l (noW_in h57 l)]
    exact h l hl
  · rw [p.2 c l hl, e, p2.2 c, h l hl]
    by_cases q : l = ((M.1 1 12).toInt).toNat
    · rw [q, ui_eq]
      have e1 : ((((M.1 1 12).toInt).toNat : Nat) : Int) = (M.1 1 12).toInt := by omega
      rw [e1, decide_eq_false (Int.lt_irrefl _), decide_eq_true (show (M.1 1 12).toInt = (M.1 1 12).toInt from rfl), decide_eq_true (show (M.1 1 12).toInt < (M.1 1 12).toInt + 1 by omega)]
      simp
    · rw [ui_nj q, F.at 57 l (noW_in h57 l)]
      have n1 : ¬ ((l : Int) = (M.1 1 12).toInt) := by omega
      rw [decide_eq_false n1]
      simp only [Bool.false_and, Bool.or_false]
      by_cases q2 : (l : Int) < (M.1 1 12).toInt
      · rw [decide_eq_true q2, decide_eq_true (show (l : Int) < (M.1 1 12).toInt + 1 by omega)]
      · rw [decide_eq_false q2, decide_eq_false (show ¬ (l : Int) < (M.1 1 12).toInt + 1 by omega)]
def VR (M : Mem) : Prop := (∀ j, j < 40 → M.1 2 j = M.1 48 j) ∧ (∀ j, j < 40 → M.1 3 j = M.1 49 j) ∧ (∀ j, j < 40 → M.1 4 j = M.1 50 j) ∧ (∀ j, j < 10 → M.1 6 j = M.1 52 j) ∧ (∀ j, j < 40 → M.1 7 j = M.1 53 j) ∧ (∀ j, j < 40 → M.1 8 j = M.1 54 j) ∧ (∀ j, j < 40 → M.1 9 j = M.1 55 j) ∧ (∀ j, j < 40 → M.1 10 j = M.1 56 j) ∧ ((M.1 1 15).toInt = (M.1 47 14).toInt) ∧ (∀ j : Nat, (j : Int) < (M.1 1 15).toInt → M.1 13 j = M.1 59 j)
def SR (M : Mem) : Prop := ∀ l : Nat, (l : Int) < (M.1 47 12).toInt → (M.1 57 l).toInt = 0 ∨ (M.1 57 l).toInt = 1
def VV (M : Mem) : Prop := VR M ∧ VAL M ∧ VLN M ∧ SL M ∧ SR M
def vkL : List Nat := [2, 3, 4, 6, 7, 8, 9, 10, 13, 48, 49, 50, 51, 52, 53, 54, 55, 56, 57, 58, 59]
def vkW (W : List (Nat × Nat)) : Bool := vkL.all (fun c => noW W c) && (!inW W 1 11 && (!inW W 1 12 && (!inW W 1 15 && (!inW W 47 11 && (!inW W 47 12 && !inW W 47 14)))))
theorem VV_fr {W : List (Nat × Nat)} {M M1 : Mem} (h : VV M) (F : Fr W M M1) (hw : vkW W = true) : VV M1 := by
  unfold vkW at hw
  simp only [Bool.and_eq_true, Bool.not_eq_true'] at hw
  obtain ⟨hr, h1, h2, h3, h4, h5, h6⟩ := hw
  have r : ∀ c, c ∈ vkL → M1.1 c = M.1 c := fun c hc => row_fr F (List.all_eq_true.mp hr c hc)
  unfold VV VR VAL VLN SL SR
  rw [r 2 (by decide), r 3 (by decide), r 4 (by decide), r 6 (by decide), r 7 (by decide), r 8 (by decide), r 9 (by decide), r 10 (by decide), r 13 (by decide), r 48 (by decide), r 49 (by decide), r 50 (by decide), r 51 (by decide), r 52 (by decide), r 53 (by decide), r 54 (by decide), r 55 (by decide), r 56 (by decide), r 57 (by decide), r 58 (by decide), r 59 (by decide), F.atL 1 11 h1, F.at 1 12 h2, F.at 1 15 h3, F.at 47 11 h4, F.at 47 12 h5, F.at 47 14 h6]
  exact h
theorem VAL_half {M M' : Mem} {C : Prop} {x1 x2 x3 : Int32} (hv : VAL M) (hb : 0 ≤ (M.1 47 11).toInt) (p1 : (C → M'.1 48 = M.1 48) ∧ (¬ C → M'.1 48 = (ui M 48 ((M.1 47 11).toInt).toNat x1).1 48)) (p2 : (C → M'.1 49 = M.1 49) ∧ (¬ C → M'.1 49 = (ui M 49 ((M.1 47 11).toInt).toNat x2).1 49)) (p3 : (C → M'.1 50 = M.1 50) ∧ (¬ C → M'.1 50 = (ui M 50 ((M.1 47 11).toInt).toNat x3).1 50))
    (e : (C ∧ (M'.1 47 11).toInt = (M.1 47 11).toInt) ∨ (¬ C ∧ (M'.1 47 11).toInt = (M.1 47 11).toInt + 1)) (hx : ¬ C → (1 ≤ x1.toInt ∧ x1.toInt ≤ 8) ∧ (0 ≤ x2.toInt ∧ x2.toInt < sh x1) ∧ (-1 ≤ x3.toInt ∧ x3.toInt ≤ x1.toInt)) (r51 : M'.1 51 = M.1 51) (r52 : M'.1 52 = M.1 52) (r58 : M'.1 58 = M.1 58) : VAL M' := by
  refine ⟨fun h hh => ?_, by rw [r51, r52]; exact hv.2.1, by rw [r58]; exact hv.2.2⟩
  rcases e with ⟨c, e⟩ | ⟨c, e⟩
  · rw [p1.1 c, p2.1 c, p3.1 c]
    exact hv.1 h (by omega)
  · rw [p1.2 c, p2.2 c, p3.2 c]
    by_cases q : h = ((M.1 47 11).toInt).toNat
    · rw [q, ui_eq, ui_eq, ui_eq]
      exact hx c
    · rw [ui_nj q, ui_nj q, ui_nj q]
      exact hv.1 h (by omega)
theorem VAL_name {M M' : Mem} {C : Prop} {x2 x3 : Int32} {i : Nat} (hv : VAL M) (p1 : (C → M'.1 51 = M.1 51) ∧ (¬ C → M'.1 51 = (ui M 51 i x2).1 51)) (p2 : (C → M'.1 52 = M.1 52) ∧ (¬ C → M'.1 52 = (ui M 52 i x3).1 52)) (hx : ¬ C → (1 ≤ x2.toInt ∧ x2.toInt ≤ 4) ∧ (0 ≤ x3.toInt ∧ x3.toInt < sh x2)) (r11 : M'.1 47 11 = M.1 47 11) (r48 : M'.1 48 = M.1 48) (r49 : M'.1 49 = M.1 49) (r50 : M'.1 50 = M.1 50) (r58 : M'.1 58 = M.1 58) : VAL M' := by
  refine ⟨by rw [r11, r48, r49, r50]; exact hv.1, fun n hn => ?_, by rw [r58]; exact hv.2.2⟩
  by_cases c : C
  · rw [p1.1 c, p2.1 c]
    exact hv.2.1 n hn
  · rw [p1.2 c, p2.2 c]
    by_cases q : n = i
    · rw [q, ui_eq, ui_eq]
      exact hx c
    · rw [ui_nj q, ui_nj q]
      exact hv.2.1 n hn
theorem VAL_metre {M M' : Mem} {C : Prop} {x1 x2 : Int32} (hv : VAL M) (p1 : (C → M'.1 58 = M.1 58) ∧ (¬ C → M'.1 58 = (ui M 58 x1.toInt.toNat x2).1 58)) (hx : ¬ C → (0 ≤ x1.toInt ∧ x1.toInt ≤ 2) ∧ ((x1.toInt = 2 ∧ 0 ≤ x2.toInt ∧ x2.toInt ≤ 16777215) ∨ (x1.toInt ≠ 2 ∧ 1 ≤ x2.toInt ∧ x2.toInt ≤ 12))) (r11 : M'.1 47 11 = M.1 47 11) (r48 : M'.1 48 = M.1 48) (r49 : M'.1 49 = M.1 49) (r50 : M'.1 50 = M.1 50) (r51 : M'.1 51 = M.1 51) (r52 : M'.1 52 = M.1 52) : VAL M' := by
  refine ⟨by rw [r11, r48, r49, r50]; exact hv.1, by rw [r51, r52]; exact hv.2.1, ?_⟩
  by_cases c : C
  · rw [p1.1 c]
    exact hv.2.2
  · rw [p1.2 c]
    obtain ⟨h1, h2⟩ := hx c
    have v0 := hv.2.2
    refine ⟨?_, ?_⟩
    · by_cases q : 0 = x1.toInt.toNat
      · rw [← q, ui_eq]; omega
      · rw [ui_nj q]; exact v0.1
    · by_cases q : 2 = x1.toInt.toNat
      · rw [← q, ui_eq]; omega
      · rw [ui_nj q]; exact v0.2
theorem VLN_line {M M' : Mem} {C : Prop} {x1 x2 : Int32} (hv : VLN M) (hb : 0 ≤ (M.1 47 12).toInt) (p1 : (C → M'.1 53 = M.1 53) ∧ (¬ C → M'.1 53 = (ui M 53 ((M.1 47 12).toInt).toNat x1).1 53)) (p2 : (C → M'.1 54 = M.1 54) ∧ (¬ C → M'.1 54 = (ui M 54 ((M.1 47 12).toInt).toNat x2).1 54)) (e : (C ∧ (M'.1 47 12).toInt = (M.1 47 12).toInt) ∨ (¬ C ∧ (M'.1 47 12).toInt = (M.1 47 12).toInt + 1)) (hx : ¬ C → x1.toInt < (M.1 47 11).toInt ∧ x2.toInt < (M.1 47 11).toInt) (r11 : M'.1 47 11 = M.1 47 11) : VLN M' := by
  intro l hl
  rw [r11]
  rcases e with ⟨c, e⟩ | ⟨c, e⟩
  · rw [p1.1 c, p2.1 c]
    exact hv l (by omega)
  · rw [p1.2 c, p2.2 c]
    by_cases q : l = ((M.1 47 12).toInt).toNat
    · rw [q, ui_eq, ui_eq]
      exact hx c
    · rw [ui_nj q, ui_nj q]
      exact hv l (by omega)
theorem SR_line {M M' : Mem} {C : Prop} {x : Int32} (hv : SR M) (hb : 0 ≤ (M.1 47 12).toInt) (p : (C → M'.1 57 = M.1 57) ∧ (¬ C → M'.1 57 = (ui M 57 ((M.1 47 12).toInt).toNat x).1 57)) (e : (C ∧ (M'.1 47 12).toInt = (M.1 47 12).toInt) ∨ (¬ C ∧ (M'.1 47 12).toInt = (M.1 47 12).toInt + 1)) (hx : ¬ C → x.toInt = 0 ∨ x.toInt = 1) : SR M' := by
  intro l hl
  rcases e with ⟨c, e⟩ | ⟨c, e⟩
  · rw [p.1 c]
    exact hv l (by omega)
  · rw [p.2 c]
    by_cases q : l = ((M.1 47 12).toInt).toNat
    · rw [q, ui_eq]
      exact hx c
    · rw [ui_nj q]
      exact hv l (by omega)
theorem brk_keep {W W' : List (Nat × Nat)} {M M1 M2 : Mem} (h : ∀ j : Nat, (j : Int) < (M.1 1 15).toInt → M.1 13 j = M.1 59 j) (F : Fr W M M1) (F' : Fr W' M1 M2) (h1 : inW W 1 15 = false) (h2 : inW W' 1 15 = false) (a1 : noW W 13 = true) (a2 : noW W 59 = true) (a3 : noW W' 13 = true) (a4 : noW W' 59 = true) : ∀ j : Nat, (j : Int) < (M2.1 1 15).toInt → M2.1 13 j = M2.1 59 j := by
  rw [F'.at 1 15 h2, F.at 1 15 h1, row_fr F' a3, row_fr F a1, row_fr F' a4, row_fr F a2]
  exact h
theorem FX_eq {M : Mem} (h : VR M) (h5 : ∀ j, j < 10 → M.1 5 j = M.1 51 j) (h12 : ∀ j, j < 3 → M.1 12 j = M.1 58 j) {k n : Nat} (hk : k < 40) (hn : n < 10) : FX M k n = FM M k n ∧ SX M k n = SM M k n := by
  unfold FX FM SX SM ffb fsb
  rw [h.1 k hk, h.2.1 k hk, h.2.2.1 k hk, h.2.2.2.1 n hn, h5 n hn, h12 0 (by omega), h12 1 (by omega), h12 2 (by omega)]
  exact ⟨rfl, rfl⟩
theorem SWP_vln {F S : Nat → Bool} {nh nl : Nat} {h o c a : Int} {H A B H1 A1 B1 L : Nat → Int32} (p : SWP F S nh nl h o H A B H1 A1 B1 c L a) (hnl : nl ≤ 40) (hv : ∀ j, j < nl → (A j).toInt < nh ∧ (B j).toInt < nh) : ∀ j, j < nl → (A1 j).toInt < nh ∧ (B1 j).toInt < nh := by
  obtain ⟨lf, ls, x1, x2, x3, x4, x5⟩ := p
  intro j hj
  have v := hv j hj
  obtain ⟨-, u1, u2⟩ := x4 j (by omega)
  refine ⟨?_, ?_⟩
  · rw [u1]
    split
    · rename_i q
      rcases x1 with ⟨z, _⟩ | ⟨_, z, _⟩
      · exact absurd z q.2.2.1
      · exact z
    · exact v.1
  · rw [u2]
    split
    · rename_i q
      rcases x2 with ⟨z, _⟩ | ⟨_, z, _⟩
      · exact absurd z q.2.2.2.1
      · exact z
    · exact v.2
def vkL1 : List Nat := [2, 3, 4, 6, 9, 48, 49, 50, 51, 52, 53, 54, 55, 56, 57, 58, 59]
def vkL2 : List Nat := [2, 3, 4, 6, 7, 8, 9, 10, 13, 48, 49, 50, 51, 52, 55, 57, 58]
def vkw1 (W : List (Nat × Nat)) : Bool := vkL1.all (fun c => noW W c) && (!inW W 1 11 && (!inW W 1 12 && (!inW W 47 11 && (!inW W 47 12 && !inW W 47 14))))
def vkw2 (W : List (Nat × Nat)) : Bool := vkL2.all (fun c => noW W c) && (!inW W 1 11 && (!inW W 1 12 && (!inW W 47 11 && (!inW W 47 12 && !inW W 1 15))))
theorem swap_both {W W' : List (Nat × Nat)} {M M1 M2 : Mem} {a a' h o : Int} {BAD OK : Prop} (V : VV M) (h5 : ∀ j, j < 10 → M.1 5 j = M.1 51 j) (h12 : ∀ j, j < 3 → M.1 12 j = M.1 58 j) (g11 : (M.1 1 3).toInt = (M.1 47 11).toInt) (g12 : (M.1 1 12).toInt = (M.1 47 12).toInt) (IX : Iv TX M) (hB : ¬ BAD → OK ∧ h ≠ o ∧ 0 ≤ o ∧ o ≤ 9)
    (A : (¬ OK ∧ a = -1) ∨ (¬ (¬ OK) ∧ h = o ∧ a = -2) ∨ (¬ (¬ OK) ∧ ¬ (h = o) ∧ True)) (A' : (¬ OK ∧ a' = -1) ∨ (¬ (¬ OK) ∧ h = o ∧ a' = -2) ∨ (¬ (¬ OK) ∧ ¬ (h = o) ∧ True)) (hB' : BAD → ¬ OK ∨ h = o)
    (E : (BAD → M1 = M) ∧ (¬ BAD → SWP (fun h => FX M h o.toNat) (fun h => SX M h o.toNat) ((M.1 1 3).toInt).toNat ((M.1 1 12).toInt).toNat h o (M.1 10) (M.1 7) (M.1 8) (M1.1 10) (M1.1 7) (M1.1 8) (M1.1 1 15).toInt (M1.1 13) a)) (E' : (BAD → M2 = M1) ∧ (¬ BAD → SWP (fun h => FM M1 h o.toNat) (fun h => SM M1 h o.toNat) ((M1.1 47 11).toInt).toNat ((M1.1 47 12).toInt).toNat h o (M1.1 56) (M1.1 53) (M1.1 54) (M2.1 56) (M2.1 53) (M2.1 54) (M2.1 47 14).toInt (M2.1 59) a'))
    (F : Fr W M M1) (F' : Fr W' M1 M2) (hw : vkw1 W = true) (hw' : vkw2 W' = true) : a = a' ∧ VV M2 := by
  by_cases c : BAD
  · have e1 := E.1 c
    have e2 := E'.1 c
    rw [e1] at e2
    rw [e2]
    refine ⟨?_, V⟩
    rcases hB' c with k | k
    · rcases A with ⟨_, x⟩ | ⟨x, _⟩ | ⟨x, _⟩
      · rcases A' with ⟨_, y⟩ | ⟨y, _⟩ | ⟨y, _⟩
        · rw [x, y]
        · exact absurd k y
        · exact absurd k y
      · exact absurd k x
      · exact absurd k x
    · rcases A with ⟨x0, x⟩ | ⟨x0, _, x⟩ | ⟨_, x, _⟩
      · rcases A' with ⟨_, y⟩ | ⟨y, _, _⟩ | ⟨y, _, _⟩
        · rw [x, y]
        · exact absurd x0 y
        · exact absurd x0 y
      · rcases A' with ⟨y, _⟩ | ⟨_, _, y⟩ | ⟨_, y, _⟩
        · exact absurd y x0
        · rw [x, y]
        · exact absurd k y
      · exact absurd k x
  · have p := E.2 c
    have p' := E'.2 c
    obtain ⟨k0, k1, k2, k3⟩ := hB c
    unfold vkw1 at hw
    unfold vkw2 at hw'
    simp only [Bool.and_eq_true, Bool.not_eq_true'] at hw hw'
    obtain ⟨hr, x1, x2, x3, x4, x5⟩ := hw
    obtain ⟨hr', y1, y2, y3, y4, y5⟩ := hw'
    have r : ∀ c, c ∈ vkL1 → M1.1 c = M.1 c := fun c hc => row_fr F (List.all_eq_true.mp hr c hc)
    have s : ∀ c, c ∈ vkL2 → M2.1 c = M1.1 c := fun c hc => row_fr F' (List.all_eq_true.mp hr' c hc)
    have fm : FM M1 = FM M ∧ SM M1 = SM M := by
      constructor
      · funext a n; unfold FM; rw [r 48 (by decide), r 49 (by decide), r 50 (by decide), r 51 (by decide), r 52 (by decide), r 58 (by decide)]
      · funext a n; unfold SM; rw [r 48 (by decide), r 49 (by decide), r 50 (by decide), r 51 (by decide), r 52 (by decide), r 58 (by decide)]
    rw [fm.1, fm.2, r 53 (by decide), r 54 (by decide), r 56 (by decide), F.at 47 11 x3, F.at 47 12 x4, ← g11, ← g12] at p'
    obtain ⟨⟨v1, v2, v3, v4, v5, v6, v7, v8, v9, v10⟩, va, vl, vs, vr⟩ := V
    have gh := ig_1_3 IX
    have gl := ig_1_12 IX
    have q := SWP_eq p p' (fun k hk => (FX_eq ⟨v1, v2, v3, v4, v5, v6, v7, v8, v9, v10⟩ h5 h12 hk (by omega)).1) (fun k hk => (FX_eq ⟨v1, v2, v3, v4, v5, v6, v7, v8, v9, v10⟩ h5 h12 hk (by omega)).2) (by omega) (by omega) v8 v5 v6 (fun j hj => by have z := ig_7 IX j hj; omega) (fun j hj => by have z := ig_8 IX j hj; omega)
    have w := SWP_vln p' (by omega) (fun j hj => by have z := vl j (by omega); omega)
    obtain ⟨q1, q2, q3, q4, q5, q6⟩ := q
    refine ⟨q1, ⟨?_, ?_, ?_, ?_, ?_, ?_, ?_, ?_, ?_, ?_⟩, ?_, ?_, ?_, ?_⟩
    · rw [s 2 (by decide), s 48 (by decide), r 2 (by decide), r 48 (by decide)]; exact v1
    · rw [s 3 (by decide), s 49 (by decide), r 3 (by decide), r 49 (by decide)]; exact v2
    · rw [s 4 (by decide), s 50 (by decide), r 4 (by decide), r 50 (by decide)]; exact v3
    · rw [s 6 (by decide), s 52 (by decide), r 6 (by decide), r 52 (by decide)]; exact v4
    · rw [s 7 (by decide)]; exact q4
    · rw [s 8 (by decide)]; exact q5
    · rw [s 9 (by decide), s 55 (by decide), r 9 (by decide), r 55 (by decide)]; exact v7
    · rw [s 10 (by decide)]; exact q3
    · rw [F'.at 1 15 y5]; exact q2
    · rw [F'.at 1 15 y5, s 13 (by decide)]; exact q6
    · unfold VAL
      rw [s 48 (by decide), s 49 (by decide), s 50 (by decide), s 51 (by decide), s 52 (by decide), s 58 (by decide), F'.at 47 11 y3, r 48 (by decide), r 49 (by decide), r 50 (by decide), r 51 (by decide), r 52 (by decide), r 58 (by decide), F.at 47 11 x3]
      exact va
    · intro l hl
      rw [F'.at 47 12 y4, F.at 47 12 x4] at hl
      rw [F'.at 47 11 y3, F.at 47 11 x3]
      have z := w l (by omega)
      omega
    · unfold SL
      rw [F'.atL 1 11 y1, F.atL 1 11 x1, F'.at 1 12 y2, F.at 1 12 x2, s 57 (by decide), r 57 (by decide)]
      exact vs
    · unfold SR
      rw [F'.at 47 12 y4, F.at 47 12 x4, s 57 (by decide), r 57 (by decide)]
      exact vr
theorem ans_brk {a a' i c c' : Int} {L K : Nat → Int32} (h : (i = -1 ∧ a = c) ∨ (i ≠ -1 ∧ (0 ≤ i ∧ i < c ∧ i < 40) ∧ a = (L i.toNat).toInt) ∨ (i ≠ -1 ∧ ¬ (0 ≤ i ∧ i < c ∧ i < 40) ∧ a = -1)) (h' : (i = -1 ∧ a' = c') ∨ (i ≠ -1 ∧ (0 ≤ i ∧ i < c' ∧ i < 40) ∧ a' = (K i.toNat).toInt) ∨ (i ≠ -1 ∧ ¬ (0 ≤ i ∧ i < c' ∧ i < 40) ∧ a' = -1)) (hc : c = c') (hl : ∀ j : Nat, (j : Int) < c → L j = K j) : a = a' := by
  subst hc
  rcases h with ⟨c1, e⟩ | ⟨c1, d, e⟩ | ⟨c1, d, e⟩ <;> rcases h' with ⟨c2, e'⟩ | ⟨c2, d', e'⟩ | ⟨c2, d', e'⟩ <;> first | exact absurd c1 c2 | exact absurd c2 c1 | exact absurd d d' | exact absurd d' d | (rw [e, e']; done) | (rw [e, e', hl _ (by omega)])
theorem bb_an2 {P Q : Prop} {a a' : Int} (h : (a = 1 ∧ P) ∨ (a = 0 ∧ ¬ P)) (h' : (a' = 1 ∧ Q) ∨ (a' = 0 ∧ ¬ Q)) (e : P ↔ Q) : a = a' := by
  rcases h with ⟨e1, p⟩ | ⟨e1, p⟩ <;> rcases h' with ⟨e2, p'⟩ | ⟨e2, p'⟩
  · rw [e1, e2]
  · exact absurd (e.mp p) p'
  · exact absurd (e.mpr p') p
  · rw [e1, e2]
theorem told_ans {M M1 : Mem} {l w a a' : Int} {r r' : Int32} (V : VV M) (h5 : ∀ j, j < 10 → M.1 5 j = M.1 51 j) (h12 : ∀ j, j < 3 → M.1 12 j = M.1 58 j) (g12 : (M.1 1 12).toInt = (M.1 47 12).toInt) (IM : Iv TM M) (e0 : M = M1) (t : r.toInt = a) (t' : r'.toInt = a')
    (A : ((¬ (0 ≤ l ∧ l < (M.1 1 12).toInt)) → (a = -1)) ∧ ((0 ≤ l ∧ l < (M.1 1 12).toInt) → w = 0 → (r = M.1 7 l.toNat)) ∧ ((0 ≤ l ∧ l < (M.1 1 12).toInt) → w = 1 → (r = M.1 8 l.toNat)) ∧ ((0 ≤ l ∧ l < (M.1 1 12).toInt) → w = 2 → (r = M.1 9 l.toNat)) ∧ ((0 ≤ l ∧ l < (M.1 1 12).toInt) → w = 3 → (r = M.1 10 l.toNat)) ∧ ((0 ≤ l ∧ l < (M.1 1 12).toInt) → w = 4 → ((a = 1 ∧ (b64 (M.2 1 11) l.toNat = true)) ∨ (a = 0 ∧ ¬ (b64 (M.2 1 11) l.toNat = true)))) ∧ ((0 ≤ l ∧ l < (M.1 1 12).toInt) → w = 5 → ((a = 1 ∧ ((FX M ((M.1 7 l.toNat).toInt).toNat ((M.1 10 l.toNat).toInt).toNat && SX M ((M.1 8 l.toNat).toInt).toNat ((M.1 10 l.toNat).toInt).toNat) = true)) ∨ (a = 0 ∧ ¬ ((FX M ((M.1 7 l.toNat).toInt).toNat ((M.1 10 l.toNat).toInt).toNat && SX M ((M.1 8 l.toNat).toInt).toNat ((M.1 10 l.toNat).toInt).toNat) = true)))) ∧ ((0 ≤ l ∧ l < (M.1 1 12).toInt) → w = 6 → (r = (loF (M.1 2 ((M.1 7 l.toNat).toInt).toNat) (M.1 4 ((M.1 7 l.toNat).toInt).toNat) (M.1 5 ((M.1 10 l.toNat).toInt).toNat)) + (loF (M.1 2 ((M.1 8 l.toNat).toInt).toNat) (M.1 4 ((M.1 8 l.toNat).toInt).toNat) (M.1 5 ((M.1 10 l.toNat).toInt).toNat)))) ∧ ((0 ≤ l ∧ l < (M.1 1 12).toInt) → w = 7 → (r = (hvF (M.1 3 ((M.1 7 l.toNat).toInt).toNat) (M.1 4 ((M.1 7 l.toNat).toInt).toNat) (M.1 6 ((M.1 10 l.toNat).toInt).toNat) (M.1 5 ((M.1 10 l.toNat).toInt).toNat)) ||| ((hvF (M.1 3 ((M.1 8 l.toNat).toInt).toNat) (M.1 4 ((M.1 8 l.toNat).toInt).toNat) (M.1 6 ((M.1 10 l.toNat).toInt).toNat) (M.1 5 ((M.1 10 l.toNat).toInt).toNat)) <<< ((loF (M.1 2 ((M.1 7 l.toNat).toInt).toNat) (M.1 4 ((M.1 7 l.toNat).toInt).toNat) (M.1 5 ((M.1 10 l.toNat).toInt).toNat)) &&& 31)))) ∧ ((0 ≤ l ∧ l < (M.1 1 12).toInt) → ¬ (0 ≤ w ∧ w ≤ 7) → a = -1))
    (A' : ((¬ (0 ≤ l ∧ l < (M1.1 47 12).toInt)) → (a' = -1)) ∧ ((0 ≤ l ∧ l < (M1.1 47 12).toInt) → w = 0 → (r' = M1.1 53 l.toNat)) ∧ ((0 ≤ l ∧ l < (M1.1 47 12).toInt) → w = 1 → (r' = M1.1 54 l.toNat)) ∧ ((0 ≤ l ∧ l < (M1.1 47 12).toInt) → w = 2 → (r' = M1.1 55 l.toNat)) ∧ ((0 ≤ l ∧ l < (M1.1 47 12).toInt) → w = 3 → (r' = M1.1 56 l.toNat)) ∧ ((0 ≤ l ∧ l < (M1.1 47 12).toInt) → w = 4 → (r' = M1.1 57 l.toNat)) ∧ ((0 ≤ l ∧ l < (M1.1 47 12).toInt) → w = 5 → ((a' = 1 ∧ (scM M1 ((M1.1 53 l.toNat).toInt).toNat ((M1.1 54 l.toNat).toInt).toNat ((M1.1 56 l.toNat).toInt).toNat = true)) ∨ (a' = 0 ∧ ¬ (scM M1 ((M1.1 53 l.toNat).toInt).toNat ((M1.1 54 l.toNat).toInt).toNat ((M1.1 56 l.toNat).toInt).toNat = true)))) ∧ ((0 ≤ l ∧ l < (M1.1 47 12).toInt) → w = 6 → (r' = (loF (M1.1 48 ((M1.1 53 l.toNat).toInt).toNat) (M1.1 50 ((M1.1 53 l.toNat).toInt).toNat) (M1.1 51 ((M1.1 56 l.toNat).toInt).toNat)) + (loF (M1.1 48 ((M1.1 54 l.toNat).toInt).toNat) (M1.1 50 ((M1.1 54 l.toNat).toInt).toNat) (M1.1 51 ((M1.1 56 l.toNat).toInt).toNat)))) ∧ ((0 ≤ l ∧ l < (M1.1 47 12).toInt) → w = 7 → (r' = (hvF (M1.1 49 ((M1.1 53 l.toNat).toInt).toNat) (M1.1 50 ((M1.1 53 l.toNat).toInt).toNat) (M1.1 52 ((M1.1 56 l.toNat).toInt).toNat) (M1.1 51 ((M1.1 56 l.toNat).toInt).toNat)) ||| ((hvF (M1.1 49 ((M1.1 54 l.toNat).toInt).toNat) (M1.1 50 ((M1.1 54 l.toNat).toInt).toNat) (M1.1 52 ((M1.1 56 l.toNat).toInt).toNat) (M1.1 51 ((M1.1 56 l.toNat).toInt).toNat)) <<< ((loF (M1.1 48 ((M1.1 53 l.toNat).toInt).toNat) (M1.1 50 ((M1.1 53 l.toNat).toInt).toNat) (M1.1 51 ((M1.1 56 l.toNat).toInt).toNat)) &&& 31)))) ∧ ((0 ≤ l ∧ l < (M1.1 47 12).toInt) → ¬ (0 ≤ w ∧ w ≤ 7) → a' = -1)) : a = a' := by
  subst e0
  rw [← g12] at A'
  obtain ⟨p0, p1, p2, p3, p4, p5, p6, p7, p8, p9⟩ := A
  obtain ⟨q0, q1, q2, q3, q4, q5, q6, q7, q8, q9⟩ := A'
  obtain ⟨vr, va, vl, vs, sr⟩ := V
  obtain ⟨v1, v2, v3, v4, v5, v6, v7, v8, v9, v10⟩ := id vr
  have gl := ig_47_12 IM
  have gh := ig_47_11 IM
  by_cases c : 0 ≤ l ∧ l < (M.1 1 12).toInt
  · have hl : l.toNat < 40 := by omega
    have b53 := ig_53 IM l.toNat hl
    have b54 := ig_54 IM l.toNat hl
    have b56 := ig_56 IM l.toNat hl
    have hf : ((M.1 53 l.toNat).toInt).toNat < 40 := by omega
    have hs : ((M.1 54 l.toNat).toInt).toNat < 40 := by omega
    have hh : ((M.1 56 l.toNat).toInt).toNat < 10 := by omega
    by_cases c8 : 0 ≤ w ∧ w ≤ 7
    · have c9 : w = 0 ∨ w = 1 ∨ w = 2 ∨ w = 3 ∨ w = 4 ∨ w = 5 ∨ w = 6 ∨ w = 7 := by omega
      rcases c9 with k | k | k | k | k | k | k | k
      · rw [← t, ← t', p1 c k, q1 c k, v5 _ hl]
      · rw [← t, ← t', p2 c k, q2 c k, v6 _ hl]
      · rw [← t, ← t', p3 c k, q3 c k, v7 _ hl]
      · rw [← t, ← t', p4 c k, q4 c k, v8 _ hl]
      · have z := vs l.toNat (by omega)
        rw [decide_eq_true (show ((l.toNat : Nat) : Int) < (M.1 1 12).toInt by omega), Bool.true_and] at z
        have s := sr l.toNat (by omega)
        have y := p5 c k
        rw [z, decide_eq_true_eq] at y
        rw [← t', q5 c k]
        omega
      · have y := p6 c k
        have z := q6 c k
        rw [v5 _ hl, v6 _ hl, v8 _ hl, (FX_eq vr h5 h12 hf hh).1, (FX_eq vr h5 h12 hs hh).2] at y
        rw [scM_eq va (by have u := vl l.toNat (by omega); omega) hh] at z
        exact bb_an2 y z Iff.rfl
      · rw [← t, ← t', p7 c k, q7 c k, v5 _ hl, v6 _ hl, v8 _ hl, v1 _ hf, v1 _ hs, v3 _ hf, v3 _ hs, h5 _ hh]
      · rw [← t, ← t', p8 c k, q8 c k, v5 _ hl, v6 _ hl, v8 _ hl, v1 _ hf, v2 _ hf, v2 _ hs, v3 _ hf, v3 _ hs, v4 _ hh, h5 _ hh]
    · rw [p9 c c8, q9 c c8]
  · rw [p0 c, q0 c]
theorem VLN_fr {W : List (Nat × Nat)} {M M' : Mem} (h : VLN M) (F : Fr W M M') (h1 : noW W 53 = true) (h2 : noW W 54 = true) (h3 : inW W 47 12 = false) (h4 : inW W 47 11 = false) : VLN M' := by
  unfold VLN
  rw [row_fr F h1, row_fr F h2, F.at 47 12 h3, F.at 47 11 h4]
  exact h
theorem VLN_half {W : List (Nat × Nat)} {M M' : Mem} (h : VLN M) (F : Fr W M M') (h1 : noW W 53 = true) (h2 : noW W 54 = true) (h3 : inW W 47 12 = false) (h4 : (M.1 47 11).toInt ≤ (M'.1 47 11).toInt) : VLN M' := by
  intro l hl
  rw [F.at 47 12 h3] at hl
  rw [row_fr F h1, row_fr F h2]
  have z := h l hl
  omega
theorem SR_fr {W : List (Nat × Nat)} {M M' : Mem} (h : SR M) (F : Fr W M M') (h1 : noW W 57 = true) (h3 : inW W 47 12 = false) : SR M' := by
  unfold SR
  rw [row_fr F h1, F.at 47 12 h3]
  exact h
def LV (n : Nat) (M : Mem) : Prop := LI n M ∧ VV M
/-! ===== the scenes of both sides are alike ===== -/
def ORD (M : Mem) : Prop := (ordN (M.1 22) ((M.1 14 11).toInt).toNat).Nodup ∧ ∀ s : Int, s ∈ ordN (M.1 22) ((M.1 14 11).toInt).toNat ↔ (0 ≤ s ∧ s < 8 ∧ 0 < (M.1 20 s.toNat).toInt)
def SCN (M : Mem) : Prop := (∀ j : Nat, (j : Int) < (M.1 14 1).toInt → M.1 15 j = M.1 60 j) ∧ (∀ x, x < 8 → (0 < (M.1 20 x).toInt ↔ 0 < tel M x)) ∧ (∀ x, x < 8 → 0 < tel M x → (M.1 20 x).toInt = tsz M x + 2 ∧ ∀ k : Nat, (k : Int) < tsz M x → M.1 18 (60 * x + k + 2) = M.1 61 (60 * x + k)) ∧ (∀ x y, x < 8 → y < 8 → (bt (M.1 21 x) y = true ↔ (0 < tel M x ∧ ∃ k : Nat, (k : Int) < tsz M x ∧ txt M x k = 65 + y))) ∧ ORD M
def snL : List Nat := [15, 60, 18, 20, 21, 22, 61, 62, 63]
def snW (W : List (Nat × Nat)) : Bool := snL.all (fun c => noW W c) && (!inW W 14 1 && !inW W 14 11)
theorem SCN_fr {W : List (Nat × Nat)} {M M1 : Mem} (h : SCN M) (F : Fr W M M1) (hw : snW W = true) : SCN M1 := by
  unfold snW at hw
  simp only [Bool.and_eq_true, Bool.not_eq_true'] at hw
  obtain ⟨hr, h1, h2⟩ := hw
  have r : ∀ c, c ∈ snL → M1.1 c = M.1 c := fun c hc => row_fr F (List.all_eq_true.mp hr c hc)
  unfold SCN ORD tel tsz txt
  rw [r 15 (by decide), r 60 (by decide), r 18 (by decide), r 20 (by decide), r 21 (by decide), r 22 (by decide), r 61 (by decide), r 62 (by decide), r 63 (by decide), F.at 14 1 h1, F.at 14 11 h2]
  exact h
theorem gsN_cong {f g : Nat → Int} : ∀ n, (∀ k, k < n → f k = g k) → gsN f n = gsN g n
  | 0, _ => rfl
  | n + 1, h => by
    show (gsN f n).bind _ = (gsN g n).bind _
    rw [gsN_cong n (fun k hk => h k (by omega)), h n (by omega)]
theorem MF_cong {c0 c1 d0 d1 : Int} {f g : Nat → Int} {n p : Int} (h : MF c0 c1 f n p) (h0 : 1 ≤ n → c0 = d0) (h1 : 2 ≤ n → c1 = d1) (hf : ∀ k : Nat, (k : Int) < n - 2 → f k = g k) : MF d0 d1 g n p := by
  rcases h with ⟨a, b⟩ | ⟨a, b, c⟩ | ⟨a, b⟩
  · left
    refine ⟨a, ?_⟩
    by_cases q : 1 ≤ n
    · rw [← h0 q]; exact b
    · exact Or.inl (by omega)
  · right; left
    rw [← h0 b.1]
    refine ⟨a, b, ?_⟩
    by_cases q : 2 ≤ n
    · rw [← h1 q]; exact c
    · exact Or.inl (by omega)
  · right; right
    rw [← h0 (by omega), ← h1 a.1]
    refine ⟨a, ?_⟩
    have e : ∀ m : Nat, (m : Int) ≤ n - 2 → gsN g m = gsN f m := fun m hm => gsN_cong m (fun k hk => (hf k (by omega)).symm)
    rcases b with ⟨k, s, e', b1, b2, b3, b4⟩ | ⟨b1, s, e', b3, b4⟩ | ⟨b1, b3⟩
    · exact Or.inl ⟨k, s, e', b1, b2, by rw [e k (by omega)]; exact b3, by rw [← hf k b2]; exact b4⟩
    · exact Or.inr (Or.inl ⟨b1, s, e', by rw [e _ (by omega)]; exact b3, b4⟩)
    · exact Or.inr (Or.inr ⟨b1, by rw [e _ (by omega)]; exact b3⟩)
theorem UT_cong {f g : Nat → Int} {b : Int → Prop} {n a : Int} (h : UT f b n a) (hf : ∀ k : Nat, (k : Int) < n - 2 → f k = g k) : UT g b n a := by
  rcases h with ⟨h1, h2⟩ | ⟨k, h1, h2, h3, h4⟩
  · exact Or.inl ⟨h1, fun k hk => by rw [← hf k hk]; exact h2 k hk⟩
  · exact Or.inr ⟨k, h1, h2, by rw [← hf k h2]; exact h3, fun j hj => by rw [← hf j (by omega)]; exact h4 j hj⟩
/-- a list without repetition has as many as there are -/
theorem noS_mem {s x : Int} {l : List Int} : x ∈ noS s l ↔ x ∈ l ∧ x ≠ s := by
  unfold noS
  rw [List.mem_filter, decide_eq_true_eq]
theorem noS_nodup {s : Int} {l : List Int} (h : l.Nodup) : (noS s l).Nodup := List.Pairwise.filter _ h
theorem noS_id {s : Int} : ∀ {l : List Int}, s ∉ l → noS s l = l
  | [], _ => rfl
  | a :: l, h => by
    have h1 : a ≠ s := fun e => h (by rw [e]; exact List.mem_cons_self)
    have h2 : s ∉ l := fun e => h (List.mem_cons_of_mem _ e)
    have e := noS_id h2
    unfold noS at e ⊢
    rw [List.filter_cons_of_pos (by simpa using h1), e]
theorem noS_len {s : Int} : ∀ {l : List Int}, l.Nodup → s ∈ l → l.length = (noS s l).length + 1
  | [], _, h => nomatch h
  | a :: l, hn, h => by
    have hn2 := List.nodup_cons.mp hn
    by_cases q : a = s
    · subst q
      have e := noS_id hn2.1
      unfold noS at e ⊢
      rw [List.filter_cons_of_neg (by simp), e]; rfl
    · have h2 : s ∈ l := by
        rcases List.mem_cons.mp h with z | z
        · exact absurd z.symm q
        · exact z
      have e := noS_len hn2.2 h2
      unfold noS at e ⊢
      rw [List.filter_cons_of_pos (by simpa using q), List.length_cons, List.length_cons, e]
theorem cnt_len {p : Nat → Bool} : ∀ (n : Nat) (l : List Int), l.Nodup → (∀ s : Int, s ∈ l ↔ (0 ≤ s ∧ s < n ∧ p s.toNat = true)) → l.length = ctb p n
  | 0, l, _, h => by
    cases l with
    | nil => rfl
    | cons a l => have z := (h a).mp List.mem_cons_self; omega
  | n + 1, l, hn, h => by
    have e : ctb p (n + 1) = ctb p n + (if p n = true then 1 else 0) := rfl
    have ih := cnt_len (p := p) n (noS n l) (noS_nodup hn) (fun s => by
      rw [noS_mem, h s]
      constructor
      · rintro ⟨⟨a, b, c⟩, d⟩; exact ⟨a, by omega, c⟩
      · rintro ⟨a, b, c⟩; exact ⟨⟨a, by omega, c⟩, by omega⟩)
    by_cases q : p n = true
    · have hm : ((n : Nat) : Int) ∈ l := (h n).mpr ⟨by omega, by omega, by rw [show ((n : Int)).toNat = n by omega]; exact q⟩
      rw [noS_len hn hm, ih, e, if_pos q]
    · have hm : ((n : Nat) : Int) ∉ l := fun z => q (by have w := ((h n).mp z).2.2; rw [show ((n : Int)).toNat = n by omega] at w; exact w)
      rw [noS_id hm] at ih
      rw [ih, e, if_neg q]; rfl
theorem ctb_miss {p : Nat → Bool} {j : Nat} (hp : p j = false) : ∀ n, j < n → ctb p n < n
  | 0, h => absurd h (Nat.not_lt_zero _)
  | n + 1, h => by
    have e : ctb p (n + 1) = ctb p n + (if p n = true then 1 else 0) := rfl
    by_cases q : j = n
    · have z := ctb_le p n
      rw [← q] at e
      rw [hp] at e
      rw [← q] at z ⊢
      rw [e]
      simp
      omega
    · have z := ctb_miss hp n (by omega)
      rw [e]
      split <;> omega
theorem ORD_cnt {M : Mem} (h : ORD M) (ht : ∀ x, x < 8 → (0 < (M.1 20 x).toInt ↔ 0 < tel M x)) (hb : 0 ≤ (M.1 14 11).toInt) : (M.1 14 11).toInt = (ctb (tlB M) 8 : Nat) := by
  have e := cnt_len (p := tlB M) 8 _ h.1 (fun s => by
    rw [h.2 s]
    constructor
    · rintro ⟨a, b, c⟩; exact ⟨a, b, decide_eq_true ((ht s.toNat (by omega)).mp c)⟩
    · rintro ⟨a, b, c⟩; exact ⟨a, by omega, (ht s.toNat (by omega)).mpr (of_decide_eq_true c)⟩)
  rw [ordN_len] at e
  omega
theorem ORD_new {M M' : Mem} {sc : Int} (h : ORD M) (hs : 0 ≤ sc ∧ sc < 8) (k : (noS sc (ordN (M.1 22) ((M.1 14 11).toInt).toNat)).length < 8 → ordN (M'.1 22) ((M'.1 14 11).toInt).toNat = noS sc (ordN (M.1 22) ((M.1 14 11).toInt).toNat) ++ [sc] ∧ (M'.1 14 11).toInt = ((noS sc (ordN (M.1 22) ((M.1 14 11).toInt).toNat)).length : Int) + 1) (h20 : ∀ x, x ≠ sc.toNat → M'.1 20 x = M.1 20 x) (h20s : 0 < (M'.1 20 sc.toNat).toInt) : ORD M' := by
  have hm : ∀ s : Int, s ∈ noS sc (ordN (M.1 22) ((M.1 14 11).toInt).toNat) ↔ (0 ≤ s ∧ s < 8 ∧ (decide (0 < (M.1 20 s.toNat).toInt) && decide ((s.toNat : Int) ≠ sc)) = true) := fun s => by
    rw [noS_mem, h.2 s, Bool.and_eq_true, decide_eq_true_eq, decide_eq_true_eq]
    constructor
    · rintro ⟨⟨a, b, c⟩, d⟩; exact ⟨a, b, c, by omega⟩
    · rintro ⟨a, b, c, d⟩; exact ⟨⟨a, b, c⟩, by omega⟩
  have hl : (noS sc (ordN (M.1 22) ((M.1 14 11).toInt).toNat)).length < 8 := by
    rw [cnt_len (p := fun x => decide (0 < (M.1 20 x).toInt) && decide ((x : Int) ≠ sc)) 8 _ (noS_nodup h.1) hm]
    exact ctb_miss (j := sc.toNat) (by
      show (decide _ && decide (((sc.toNat : Nat) : Int) ≠ sc)) = false
      rw [decide_eq_false (p := ((sc.toNat : Nat) : Int) ≠ sc) (by omega), Bool.and_false]) 8 (by omega)
  obtain ⟨k1, k2⟩ := k hl
  unfold ORD
  rw [k1]
  refine ⟨?_, fun s => ?_⟩
  · rw [List.nodup_append]
    refine ⟨noS_nodup h.1, by simp, ?_⟩
    intro a ha b hb
    have e := List.mem_singleton.mp hb
    rw [e]
    exact (noS_mem.mp ha).2
  · rw [List.mem_append, hm s, List.mem_singleton, Bool.and_eq_true, decide_eq_true_eq, decide_eq_true_eq]
    by_cases q : s = sc
    · subst q
      constructor
      · intro _; exact ⟨hs.1, hs.2, h20s⟩
      · intro _; exact Or.inr rfl
    · have q2 : s.toNat ≠ sc.toNat ∨ s < 0 := by omega
      constructor
      · rintro (⟨a, b, c, d⟩ | e)
        · exact ⟨a, b, by rw [h20 _ (by omega)]; exact c⟩
        · exact absurd e q
      · rintro ⟨a, b, c⟩
        rw [h20 _ (by omega)] at c
        exact Or.inl ⟨a, b, c, by omega⟩
/-- a told tape does the same to both -/
theorem scene_both {W W' : List (Nat × Nat)} {M M1 M2 : Mem} {a a' : Int} (h : SCN M) (g1 : (M.1 14 1).toInt = (M.1 47 20).toInt) (IX : Iv TX M) (IM : Iv TM M) (E : SCX M M1 a ∧ (M1.1 14 1).toInt = 0) (E' : SCM M1 M2 a') (h23 : 0 ≤ (M.1 47 23).toInt) (F : Fr W M M1) (F' : Fr W' M1 M2) (hw : (noW W 60 && (noW W 61 && (noW W 62 && (noW W 63 && (!inW W 47 20 && !inW W 47 23))))) = true) (hw' : (noW W' 15 && (noW W' 18 && (noW W' 20 && (noW W' 21 && (noW W' 22 && (!inW W' 14 1 && !inW W' 14 11)))))) = true) : a = a' ∧ SCN M2 := by
  simp only [Bool.and_eq_true, Bool.not_eq_true'] at hw hw'
  obtain ⟨w60, w61, w62, w63, w20, w23⟩ := hw
  obtain ⟨v15, v18, v20, v21, v22, v1, v11⟩ := hw'
  have r60 := row_fr F w60
  have r61 := row_fr F w61
  have r62 := row_fr F w62
  have r63 := row_fr F w63
  have e20 := F.at 47 20 w20
  have s18 := row_fr F' v18
  have s20 := row_fr F' v20
  have s21 := row_fr F' v21
  have s22 := row_fr F' v22
  have t0 : (M2.1 14 1).toInt = 0 := by rw [F'.at 14 1 v1]; exact E.2
  have t11 := F'.at 14 11 v11
  have gn := ig_14_1 IX
  obtain ⟨ht, hto, hsz, hus, hor⟩ := h
  have htX : ∀ k : Nat, (k : Int) < (M.1 14 1).toInt - 2 → tX M k = tf M k := fun k hk => by unfold tX tf; rw [ht (k + 2) (by omega)]
  have etf : tf M1 = tf M := by funext k; unfold tf; rw [r60]
  have ebd : bdM M1 = bdM M := by funext x y; unfold bdM; rw [r63]
  have ens : NSx M1 = NSx M := by funext x y; unfold NSx NSk tel txt tsz; rw [r61, r62, r63]
  obtain ⟨⟨p, hp, hc⟩, -⟩ := E
  obtain ⟨p', hp', hc'⟩ := E'
  rw [r60, etf, e20, ← g1] at hp'
  have hp2 := MF_cong hp (fun q => by rw [ht 0 (by omega)]) (fun q => by rw [ht 1 (by omega)]) htX
  have ep := MF_one hp2 hp'
  subst ep
  have same : SMX M M1 → SMM M1 M2 → SCN M2 := fun x y => by
    refine ⟨fun j hj => absurd hj (by omega), ?_⟩
    unfold ORD tel tsz txt
    rw [s18, s20, s21, s22, t11, x.1, x.2.2.1, x.2.2.2.1, x.2.2.2.2.1, x.2.2.2.2.2, y.1, y.2.1, y.2.2.1, r61, r62, r63]
    exact ⟨hto, hsz, hus, hor⟩
  rcases hc with ⟨q1, q2, q3⟩ | ⟨q1, u, hu, hc⟩
  · rcases hc' with ⟨z1, z2, z3⟩ | ⟨z1, _⟩
    · exact ⟨by omega, same q3 z3⟩
    · omega
  · rcases hc' with ⟨z1, _⟩ | ⟨z1, u', hu', hc'⟩
    · omega
    · have hok := MF_ok hp q1
      have e0 : (M.1 60 0).toInt = (M.1 15 0).toInt := by rw [ht 0 (by omega)]
      have hbd : ∀ c : Int, bdX M ((M.1 15 0).toInt - 65) c ↔ bdM M ((M.1 15 0).toInt - 65) c := fun c => by
        unfold bdX bdM
        constructor
        · rintro ⟨x, y⟩
          refine ⟨x, ?_⟩
          rcases y with y | y
          · exact Or.inl y
          · exact Or.inr (fun z => y ((hto _ (by omega)).mpr z))
        · rintro ⟨x, y⟩
          refine ⟨x, ?_⟩
          rcases y with y | y
          · exact Or.inl y
          · exact Or.inr (fun z => y ((hto _ (by omega)).mp z))
      rw [r60, etf, ebd, e20, ← g1, e0] at hu'
      have eu := UT_one (UT_cong hu htX) hu' (fun k _ => hbd _)
      subst eu
      rcases hc with ⟨y1, y2, y3⟩ | ⟨y1, hc⟩
      · rcases hc' with ⟨x1, x2, x3⟩ | ⟨x1, _⟩
        · exact ⟨by omega, same y3 x3⟩
        · omega
      · rcases hc' with ⟨x1, _⟩ | ⟨x1, hc'⟩
        · omega
        · rw [r60, ens, e0] at hc'
          have hst : STX M ((M.1 15 0).toInt - 65) ↔ ¬ NSx M ((M.1 15 0).toInt - 65) 8 := by
            constructor
            · rintro ⟨x, hx, hb⟩ z
              obtain ⟨b1, k, b2, b3⟩ := (hus x _ hx (by omega)).mp hb
              exact z x hx b1 k (by omega) (by rw [b3]; omega)
            · intro z
              apply Classical.byContradiction
              intro w
              apply z
              intro x hx ht1 k hk he
              exact w ⟨x, hx, (hus x _ hx (by omega)).mpr ⟨ht1, k, by have := hk; omega, by rw [he]; omega⟩⟩
          rcases hc with ⟨b1, b2, b3⟩ | ⟨b1, b2, b3⟩
          · rcases hc' with ⟨d1, d2, d3⟩ | ⟨d1, _⟩
            · exact ⟨by omega, same b3 d3⟩
            · exact absurd d1 (hst.mp b1)
          · rcases hc' with ⟨d1, _⟩ | ⟨d1, d2, d3⟩
            · exact absurd (hst.mpr d1) b1
            · refine ⟨by omega, ?_⟩
              generalize hsc : (M.1 15 0).toInt - 65 = sc at *
              have hsc8 : 0 ≤ sc ∧ sc < 8 := by omega
              obtain ⟨k18, k20, k21, kus, kor⟩ := b3
              obtain ⟨m61, m62, m62s, m63s, -⟩ := d3
              rw [e20, ← g1] at m61 m62s
              rw [r60, r61] at m61
              rw [r62, r63] at m62
              have n20 : ∀ x, x ≠ sc.toNat → M2.1 20 x = M.1 20 x := fun x q => by rw [s20, k20, ui_nj q]
              have n20s : (M2.1 20 sc.toNat).toInt = (M.1 14 1).toInt := by rw [s20, k20, ui_eq]
              have etel : ∀ x, x ≠ sc.toNat → tel M2 x = tel M x := fun x q => by unfold tel; rw [(m62 x q).2]
              have etsz : ∀ x, x ≠ sc.toNat → tsz M2 x = tsz M x := fun x q => by unfold tsz; rw [(m62 x q).1]
              have etels : 0 < tel M2 sc.toNat := by show 0 < (M2.1 63 sc.toNat).toInt; rw [m63s]; have z := F.at 47 23 w23; rw [z]; omega
              have etszs : tsz M2 sc.toNat = (M.1 14 1).toInt - 2 := m62s
              have ztsz : ∀ x, x < 8 → 0 ≤ tsz M x ∧ tsz M x ≤ 58 := fun x hx => ig_62 IM x hx
              have txo : ∀ x k : Nat, x < 8 → x ≠ sc.toNat → (k : Int) < tsz M x → M2.1 61 (60 * x + k) = M.1 61 (60 * x + k) := fun x k hx q hk => by
                have z := ztsz x hx
                rw [m61, if_neg (by omega)]
              have txs : ∀ k : Nat, (k : Int) < (M.1 14 1).toInt - 2 → M2.1 61 (60 * sc.toNat + k) = M.1 60 (k + 2) := fun k hk => by
                rw [m61, if_pos (by omega), show 60 * sc.toNat + k - 60 * sc.toNat + 2 = k + 2 by omega]
              refine ⟨fun j hj => absurd hj (by omega), fun x hx => ?_, fun x hx htx => ?_, fun x y hx hy => ?_, ORD_new (M := M) hor hsc8 (by rw [s22, t11]; exact kor) n20 (by rw [n20s]; omega)⟩
              · by_cases q : x = sc.toNat
                · subst q; rw [n20s]; exact ⟨fun _ => etels, fun _ => by omega⟩
                · rw [n20 x q, etel x q]; exact hto x hx
              · by_cases q : x = sc.toNat
                · subst q
                  rw [n20s, etszs]
                  refine ⟨by omega, fun k hk => ?_⟩
                  rw [s18, k18, txs k hk]
                  unfold cpR
                  rw [if_pos (by omega), show 60 * sc.toNat + k + 2 - (sc * 60).toNat = k + 2 by omega, ht (k + 2) (by omega)]
                · rw [etel x q] at htx
                  have z := hsz x hx htx
                  rw [n20 x q, etsz x q]
                  refine ⟨z.1, fun k hk => ?_⟩
                  have y := ztsz x hx
                  rw [s18, k18, txo x k hx q hk]
                  unfold cpR
                  rw [if_neg (by omega)]
                  exact z.2 k hk
              · by_cases q : x = sc.toNat
                · subst q
                  rw [s21, kus y hy]
                  constructor
                  · rintro ⟨k, c1, c2⟩
                    refine ⟨etels, k, by rw [etszs]; exact c1, ?_⟩
                    unfold txt
                    rw [txs k c1, ← ht (k + 2) (by omega)]
                    exact c2
                  · rintro ⟨-, k, c1, c2⟩
                    rw [etszs] at c1
                    refine ⟨k, c1, ?_⟩
                    unfold txt at c2
                    rw [txs k c1, ← ht (k + 2) (by omega)] at c2
                    exact c2
                · rw [s21, k21 x q, hus x y hx hy, etel x q, etsz x q]
                  constructor
                  · rintro ⟨c0, k, c1, c2⟩
                    exact ⟨c0, k, c1, by unfold txt at c2 ⊢; rw [txo x k hx q c1]; exact c2⟩
                  · rintro ⟨c0, k, c1, c2⟩
                    exact ⟨c0, k, c1, by unfold txt at c2 ⊢; rw [txo x k hx q c1] at c2; exact c2⟩
def snL2 : List Nat := [18, 20, 21, 22, 61, 62, 63]
theorem SCN_feed {W W' : List (Nat × Nat)} {M M1 M2 : Mem} {C : Prop} {w : Int64} {n m : Int} (h : SCN M) (hn : 0 ≤ n) (F : Fr W M M1) (F' : Fr W' M1 M2) (p : (¬ C → M1.1 15 = M.1 15) ∧ (C → ∀ j, M1.1 15 j = fdR w n m m (M.1 15) j)) (p' : (¬ C → M2.1 60 = M1.1 60) ∧ (C → ∀ j, M2.1 60 j = fdR w n m m (M1.1 60) j)) (e : (M.1 14 1).toInt = n) (e2 : (C ∧ (M2.1 14 1).toInt = n + m) ∨ (¬ C ∧ (M2.1 14 1).toInt = n)) (hw : ((noW W 60 && snL2.all (fun c => noW W c)) && !inW W 14 11) = true) (hw' : ((noW W' 15 && snL2.all (fun c => noW W' c)) && !inW W' 14 11) = true) : SCN M2 := by
  simp only [Bool.and_eq_true, Bool.not_eq_true'] at hw hw'
  obtain ⟨⟨w60, hr⟩, w11⟩ := hw
  obtain ⟨⟨v15, hr'⟩, v11⟩ := hw'
  have r : ∀ c, c ∈ snL2 → M2.1 c = M.1 c := fun c hc => (row_fr F' (List.all_eq_true.mp hr' c hc)).trans (row_fr F (List.all_eq_true.mp hr c hc))
  refine ⟨fun j hj => ?_, ?_⟩
  · rw [row_fr F' v15]
    rcases e2 with ⟨c, e2⟩ | ⟨c, e2⟩
    · rw [p.2 c, p'.2 c, row_fr F w60]
      unfold fdR
      by_cases q : n ≤ j ∧ (j : Int) < n + m
      · rw [if_pos q, if_pos q]
      · rw [if_neg q, if_neg q]
        exact h.1 j (by omega)
    · rw [p.1 c, p'.1 c, row_fr F w60]
      exact h.1 j (by omega)
  · unfold ORD tel tsz txt
    rw [r 18 (by decide), r 20 (by decide), r 21 (by decide), r 22 (by decide), r 61 (by decide), r 62 (by decide), r 63 (by decide), F'.at 14 11 v11, F.at 14 11 w11]
    exact h.2
theorem scl_eq {M : Mem} (V : VV M) (h5 : ∀ j, j < 10 → M.1 5 j = M.1 51 j) (h12 : ∀ j, j < 3 → M.1 12 j = M.1 58 j) (g12 : (M.1 1 12).toInt = (M.1 47 12).toInt) (IM : Iv TM M) : ctb (scl M) ((M.1 1 12).toInt).toNat = ctb (sclM M) ((M.1 47 12).toInt).toNat := by
  rw [g12]
  apply ctb_cong
  intro l hl
  obtain ⟨vr, va, vl, vs, sr⟩ := V
  obtain ⟨v1, v2, v3, v4, v5, v6, v7, v8, v9, v10⟩ := id vr
  have gl := ig_47_12 IM
  have gh := ig_47_11 IM
  have hl4 : l < 40 := by omega
  have b53 := ig_53 IM l hl4
  have b54 := ig_54 IM l hl4
  have b56 := ig_56 IM l hl4
  unfold scl sclM
  rw [v5 _ hl4, v6 _ hl4, v8 _ hl4, (FX_eq vr h5 h12 (show ((M.1 53 l).toInt).toNat < 40 by omega) (show ((M.1 56 l).toInt).toNat < 10 by omega)).1, (FX_eq vr h5 h12 (show ((M.1 54 l).toInt).toNat < 40 by omega) (show ((M.1 56 l).toInt).toNat < 10 by omega)).2, scM_eq va (by have u := vl l (by omega); omega) (by omega)]
def RC (M : Mem) : Prop := (M.1 40 5).toInt = (M.1 47 59).toInt
def LD (n : Nat) (M : Mem) : Prop := LV n M ∧ SCN M ∧ RC M
theorem cnt_ans {x a a' v0 v1 v2 v3 v4 v5 v6 v7 v8 w0 w1 w2 w3 w4 w5 w6 w7 w8 : Int} (A : (x = 0 → a = v0) ∧ (x = 1 → a = v1) ∧ (x = 2 → a = v2) ∧ (x = 3 → a = v3) ∧ (x = 4 → a = v4) ∧ (x = 5 → a = v5) ∧ (x = 6 → a = v6) ∧ (x = 7 → a = v7) ∧ (x = 8 → a = v8) ∧ (¬ (0 ≤ x ∧ x ≤ 8) → a = -1)) (A' : (x = 0 → a' = w0) ∧ (x = 1 → a' = w1) ∧ (x = 2 → a' = w2) ∧ (x = 3 → a' = w3) ∧ (x = 4 → a' = w4) ∧ (x = 5 → a' = w5) ∧ (x = 6 → a' = w6) ∧ (x = 7 → a' = w7) ∧ (x = 8 → a' = w8) ∧ (¬ (0 ≤ x ∧ x ≤ 8) → a' = -1)) (e0 : v0 = w0) (e1 : v1 = w1) (e2 : v2 = w2) (e3 : v3 = w3) (e4 : v4 = w4) (e5 : v5 = w5) (e6 : v6 = w6) (e7 : v7 = w7) (e8 : v8 = w8) : a = a' := by
  obtain ⟨p0, p1, p2, p3, p4, p5, p6, p7, p8, p9⟩ := A
  obtain ⟨q0, q1, q2, q3, q4, q5, q6, q7, q8, q9⟩ := A'
  by_cases c : 0 ≤ x ∧ x ≤ 8
  · have c9 : x = 0 ∨ x = 1 ∨ x = 2 ∨ x = 3 ∨ x = 4 ∨ x = 5 ∨ x = 6 ∨ x = 7 ∨ x = 8 := by omega
    rcases c9 with k | k | k | k | k | k | k | k | k
    · rw [p0 k, q0 k, e0]
    · rw [p1 k, q1 k, e1]
    · rw [p2 k, q2 k, e2]
    · rw [p3 k, q3 k, e3]
    · rw [p4 k, q4 k, e4]
    · rw [p5 k, q5 k, e5]
    · rw [p6 k, q6 k, e6]
    · rw [p7 k, q7 k, e7]
    · rw [p8 k, q8 k, e8]
  · rw [p9 c, q9 c]
/-- the books of both sides are alike -/
def BK (M : Mem) : Prop := (∀ j, j < 8 → M.1 24 j = M.1 79 j) ∧ (∀ j, j < 200 → M.1 26 j = M.1 81 j) ∧ (∀ j, j < 200 → M.1 27 j = M.1 82 j) ∧ (∀ j, j < 200 → M.1 28 j = M.1 83 j) ∧ (∀ j, j < 200 → M.1 29 j = M.1 84 j) ∧ (∀ k : Nat, k < 200 → 0 ≤ (M.1 28 k).toInt) ∧ (∀ k : Nat, (k : Int) < (M.1 23 7).toInt → (M.1 27 k).toInt < (M.1 1 12).toInt)
def LJ (n : Nat) (M : Mem) : Prop := LI n M ∧ BK M
def bkW (W : List (Nat × Nat)) : Bool := ((noW W 24 && noW W 79) && ((noW W 26 && noW W 81) && ((noW W 27 && noW W 82) && ((noW W 28 && noW W 83) && ((noW W 29 && noW W 84) && !inW W 23 7)))))
theorem BK_keep {W W' : List (Nat × Nat)} {M M1 M2 : Mem} (h : BK M) (F : Fr W M M1) (F' : Fr W' M1 M2) (hw : bkW W = true) (hw' : bkW W' = true) (hl : (M.1 1 12).toInt ≤ (M2.1 1 12).toInt) : BK M2 := by
  unfold bkW at hw hw'
  simp only [Bool.and_eq_true, Bool.not_eq_true'] at hw hw'
  obtain ⟨⟨a1, a2⟩, ⟨b1, b2⟩, ⟨c1, c2⟩, ⟨d1, d2⟩, ⟨e1, e2⟩, f1⟩ := hw
  obtain ⟨⟨a3, a4⟩, ⟨b3, b4⟩, ⟨c3, c4⟩, ⟨d3, d4⟩, ⟨e3, e4⟩, f3⟩ := hw'
  refine ⟨row_keep h.1 F F' a1 a2 a3 a4, row_keep h.2.1 F F' b1 b2 b3 b4, row_keep h.2.2.1 F F' c1 c2 c3 c4, row_keep h.2.2.2.1 F F' d1 d2 d3 d4, row_keep h.2.2.2.2.1 F F' e1 e2 e3 e4, fun k hk => ?_, fun k hk => ?_⟩
  · rw [F'.at 28 k (noW_in d3 k), F.at 28 k (noW_in d1 k)]
    exact h.2.2.2.2.2.1 k hk
  · rw [F'.at 23 7 f3, F.at 23 7 f1] at hk
    rw [F'.at 27 k (noW_in c3 k), F.at 27 k (noW_in c1 k)]
    have := h.2.2.2.2.2.2 k hk
    omega
theorem bk_hy {M M1 : Mem} {C : Prop} {n : Nat} {x : Int32} (h : ∀ k : Nat, k < 200 → 0 ≤ (M.1 28 k).toInt) (p : (C → M1.1 28 = M.1 28) ∧ (¬ C → M1.1 28 = (ui M 28 n x).1 28)) (hx : ¬ C → 0 ≤ x.toInt) : ∀ k : Nat, k < 200 → 0 ≤ (M1.1 28 k).toInt := by
  intro k hk
  by_cases c : C
  · rw [p.1 c]; exact h k hk
  · rw [p.2 c]
    by_cases q : k = n
    · subst q; rw [ui_eq]; exact hx c
    · rw [ui_nj q]; exact h k hk
theorem bk_hw {M M1 : Mem} {C : Prop} {n n' L : Int} {x : Int32} (hn : 0 ≤ n) (h : ∀ k : Nat, (k : Int) < n → (M.1 27 k).toInt < L) (p : (C → M1.1 27 = M.1 27) ∧ (¬ C → M1.1 27 = (ui M 27 n.toNat x).1 27)) (e : (C ∧ n' = n) ∨ (¬ C ∧ n' = n + 1)) (hx : ¬ C → x.toInt < L) : ∀ k : Nat, (k : Int) < n' → (M1.1 27 k).toInt < L := by
  intro k hk
  rcases e with ⟨c, e⟩ | ⟨c, e⟩
  · rw [p.1 c]; exact h k (by omega)
  · rw [p.2 c]
    by_cases q : k = n.toNat
    · subst q; rw [ui_eq]; exact hx c
    · rw [ui_nj q]; exact h k (by omega)
theorem upk_le {k e : Int} (h : -1 ≤ k ∧ k ≤ e) (he : 0 ≤ e ∧ e ≤ 200) : (upk k e).toNat ≤ 200 := by unfold upk; split <;> omega
theorem upk_le2 {k e : Int} (h : -1 ≤ k ∧ k ≤ e) : upk k e ≤ e := by unfold upk; split <;> omega
theorem hs_eq {M : Mem} (h : BK M) {n : Nat} (hn : n ≤ 200) {s l y : Int} : hsM M s l y n = hsX M s l y n := by
  unfold hsM hsX
  apply hsl_cong
  intro k hk
  unfold eW
  rw [h.2.1 k (by omega), h.2.2.1 k (by omega), h.2.2.2.1 k (by omega), h.2.2.2.2.1 k (by omega)]
  exact ⟨rfl, rfl, rfl, rfl⟩
theorem hs_out {M : Mem} (h : BK M) {u : Int} (hu : u ≤ (M.1 23 7).toInt) {s y : Int} {l : Nat} (hl : (M.1 1 12).toInt ≤ l) : hsX M s l y u.toNat = false := by
  unfold hsX
  apply hsl_none
  intro k hk
  have := h.2.2.2.2.2.2 k (by omega)
  unfold eW
  omega
theorem bb_ans {P : Prop} {a a' : Int} (h : (a = 1 ∧ P) ∨ (a = 0 ∧ ¬ P)) (h' : (a' = 1 ∧ P) ∨ (a' = 0 ∧ ¬ P)) : a = a' := by
  rcases h with ⟨e, p⟩ | ⟨e, p⟩ <;> rcases h' with ⟨e', p'⟩ | ⟨e', p'⟩
  · rw [e, e']
  · exact absurd p p'
  · exact absurd p' p
  · rw [e, e']
theorem ansB {C B : Prop} {a a' u v : Int} {P Q : Prop} (h : (C ∧ a = u) ∨ (¬ C ∧ B ∧ a = v) ∨ (¬ C ∧ ¬ B ∧ P)) (h' : (C ∧ a' = u) ∨ (¬ C ∧ B ∧ a' = v) ∨ (¬ C ∧ ¬ B ∧ Q)) (hz : ¬ C → ¬ B → P → Q → a = a') : a = a' := by
  rcases h with ⟨c, e⟩ | ⟨c, d, e⟩ | ⟨c, d, e⟩ <;> rcases h' with ⟨c', e'⟩ | ⟨c', d', e'⟩ | ⟨c', d', e'⟩ <;> first | exact absurd c c' | exact absurd c' c | exact absurd d d' | exact absurd d' d | (rw [e, e']; done) | exact hz c d e e'
theorem stk_eq {M : Mem} (h : BK M) {u s y : Int} (h2 : u.toNat ≤ 200) (hu : u ≤ (M.1 23 7).toInt) (gl : 0 ≤ (M.1 1 12).toInt ∧ (M.1 1 12).toInt ≤ 40) : ctb (fun l => hsX M s l y u.toNat) 64 = ctb (fun l => hsM M s l y u.toNat) ((M.1 1 12).toInt).toNat := by
  have e : (64 : Nat) = ((M.1 1 12).toInt).toNat + (64 - ((M.1 1 12).toInt).toNat) := by omega
  rw [e, ctb_out _ (fun k h1 _ => hs_out h hu (by omega))]
  exact ctb_cong (fun k _ => (hs_eq h h2).symm)
theorem unl_eq {M M1 : Mem} (h : BK M) (hq : hsM M1 = hsM M) (g : (M1.1 47 12).toInt = (M.1 1 12).toInt) {u y a b : Int} (h2 : u.toNat ≤ 200) (hu : u ≤ (M.1 23 7).toInt) (gl : 0 ≤ (M.1 1 12).toInt ∧ (M.1 1 12).toInt ≤ 40) : ((unl (fun s l => hsX M s l y u.toNat) a b 64 : Nat) : Int) = uM M1 a b y u.toNat := by
  unfold uM
  rw [hq, g, unl_out (n := ((M.1 1 12).toInt).toNat) (fun s l hl => hs_out h hu (by omega)) (by omega)]
  have e : unl (fun s l => hsX M s l y u.toNat) a b ((M.1 1 12).toInt).toNat = unl (fun s l => hsM M s l y u.toNat) a b ((M.1 1 12).toInt).toNat := ctb_cong (fun k _ => by
    show (hsX M a k y u.toNat != hsX M b k y u.toNat) = (hsM M a k y u.toNat != hsM M b k y u.toNat)
    rw [hs_eq h h2, hs_eq h h2])
  rw [e]
theorem mst_eq {M M1 : Mem} (h : BK M) (hq : hsM M1 = hsM M) (h79 : eW M1 79 = eW M 79) (g : (M1.1 47 12).toInt = (M.1 1 12).toInt) {u y a : Int} (h2 : u.toNat ≤ 200) (hu : u ≤ (M.1 23 7).toInt) (gl : 0 ≤ (M.1 1 12).toInt ∧ (M.1 1 12).toInt ≤ 40) (gs : 0 ≤ (M.1 23 2).toInt ∧ (M.1 23 2).toInt ≤ 8) (ha : 0 ≤ a ∧ a < (M.1 23 2).toInt) : mst (eW M 24) (fun k => ((unl (fun s l => hsX M s l y u.toNat) k a 64 : Nat) : Int)) (eW M 24 a.toNat) ((M.1 23 2).toInt).toNat = mstM M1 a y u.toNat ((M.1 23 2).toInt).toNat := by
  unfold mstM
  rw [h79]
  have e0 : eW M 79 a.toNat = eW M 24 a.toNat := by unfold eW; rw [h.1 a.toNat (by omega)]
  rw [e0]
  apply mst_cong
  intro k hk
  refine ⟨by unfold eW; rw [h.1 k (by omega)], ?_⟩
  rw [unl_eq h hq g h2 hu gl]
  unfold uM
  rw [unl_sym]
theorem ans5 {m m' a a' : Int} (h : (a = -5 ∧ m < 0) ∨ (0 ≤ a ∧ a = m)) (h' : (a' = -5 ∧ m' < 0) ∨ (0 ≤ a' ∧ a' = m')) (e : m = m') : a = a' := by omega
theorem ln_eq {M M1 : Mem} (h : BK M) (hq : hsM M1 = hsM M) (h79 : eW M1 79 = eW M 79) (g : (M1.1 47 12).toInt = (M.1 1 12).toInt) (g2 : (M1.1 47 52).toInt = (M.1 23 2).toInt) {u y : Int} (h2 : u.toNat ≤ 200) (hu : u ≤ (M.1 23 7).toInt) (gl : 0 ≤ (M.1 1 12).toInt ∧ (M.1 1 12).toInt ≤ 40) (gs : 0 ≤ (M.1 23 2).toInt ∧ (M.1 23 2).toInt ≤ 8) : lng (fun s => lnH (eW M 24) (fun s l => hsX M s l y u.toNat) 64 ((M.1 23 2).toInt).toNat s) ((M.1 23 2).toInt).toNat = lng (lnM M1 y u.toNat) ((M.1 23 2).toInt).toNat := by
  apply lng_cong
  intro s hs
  have e := mst_eq (a := (s : Int)) (y := y) h hq h79 g h2 hu gl gs (by omega)
  rw [show ((s : Int)).toNat = s by omega] at e
  unfold lnH lnM
  rw [g2, ← e]
  split
  · rfl
  · exact unl_eq h hq g h2 hu gl
/-! ===== lines by slot, texts with their mates, the song ===== -/
def BSL (M : Mem) : Prop := ∀ s : Nat, s < 8 → ∀ l : Nat, l < 64 → b64 (M.2 11 s) l = (decide ((l : Int) < (M.1 1 12).toInt) && decide ((M.1 55 l).toInt = s))
theorem BSL_keep {W W' : List (Nat × Nat)} {M M1 M2 : Mem} (h : BSL M) (F : Fr W M M1) (F' : Fr W' M1 M2) (hw : ((noW W 11 && !inW W 1 12) && noW W 55) = true) (hw' : ((noW W' 11 && !inW W' 1 12) && noW W' 55) = true) : BSL M2 := by
  simp only [Bool.and_eq_true, Bool.not_eq_true'] at hw hw'
  intro s hs l hl
  rw [F'.atL 11 s (noW_in hw'.1.1 s), F.atL 11 s (noW_in hw.1.1 s), F'.at 1 12 hw'.1.2, F.at 1 12 hw.1.2, F'.at 55 l (noW_in hw'.2 l), F.at 55 l (noW_in hw.2 l)]
  exact h s hs l hl
theorem BSL_line {W W' : List (Nat × Nat)} {M M1 M2 : Mem} {C : Prop} {x : Int32} (h : BSL M) (F : Fr W M M1) (F' : Fr W' M1 M2) (gl : 0 ≤ (M.1 1 12).toInt ∧ (M.1 1 12).toInt ≤ 40) (p : (C → M1.2 11 = M.2 11) ∧ (¬ C → ∀ s l : Nat, l < 64 → b64 (M1.2 11 s) l = if s = (x.toInt).toNat ∧ l = ((M.1 1 12).toInt).toNat then true else b64 (M.2 11 s) l)) (p2 : (C → M2.1 55 = M1.1 55) ∧ (¬ C → M2.1 55 = (ui M1 55 ((M.1 1 12).toInt).toNat x).1 55)) (e : (C ∧ (M1.1 1 12).toInt = (M.1 1 12).toInt) ∨ (¬ C ∧ (M1.1 1 12).toInt = (M.1 1 12).toInt + 1)) (hx : ¬ C → 0 ≤ x.toInt) (h55 : noW W 55 = true) (h11 : noW W' 11 = true) (h12 : inW W' 1 12 = false) : BSL M2 := by
  intro s hs l hl
  rw [F'.atL 11 s (noW_in h11 s), F'.at 1 12 h12]
  rcases e with ⟨c, e⟩ | ⟨c, e⟩
  · rw [p.1 c, e, p2.1 c, F.at 55 l (noW_in h55 l)]
    exact h s hs l hl
  · have hx0 := hx c
    rw [p.2 c s l hl, e, p2.2 c, h s hs l hl]
    by_cases q : l = ((M.1 1 12).toInt).toNat
    · rw [q, ui_eq]
      have e1 : ((((M.1 1 12).toInt).toNat : Nat) : Int) = (M.1 1 12).toInt := by omega
      rw [e1, decide_eq_false (Int.lt_irrefl _), decide_eq_true (show (M.1 1 12).toInt < (M.1 1 12).toInt + 1 by omega), Bool.true_and, Bool.false_and]
      by_cases q2 : s = (x.toInt).toNat
      · rw [if_pos ⟨q2, rfl⟩, decide_eq_true (show x.toInt = (s : Int) by omega)]
      · rw [if_neg (fun z => q2 z.1), decide_eq_false (show ¬ (x.toInt = (s : Int)) by omega)]
    · rw [ui_nj q, F.at 55 l (noW_in h55 l), if_neg (fun z => q z.2)]
      by_cases q2 : (l : Int) < (M.1 1 12).toInt
      · rw [decide_eq_true q2, decide_eq_true (show (l : Int) < (M.1 1 12).toInt + 1 by omega)]
      · rw [decide_eq_false q2, decide_eq_false (show ¬ (l : Int) < (M.1 1 12).toInt + 1 by omega)]
def GT (M : Mem) : Prop := ∀ x : Nat, x < 8 → 0 < tel M x → gsN (txt M x) (tsz M x).toNat = some ([], true) ∧ MTE (txt M x) (fun q => (M.1 19 (60 * x + q)).toInt) (tsz M x).toNat
theorem GT_fr {W : List (Nat × Nat)} {M M1 : Mem} (h : GT M) (F : Fr W M M1) (hw : (noW W 19 && (noW W 61 && (noW W 62 && noW W 63))) = true) : GT M1 := by
  simp only [Bool.and_eq_true] at hw
  unfold GT tel tsz txt
  rw [row_fr F hw.1, row_fr F hw.2.1, row_fr F hw.2.2.1, row_fr F hw.2.2.2]
  exact h
theorem psN_cong {f g : Nat → Int} : ∀ n, (∀ k, k < n → f k = g k) → psN f n = psN g n
  | 0, _ => rfl
  | n + 1, h => by
    show psS f n (psN f n) = psS g n (psN g n)
    rw [psN_cong n (fun k hk => h k (by omega))]
    unfold psS
    rw [h n (by omega)]
theorem MA_cong {f g : Nat → Int} {q j n : Nat} (h : MA f q j) (hj : j < n) (e : ∀ k, k < n → f k = g k) : MA g q j := by
  refine ⟨by rw [← e j hj]; exact h.1, ?_⟩
  rw [← psN_cong j (fun k hk => e k (by omega))]
  exact h.2
theorem MTE_cong {f g mt mt' : Nat → Int} {n : Nat} (h : MTE f mt n) (e : ∀ k, k < n → f k = g k) (em : ∀ k, k < n → mt (k + 2) = mt' (k + 2)) : MTE g mt' n := by
  refine ⟨fun q hq ho => ?_, fun q hq hc => ?_⟩
  · rw [← e q hq] at ho
    obtain ⟨j, j1, j2, j3⟩ := h.1 q hq ho
    exact ⟨j, by rw [← em q hq]; exact j1, j2, MA_cong j3 j2 e⟩
  · rw [← e q hq] at hc
    obtain ⟨r, r1, r2⟩ := h.2 q hq hc
    exact ⟨r, by rw [← em q hq]; exact r1, by rw [← psN_cong q (fun k hk => e k (by omega))]; exact r2⟩
theorem MF_end {c0 c1 : Int} {f : Nat → Int} {n p : Int} (h : MF c0 c1 f n p) (hp : p < 0) : gsN f (n - 2).toNat = some ([], true) := by
  rcases h with ⟨h1, _⟩ | ⟨h1, _⟩ | ⟨h1, ⟨k, s, e, h2, h3, _⟩ | ⟨h2, _⟩ | ⟨h2, h3⟩⟩
  · omega
  · omega
  · omega
  · omega
  · exact h3
theorem scene_gt {W W' : List (Nat × Nat)} {M M1 M2 : Mem} {a a' : Int} (h : SCN M) (hG : GT M) (g1 : (M.1 14 1).toInt = (M.1 47 20).toInt) (IX : Iv TX M) (IM : Iv TM M) (E : SCX M M1 a) (K : 0 ≤ a → ∃ R : Nat → Int32, (∀ j, M1.1 19 j = cpR R (M.1 19) (((M.1 15 0).toInt - 65) * 60).toNat ((M.1 14 1).toInt).toNat j) ∧ MTE (tX M) (fun q => (R q).toInt) ((M.1 14 1).toInt - 2).toNat) (E' : SCM M1 M2 a') (ea : a = a') (F : Fr W M M1) (F' : Fr W' M1 M2) (hw : (noW W 60 && (noW W 61 && (noW W 62 && (noW W 63 && (!inW W 47 20 && !inW W 47 23))))) = true) (hw' : noW W' 19 = true) : GT M2 := by
  simp only [Bool.and_eq_true, Bool.not_eq_true'] at hw
  obtain ⟨w60, w61, w62, w63, w20, w23⟩ := hw
  have r60 := row_fr F w60
  have r61 := row_fr F w61
  have r62 := row_fr F w62
  have r63 := row_fr F w63
  have e20 := F.at 47 20 w20
  have s19 := row_fr F' hw'
  have gn := ig_14_1 IX
  obtain ⟨ht, -⟩ := h
  have same : SMX M M1 → SMM M1 M2 → GT M2 := fun x y => by
    unfold GT tel tsz txt
    rw [s19, x.2.1, y.1, y.2.1, y.2.2.1, r61, r62, r63]
    exact hG
  obtain ⟨p, hp, hc⟩ := E
  obtain ⟨p', hp', hc'⟩ := E'
  have hpr := MF_rng hp gn.1
  have hpr' := MF_rng hp' (by rw [e20, ← g1]; exact gn.1)
  rcases hc with ⟨q1, q2, q3⟩ | ⟨q1, u, hu, hc⟩
  · rcases hc' with ⟨z1, z2, z3⟩ | ⟨z1, u', hu', ⟨y1, y2, y3⟩ | ⟨y1, ⟨x1, x2, x3⟩ | ⟨x1, x2, x3⟩⟩⟩
    · exact same q3 z3
    · exact same q3 y3
    · exact same q3 x3
    · have z := MF_ok hp' z1; omega
  · have hok := MF_ok hp q1
    have hur := UT_rng hu
    rcases hc with ⟨v1, v2, v3⟩ | ⟨v1, ⟨b1, b2, b3⟩ | ⟨b1, b2, b3⟩⟩
    · rcases hc' with ⟨z1, z2, z3⟩ | ⟨z1, u', hu', ⟨y1, y2, y3⟩ | ⟨y1, ⟨x1, x2, x3⟩ | ⟨x1, x2, x3⟩⟩⟩
      · exact same v3 z3
      · exact same v3 y3
      · exact same v3 x3
      · have z := MF_ok hp' z1; omega
    · rcases hc' with ⟨z1, z2, z3⟩ | ⟨z1, u', hu', ⟨y1, y2, y3⟩ | ⟨y1, ⟨x1, x2, x3⟩ | ⟨x1, x2, x3⟩⟩⟩
      · exact same b3 z3
      · exact same b3 y3
      · exact same b3 x3
      · have z := MF_ok hp' z1; omega
    · rcases hc' with ⟨z1, z2, z3⟩ | ⟨z1, u', hu', ⟨y1, y2, y3⟩ | ⟨y1, ⟨x1, x2, x3⟩ | ⟨x1, x2, x3⟩⟩⟩
      · omega
      · have z := UT_rng hu'; omega
      · omega
      · have e0 : (M.1 60 0).toInt = (M.1 15 0).toInt := by rw [ht 0 (by omega)]
        obtain ⟨R, k1, k2⟩ := K (by omega)
        have hg := MF_end hp q1
        rw [r60, e0] at x3
        generalize hsc : (M.1 15 0).toInt - 65 = sc at *
        have hsc8 : 0 ≤ sc ∧ sc < 8 := by omega
        obtain ⟨m61, m62, m62s, m63s, -⟩ := x3
        rw [e20, ← g1] at m61 m62s
        rw [r60, r61] at m61
        rw [r62, r63] at m62
        have ztsz : ∀ x, x < 8 → 0 ≤ tsz M x ∧ tsz M x ≤ 58 := fun x hx => ig_62 IM x hx
        intro x hx htx
        by_cases q : x = sc.toNat
        · subst q
          have etz : (tsz M2 sc.toNat).toNat = ((M.1 14 1).toInt - 2).toNat := congrArg Int.toNat m62s
          have txs : ∀ k, k < ((M.1 14 1).toInt - 2).toNat → tX M k = txt M2 sc.toNat k := fun k hk => by
            unfold tX txt
            rw [m61, if_pos (by omega), show 60 * sc.toNat + k - 60 * sc.toNat + 2 = k + 2 by omega, ht (k + 2) (by omega)]
          rw [etz]
          refine ⟨by rw [← gsN_cong _ txs]; exact hg, MTE_cong k2 txs (fun k hk => ?_)⟩
          show (R (k + 2)).toInt = (M2.1 19 (60 * sc.toNat + (k + 2))).toInt
          rw [s19, k1]
          unfold cpR
          rw [if_pos (by omega), show 60 * sc.toNat + (k + 2) - (sc * 60).toNat = k + 2 by omega]
        · have etel : tel M2 x = tel M x := by unfold tel; rw [(m62 x q).2]
          have etsz : tsz M2 x = tsz M x := by unfold tsz; rw [(m62 x q).1]
          rw [etel] at htx
          have zz := ztsz x hx
          obtain ⟨o1, o2⟩ := hG x hx htx
          have txo : ∀ k, k < (tsz M x).toNat → txt M x k = txt M2 x k := fun k hk => by
            unfold txt
            rw [m61, if_neg (by omega)]
          rw [etsz]
          refine ⟨by rw [← gsN_cong _ txo]; exact o1, MTE_cong o2 txo (fun k hk => ?_)⟩
          show (M.1 19 (60 * x + (k + 2))).toInt = (M2.1 19 (60 * x + (k + 2))).toInt
          rw [s19, k1]
          unfold cpR
          rw [if_neg (by omega)]
def SON (M : Mem) : Prop := (M.1 33 3).toInt = (M.1 47 32).toInt ∧ ∀ j : Nat, (j : Int) < (M.1 33 3).toInt → M.1 34 j = M.1 69 j
theorem SON_keep {W W' : List (Nat × Nat)} {M M1 M2 : Mem} (h : SON M) (F : Fr W M M1) (F' : Fr W' M1 M2) (hw : ((noW W 34 && noW W 69) && (!inW W 33 3 && !inW W 47 32)) = true) (hw' : ((noW W' 34 && noW W' 69) && (!inW W' 33 3 && !inW W' 47 32)) = true) : SON M2 := by
  simp only [Bool.and_eq_true, Bool.not_eq_true'] at hw hw'
  unfold SON
  rw [row_fr F' hw'.1.1, row_fr F hw.1.1, row_fr F' hw'.1.2, row_fr F hw.1.2, F'.at 33 3 hw'.2.1, F.at 33 3 hw.2.1, F'.at 47 32 hw'.2.2, F.at 47 32 hw.2.2]
  exact h
def LF (n : Nat) (M : Mem) : Prop := LD n M ∧ BK M ∧ BSL M ∧ GT M ∧ SON M
/-! ===== what both sides sing by ===== -/
def ppS (M : Mem) (s y : Int) : PaT := (txt M, tsz M, fun x q => (M.1 19 (60 * x + q + 2)).toInt - 2, (M.1 47 24).toInt, fun sl => ((ctb (Bq M s y sl) ((M.1 47 12).toInt).toNat : Nat) : Int), fun sl i => nthN (Bq M s y sl) i 40)
theorem ppS_TV {M : Mem} {s y : Int} (hG : GT M) (hw : WFM M) (IM : Iv TM M) : TVp (ppS M s y) (tel M) := by
  intro x hx ht
  obtain ⟨g1, g2⟩ := hG x hx ht
  have z := ig_62 IM x hx
  refine ⟨z, ⟨g1, fun q hq ho => ?_⟩, fun k hk hl => ?_⟩
  · obtain ⟨j, j1, j2, j3⟩ := g2.1 q hq ho
    have j1 : (M.1 19 (60 * x + (q + 2))).toInt = ((j + 2 : Nat) : Int) := j1
    refine ⟨j, ?_, j2, j3⟩
    show (M.1 19 (60 * x + q + 2)).toInt - 2 = _
    rw [show 60 * x + q + 2 = 60 * x + (q + 2) by omega, j1]
    omega
  · have hk : (k : Int) < tsz M x := hk
    exact (hw x hx ht).2 k (by omega) hl.1 hl.2
theorem ppS_X {M : Mem} {s y : Int} {S : Int64} (hS : SCN M) (hG : GT M) (hB : BK M) (hL : BSL M) (g12 : (M.1 1 12).toInt = (M.1 47 12).toInt) (g24 : (M.1 14 12).toInt = (M.1 47 24).toInt) (g53 : (M.1 23 7).toInt = (M.1 47 53).toInt) (IM : Iv TM M) (hb : ∀ l : Nat, l < 64 → b64 S l = hsX M s l y ((M.1 23 7).toInt).toNat) : PX M (ppS M s y) S (tel M) := by
  have gl := ig_47_12 IM
  have ge := ig_47_53 IM
  have key : ∀ sl : Nat, sl < 8 → ∀ l : Nat, l < 64 → b64 (S &&& M.2 11 sl) l = Bq M s y sl l := fun sl hsl l hl => by
    rw [b64_and, hb l hl, hL sl hsl l hl, g53, g12, ← hs_eq hB (by omega)]
    unfold Bq
    cases hsM M s (l : Int) y ((M.1 47 53).toInt).toNat <;> cases decide ((l : Int) < (M.1 47 12).toInt) <;> rfl
  have out : ∀ sl : Nat, ∀ l : Nat, (M.1 47 12).toInt ≤ (l : Int) → Bq M s y sl l = false := fun sl l hl => by
    unfold Bq
    rw [decide_eq_false (by omega)]; rfl
  refine ⟨g24, fun x hx ht => ?_, fun sl hsl => ⟨?_, fun l h1 h2 => by rw [key sl hsl l h2]; exact out sl l (by omega), fun i => ?_⟩⟩
  · obtain ⟨z1, z2⟩ := hS.2.2.1 x hx ht
    obtain ⟨g1, g2⟩ := hG x hx ht
    refine ⟨z1, fun k hk => ?_⟩
    have hk : (k : Int) < tsz M x := hk
    refine ⟨by rw [z2 k hk]; rfl, fun _ => ?_, fun hc => ?_⟩
    · show _ = (M.1 19 (60 * x + k + 2)).toInt - 2 + 2
      omega
    · obtain ⟨r, r1, r2⟩ := g2.2 k (by omega) hc
      exact ⟨r, r1, r2⟩
  · show ((ctb (Bq M s y sl) ((M.1 47 12).toInt).toNat : Nat) : Int) = _
    rw [ctb_cong (q := Bq M s y sl) (key sl hsl)]
    have e := ctb_out (p := Bq M s y sl) (m := ((M.1 47 12).toInt).toNat) (64 - ((M.1 47 12).toInt).toNat) (fun k h1 _ => out sl k (by omega))
    rw [show ((M.1 47 12).toInt).toNat + (64 - ((M.1 47 12).toInt).toNat) = 64 by omega] at e
    rw [e]
  · show nthN (Bq M s y sl) i 40 = _
    exact (nthN_cong (fun l hl => key sl hsl l (by omega))).symm
theorem ppS_Q {W : List (Nat × Nat)} {M M1 : Mem} {s y : Int} (F : Fr W M M1) (hw : ((noW W 61 && noW W 62) && ((noW W 55 && (noW W 81 && (noW W 82 && (noW W 83 && noW W 84)))) && (!inW W 47 24 && (!inW W 47 12 && !inW W 47 53)))) = true) : PQs M1 (ppS M s y) s y := by
  simp only [Bool.and_eq_true, Bool.not_eq_true'] at hw
  obtain ⟨⟨w61, w62⟩, ⟨w55, w81, w82, w83, w84⟩, w24, w12, w53⟩ := hw
  have e1 : txt M1 = txt M := by unfold txt; rw [row_fr F w61]
  have e2 : tsz M1 = tsz M := by unfold tsz; rw [row_fr F w62]
  have e3 : Bq M1 s y = Bq M s y := by
    unfold Bq
    rw [hsM_fr F (by rw [w81, w82, w83, w84]; rfl), row_fr F w55, F.at 47 12 w12, F.at 47 53 w53]
  refine ⟨e1.symm, e2.symm, by rw [F.at 47 24 w24]; rfl, fun sl _ _ => ?_⟩
  rw [e3, F.at 47 12 w12]
  exact ⟨rfl, fun i => rfl⟩
theorem sung_ans {x a a' k k' : Int} {R R' : Nat → Int32} (hk : k = k') (hR : ∀ j : Nat, (j : Int) < k → R j = R' j) (A : (0 ≤ x ∧ x < k ∧ a = (R x.toNat).toInt) ∨ (¬ (0 ≤ x ∧ x < k) ∧ a = -1)) (A' : (0 ≤ x ∧ x < k' ∧ a' = (R' x.toNat).toInt) ∨ (¬ (0 ≤ x ∧ x < k') ∧ a' = -1)) : a = a' := by
  subst hk
  rcases A with ⟨h1, h2, h3⟩ | ⟨h1, h2⟩ <;> rcases A' with ⟨y1, y2, y3⟩ | ⟨y1, y2⟩
  · rw [h3, y3, hR x.toNat (by omega)]
  · exact absurd ⟨h1, h2⟩ y1
  · exact absurd ⟨y1, y2⟩ h1
  · rw [h2, y2]
theorem m_L_13 : MV RL 13 0 yX6_half cX6_half 4 (some .int) 3 := ⟨⟨6, _, _, _, rfl, rfl⟩, Or.inl (gC_2 87 (by decide +kernel) (by decide +kernel)), iv_X6_half.1, iv_X6_half.2, yk_X6_half⟩
theorem m_L_17 : MV RL 17 47 yX7_half cX7_half 4 (some .int) 3 := ⟨⟨7, _, _, _, rfl, rfl⟩, Or.inl (gC_5 66 (by decide +kernel) (by decide +kernel)), iv_X7_half.1, iv_X7_half.2, yk_X7_half⟩
theorem m_L_18 : MV RL 18 0 yX6_name cX6_name 5 (some .int) 3 := ⟨⟨6, _, _, _, rfl, rfl⟩, Or.inl (gC_2 101 (by decide +kernel) (by decide +kernel)), iv_X6_name.1, iv_X6_name.2, yk_X6_name⟩
theorem m_L_21 : MV RL 21 47 yX7_name cX7_name 5 (some .int) 3 := ⟨⟨7, _, _, _, rfl, rfl⟩, Or.inl (gC_5 75 (by decide +kernel) (by decide +kernel)), iv_X7_name.1, iv_X7_name.2, yk_X7_name⟩
theorem m_L_22 : MV RL 22 0 yX6_line cX6_line 6 (some .int) 5 := ⟨⟨6, _, _, _, rfl, rfl⟩, Or.inl (gC_2 105 (by decide +kernel) (by decide +kernel)), iv_X6_line.1, iv_X6_line.2, yk_X6_line⟩
theorem m_L_26 : MV RL 26 47 yX7_line cX7_line 6 (some .int) 5 := ⟨⟨7, _, _, _, rfl, rfl⟩, Or.inl (gC_5 83 (by decide +kernel) (by decide +kernel)), iv_X7_line.1, iv_X7_line.2, yk_X7_line⟩
theorem m_L_27 : MV RL 27 0 yX6_metre cX6_metre 4 (some .int) 2 := ⟨⟨6, _, _, _, rfl, rfl⟩, Or.inl (gC_2 117 (by decide +kernel) (by decide +kernel)), iv_X6_metre.1, iv_X6_metre.2, yk_X6_metre⟩
theorem m_L_31 : MV RL 31 47 yX7_metre cX7_metre 4 (some .int) 2 := ⟨⟨7, _, _, _, rfl, rfl⟩, Or.inl (gC_5 92 (by decide +kernel) (by decide +kernel)), iv_X7_metre.1, iv_X7_metre.2, yk_X7_metre⟩
theorem m_L_32 : MV RL 32 0 yX6_told cX6_told 3 (some .int) 2 := ⟨⟨6, _, _, _, rfl, rfl⟩, Or.inl (gC_2 121 (by decide +kernel) (by decide +kernel)), iv_X6_told.1, iv_X6_told.2, yk_X6_told⟩
theorem m_L_35 : MV RL 35 47 yX7_told cX7_told 3 (some .int) 2 := ⟨⟨7, _, _, _, rfl, rfl⟩, Or.inl (gC_5 99 (by decide +kernel) (by decide +kernel)), iv_X7_told.1, iv_X7_told.2, yk_X7_told⟩
theorem m_L_36 : MV RL 36 0 yX6_swap cX6_swap 3 (some .int) 2 := ⟨⟨6, _, _, _, rfl, rfl⟩, Or.inl (gC_2 160 (by decide +kernel) (by decide +kernel)), iv_X6_swap.1, iv_X6_swap.2, yk_X6_swap⟩
theorem m_L_39 : MV RL 39 47 yX7_swap cX7_swap 5 (some .int) 2 := ⟨⟨7, _, _, _, rfl, rfl⟩, Or.inl (gC_5 123 (by decide +kernel) (by decide +kernel)), iv_X7_swap.1, iv_X7_swap.2, yk_X7_swap⟩
theorem m_L_40 : MV RL 40 0 yX6_broken cX6_broken 2 (some .int) 1 := ⟨⟨6, _, _, _, rfl, rfl⟩, Or.inl (gC_2 185 (by decide +kernel) (by decide +kernel)), iv_X6_broken.1, iv_X6_broken.2, yk_X6_broken⟩
theorem m_L_44 : MV RL 44 47 yX7_broken cX7_broken 2 (some .int) 1 := ⟨⟨7, _, _, _, rfl, rfl⟩, Or.inl (gC_5 131 (by decide +kernel) (by decide +kernel)), iv_X7_broken.1, iv_X7_broken.2, yk_X7_broken⟩
theorem m_L_47 : MV RL 47 0 yX6_feed cX6_feed 4 (some .int) 2 := ⟨⟨6, _, _, _, rfl, rfl⟩, Or.inl (gC_2 192 (by decide +kernel) (by decide +kernel)), iv_X6_feed.1, iv_X6_feed.2, yk_X6_feed⟩
theorem m_L_51 : MV RL 51 47 yX7_feed cX7_feed 5 (some .int) 2 := ⟨⟨7, _, _, _, rfl, rfl⟩, Or.inl (gC_5 135 (by decide +kernel) (by decide +kernel)), iv_X7_feed.1, iv_X7_feed.2, yk_X7_feed⟩
theorem m_L_52 : MV RL 52 0 yX6_scene cX6_scene 1 (some .int) 0 := ⟨⟨6, _, _, _, rfl, rfl⟩, Or.inl (gC_2 201 (by decide +kernel) (by decide +kernel)), iv_X6_scene.1, iv_X6_scene.2, yk_X6_scene⟩
theorem m_L_56 : MV RL 56 47 yX7_scene cX7_scene 5 (some .int) 0 := ⟨⟨7, _, _, _, rfl, rfl⟩, Or.inl (gC_5 140 (by decide +kernel) (by decide +kernel)), iv_X7_scene.1, iv_X7_scene.2, yk_X7_scene⟩
theorem m_L_57 : MV RL 57 0 yX6_hall cX6_hall 3 (some .int) 1 := ⟨⟨6, _, _, _, rfl, rfl⟩, Or.inl (gC_3 21 (by decide +kernel) (by decide +kernel)), iv_X6_hall.1, iv_X6_hall.2, yk_X6_hall⟩
theorem m_L_60 : MV RL 60 47 yX7_hall cX7_hall 3 (some .int) 1 := ⟨⟨7, _, _, _, rfl, rfl⟩, Or.inl (gC_5 166 (by decide +kernel) (by decide +kernel)), iv_X7_hall.1, iv_X7_hall.2, yk_X7_hall⟩
theorem m_L_61 : MV RL 61 0 yX6_sing cX6_sing 7 (some .int) 4 := ⟨⟨6, _, _, _, rfl, rfl⟩, Or.inl (gC_3 25 (by decide +kernel) (by decide +kernel)), iv_X6_sing.1, iv_X6_sing.2, yk_X6_sing⟩
theorem m_L_65 : MV RL 65 47 yX7_sing cX7_sing 7 (some .int) 4 := ⟨⟨7, _, _, _, rfl, rfl⟩, Or.inl (gC_5 171 (by decide +kernel) (by decide +kernel)), iv_X7_sing.1, iv_X7_sing.2, yk_X7_sing⟩
theorem m_L_66 : MV RL 66 0 yX6_sung cX6_sung 2 (some .int) 1 := ⟨⟨6, _, _, _, rfl, rfl⟩, Or.inl (gC_3 104 (by decide +kernel) (by decide +kernel)), iv_X6_sung.1, iv_X6_sung.2, yk_X6_sung⟩
theorem m_L_69 : MV RL 69 47 yX7_sung cX7_sung 2 (some .int) 1 := ⟨⟨7, _, _, _, rfl, rfl⟩, Or.inl (gC_5 214 (by decide +kernel) (by decide +kernel)), iv_X7_sung.1, iv_X7_sung.2, yk_X7_sung⟩
theorem m_L_70 : MV RL 70 0 yX6_singer cX6_singer 2 (some .int) 1 := ⟨⟨6, _, _, _, rfl, rfl⟩, Or.inl (gC_3 108 (by decide +kernel) (by decide +kernel)), iv_X6_singer.1, iv_X6_singer.2, yk_X6_singer⟩
theorem m_L_73 : MV RL 73 47 yX7_singer cX7_singer 2 (some .int) 1 := ⟨⟨7, _, _, _, rfl, rfl⟩, Or.inl (gC_5 218 (by decide +kernel) (by decide +kernel)), iv_X7_singer.1, iv_X7_singer.2, yk_X7_singer⟩
theorem m_L_74 : MV RL 74 0 yX6_village cX6_village 4 (some .int) 2 := ⟨⟨6, _, _, _, rfl, rfl⟩, Or.inl (gC_3 116 (by decide +kernel) (by decide +kernel)), iv_X6_village.1, iv_X6_village.2, yk_X6_village⟩
theorem m_L_77 : MV RL 77 47 yX7_village cX7_village 4 (some .int) 2 := ⟨⟨7, _, _, _, rfl, rfl⟩, Or.inl (gC_5 222 (by decide +kernel) (by decide +kernel)), iv_X7_village.1, iv_X7_village.2, yk_X7_village⟩
theorem m_L_78 : MV RL 78 0 yX6_learn cX6_learn 5 (some .int) 4 := ⟨⟨6, _, _, _, rfl, rfl⟩, Or.inl (gC_3 120 (by decide +kernel) (by decide +kernel)), iv_X6_learn.1, iv_X6_learn.2, yk_X6_learn⟩
theorem m_L_82 : MV RL 82 47 yX7_learn cX7_learn 5 (some .int) 4 := ⟨⟨7, _, _, _, rfl, rfl⟩, Or.inl (gC_5 227 (by decide +kernel) (by decide +kernel)), iv_X7_learn.1, iv_X7_learn.2, yk_X7_learn⟩
theorem m_L_83 : MV RL 83 0 yX6_forget cX6_forget 4 (some .int) 3 := ⟨⟨6, _, _, _, rfl, rfl⟩, Or.inl (gC_3 128 (by decide +kernel) (by decide +kernel)), iv_X6_forget.1, iv_X6_forget.2, yk_X6_forget⟩
theorem m_L_86 : MV RL 86 47 yX7_forget cX7_forget 4 (some .int) 3 := ⟨⟨7, _, _, _, rfl, rfl⟩, Or.inl (gC_5 235 (by decide +kernel) (by decide +kernel)), iv_X7_forget.1, iv_X7_forget.2, yk_X7_forget⟩
theorem m_L_87 : MV RL 87 0 yX6_has cX6_has 5 (some .int) 4 := ⟨⟨6, _, _, _, rfl, rfl⟩, Or.inl (gC_3 132 (by decide +kernel) (by decide +kernel)), iv_X6_has.1, iv_X6_has.2, yk_X6_has⟩
theorem m_L_90 : MV RL 90 47 yX7_has cX7_has 5 (some .int) 4 := ⟨⟨7, _, _, _, rfl, rfl⟩, Or.inl (gC_5 239 (by decide +kernel) (by decide +kernel)), iv_X7_has.1, iv_X7_has.2, yk_X7_has⟩
theorem m_L_91 : MV RL 91 0 yX6_stock cX6_stock 4 (some .int) 3 := ⟨⟨6, _, _, _, rfl, rfl⟩, Or.inl (gC_3 140 (by decide +kernel) (by decide +kernel)), iv_X6_stock.1, iv_X6_stock.2, yk_X6_stock⟩
theorem m_L_94 : MV RL 94 47 yX7_stock cX7_stock 6 (some .int) 3 := ⟨⟨7, _, _, _, rfl, rfl⟩, Or.inl (gC_6 11 (by decide +kernel) (by decide +kernel)), iv_X7_stock.1, iv_X7_stock.2, yk_X7_stock⟩
theorem m_L_95 : MV RL 95 0 yX6_unlike cX6_unlike 5 (some .int) 4 := ⟨⟨6, _, _, _, rfl, rfl⟩, Or.inl (gC_3 145 (by decide +kernel) (by decide +kernel)), iv_X6_unlike.1, iv_X6_unlike.2, yk_X6_unlike⟩
theorem m_L_98 : MV RL 98 47 yX7_unlike cX7_unlike 5 (some .int) 4 := ⟨⟨7, _, _, _, rfl, rfl⟩, Or.inl (gC_6 15 (by decide +kernel) (by decide +kernel)), iv_X7_unlike.1, iv_X7_unlike.2, yk_X7_unlike⟩
theorem m_L_99 : MV RL 99 0 yX6_master cX6_master 4 (some .int) 3 := ⟨⟨6, _, _, _, rfl, rfl⟩, Or.inl (gC_3 159 (by decide +kernel) (by decide +kernel)), iv_X6_master.1, iv_X6_master.2, yk_X6_master⟩
theorem m_L_102 : MV RL 102 47 yX7_master cX7_master 5 (some .int) 3 := ⟨⟨7, _, _, _, rfl, rfl⟩, Or.inl (gC_6 23 (by decide +kernel) (by decide +kernel)), iv_X7_master.1, iv_X7_master.2, yk_X7_master⟩
theorem m_L_103 : MV RL 103 0 yX6_lineage cX6_lineage 6 (some .int) 2 := ⟨⟨6, _, _, _, rfl, rfl⟩, Or.inl (gC_3 172 (by decide +kernel) (by decide +kernel)), iv_X6_lineage.1, iv_X6_lineage.2, yk_X6_lineage⟩
theorem m_L_106 : MV RL 106 47 yX7_lineage cX7_lineage 6 (some .int) 2 := ⟨⟨7, _, _, _, rfl, rfl⟩, Or.inl (gC_6 31 (by decide +kernel) (by decide +kernel)), iv_X7_lineage.1, iv_X7_lineage.2, yk_X7_lineage⟩
theorem m_L_107 : MV RL 107 0 yX6_loan cX6_loan 7 (some .int) 4 := ⟨⟨6, _, _, _, rfl, rfl⟩, Or.inl (gC_3 176 (by decide +kernel) (by decide +kernel)), iv_X6_loan.1, iv_X6_loan.2, yk_X6_loan⟩
theorem m_L_110 : MV RL 110 47 yX7_loan cX7_loan 12 (some .int) 4 := ⟨⟨7, _, _, _, rfl, rfl⟩, Or.inl (gC_6 35 (by decide +kernel) (by decide +kernel)), iv_X7_loan.1, iv_X7_loan.2, yk_X7_loan⟩
theorem m_L_111 : MV RL 111 0 yX6_core cX6_core 6 (some .int) 3 := ⟨⟨6, _, _, _, rfl, rfl⟩, Or.inl (gC_3 186 (by decide +kernel) (by decide +kernel)), iv_X6_core.1, iv_X6_core.2, yk_X6_core⟩
theorem m_L_114 : MV RL 114 47 yX7_core cX7_core 8 (some .int) 3 := ⟨⟨7, _, _, _, rfl, rfl⟩, Or.inl (gC_6 39 (by decide +kernel) (by decide +kernel)), iv_X7_core.1, iv_X7_core.2, yk_X7_core⟩
theorem m_L_115 : MV RL 115 0 yX6_whose cX6_whose 4 (some .int) 3 := ⟨⟨6, _, _, _, rfl, rfl⟩, Or.inl (gC_3 195 (by decide +kernel) (by decide +kernel)), iv_X6_whose.1, iv_X6_whose.2, yk_X6_whose⟩
theorem m_L_118 : MV RL 118 47 yX7_whose cX7_whose 9 (some .int) 3 := ⟨⟨7, _, _, _, rfl, rfl⟩, Or.inl (gC_6 43 (by decide +kernel) (by decide +kernel)), iv_X7_whose.1, iv_X7_whose.2, yk_X7_whose⟩
theorem m_L_119 : MV RL 119 0 yX6_put cX6_put 3 (some .int) 2 := ⟨⟨6, _, _, _, rfl, rfl⟩, Or.inl (gC_3 204 (by decide +kernel) (by decide +kernel)), iv_X6_put.1, iv_X6_put.2, yk_X6_put⟩
theorem m_L_122 : MV RL 122 47 yX7_put cX7_put 3 (some .int) 2 := ⟨⟨7, _, _, _, rfl, rfl⟩, Or.inl (gC_6 47 (by decide +kernel) (by decide +kernel)), iv_X7_put.1, iv_X7_put.2, yk_X7_put⟩
theorem m_L_123 : MV RL 123 0 yX6_runs cX6_runs 5 (some .int) 4 := ⟨⟨6, _, _, _, rfl, rfl⟩, Or.inl (gC_3 208 (by decide +kernel) (by decide +kernel)), iv_X6_runs.1, iv_X6_runs.2, yk_X6_runs⟩
theorem m_L_126 : MV RL 126 47 yX7_runs cX7_runs 5 (some .int) 4 := ⟨⟨7, _, _, _, rfl, rfl⟩, Or.inl (gC_6 51 (by decide +kernel) (by decide +kernel)), iv_X7_runs.1, iv_X7_runs.2, yk_X7_runs⟩
theorem m_L_127 : MV RL 127 0 yX6_forged cX6_forged 7 (some .int) 3 := ⟨⟨6, _, _, _, rfl, rfl⟩, Or.inl (gC_4 49 (by decide +kernel) (by decide +kernel)), iv_X6_forged.1, iv_X6_forged.2, yk_X6_forged⟩
theorem m_L_130 : MV RL 130 47 yX7_forged cX7_forged 5 (some .int) 3 := ⟨⟨7, _, _, _, rfl, rfl⟩, Or.inl (gC_6 96 (by decide +kernel) (by decide +kernel)), iv_X7_forged.1, iv_X7_forged.2, yk_X7_forged⟩
theorem m_L_131 : MV RL 131 0 yX6_record cX6_record 4 (some .int) 3 := ⟨⟨6, _, _, _, rfl, rfl⟩, Or.inl (gC_4 58 (by decide +kernel) (by decide +kernel)), iv_X6_record.1, iv_X6_record.2, yk_X6_record⟩
theorem m_L_134 : MV RL 134 47 yX7_record cX7_record 5 (some .int) 3 := ⟨⟨7, _, _, _, rfl, rfl⟩, Or.inl (gC_6 104 (by decide +kernel) (by decide +kernel)), iv_X7_record.1, iv_X7_record.2, yk_X7_record⟩
theorem m_L_135 : MV RL 135 0 yX6_heard cX6_heard 4 (some .int) 3 := ⟨⟨6, _, _, _, rfl, rfl⟩, Or.inl (gC_4 67 (by decide +kernel) (by decide +kernel)), iv_X6_heard.1, iv_X6_heard.2, yk_X6_heard⟩
theorem m_L_138 : MV RL 138 47 yX7_heard cX7_heard 7 (some .int) 3 := ⟨⟨7, _, _, _, rfl, rfl⟩, Or.inl (gC_6 108 (by decide +kernel) (by decide +kernel)), iv_X7_heard.1, iv_X7_heard.2, yk_X7_heard⟩
theorem m_L_139 : MV RL 139 0 yX6_filled cX6_filled 5 (some .int) 3 := ⟨⟨6, _, _, _, rfl, rfl⟩, Or.inl (gC_4 96 (by decide +kernel) (by decide +kernel)), iv_X6_filled.1, iv_X6_filled.2, yk_X6_filled⟩
theorem m_L_142 : MV RL 142 47 yX7_filled cX7_filled 6 (some .int) 3 := ⟨⟨7, _, _, _, rfl, rfl⟩, Or.inl (gC_6 120 (by decide +kernel) (by decide +kernel)), iv_X7_filled.1, iv_X7_filled.2, yk_X7_filled⟩
theorem m_L_143 : MV RL 143 0 yX6_count cX6_count 2 (some .int) 1 := ⟨⟨6, _, _, _, rfl, rfl⟩, Or.inl (gC_4 111 (by decide +kernel) (by decide +kernel)), iv_X6_count.1, iv_X6_count.2, yk_X6_count⟩
theorem m_L_146 : MV RL 146 47 yX7_count cX7_count 4 (some .int) 1 := ⟨⟨7, _, _, _, rfl, rfl⟩, Or.inl (gC_6 124 (by decide +kernel) (by decide +kernel)), iv_X7_count.1, iv_X7_count.2, yk_X7_count⟩
theorem is_X6 : Cond.instantiable RX6 8 ∈ gT := gC_1 14 (by decide +kernel) (by decide +kernel)
theorem it_X6 : Cond.initialized RX6 ∈ gT := gC_1 1 (by decide +kernel) (by decide +kernel)
theorem ii_X6 : Cond.instanceMethod yX6_init ∈ gT := gC_1 16 (by decide +kernel) (by decide +kernel)
theorem iy_X6 : YOK yX6_init cX6_init 1 none 0 := ⟨gC_1 1 (by decide +kernel) (by decide +kernel), gC_1 17 (by decide +kernel) (by decide +kernel), by decide +kernel, by decide +kernel, by decide +kernel⟩
theorem is_X7 : Cond.instantiable RX7 60 ∈ gT := gC_4 120 (by decide +kernel) (by decide +kernel)
theorem it_X7 : Cond.initialized RX7 ∈ gT := gC_1 9 (by decide +kernel) (by decide +kernel)
theorem ii_X7 : Cond.instanceMethod yX7_init ∈ gT := gC_4 122 (by decide +kernel) (by decide +kernel)
theorem iy_X7 : YOK yX7_init cX7_init 2 none 0 := ⟨gC_1 9 (by decide +kernel) (by decide +kernel), gC_4 123 (by decide +kernel) (by decide +kernel), by decide +kernel, by decide +kernel, by decide +kernel⟩
theorem cl_L_7 : Cond.classLink RL 7 RX6 ∈ gT := gC_1 13 (by decide +kernel) (by decide +kernel)
theorem li_L_9 : MLk RL 9 yX6_init := Or.inl (gC_1 15 (by decide +kernel) (by decide +kernel))
theorem cl_L_10 : Cond.classLink RL 10 RX7 ∈ gT := gC_4 119 (by decide +kernel) (by decide +kernel)
theorem li_L_12 : MLk RL 12 yX7_init := Or.inl (gC_4 121 (by decide +kernel) (by decide +kernel))
variable {Γ : LC} {base b N : Nat} {xs : Nat → Int32}
set_option maxHeartbeats 4000000 in
theorem cs_half (X : gLX Γ base b N xs) {n i : Nat} {y : Int32} (hy : y.toInt = i) (hi : i + 6 ≤ N) (hN : N ≤ 3072) (hn : n ≤ 512) {M : Mem} (h : LF n M) (kk : ∀ M', LF (n + 1) M' → GL Γ M' 1445 (LL b base y) []) : GL Γ M 172 (LL b base y) [] := by
  obtain ⟨⟨⟨⟨hX, hM, hR, ht0, ht1⟩, hV⟩, hS, hC⟩, hB, hBS, hGT, hSO⟩ := h
  refine l_aload X 1 rfl dL_law_172 ?_
  refine l_arg X hy hi hN 1 ⟨by decide, by decide⟩ dL_law_173 dL_law_174 dL_law_175 dL_law_176 dL_law_177 ?_
  refine l_arg X hy hi hN 2 ⟨by decide, by decide⟩ dL_law_178 dL_law_179 dL_law_180 dL_law_181 dL_law_182 ?_
  refine l_arg X hy hi hN 3 ⟨by decide, by decide⟩ dL_law_183 dL_law_184 dL_law_185 dL_law_186 dL_law_187 ?_
  refine l_callV X m_L_13 (c_X6_half_V (fun k => base + k) M (xs (i + 1)) rfl (xs (i + 2)) rfl (xs (i + 3)) rfl hX.1) rfl (by decide) (Nat.le_of_ble_eq_true rfl) (S := []) rfl dL_law_188 (fun v M1 q1 => ?_)
  obtain ⟨r1, a1, rfl, e1, A1, E1, I1, F1⟩ := q1
  have F1 : Fr W_X6_half_V M M1 := F1
  have hX1 : LX M1 := gen_LX hX F1 I1 (by decide)
  have hM1 : LM M1 := LM_fr hM F1 (by decide)
  have tM1 : (M1.1 47 23).toInt = (M.1 47 23).toInt := by rw [F1.at 47 23 (by decide)]
  show GL Γ M1 191 (LL b base y) [.int r1]
  refine l_pop X dL_law_191 rfl ?_
  refine l_aload X 2 rfl dL_law_192 ?_
  refine l_arg X hy hi hN 1 ⟨by decide, by decide⟩ dL_law_193 dL_law_194 dL_law_195 dL_law_196 dL_law_197 ?_
  refine l_arg X hy hi hN 2 ⟨by decide, by decide⟩ dL_law_198 dL_law_199 dL_law_200 dL_law_201 dL_law_202 ?_
  refine l_arg X hy hi hN 3 ⟨by decide, by decide⟩ dL_law_203 dL_law_204 dL_law_205 dL_law_206 dL_law_207 ?_
  refine l_callV X m_L_17 (c_X7_half_V (fun k => base + k) M1 (xs (i + 1)) rfl (xs (i + 2)) rfl (xs (i + 3)) rfl hM1.1) rfl (by decide) (Nat.le_of_ble_eq_true rfl) (S := []) rfl dL_law_208 (fun v M2 q2 => ?_)
  obtain ⟨r2, a2, rfl, e2, A2, E2, I2, F2⟩ := q2
  have F2 : Fr W_X7_half_V M1 M2 := F2
  have hX2 : LX M2 := LX_fr hX1 F2 (by decide)
  have hM2 : LM M2 := gen_LM hM1 F2 I2 (by decide)
  have tM2 : 0 ≤ (M2.1 47 23).toInt ∧ (M2.1 47 23).toInt ≤ n + 1 := by rw [F2.at 47 23 (by decide)]; omega
  have g_47_11 : (M1.1 47 11).toInt = (M.1 1 3).toInt := by rw [F1.at 47 11 (by decide)]; exact hR.1.1.symm
  have E2o := E2
  simp only [g_47_11] at A2 E2
  have s0 : (M2.1 1 3).toInt = (M2.1 47 11).toInt := by rw [F2.at 1 3 (by decide)]; exact ans2 E1.1 E2.1
  have s1 : (M2.1 1 12).toInt = (M2.1 47 12).toInt := sc_keep hR.1.2.1 F1 F2 (by decide) (by decide) (by decide) (by decide)
  have s2 : (M2.1 14 1).toInt = (M2.1 47 20).toInt := sc_keep hR.1.2.2.1 F1 F2 (by decide) (by decide) (by decide) (by decide)
  have s3 : (M2.1 14 12).toInt = (M2.1 47 24).toInt := sc_keep hR.1.2.2.2.1 F1 F2 (by decide) (by decide) (by decide) (by decide)
  have s4 : (M2.1 23 2).toInt = (M2.1 47 52).toInt := sc_keep hR.1.2.2.2.2.1 F1 F2 (by decide) (by decide) (by decide) (by decide)
  have s5 : (M2.1 23 7).toInt = (M2.1 47 53).toInt := sc_keep hR.1.2.2.2.2.2.1 F1 F2 (by decide) (by decide) (by decide) (by decide)
  have s6 : (M2.1 0 7).toInt = (M2.1 47 43).toInt := sc_keep hR.1.2.2.2.2.2.2 F1 F2 (by decide) (by decide) (by decide) (by decide)
  have t0 : ∀ j, j < 10 → M2.1 5 j = M2.1 51 j := row_keep hR.2.1 F1 F2 (by decide) (by decide) (by decide) (by decide)
  have t1 : ∀ j, j < 3 → M2.1 12 j = M2.1 58 j := row_keep hR.2.2.1 F1 F2 (by decide) (by decide) (by decide) (by decide)
  have t2 : ∀ j, j < 8 → M2.1 25 j = M2.1 80 j := row_keep hR.2.2.2 F1 F2 (by decide) (by decide) (by decide) (by decide)
  have ans : a1 = a2 := ans3 A1 A2 (fun _ => rfl)
  have z11 := ig_47_11 hM1.1
  have vv2 : VV M2 := ⟨⟨row_eq hV.1.1 Iff.rfl E1.2.1 E2.2.1 F1 F2 (by decide) (by decide), row_eq hV.1.2.1 Iff.rfl E1.2.2.1 E2.2.2.1 F1 F2 (by decide) (by decide), row_eq hV.1.2.2.1 Iff.rfl E1.2.2.2 E2.2.2.2 F1 F2 (by decide) (by decide), row_keep hV.1.2.2.2.1 F1 F2 (by decide) (by decide) (by decide) (by decide), row_keep hV.1.2.2.2.2.1 F1 F2 (by decide) (by decide) (by decide) (by decide), row_keep hV.1.2.2.2.2.2.1 F1 F2 (by decide) (by decide) (by decide) (by decide), row_keep hV.1.2.2.2.2.2.2.1 F1 F2 (by decide) (by decide) (by decide) (by decide), row_keep hV.1.2.2.2.2.2.2.2.1 F1 F2 (by decide) (by decide) (by decide) (by decide), sc_keep hV.1.2.2.2.2.2.2.2.2.1 F1 F2 (by decide) (by decide) (by decide) (by decide), brk_keep hV.1.2.2.2.2.2.2.2.2.2 F1 F2 (by decide) (by decide) (by decide) (by decide) (by decide) (by decide)⟩, VAL_half (VAL_fr hV.2.1 F1 (by decide) (by decide)) z11.1 E2o.2.1 E2o.2.2.1 E2o.2.2.2 E2o.1 (fun c => ⟨by omega, by omega, by omega⟩) (row_fr F2 (c := 51) (by decide)) (row_fr F2 (c := 52) (by decide)) (row_fr F2 (c := 58) (by decide)), VLN_half (VLN_fr hV.2.2.1 F1 (by decide) (by decide) (by decide) (by decide)) F2 (by decide) (by decide) (by decide) (by have z := E2o.1; omega), SL_keep hV.2.2.2.1 F1 F2 (by decide) (by decide), SR_fr (SR_fr hV.2.2.2.2 F1 (by decide) (by decide)) F2 (by decide) (by decide)⟩
  have sn2 : SCN M2 := SCN_fr (SCN_fr hS F1 (by decide)) F2 (by decide)
  have rc2 : RC M2 := sc_keep hC F1 F2 (by decide) (by decide) (by decide) (by decide)
  have hl2 : (M.1 1 12).toInt ≤ (M2.1 1 12).toInt := by rw [F2.at 1 12 (by decide), F1.at 1 12 (by decide)]; exact Int.le_refl _
  have bk2 : BK M2 := BK_keep hB F1 F2 (by decide) (by decide) hl2
  have bs2 : BSL M2 := BSL_keep hBS F1 F2 (by decide) (by decide)
  have gt2 : GT M2 := GT_fr (GT_fr hGT F1 (by decide)) F2 (by decide)
  have so2 : SON M2 := SON_keep hSO F1 F2 (by decide) (by decide)
  show GL Γ M2 211 (LL b base y) [.int r2]
  refine l_pop X dL_law_211 rfl ?_
  refine l_goto X (tgt := 1445) dL_law_212 (by decide) ?_
  exact kk M2 ⟨⟨⟨⟨hX2, hM2, ⟨⟨s0, s1, s2, s3, s4, s5, s6⟩, t0, t1, t2⟩, tM2⟩, vv2⟩, sn2, rc2⟩, bk2, bs2, gt2, so2⟩
set_option maxHeartbeats 4000000 in
theorem cs_name (X : gLX Γ base b N xs) {n i : Nat} {y : Int32} (hy : y.toInt = i) (hi : i + 6 ≤ N) (hN : N ≤ 3072) (hn : n ≤ 512) {M : Mem} (h : LF n M) (kk : ∀ M', LF (n + 1) M' → GL Γ M' 1445 (LL b base y) []) : GL Γ M 215 (LL b base y) [] := by
  obtain ⟨⟨⟨⟨hX, hM, hR, ht0, ht1⟩, hV⟩, hS, hC⟩, hB, hBS, hGT, hSO⟩ := h
  refine l_aload X 1 rfl dL_law_215 ?_
  refine l_arg X hy hi hN 1 ⟨by decide, by decide⟩ dL_law_216 dL_law_217 dL_law_218 dL_law_219 dL_law_220 ?_
  refine l_arg X hy hi hN 2 ⟨by decide, by decide⟩ dL_law_221 dL_law_222 dL_law_223 dL_law_224 dL_law_225 ?_
  refine l_arg X hy hi hN 3 ⟨by decide, by decide⟩ dL_law_226 dL_law_227 dL_law_228 dL_law_229 dL_law_230 ?_
  refine l_callV X m_L_18 (c_X6_name_V (fun k => base + k) M (xs (i + 1)) rfl (xs (i + 2)) rfl (xs (i + 3)) rfl hX.1) rfl (by decide) (Nat.le_of_ble_eq_true rfl) (S := []) rfl dL_law_231 (fun v M1 q1 => ?_)
  obtain ⟨r1, a1, rfl, e1, A1, E1, I1, F1⟩ := q1
  have F1 : Fr W_X6_name_V M M1 := F1
  have hX1 : LX M1 := gen_LX hX F1 I1 (by decide)
  have hM1 : LM M1 := LM_fr hM F1 (by decide)
  have tM1 : (M1.1 47 23).toInt = (M.1 47 23).toInt := by rw [F1.at 47 23 (by decide)]
  show GL Γ M1 234 (LL b base y) [.int r1]
  refine l_pop X dL_law_234 rfl ?_
  refine l_aload X 2 rfl dL_law_235 ?_
  refine l_arg X hy hi hN 1 ⟨by decide, by decide⟩ dL_law_236 dL_law_237 dL_law_238 dL_law_239 dL_law_240 ?_
  refine l_arg X hy hi hN 2 ⟨by decide, by decide⟩ dL_law_241 dL_law_242 dL_law_243 dL_law_244 dL_law_245 ?_
  refine l_arg X hy hi hN 3 ⟨by decide, by decide⟩ dL_law_246 dL_law_247 dL_law_248 dL_law_249 dL_law_250 ?_
  refine l_callV X m_L_21 (c_X7_name_V (fun k => base + k) M1 (xs (i + 1)) rfl (xs (i + 2)) rfl (xs (i + 3)) rfl hM1.1) rfl (by decide) (Nat.le_of_ble_eq_true rfl) (S := []) rfl dL_law_251 (fun v M2 q2 => ?_)
  obtain ⟨r2, a2, rfl, e2, A2, E2, I2, F2⟩ := q2
  have F2 : Fr W_X7_name_V M1 M2 := F2
  have hX2 : LX M2 := LX_fr hX1 F2 (by decide)
  have hM2 : LM M2 := gen_LM hM1 F2 I2 (by decide)
  have tM2 : 0 ≤ (M2.1 47 23).toInt ∧ (M2.1 47 23).toInt ≤ n + 1 := by rw [F2.at 47 23 (by decide)]; omega
  have E2o := E2
  have s0 : (M2.1 1 3).toInt = (M2.1 47 11).toInt := sc_keep hR.1.1 F1 F2 (by decide) (by decide) (by decide) (by decide)
  have s1 : (M2.1 1 12).toInt = (M2.1 47 12).toInt := sc_keep hR.1.2.1 F1 F2 (by decide) (by decide) (by decide) (by decide)
  have s2 : (M2.1 14 1).toInt = (M2.1 47 20).toInt := sc_keep hR.1.2.2.1 F1 F2 (by decide) (by decide) (by decide) (by decide)
  have s3 : (M2.1 14 12).toInt = (M2.1 47 24).toInt := sc_keep hR.1.2.2.2.1 F1 F2 (by decide) (by decide) (by decide) (by decide)
  have s4 : (M2.1 23 2).toInt = (M2.1 47 52).toInt := sc_keep hR.1.2.2.2.2.1 F1 F2 (by decide) (by decide) (by decide) (by decide)
  have s5 : (M2.1 23 7).toInt = (M2.1 47 53).toInt := sc_keep hR.1.2.2.2.2.2.1 F1 F2 (by decide) (by decide) (by decide) (by decide)
  have s6 : (M2.1 0 7).toInt = (M2.1 47 43).toInt := sc_keep hR.1.2.2.2.2.2.2 F1 F2 (by decide) (by decide) (by decide) (by decide)
  have t0 : ∀ j, j < 10 → M2.1 5 j = M2.1 51 j := row_eq hR.2.1 Iff.rfl E1.1 E2.1 F1 F2 (by decide) (by decide)
  have t1 : ∀ j, j < 3 → M2.1 12 j = M2.1 58 j := row_keep hR.2.2.1 F1 F2 (by decide) (by decide) (by decide) (by decide)
  have t2 : ∀ j, j < 8 → M2.1 25 j = M2.1 80 j := row_keep hR.2.2.2 F1 F2 (by decide) (by decide) (by decide) (by decide)
  have ans : a1 = a2 := ans3 A1 A2 (fun c => by rw [F1.at 51 _ (noW_in (by decide) _), hR.2.1 _ (by omega)])
  have vv2 : VV M2 := ⟨⟨row_keep hV.1.1 F1 F2 (by decide) (by decide) (by decide) (by decide), row_keep hV.1.2.1 F1 F2 (by decide) (by decide) (by decide) (by decide), row_keep hV.1.2.2.1 F1 F2 (by decide) (by decide) (by decide) (by decide), row_eq hV.1.2.2.2.1 Iff.rfl E1.2 E2.2 F1 F2 (by decide) (by decide), row_keep hV.1.2.2.2.2.1 F1 F2 (by decide) (by decide) (by decide) (by decide), row_keep hV.1.2.2.2.2.2.1 F1 F2 (by decide) (by decide) (by decide) (by decide), row_keep hV.1.2.2.2.2.2.2.1 F1 F2 (by decide) (by decide) (by decide) (by decide), row_keep hV.1.2.2.2.2.2.2.2.1 F1 F2 (by decide) (by decide) (by decide) (by decide), sc_keep hV.1.2.2.2.2.2.2.2.2.1 F1 F2 (by decide) (by decide) (by decide) (by decide), brk_keep hV.1.2.2.2.2.2.2.2.2.2 F1 F2 (by decide) (by decide) (by decide) (by decide) (by decide) (by decide)⟩, VAL_name (VAL_fr hV.2.1 F1 (by decide) (by decide)) E2.1 E2.2 (fun c => ⟨by omega, by omega⟩) (F2.at 47 11 (by decide)) (row_fr F2 (c := 48) (by decide)) (row_fr F2 (c := 49) (by decide)) (row_fr F2 (c := 50) (by decide)) (row_fr F2 (c := 58) (by decide)), VLN_fr (VLN_fr hV.2.2.1 F1 (by decide) (by decide) (by decide) (by decide)) F2 (by decide) (by decide) (by decide) (by decide), SL_keep hV.2.2.2.1 F1 F2 (by decide) (by decide), SR_fr (SR_fr hV.2.2.2.2 F1 (by decide) (by decide)) F2 (by decide) (by decide)⟩
  have sn2 : SCN M2 := SCN_fr (SCN_fr hS F1 (by decide)) F2 (by decide)
  have rc2 : RC M2 := sc_keep hC F1 F2 (by decide) (by decide) (by decide) (by decide)
  have hl2 : (M.1 1 12).toInt ≤ (M2.1 1 12).toInt := by rw [F2.at 1 12 (by decide), F1.at 1 12 (by decide)]; exact Int.le_refl _
  have bk2 : BK M2 := BK_keep hB F1 F2 (by decide) (by decide) hl2
  have bs2 : BSL M2 := BSL_keep hBS F1 F2 (by decide) (by decide)
  have gt2 : GT M2 := GT_fr (GT_fr hGT F1 (by decide)) F2 (by decide)
  have so2 : SON M2 := SON_keep hSO F1 F2 (by decide) (by decide)
  show GL Γ M2 254 (LL b base y) [.int r2]
  refine l_pop X dL_law_254 rfl ?_
  refine l_goto X (tgt := 1445) dL_law_255 (by decide) ?_
  exact kk M2 ⟨⟨⟨⟨hX2, hM2, ⟨⟨s0, s1, s2, s3, s4, s5, s6⟩, t0, t1, t2⟩, tM2⟩, vv2⟩, sn2, rc2⟩, bk2, bs2, gt2, so2⟩
set_option maxHeartbeats 4000000 in
theorem cs_line (X : gLX Γ base b N xs) {n i : Nat} {y : Int32} (hy : y.toInt = i) (hi : i + 6 ≤ N) (hN : N ≤ 3072) (hn : n ≤ 512) {M : Mem} (h : LF n M) (kk : ∀ M', LF (n + 1) M' → GL Γ M' 1445 (LL b base y) []) : GL Γ M 258 (LL b base y) [] := by
  obtain ⟨⟨⟨⟨hX, hM, hR, ht0, ht1⟩, hV⟩, hS, hC⟩, hB, hBS, hGT, hSO⟩ := h
  refine l_aload X 1 rfl dL_law_258 ?_
  refine l_arg X hy hi hN 1 ⟨by decide, by decide⟩ dL_law_259 dL_law_260 dL_law_261 dL_law_262 dL_law_263 ?_
  refine l_arg X hy hi hN 2 ⟨by decide, by decide⟩ dL_law_264 dL_law_265 dL_law_266 dL_law_267 dL_law_268 ?_
  refine l_arg X hy hi hN 3 ⟨by decide, by decide⟩ dL_law_269 dL_law_270 dL_law_271 dL_law_272 dL_law_273 ?_
  refine l_arg X hy hi hN 4 ⟨by decide, by decide⟩ dL_law_274 dL_law_275 dL_law_276 dL_law_277 dL_law_278 ?_
  refine l_arg X hy hi hN 5 ⟨by decide, by decide⟩ dL_law_279 dL_law_280 dL_law_281 dL_law_282 dL_law_283 ?_
  refine l_callV X m_L_22 (c_X6_line_V (fun k => base + k) M (xs (i + 1)) rfl (xs (i + 2)) rfl (xs (i + 3)) rfl (xs (i + 4)) rfl (xs (i + 5)) rfl hX.1) rfl (by decide) (Nat.le_of_ble_eq_true rfl) (S := []) rfl dL_law_284 (fun v M1 q1 => ?_)
  obtain ⟨r1, a1, rfl, e1, A1, E1, I1, F1⟩ := q1
  have F1 : Fr W_X6_line_V M M1 := F1
  have hX1 : LX M1 := gen_LX hX F1 I1 (by decide)
  have hM1 : LM M1 := LM_fr hM F1 (by decide)
  have tM1 : (M1.1 47 23).toInt = (M.1 47 23).toInt := by rw [F1.at 47 23 (by decide)]
  show GL Γ M1 287 (LL b base y) [.int r1]
  refine l_pop X dL_law_287 rfl ?_
  refine l_aload X 2 rfl dL_law_288 ?_
  refine l_arg X hy hi hN 1 ⟨by decide, by decide⟩ dL_law_289 dL_law_290 dL_law_291 dL_law_292 dL_law_293 ?_
  refine l_arg X hy hi hN 2 ⟨by decide, by decide⟩ dL_law_294 dL_law_295 dL_law_296 dL_law_297 dL_law_298 ?_
  refine l_arg X hy hi hN 3 ⟨by decide, by decide⟩ dL_law_299 dL_law_300 dL_law_301 dL_law_302 dL_law_303 ?_
  refine l_arg X hy hi hN 4 ⟨by decide, by decide⟩ dL_law_304 dL_law_305 dL_law_306 dL_law_307 dL_law_308 ?_
  refine l_arg X hy hi hN 5 ⟨by decide, by decide⟩ dL_law_309 dL_law_310 dL_law_311 dL_law_312 dL_law_313 ?_
  refine l_callV X m_L_26 (c_X7_line_V (fun k => base + k) M1 (xs (i + 1)) rfl (xs (i + 2)) rfl (xs (i + 3)) rfl (xs (i + 4)) rfl (xs (i + 5)) rfl hM1.1) rfl (by decide) (Nat.le_of_ble_eq_true rfl) (S := []) rfl dL_law_314 (fun v M2 q2 => ?_)
  obtain ⟨r2, a2, rfl, e2, A2, E2, I2, F2⟩ := q2
  have F2 : Fr W_X7_line_V M1 M2 := F2
  have hX2 : LX M2 := LX_fr hX1 F2 (by decide)
  have hM2 : LM M2 := gen_LM hM1 F2 I2 (by decide)
  have tM2 : 0 ≤ (M2.1 47 23).toInt ∧ (M2.1 47 23).toInt ≤ n + 1 := by rw [F2.at 47 23 (by decide)]; omega
  have g_47_11 : (M1.1 47 11).toInt = (M.1 1 3).toInt := by rw [F1.at 47 11 (by decide)]; exact hR.1.1.symm
  have g_47_12 : (M1.1 47 12).toInt = (M.1 1 12).toInt := by rw [F1.at 47 12 (by decide)]; exact hR.1.2.1.symm
  have E2o := E2
  simp only [g_47_11, g_47_12] at A2 E2
  have s0 : (M2.1 1 3).toInt = (M2.1 47 11).toInt := sc_keep hR.1.1 F1 F2 (by decide) (by decide) (by decide) (by decide)
  have s1 : (M2.1 1 12).toInt = (M2.1 47 12).toInt := by rw [F2.at 1 12 (by decide)]; exact ans2 E1.1 E2.1
  have s2 : (M2.1 14 1).toInt = (M2.1 47 20).toInt := sc_keep hR.1.2.2.1 F1 F2 (by decide) (by decide) (by decide) (by decide)
  have s3 : (M2.1 14 12).toInt = (M2.1 47 24).toInt := sc_keep hR.1.2.2.2.1 F1 F2 (by decide) (by decide) (by decide) (by decide)
  have s4 : (M2.1 23 2).toInt = (M2.1 47 52).toInt := sc_keep hR.1.2.2.2.2.1 F1 F2 (by decide) (by decide) (by decide) (by decide)
  have s5 : (M2.1 23 7).toInt = (M2.1 47 53).toInt := sc_keep hR.1.2.2.2.2.2.1 F1 F2 (by decide) (by decide) (by decide) (by decide)
  have s6 : (M2.1 0 7).toInt = (M2.1 47 43).toInt := sc_keep hR.1.2.2.2.2.2.2 F1 F2 (by decide) (by decide) (by decide) (by decide)
  have t0 : ∀ j, j < 10 → M2.1 5 j = M2.1 51 j := row_keep hR.2.1 F1 F2 (by decide) (by decide) (by decide) (by decide)
  have t1 : ∀ j, j < 3 → M2.1 12 j = M2.1 58 j := row_keep hR.2.2.1 F1 F2 (by decide) (by decide) (by decide) (by decide)
  have t2 : ∀ j, j < 8 → M2.1 25 j = M2.1 80 j := row_keep hR.2.2.2 F1 F2 (by decide) (by decide) (by decide) (by decide)
  have ans : a1 = a2 := ans4 A1 A2
  have z12 := ig_47_12 hM1.1
  have vv2 : VV M2 := ⟨⟨row_keep hV.1.1 F1 F2 (by decide) (by decide) (by decide) (by decide), row_keep hV.1.2.1 F1 F2 (by decide) (by decide) (by decide) (by decide), row_keep hV.1.2.2.1 F1 F2 (by decide) (by decide) (by decide) (by decide), row_keep hV.1.2.2.2.1 F1 F2 (by decide) (by decide) (by decide) (by decide), row_eq hV.1.2.2.2.2.1 Iff.rfl E1.2.2.2.1 E2.2.1 F1 F2 (by decide) (by decide), row_eq hV.1.2.2.2.2.2.1 Iff.rfl E1.2.2.2.2.1 E2.2.2.1 F1 F2 (by decide) (by decide), row_eq hV.1.2.2.2.2.2.2.1 Iff.rfl E1.2.2.2.2.2.1 E2.2.2.2.1 F1 F2 (by decide) (by decide), row_eq hV.1.2.2.2.2.2.2.2.1 Iff.rfl E1.2.2.2.2.2.2 E2.2.2.2.2.1 F1 F2 (by decide) (by decide), sc_keep hV.1.2.2.2.2.2.2.2.2.1 F1 F2 (by decide) (by decide) (by decide) (by decide), brk_keep hV.1.2.2.2.2.2.2.2.2.2 F1 F2 (by decide) (by decide) (by decide) (by decide) (by decide) (by decide)⟩, VAL_fr (VAL_fr hV.2.1 F1 (by decide) (by decide)) F2 (by decide) (by decide), VLN_line (VLN_fr hV.2.2.1 F1 (by decide) (by decide) (by decide) (by decide)) z12.1 E2o.2.1 E2o.2.2.1 E2o.1 (fun c => ⟨by omega, by omega⟩) (F2.at 47 11 (by decide)), SL_line hV.2.2.2.1 F1 F2 (ig_1_12 hX.1) E1.2.1 E2.2.2.2.2.2 E1.1 (by decide) (by decide) (by decide), SR_line (SR_fr hV.2.2.2.2 F1 (by decide) (by decide)) z12.1 E2o.2.2.2.2.2 E2o.1 (fun c => by omega)⟩
  have sn2 : SCN M2 := SCN_fr (SCN_fr hS F1 (by decide)) F2 (by decide)
  have rc2 : RC M2 := sc_keep hC F1 F2 (by decide) (by decide) (by decide) (by decide)
  have hl2 : (M.1 1 12).toInt ≤ (M2.1 1 12).toInt := by rw [F2.at 1 12 (by decide)]; have z := E1.1; omega
  have bk2 : BK M2 := BK_keep hB F1 F2 (by decide) (by decide) hl2
  have bs2 : BSL M2 := BSL_line hBS F1 F2 (ig_1_12 hX.1) E1.2.2.1 E2.2.2.2.1 E1.1 (fun c => by omega) (by decide) (by decide) (by decide)
  have gt2 : GT M2 := GT_fr (GT_fr hGT F1 (by decide)) F2 (by decide)
  have so2 : SON M2 := SON_keep hSO F1 F2 (by decide) (by decide)
  show GL Γ M2 317 (LL b base y) [.int r2]
  refine l_pop X dL_law_317 rfl ?_
  refine l_goto X (tgt := 1445) dL_law_318 (by decide) ?_
  exact kk M2 ⟨⟨⟨⟨hX2, hM2, ⟨⟨s0, s1, s2, s3, s4, s5, s6⟩, t0, t1, t2⟩, tM2⟩, vv2⟩, sn2, rc2⟩, bk2, bs2, gt2, so2⟩
set_option maxHeartbeats 4000000 in
theorem cs_metre (X : gLX Γ base b N xs) {n i : Nat} {y : Int32} (hy : y.toInt = i) (hi : i + 6 ≤ N) (hN : N ≤ 3072) (hn : n ≤ 512) {M : Mem} (h : LF n M) (kk : ∀ M', LF (n + 1) M' → GL Γ M' 1445 (LL b base y) []) : GL Γ M 321 (LL b base y) [] := by
  obtain ⟨⟨⟨⟨hX, hM, hR, ht0, ht1⟩, hV⟩, hS, hC⟩, hB, hBS, hGT, hSO⟩ := h
  refine l_aload X 1 rfl dL_law_321 ?_
  refine l_arg X hy hi hN 1 ⟨by decide, by decide⟩ dL_law_322 dL_law_323 dL_law_324 dL_law_325 dL_law_326 ?_
  refine l_arg X hy hi hN 2 ⟨by decide, by decide⟩ dL_law_327 dL_law_328 dL_law_329 dL_law_330 dL_law_331 ?_
  refine l_callV X m_L_27 (c_X6_metre (fun k => base + k) M (xs (i + 1)) rfl (xs (i + 2)) rfl hX.1) rfl (by decide) (Nat.le_of_ble_eq_true rfl) (S := []) rfl dL_law_332 (fun v M1 q1 => ?_)
  obtain ⟨r1, a1, rfl, e1, A1, E1, I1, F1⟩ := q1
  have F1 : Fr W_X6_metre M M1 := F1
  have hX1 : LX M1 := gen_LX hX F1 I1 (by decide)
  have hM1 : LM M1 := LM_fr hM F1 (by decide)
  have tM1 : (M1.1 47 23).toInt = (M.1 47 23).toInt := by rw [F1.at 47 23 (by decide)]
  show GL Γ M1 335 (LL b base y) [.int r1]
  refine l_pop X dL_law_335 rfl ?_
  refine l_aload X 2 rfl dL_law_336 ?_
  refine l_arg X hy hi hN 1 ⟨by decide, by decide⟩ dL_law_337 dL_law_338 dL_law_339 dL_law_340 dL_law_341 ?_
  refine l_arg X hy hi hN 2 ⟨by decide, by decide⟩ dL_law_342 dL_law_343 dL_law_344 dL_law_345 dL_law_346 ?_
  refine l_callV X m_L_31 (c_X7_metre (fun k => base + k) M1 (xs (i + 1)) rfl (xs (i + 2)) rfl hM1.1) rfl (by decide) (Nat.le_of_ble_eq_true rfl) (S := []) rfl dL_law_347 (fun v M2 q2 => ?_)
  obtain ⟨r2, a2, rfl, e2, A2, E2, I2, F2⟩ := q2
  have F2 : Fr W_X7_metre M1 M2 := F2
  have hX2 : LX M2 := LX_fr hX1 F2 (by decide)
  have hM2 : LM M2 := gen_LM hM1 F2 I2 (by decide)
  have tM2 : 0 ≤ (M2.1 47 23).toInt ∧ (M2.1 47 23).toInt ≤ n + 1 := by rw [F2.at 47 23 (by decide)]; omega
  have E2o := E2
  have s0 : (M2.1 1 3).toInt = (M2.1 47 11).toInt := sc_keep hR.1.1 F1 F2 (by decide) (by decide) (by decide) (by decide)
  have s1 : (M2.1 1 12).toInt = (M2.1 47 12).toInt := sc_keep hR.1.2.1 F1 F2 (by decide) (by decide) (by decide) (by decide)
  have s2 : (M2.1 14 1).toInt = (M2.1 47 20).toInt := sc_keep hR.1.2.2.1 F1 F2 (by decide) (by decide) (by decide) (by decide)
  have s3 : (M2.1 14 12).toInt = (M2.1 47 24).toInt := sc_keep hR.1.2.2.2.1 F1 F2 (by decide) (by decide) (by decide) (by decide)
  have s4 : (M2.1 23 2).toInt = (M2.1 47 52).toInt := sc_keep hR.1.2.2.2.2.1 F1 F2 (by decide) (by decide) (by decide) (by decide)
  have s5 : (M2.1 23 7).toInt = (M2.1 47 53).toInt := sc_keep hR.1.2.2.2.2.2.1 F1 F2 (by decide) (by decide) (by decide) (by decide)
  have s6 : (M2.1 0 7).toInt = (M2.1 47 43).toInt := sc_keep hR.1.2.2.2.2.2.2 F1 F2 (by decide) (by decide) (by decide) (by decide)
  have t0 : ∀ j, j < 10 → M2.1 5 j = M2.1 51 j := row_keep hR.2.1 F1 F2 (by decide) (by decide) (by decide) (by decide)
  have t1 : ∀ j, j < 3 → M2.1 12 j = M2.1 58 j := row_eq hR.2.2.1 Iff.rfl E1 E2 F1 F2 (by decide) (by decide)
  have t2 : ∀ j, j < 8 → M2.1 25 j = M2.1 80 j := row_keep hR.2.2.2 F1 F2 (by decide) (by decide) (by decide) (by decide)
  have ans : a1 = a2 := ans3 A1 A2 (fun c => by rw [F1.at 58 _ (noW_in (by decide) _), hR.2.2.1 _ (by omega)])
  have vv2 : VV M2 := ⟨⟨row_keep hV.1.1 F1 F2 (by decide) (by decide) (by decide) (by decide), row_keep hV.1.2.1 F1 F2 (by decide) (by decide) (by decide) (by decide), row_keep hV.1.2.2.1 F1 F2 (by decide) (by decide) (by decide) (by decide), row_keep hV.1.2.2.2.1 F1 F2 (by decide) (by decide) (by decide) (by decide), row_keep hV.1.2.2.2.2.1 F1 F2 (by decide) (by decide) (by decide) (by decide), row_keep hV.1.2.2.2.2.2.1 F1 F2 (by decide) (by decide) (by decide) (by decide), row_keep hV.1.2.2.2.2.2.2.1 F1 F2 (by decide) (by decide) (by decide) (by decide), row_keep hV.1.2.2.2.2.2.2.2.1 F1 F2 (by decide) (by decide) (by decide) (by decide), sc_keep hV.1.2.2.2.2.2.2.2.2.1 F1 F2 (by decide) (by decide) (by decide) (by decide), brk_keep hV.1.2.2.2.2.2.2.2.2.2 F1 F2 (by decide) (by decide) (by decide) (by decide) (by decide) (by decide)⟩, VAL_metre (VAL_fr hV.2.1 F1 (by decide) (by decide)) E2 (fun c => ⟨by omega, by omega⟩) (F2.at 47 11 (by decide)) (row_fr F2 (c := 48) (by decide)) (row_fr F2 (c := 49) (by decide)) (row_fr F2 (c := 50) (by decide)) (row_fr F2 (c := 51) (by decide)) (row_fr F2 (c := 52) (by decide)), VLN_fr (VLN_fr hV.2.2.1 F1 (by decide) (by decide) (by decide) (by decide)) F2 (by decide) (by decide) (by decide) (by decide), SL_keep hV.2.2.2.1 F1 F2 (by decide) (by decide), SR_fr (SR_fr hV.2.2.2.2 F1 (by decide) (by decide)) F2 (by decide) (by decide)⟩
  have sn2 : SCN M2 := SCN_fr (SCN_fr hS F1 (by decide)) F2 (by decide)
  have rc2 : RC M2 := sc_keep hC F1 F2 (by decide) (by decide) (by decide) (by decide)
  have hl2 : (M.1 1 12).toInt ≤ (M2.1 1 12).toInt := by rw [F2.at 1 12 (by decide), F1.at 1 12 (by decide)]; exact Int.le_refl _
  have bk2 : BK M2 := BK_keep hB F1 F2 (by decide) (by decide) hl2
  have bs2 : BSL M2 := BSL_keep hBS F1 F2 (by decide) (by decide)
  have gt2 : GT M2 := GT_fr (GT_fr hGT F1 (by decide)) F2 (by decide)
  have so2 : SON M2 := SON_keep hSO F1 F2 (by decide) (by decide)
  show GL Γ M2 350 (LL b base y) [.int r2]
  refine l_pop X dL_law_350 rfl ?_
  refine l_goto X (tgt := 1445) dL_law_351 (by decide) ?_
  exact kk M2 ⟨⟨⟨⟨hX2, hM2, ⟨⟨s0, s1, s2, s3, s4, s5, s6⟩, t0, t1, t2⟩, tM2⟩, vv2⟩, sn2, rc2⟩, bk2, bs2, gt2, so2⟩
set_option maxHeartbeats 4000000 in
theorem cs_told (X : gLX Γ base b N xs) {n i : Nat} {y : Int32} (hy : y.toInt = i) (hi : i + 6 ≤ N) (hN : N ≤ 3072) (hn : n ≤ 512) {M : Mem} (h : LF n M) (kk : ∀ M', LF (n + 1) M' → GL Γ M' 1445 (LL b base y) []) : GL Γ M 354 (LL b base y) [] := by
  obtain ⟨⟨⟨⟨hX, hM, hR, ht0, ht1⟩, hV⟩, hS, hC⟩, hB, hBS, hGT, hSO⟩ := h
  refine l_aload X 1 rfl dL_law_354 ?_
  refine l_arg X hy hi hN 1 ⟨by decide, by decide⟩ dL_law_355 dL_law_356 dL_law_357 dL_law_358 dL_law_359 ?_
  refine l_arg X hy hi hN 2 ⟨by decide, by decide⟩ dL_law_360 dL_law_361 dL_law_362 dL_law_363 dL_law_364 ?_
  refine l_callV X m_L_32 (c_X6_told (fun k => base + k) M (xs (i + 1)) rfl (xs (i + 2)) rfl hX.1) rfl (by decide) (Nat.le_of_ble_eq_true rfl) (S := []) rfl dL_law_365 (fun v M1 q1 => ?_)
  obtain ⟨r1, a1, rfl, e1, -, q1⟩ := q1
  have F1 : Fr [] M M1 := by rw [← q1]; exact Fr.rf
  have I1 : Iv TX M1 := by rw [← q1]; exact hX.1
  have F1 : Fr [] M M1 := F1
  have hX1 : LX M1 := gen_LX hX F1 I1 (by decide)
  have hM1 : LM M1 := LM_fr hM F1 (by decide)
  have tM1 : (M1.1 47 23).toInt = (M.1 47 23).toInt := by rw [F1.at 47 23 (by decide)]
  show GL Γ M1 368 (LL b base y) [.int r1]
  refine l_pop X dL_law_368 rfl ?_
  refine l_aload X 2 rfl dL_law_369 ?_
  refine l_arg X hy hi hN 1 ⟨by decide, by decide⟩ dL_law_370 dL_law_371 dL_law_372 dL_law_373 dL_law_374 ?_
  refine l_arg X hy hi hN 2 ⟨by decide, by decide⟩ dL_law_375 dL_law_376 dL_law_377 dL_law_378 dL_law_379 ?_
  refine l_callV X m_L_35 (c_X7_told (fun k => base + k) M1 (xs (i + 1)) rfl (xs (i + 2)) rfl hM1.1) rfl (by decide) (Nat.le_of_ble_eq_true rfl) (S := []) rfl dL_law_380 (fun v M2 q2 => ?_)
  obtain ⟨r2, a2, rfl, e2, -, q2⟩ := q2
  have F2 : Fr [] M1 M2 := by rw [← q2]; exact Fr.rf
  have I2 : Iv TM M2 := by rw [← q2]; exact hM1.1
  have F2 : Fr [] M1 M2 := F2
  have hX2 : LX M2 := LX_fr hX1 F2 (by decide)
  have hM2 : LM M2 := gen_LM hM1 F2 I2 (by decide)
  have tM2 : 0 ≤ (M2.1 47 23).toInt ∧ (M2.1 47 23).toInt ≤ n + 1 := by rw [F2.at 47 23 (by decide)]; omega
  have s0 : (M2.1 1 3).toInt = (M2.1 47 11).toInt := sc_keep hR.1.1 F1 F2 (by decide) (by decide) (by decide) (by decide)
  have s1 : (M2.1 1 12).toInt = (M2.1 47 12).toInt := sc_keep hR.1.2.1 F1 F2 (by decide) (by decide) (by decide) (by decide)
  have s2 : (M2.1 14 1).toInt = (M2.1 47 20).toInt := sc_keep hR.1.2.2.1 F1 F2 (by decide) (by decide) (by decide) (by decide)
  have s3 : (M2.1 14 12).toInt = (M2.1 47 24).toInt := sc_keep hR.1.2.2.2.1 F1 F2 (by decide) (by decide) (by decide) (by decide)
  have s4 : (M2.1 23 2).toInt = (M2.1 47 52).toInt := sc_keep hR.1.2.2.2.2.1 F1 F2 (by decide) (by decide) (by decide) (by decide)
  have s5 : (M2.1 23 7).toInt = (M2.1 47 53).toInt := sc_keep hR.1.2.2.2.2.2.1 F1 F2 (by decide) (by decide) (by decide) (by decide)
  have s6 : (M2.1 0 7).toInt = (M2.1 47 43).toInt := sc_keep hR.1.2.2.2.2.2.2 F1 F2 (by decide) (by decide) (by decide) (by decide)
  have t0 : ∀ j, j < 10 → M2.1 5 j = M2.1 51 j := row_keep hR.2.1 F1 F2 (by decide) (by decide) (by decide) (by decide)
  have t1 : ∀ j, j < 3 → M2.1 12 j = M2.1 58 j := row_keep hR.2.2.1 F1 F2 (by decide) (by decide) (by decide) (by decide)
  have t2 : ∀ j, j < 8 → M2.1 25 j = M2.1 80 j := row_keep hR.2.2.2 F1 F2 (by decide) (by decide) (by decide) (by decide)
  have vv2 : VV M2 := VV_fr (VV_fr hV F1 (by decide)) F2 (by decide)
  have sn2 : SCN M2 := SCN_fr (SCN_fr hS F1 (by decide)) F2 (by decide)
  have rc2 : RC M2 := sc_keep hC F1 F2 (by decide) (by decide) (by decide) (by decide)
  have hl2 : (M.1 1 12).toInt ≤ (M2.1 1 12).toInt := by rw [F2.at 1 12 (by decide), F1.at 1 12 (by decide)]; exact Int.le_refl _
  have bk2 : BK M2 := BK_keep hB F1 F2 (by decide) (by decide) hl2
  have bs2 : BSL M2 := BSL_keep hBS F1 F2 (by decide) (by decide)
  have gt2 : GT M2 := GT_fr (GT_fr hGT F1 (by decide)) F2 (by decide)
  have so2 : SON M2 := SON_keep hSO F1 F2 (by decide) (by decide)
  show GL Γ M2 383 (LL b base y) [.int r2]
  refine l_pop X dL_law_383 rfl ?_
  refine l_goto X (tgt := 1445) dL_law_384 (by decide) ?_
  exact kk M2 ⟨⟨⟨⟨hX2, hM2, ⟨⟨s0, s1, s2, s3, s4, s5, s6⟩, t0, t1, t2⟩, tM2⟩, vv2⟩, sn2, rc2⟩, bk2, bs2, gt2, so2⟩
set_option maxHeartbeats 4000000 in
theorem cs_swap (X : gLX Γ base b N xs) {n i : Nat} {y : Int32} (hy : y.toInt = i) (hi : i + 6 ≤ N) (hN : N ≤ 3072) (hn : n ≤ 512) {M : Mem} (h : LF n M) (kk : ∀ M', LF (n + 1) M' → GL Γ M' 1445 (LL b base y) []) : GL Γ M 387 (LL b base y) [] := by
  obtain ⟨⟨⟨⟨hX, hM, hR, ht0, ht1⟩, hV⟩, hS, hC⟩, hB, hBS, hGT, hSO⟩ := h
  refine l_aload X 1 rfl dL_law_387 ?_
  refine l_arg X hy hi hN 1 ⟨by decide, by decide⟩ dL_law_388 dL_law_389 dL_law_390 dL_law_391 dL_law_392 ?_
  refine l_arg X hy hi hN 2 ⟨by decide, by decide⟩ dL_law_393 dL_law_394 dL_law_395 dL_law_396 dL_law_397 ?_
  refine l_callV X m_L_36 (c_X6_swap_E (fun k => base + k) M (xs (i + 1)) rfl (xs (i + 2)) rfl hX.1) rfl (by decide) (Nat.le_of_ble_eq_true rfl) (S := []) rfl dL_law_398 (fun v M1 q1 => ?_)
  obtain ⟨r1, a1, rfl, e1, A1, E1, I1, F1⟩ := q1
  have F1 : Fr W_X6_swap_E M M1 := F1
  have hX1 : LX M1 := gen_LX hX F1 I1 (by decide)
  have hM1 : LM M1 := LM_fr hM F1 (by decide)
  have hv1 : VAL M1 := VAL_fr hV.2.1 F1 (by decide) (by decide)
  have hln1 : VLN M1 := VLN_fr hV.2.2.1 F1 (by decide) (by decide) (by decide) (by decide)
  have tM1 : (M1.1 47 23).toInt = (M.1 47 23).toInt := by rw [F1.at 47 23 (by decide)]
  show GL Γ M1 401 (LL b base y) [.int r1]
  refine l_pop X dL_law_401 rfl ?_
  refine l_aload X 2 rfl dL_law_402 ?_
  refine l_arg X hy hi hN 1 ⟨by decide, by decide⟩ dL_law_403 dL_law_404 dL_law_405 dL_law_406 dL_law_407 ?_
  refine l_arg X hy hi hN 2 ⟨by decide, by decide⟩ dL_law_408 dL_law_409 dL_law_410 dL_law_411 dL_law_412 ?_
  refine l_callV X m_L_39 (c_X7_swap_E (fun k => base + k) M1 (xs (i + 1)) rfl (xs (i + 2)) rfl hM1.1 hv1 hln1) rfl (by decide) (Nat.le_of_ble_eq_true rfl) (S := []) rfl dL_law_413 (fun v M2 q2 => ?_)
  obtain ⟨r2, a2, rfl, e2, A2, E2, I2, F2⟩ := q2
  have F2 : Fr W_X7_swap_E M1 M2 := F2
  have hX2 : LX M2 := LX_fr hX1 F2 (by decide)
  have hM2 : LM M2 := gen_LM hM1 F2 I2 (by decide)
  have tM2 : 0 ≤ (M2.1 47 23).toInt ∧ (M2.1 47 23).toInt ≤ n + 1 := by rw [F2.at 47 23 (by decide)]; omega
  have s0 : (M2.1 1 3).toInt = (M2.1 47 11).toInt := sc_keep hR.1.1 F1 F2 (by decide) (by decide) (by decide) (by decide)
  have s1 : (M2.1 1 12).toInt = (M2.1 47 12).toInt := sc_keep hR.1.2.1 F1 F2 (by decide) (by decide) (by decide) (by decide)
  have s2 : (M2.1 14 1).toInt = (M2.1 47 20).toInt := sc_keep hR.1.2.2.1 F1 F2 (by decide) (by decide) (by decide) (by decide)
  have s3 : (M2.1 14 12).toInt = (M2.1 47 24).toInt := sc_keep hR.1.2.2.2.1 F1 F2 (by decide) (by decide) (by decide) (by decide)
  have s4 : (M2.1 23 2).toInt = (M2.1 47 52).toInt := sc_keep hR.1.2.2.2.2.1 F1 F2 (by decide) (by decide) (by decide) (by decide)
  have s5 : (M2.1 23 7).toInt = (M2.1 47 53).toInt := sc_keep hR.1.2.2.2.2.2.1 F1 F2 (by decide) (by decide) (by decide) (by decide)
  have s6 : (M2.1 0 7).toInt = (M2.1 47 43).toInt := sc_keep hR.1.2.2.2.2.2.2 F1 F2 (by decide) (by decide) (by decide) (by decide)
  have t0 : ∀ j, j < 10 → M2.1 5 j = M2.1 51 j := row_keep hR.2.1 F1 F2 (by decide) (by decide) (by decide) (by decide)
  have t1 : ∀ j, j < 3 → M2.1 12 j = M2.1 58 j := row_keep hR.2.2.1 F1 F2 (by decide) (by decide) (by decide) (by decide)
  have t2 : ∀ j, j < 8 → M2.1 25 j = M2.1 80 j := row_keep hR.2.2.2 F1 F2 (by decide) (by decide) (by decide) (by decide)
  obtain ⟨ans, vv2⟩ := swap_both hV hR.2.1 hR.2.2.1 hR.1.1 hR.1.2.1 hX.1 (fun c => by omega) A1 A2 (fun c => c) E1 E2 F1 F2 (by decide) (by decide)
  have sn2 : SCN M2 := SCN_fr (SCN_fr hS F1 (by decide)) F2 (by decide)
  have rc2 : RC M2 := sc_keep hC F1 F2 (by decide) (by decide) (by decide) (by decide)
  have hl2 : (M.1 1 12).toInt ≤ (M2.1 1 12).toInt := by rw [F2.at 1 12 (by decide), F1.at 1 12 (by decide)]; exact Int.le_refl _
  have bk2 : BK M2 := BK_keep hB F1 F2 (by decide) (by decide) hl2
  have bs2 : BSL M2 := BSL_keep hBS F1 F2 (by decide) (by decide)
  have gt2 : GT M2 := GT_fr (GT_fr hGT F1 (by decide)) F2 (by decide)
  have so2 : SON M2 := SON_keep hSO F1 F2 (by decide) (by decide)
  show GL Γ M2 416 (LL b base y) [.int r2]
  refine l_pop X dL_law_416 rfl ?_
  refine l_goto X (tgt := 1445) dL_law_417 (by decide) ?_
  exact kk M2 ⟨⟨⟨⟨hX2, hM2, ⟨⟨s0, s1, s2, s3, s4, s5, s6⟩, t0, t1, t2⟩, tM2⟩, vv2⟩, sn2, rc2⟩, bk2, bs2, gt2, so2⟩
set_option maxHeartbeats 4000000 in
theorem cs_broken (X : gLX Γ base b N xs) {n i : Nat} {y : Int32} (hy : y.toInt = i) (hi : i + 6 ≤ N) (hN : N ≤ 3072) (hn : n ≤ 512) {M : Mem} (h : LF n M) (kk : ∀ M', LF (n + 1) M' → GL Γ M' 1445 (LL b base y) []) : GL Γ M 420 (LL b base y) [] := by
  obtain ⟨⟨⟨⟨hX, hM, hR, ht0, ht1⟩, hV⟩, hS, hC⟩, hB, hBS, hGT, hSO⟩ := h
  refine l_aload X 1 rfl dL_law_420 ?_
  refine l_arg X hy hi hN 1 ⟨by decide, by decide⟩ dL_law_421 dL_law_422 dL_law_423 dL_law_424 dL_law_425 ?_
  refine l_callV X m_L_40 (c_X6_broken (fun k => base + k) M (xs (i + 1)) rfl hX.1) rfl (by decide) (Nat.le_of_ble_eq_true rfl) (S := []) rfl dL_law_426 (fun v M1 q1 => ?_)
  obtain ⟨r1, a1, rfl, e1, -, q1⟩ := q1
  have F1 : Fr [] M M1 := by rw [← q1]; exact Fr.rf
  have I1 : Iv TX M1 := by rw [← q1]; exact hX.1
  have F1 : Fr [] M M1 := F1
  have hX1 : LX M1 := gen_LX hX F1 I1 (by decide)
  have hM1 : LM M1 := LM_fr hM F1 (by decide)
  have tM1 : (M1.1 47 23).toInt = (M.1 47 23).toInt := by rw [F1.at 47 23 (by decide)]
  show GL Γ M1 429 (LL b base y) [.int r1]
  refine l_pop X dL_law_429 rfl ?_
  refine l_aload X 2 rfl dL_law_430 ?_
  refine l_arg X hy hi hN 1 ⟨by decide, by decide⟩ dL_law_431 dL_law_432 dL_law_433 dL_law_434 dL_law_435 ?_
  refine l_callV X m_L_44 (c_X7_broken (fun k => base + k) M1 (xs (i + 1)) rfl hM1.1) rfl (by decide) (Nat.le_of_ble_eq_true rfl) (S := []) rfl dL_law_436 (fun v M2 q2 => ?_)
  obtain ⟨r2, a2, rfl, e2, -, q2⟩ := q2
  have F2 : Fr [] M1 M2 := by rw [← q2]; exact Fr.rf
  have I2 : Iv TM M2 := by rw [← q2]; exact hM1.1
  have F2 : Fr [] M1 M2 := F2
  have hX2 : LX M2 := LX_fr hX1 F2 (by decide)
  have hM2 : LM M2 := gen_LM hM1 F2 I2 (by decide)
  have tM2 : 0 ≤ (M2.1 47 23).toInt ∧ (M2.1 47 23).toInt ≤ n + 1 := by rw [F2.at 47 23 (by decide)]; omega
  have s0 : (M2.1 1 3).toInt = (M2.1 47 11).toInt := sc_keep hR.1.1 F1 F2 (by decide) (by decide) (by decide) (by decide)
  have s1 : (M2.1 1 12).toInt = (M2.1 47 12).toInt := sc_keep hR.1.2.1 F1 F2 (by decide) (by decide) (by decide) (by decide)
  have s2 : (M2.1 14 1).toInt = (M2.1 47 20).toInt := sc_keep hR.1.2.2.1 F1 F2 (by decide) (by decide) (by decide) (by decide)
  have s3 : (M2.1 14 12).toInt = (M2.1 47 24).toInt := sc_keep hR.1.2.2.2.1 F1 F2 (by decide) (by decide) (by decide) (by decide)
  have s4 : (M2.1 23 2).toInt = (M2.1 47 52).toInt := sc_keep hR.1.2.2.2.2.1 F1 F2 (by decide) (by decide) (by decide) (by decide)
  have s5 : (M2.1 23 7).toInt = (M2.1 47 53).toInt := sc_keep hR.1.2.2.2.2.2.1 F1 F2 (by decide) (by decide) (by decide) (by decide)
  have s6 : (M2.1 0 7).toInt = (M2.1 47 43).toInt := sc_keep hR.1.2.2.2.2.2.2 F1 F2 (by decide) (by decide) (by decide) (by decide)
  have t0 : ∀ j, j < 10 → M2.1 5 j = M2.1 51 j := row_keep hR.2.1 F1 F2 (by decide) (by decide) (by decide) (by decide)
  have t1 : ∀ j, j < 3 → M2.1 12 j = M2.1 58 j := row_keep hR.2.2.1 F1 F2 (by decide) (by decide) (by decide) (by decide)
  have t2 : ∀ j, j < 8 → M2.1 25 j = M2.1 80 j := row_keep hR.2.2.2 F1 F2 (by decide) (by decide) (by decide) (by decide)
  have vv2 : VV M2 := VV_fr (VV_fr hV F1 (by decide)) F2 (by decide)
  have sn2 : SCN M2 := SCN_fr (SCN_fr hS F1 (by decide)) F2 (by decide)
  have rc2 : RC M2 := sc_keep hC F1 F2 (by decide) (by decide) (by decide) (by decide)
  have hl2 : (M.1 1 12).toInt ≤ (M2.1 1 12).toInt := by rw [F2.at 1 12 (by decide), F1.at 1 12 (by decide)]; exact Int.le_refl _
  have bk2 : BK M2 := BK_keep hB F1 F2 (by decide) (by decide) hl2
  have bs2 : BSL M2 := BSL_keep hBS F1 F2 (by decide) (by decide)
  have gt2 : GT M2 := GT_fr (GT_fr hGT F1 (by decide)) F2 (by decide)
  have so2 : SON M2 := SON_keep hSO F1 F2 (by decide) (by decide)
  show GL Γ M2 439 (LL b base y) [.int r2]
  refine l_pop X dL_law_439 rfl ?_
  refine l_goto X (tgt := 1445) dL_law_440 (by decide) ?_
  exact kk M2 ⟨⟨⟨⟨hX2, hM2, ⟨⟨s0, s1, s2, s3, s4, s5, s6⟩, t0, t1, t2⟩, tM2⟩, vv2⟩, sn2, rc2⟩, bk2, bs2, gt2, so2⟩
set_option maxHeartbeats 4000000 in
theorem cs_feed (X : gLX Γ base b N xs) {n i : Nat} {y : Int32} (hy : y.toInt = i) (hi : i + 6 ≤ N) (hN : N ≤ 3072) (hn : n ≤ 512) {M : Mem} (h : LF n M) (kk : ∀ M', LF (n + 1) M' → GL Γ M' 1445 (LL b base y) []) : GL Γ M 443 (LL b base y) [] := by
  obtain ⟨⟨⟨⟨hX, hM, hR, ht0, ht1⟩, hV⟩, hS, hC⟩, hB, hBS, hGT, hSO⟩ := h
  refine l_aload X 1 rfl dL_law_443 ?_
  refine l_arg X hy hi hN 1 ⟨by decide, by decide⟩ dL_law_444 dL_law_445 dL_law_446 dL_law_447 dL_law_448 ?_
  refine l_i2l X dL_law_449 ?_
  refine l_bipush X 32 dL_law_450 (by decide) ?_
  refine l_lshl X dL_law_452 ?_
  refine l_arg X hy hi hN 2 ⟨by decide, by decide⟩ dL_law_453 dL_law_454 dL_law_455 dL_law_456 dL_law_457 ?_
  refine l_i2l X dL_law_458 ?_
  refine l_ldc2 X k_L_45 dL_law_459 ?_
  refine l_land X dL_law_462 ?_
  refine l_lor X dL_law_463 ?_
  refine l_arg X hy hi hN 3 ⟨by decide, by decide⟩ dL_law_464 dL_law_465 dL_law_466 dL_law_467 dL_law_468 ?_
  refine l_callV X m_L_47 (c_X6_feed_E (fun k => base + k) M (((xs (i + 1)).toInt64 <<< ((32 : Int32).toInt64 &&& 63)) ||| ((xs (i + 2)).toInt64 &&& 4294967295)) rfl (xs (i + 3)) rfl hX.1) rfl (by decide) (Nat.le_of_ble_eq_true rfl) (S := []) rfl dL_law_469 (fun v M1 q1 => ?_)
  obtain ⟨r1, a1, rfl, e1, A1, E1, I1, F1⟩ := q1
  have F1 : Fr W_X6_feed_E M M1 := F1
  have hX1 : LX M1 := gen_LX hX F1 I1 (by decide)
  have hM1 : LM M1 := LM_fr hM F1 (by decide)
  have tM1 : (M1.1 47 23).toInt = (M.1 47 23).toInt := by rw [F1.at 47 23 (by decide)]
  show GL Γ M1 472 (LL b base y) [.int r1]
  refine l_pop X dL_law_472 rfl ?_
  refine l_aload X 2 rfl dL_law_473 ?_
  refine l_arg X hy hi hN 1 ⟨by decide, by decide⟩ dL_law_474 dL_law_475 dL_law_476 dL_law_477 dL_law_478 ?_
  refine l_i2l X dL_law_479 ?_
  refine l_bipush X 32 dL_law_480 (by decide) ?_
  refine l_lshl X dL_law_482 ?_
  refine l_arg X hy hi hN 2 ⟨by decide, by decide⟩ dL_law_483 dL_law_484 dL_law_485 dL_law_486 dL_law_487 ?_
  refine l_i2l X dL_law_488 ?_
  refine l_ldc2 X k_L_45 dL_law_489 ?_
  refine l_land X dL_law_492 ?_
  refine l_lor X dL_law_493 ?_
  refine l_arg X hy hi hN 3 ⟨by decide, by decide⟩ dL_law_494 dL_law_495 dL_law_496 dL_law_497 dL_law_498 ?_
  refine l_callV X m_L_51 (c_X7_feed_E (fun k => base + k) M1 (((xs (i + 1)).toInt64 <<< ((32 : Int32).toInt64 &&& 63)) ||| ((xs (i + 2)).toInt64 &&& 4294967295)) rfl (xs (i + 3)) rfl hM1.1) rfl (by decide) (Nat.le_of_ble_eq_true rfl) (S := []) rfl dL_law_499 (fun v M2 q2 => ?_)
  obtain ⟨r2, a2, rfl, e2, A2, E2, I2, F2⟩ := q2
  have F2 : Fr W_X7_feed_E M1 M2 := F2
  have hX2 : LX M2 := LX_fr hX1 F2 (by decide)
  have hM2 : LM M2 := gen_LM hM1 F2 I2 (by decide)
  have tM2 : 0 ≤ (M2.1 47 23).toInt ∧ (M2.1 47 23).toInt ≤ n + 1 := by rw [F2.at 47 23 (by decide)]; omega
  have g_47_20 : (M1.1 47 20).toInt = (M.1 14 1).toInt := by rw [F1.at 47 20 (by decide)]; exact hR.1.2.2.1.symm
  have E2o := E2
  simp only [g_47_20] at A2 E2
  have s0 : (M2.1 1 3).toInt = (M2.1 47 11).toInt := sc_keep hR.1.1 F1 F2 (by decide) (by decide) (by decide) (by decide)
  have s1 : (M2.1 1 12).toInt = (M2.1 47 12).toInt := sc_keep hR.1.2.1 F1 F2 (by decide) (by decide) (by decide) (by decide)
  have s2 : (M2.1 14 1).toInt = (M2.1 47 20).toInt := by rw [F2.at 14 1 (by decide)]; exact ans2f E1.1 E2.1
  have s3 : (M2.1 14 12).toInt = (M2.1 47 24).toInt := sc_keep hR.1.2.2.2.1 F1 F2 (by decide) (by decide) (by decide) (by decide)
  have s4 : (M2.1 23 2).toInt = (M2.1 47 52).toInt := sc_keep hR.1.2.2.2.2.1 F1 F2 (by decide) (by decide) (by decide) (by decide)
  have s5 : (M2.1 23 7).toInt = (M2.1 47 53).toInt := sc_keep hR.1.2.2.2.2.2.1 F1 F2 (by decide) (by decide) (by decide) (by decide)
  have s6 : (M2.1 0 7).toInt = (M2.1 47 43).toInt := sc_keep hR.1.2.2.2.2.2.2 F1 F2 (by decide) (by decide) (by decide) (by decide)
  have t0 : ∀ j, j < 10 → M2.1 5 j = M2.1 51 j := row_keep hR.2.1 F1 F2 (by decide) (by decide) (by decide) (by decide)
  have t1 : ∀ j, j < 3 → M2.1 12 j = M2.1 58 j := row_keep hR.2.2.1 F1 F2 (by decide) (by decide) (by decide) (by decide)
  have t2 : ∀ j, j < 8 → M2.1 25 j = M2.1 80 j := row_keep hR.2.2.2 F1 F2 (by decide) (by decide) (by decide) (by decide)
  have ans : a1 = a2 := ans3 A1 A2 (fun _ => rfl)
  have vv2 : VV M2 := VV_fr (VV_fr hV F1 (by decide)) F2 (by decide)
  have sn2 : SCN M2 := SCN_feed hS (ig_14_1 hX.1).1 F1 F2 E1.2 E2.2 rfl (by rw [F2.at 14 1 (by decide)]; have z := E1.1; omega) (by decide) (by decide)
  have rc2 : RC M2 := sc_keep hC F1 F2 (by decide) (by decide) (by decide) (by decide)
  have hl2 : (M.1 1 12).toInt ≤ (M2.1 1 12).toInt := by rw [F2.at 1 12 (by decide), F1.at 1 12 (by decide)]; exact Int.le_refl _
  have bk2 : BK M2 := BK_keep hB F1 F2 (by decide) (by decide) hl2
  have bs2 : BSL M2 := BSL_keep hBS F1 F2 (by decide) (by decide)
  have gt2 : GT M2 := GT_fr (GT_fr hGT F1 (by decide)) F2 (by decide)
  have so2 : SON M2 := SON_keep hSO F1 F2 (by decide) (by decide)
  show GL Γ M2 502 (LL b base y) [.int r2]
  refine l_pop X dL_law_502 rfl ?_
  refine l_goto X (tgt := 1445) dL_law_503 (by decide) ?_
  exact kk M2 ⟨⟨⟨⟨hX2, hM2, ⟨⟨s0, s1, s2, s3, s4, s5, s6⟩, t0, t1, t2⟩, tM2⟩, vv2⟩, sn2, rc2⟩, bk2, bs2, gt2, so2⟩
set_option maxHeartbeats 4000000 in
theorem cs_scene (X : gLX Γ base b N xs) {n i : Nat} {y : Int32} (hy : y.toInt = i) (hi : i + 6 ≤ N) (hN : N ≤ 3072) (hn : n ≤ 512) {M : Mem} (h : LF n M) (kk : ∀ M', LF (n + 1) M' → GL Γ M' 1445 (LL b base y) []) : GL Γ M 506 (LL b base y) [] := by
  obtain ⟨⟨⟨⟨hX, hM, hR, ht0, ht1⟩, hV⟩, hS, hC⟩, hB, hBS, hGT, hSO⟩ := h
  refine l_aload X 1 rfl dL_law_506 ?_
  refine l_callV X m_L_52 (c_X6_scene_F (fun k => base + k) M  hX.1 (fun j hj => by rw [hS.1 j hj]; have z := ig_14_1 hX.1; exact (ig_60 hM.1 j (by omega)).1)) rfl (by decide) (Nat.le_of_ble_eq_true rfl) (S := []) rfl dL_law_507 (fun v M1 q1 => ?_)
  obtain ⟨r1, a1, rfl, e1, -, z1, I1, F1⟩ := q1
  have F1 : Fr W_X6_scene_F M M1 := F1
  have hX1 : LX M1 := gen_LX hX F1 I1 (by decide)
  have hM1 : LM M1 := LM_fr hM F1 (by decide)
  have tM1 : (M1.1 47 23).toInt = (M.1 47 23).toInt := by rw [F1.at 47 23 (by decide)]
  show GL Γ M1 510 (LL b base y) [.int r1]
  refine l_pop X dL_law_510 rfl ?_
  refine l_aload X 2 rfl dL_law_511 ?_
  refine l_callV X m_L_56 (c_X7_scene_E (fun k => base + k) M1  hM1.1 ⟨by omega, by omega⟩ hM1.2.1 hM1.2.2.1 Fr.rf) rfl (by decide) (Nat.le_of_ble_eq_true rfl) (S := []) rfl dL_law_512 (fun v M2 q2 => ?_)
  obtain ⟨r2, a2, rfl, e2, -, z2, I2, F2⟩ := q2
  have F2 : Fr W_X7_scene_E M1 M2 := F2
  have hX2 : LX M2 := LX_fr hX1 F2 (by decide)
  have hM2 : LM M2 := ⟨I2, z2.1, z2.2.1, by rw [F2.atL 47 34 (by decide)]; exact hM1.2.2.2⟩
  have tM2 : 0 ≤ (M2.1 47 23).toInt ∧ (M2.1 47 23).toInt ≤ n + 1 := by obtain ⟨-, -, -, u1, u2, -⟩ := z2; omega
  have s0 : (M2.1 1 3).toInt = (M2.1 47 11).toInt := sc_keep hR.1.1 F1 F2 (by decide) (by decide) (by decide) (by decide)
  have s1 : (M2.1 1 12).toInt = (M2.1 47 12).toInt := sc_keep hR.1.2.1 F1 F2 (by decide) (by decide) (by decide) (by decide)
  have s2 : (M2.1 14 1).toInt = (M2.1 47 20).toInt := by rw [F2.at 14 1 (by decide), z1.2.1, z2.2.2.1]
  have s3 : (M2.1 14 12).toInt = (M2.1 47 24).toInt := sc_keep hR.1.2.2.2.1 F1 F2 (by decide) (by decide) (by decide) (by decide)
  have s4 : (M2.1 23 2).toInt = (M2.1 47 52).toInt := sc_keep hR.1.2.2.2.2.1 F1 F2 (by decide) (by decide) (by decide) (by decide)
  have s5 : (M2.1 23 7).toInt = (M2.1 47 53).toInt := sc_keep hR.1.2.2.2.2.2.1 F1 F2 (by decide) (by decide) (by decide) (by decide)
  have s6 : (M2.1 0 7).toInt = (M2.1 47 43).toInt := sc_keep hR.1.2.2.2.2.2.2 F1 F2 (by decide) (by decide) (by decide) (by decide)
  have t0 : ∀ j, j < 10 → M2.1 5 j = M2.1 51 j := row_keep hR.2.1 F1 F2 (by decide) (by decide) (by decide) (by decide)
  have t1 : ∀ j, j < 3 → M2.1 12 j = M2.1 58 j := row_keep hR.2.2.1 F1 F2 (by decide) (by decide) (by decide) (by decide)
  have t2 : ∀ j, j < 8 → M2.1 25 j = M2.1 80 j := row_keep hR.2.2.2 F1 F2 (by decide) (by decide) (by decide) (by decide)
  have vv2 : VV M2 := VV_fr (VV_fr hV F1 (by decide)) F2 (by decide)
  obtain ⟨ans, sn2⟩ := scene_both hS hR.1.2.2.1 hX.1 hM.1 ⟨z1.1, z1.2.1⟩ z2.2.2.2.2.2 ht0 F1 F2 (by decide) (by decide)
  have rc2 : RC M2 := sc_keep hC F1 F2 (by decide) (by decide) (by decide) (by decide)
  have hl2 : (M.1 1 12).toInt ≤ (M2.1 1 12).toInt := by rw [F2.at 1 12 (by decide), F1.at 1 12 (by decide)]; exact Int.le_refl _
  have bk2 : BK M2 := BK_keep hB F1 F2 (by decide) (by decide) hl2
  have bs2 : BSL M2 := BSL_keep hBS F1 F2 (by decide) (by decide)
  have gt2 : GT M2 := scene_gt hS hGT hR.1.2.2.1 hX.1 hM.1 z1.1 z1.2.2 z2.2.2.2.2.2 ans F1 F2 (by decide) (by decide)
  have so2 : SON M2 := SON_keep hSO F1 F2 (by decide) (by decide)
  show GL Γ M2 515 (LL b base y) [.int r2]
  refine l_pop X dL_law_515 rfl ?_
  refine l_goto X (tgt := 1445) dL_law_516 (by decide) ?_
  exact kk M2 ⟨⟨⟨⟨hX2, hM2, ⟨⟨s0, s1, s2, s3, s4, s5, s6⟩, t0, t1, t2⟩, tM2⟩, vv2⟩, sn2, rc2⟩, bk2, bs2, gt2, so2⟩
set_option maxHeartbeats 4000000 in
theorem cs_hall (X : gLX Γ base b N xs) {n i : Nat} {y : Int32} (hy : y.toInt = i) (hi : i + 6 ≤ N) (hN : N ≤ 3072) (hn : n ≤ 512) {M : Mem} (h : LF n M) (kk : ∀ M', LF (n + 1) M' → GL Γ M' 1445 (LL b base y) []) : GL Γ M 519 (LL b base y) [] := by
  obtain ⟨⟨⟨⟨hX, hM, hR, ht0, ht1⟩, hV⟩, hS, hC⟩, hB, hBS, hGT, hSO⟩ := h
  refine l_aload X 1 rfl dL_law_519 ?_
  refine l_arg X hy hi hN 1 ⟨by decide, by decide⟩ dL_law_520 dL_law_521 dL_law_522 dL_law_523 dL_law_524 ?_
  refine l_callV X m_L_57 (c_X6_hall (fun k => base + k) M (xs (i + 1)) rfl hX.1) rfl (by decide) (Nat.le_of_ble_eq_true rfl) (S := []) rfl dL_law_525 (fun v M1 q1 => ?_)
  obtain ⟨r1, a1, rfl, e1, A1, E1, I1, F1⟩ := q1
  have F1 : Fr W_X6_hall M M1 := F1
  have hX1 : LX M1 := gen_LX hX F1 I1 (by decide)
  have hM1 : LM M1 := LM_fr hM F1 (by decide)
  have tM1 : (M1.1 47 23).toInt = (M.1 47 23).toInt := by rw [F1.at 47 23 (by decide)]
  show GL Γ M1 528 (LL b base y) [.int r1]
  refine l_pop X dL_law_528 rfl ?_
  refine l_aload X 2 rfl dL_law_529 ?_
  refine l_arg X hy hi hN 1 ⟨by decide, by decide⟩ dL_law_530 dL_law_531 dL_law_532 dL_law_533 dL_law_534 ?_
  refine l_callV X m_L_60 (c_X7_hall (fun k => base + k) M1 (xs (i + 1)) rfl hM1.1) rfl (by decide) (Nat.le_of_ble_eq_true rfl) (S := []) rfl dL_law_535 (fun v M2 q2 => ?_)
  obtain ⟨r2, a2, rfl, e2, A2, E2, I2, F2⟩ := q2
  have F2 : Fr W_X7_hall M1 M2 := F2
  have hX2 : LX M2 := LX_fr hX1 F2 (by decide)
  have hM2 : LM M2 := gen_LM hM1 F2 I2 (by decide)
  have tM2 : 0 ≤ (M2.1 47 23).toInt ∧ (M2.1 47 23).toInt ≤ n + 1 := by rw [F2.at 47 23 (by decide)]; omega
  have g_47_24 : (M1.1 47 24).toInt = (M.1 14 12).toInt := by rw [F1.at 47 24 (by decide)]; exact hR.1.2.2.2.1.symm
  have E2o := E2
  simp only [g_47_24] at A2 E2
  have s0 : (M2.1 1 3).toInt = (M2.1 47 11).toInt := sc_keep hR.1.1 F1 F2 (by decide) (by decide) (by decide) (by decide)
  have s1 : (M2.1 1 12).toInt = (M2.1 47 12).toInt := sc_keep hR.1.2.1 F1 F2 (by decide) (by decide) (by decide) (by decide)
  have s2 : (M2.1 14 1).toInt = (M2.1 47 20).toInt := sc_keep hR.1.2.2.1 F1 F2 (by decide) (by decide) (by decide) (by decide)
  have s3 : (M2.1 14 12).toInt = (M2.1 47 24).toInt := by rw [F2.at 14 12 (by decide)]; exact ans2 E1 E2
  have s4 : (M2.1 23 2).toInt = (M2.1 47 52).toInt := sc_keep hR.1.2.2.2.2.1 F1 F2 (by decide) (by decide) (by decide) (by decide)
  have s5 : (M2.1 23 7).toInt = (M2.1 47 53).toInt := sc_keep hR.1.2.2.2.2.2.1 F1 F2 (by decide) (by decide) (by decide) (by decide)
  have s6 : (M2.1 0 7).toInt = (M2.1 47 43).toInt := sc_keep hR.1.2.2.2.2.2.2 F1 F2 (by decide) (by decide) (by decide) (by decide)
  have t0 : ∀ j, j < 10 → M2.1 5 j = M2.1 51 j := row_keep hR.2.1 F1 F2 (by decide) (by decide) (by decide) (by decide)
  have t1 : ∀ j, j < 3 → M2.1 12 j = M2.1 58 j := row_keep hR.2.2.1 F1 F2 (by decide) (by decide) (by decide) (by decide)
  have t2 : ∀ j, j < 8 → M2.1 25 j = M2.1 80 j := row_keep hR.2.2.2 F1 F2 (by decide) (by decide) (by decide) (by decide)
  have ans : a1 = a2 := ans2 A1 A2
  have vv2 : VV M2 := VV_fr (VV_fr hV F1 (by decide)) F2 (by decide)
  have sn2 : SCN M2 := SCN_fr (SCN_fr hS F1 (by decide)) F2 (by decide)
  have rc2 : RC M2 := sc_keep hC F1 F2 (by decide) (by decide) (by decide) (by decide)
  have hl2 : (M.1 1 12).toInt ≤ (M2.1 1 12).toInt := by rw [F2.at 1 12 (by decide), F1.at 1 12 (by decide)]; exact Int.le_refl _
  have bk2 : BK M2 := BK_keep hB F1 F2 (by decide) (by decide) hl2
  have bs2 : BSL M2 := BSL_keep hBS F1 F2 (by decide) (by decide)
  have gt2 : GT M2 := GT_fr (GT_fr hGT F1 (by decide)) F2 (by decide)
  have so2 : SON M2 := SON_keep hSO F1 F2 (by decide) (by decide)
  show GL Γ M2 538 (LL b base y) [.int r2]
  refine l_pop X dL_law_538 rfl ?_
  refine l_goto X (tgt := 1445) dL_law_539 (by decide) ?_
  exact kk M2 ⟨⟨⟨⟨hX2, hM2, ⟨⟨s0, s1, s2, s3, s4, s5, s6⟩, t0, t1, t2⟩, tM2⟩, vv2⟩, sn2, rc2⟩, bk2, bs2, gt2, so2⟩
set_option maxHeartbeats 4000000 in
theorem cs_sing (X : gLX Γ base b N xs) {n i : Nat} {y : Int32} (hy : y.toInt = i) (hi : i + 6 ≤ N) (hN : N ≤ 3072) (hn : n ≤ 512) {M : Mem} (h : LF n M) (kk : ∀ M', LF (n + 1) M' → GL Γ M' 1445 (LL b base y) []) : GL Γ M 542 (LL b base y) [] := by
  obtain ⟨⟨⟨⟨hX, hM, hR, ht0, ht1⟩, hV⟩, hS, hC⟩, hB, hBS, hGT, hSO⟩ := h
  refine l_aload X 1 rfl dL_law_542 ?_
  refine l_arg X hy hi hN 1 ⟨by decide, by decide⟩ dL_law_543 dL_law_544 dL_law_545 dL_law_546 dL_law_547 ?_
  refine l_arg X hy hi hN 2 ⟨by decide, by decide⟩ dL_law_548 dL_law_549 dL_law_550 dL_law_551 dL_law_552 ?_
  refine l_arg X hy hi hN 3 ⟨by decide, by decide⟩ dL_law_553 dL_law_554 dL_law_555 dL_law_556 dL_law_557 ?_
  refine l_arg X hy hi hN 4 ⟨by decide, by decide⟩ dL_law_558 dL_law_559 dL_law_560 dL_law_561 dL_law_562 ?_
  refine l_i2l X dL_law_563 ?_
  refine l_bipush X 32 dL_law_564 (by decide) ?_
  refine l_lshl X dL_law_566 ?_
  refine l_arg X hy hi hN 5 ⟨by decide, by decide⟩ dL_law_567 dL_law_568 dL_law_569 dL_law_570 dL_law_571 ?_
  refine l_i2l X dL_law_572 ?_
  refine l_ldc2 X k_L_45 dL_law_573 ?_
  refine l_land X dL_law_576 ?_
  refine l_lor X dL_law_577 ?_
  have hTp : TVp (ppS M ((xs (i + 2))).toInt ((xs (i + 3))).toInt) (tel M) := ppS_TV hGT hM.2.1 hM.1
  have hCn : ∀ s, 0 ≤ (ppS M ((xs (i + 2))).toInt ((xs (i + 3))).toInt).2.2.2.2.1 s := fun s => Int.natCast_nonneg _
  refine l_callV X m_L_61 (c_X6_sing_F (fun k => base + k) M (xs (i + 1)) rfl (xs (i + 2)) rfl (xs (i + 3)) rfl (((xs (i + 4)).toInt64 <<< ((32 : Int32).toInt64 &&& 63)) ||| ((xs (i + 5)).toInt64 &&& 4294967295)) rfl hX.1 hB.2.2.2.2.2.1 hTp (fun S hb => ppS_X hS hGT hB hBS hR.1.2.1 hR.1.2.2.2.1 hR.1.2.2.2.2.2.1 hM.1 hb) (fun x hx h => (hS.2.1 x hx).mp h) hCn hX.2) rfl (by decide) (Nat.le_of_ble_eq_true rfl) (S := []) rfl dL_law_578 (fun v M1 q1 => ?_)
  obtain ⟨r1, a1, rfl, e1, -, z1, E1, I1, F1⟩ := q1
  have F1 : Fr W_X6_sing_F M M1 := F1
  have hX1 : LX M1 := ⟨I1, z1⟩
  have hM1 : LM M1 := LM_fr hM F1 (by decide)
  have tM1 : (M1.1 47 23).toInt = (M.1 47 23).toInt := by rw [F1.at 47 23 (by decide)]
  show GL Γ M1 581 (LL b base y) [.int r1]
  refine l_pop X dL_law_581 rfl ?_
  refine l_aload X 2 rfl dL_law_582 ?_
  refine l_arg X hy hi hN 1 ⟨by decide, by decide⟩ dL_law_583 dL_law_584 dL_law_585 dL_law_586 dL_law_587 ?_
  refine l_arg X hy hi hN 2 ⟨by decide, by decide⟩ dL_law_588 dL_law_589 dL_law_590 dL_law_591 dL_law_592 ?_
  refine l_arg X hy hi hN 3 ⟨by decide, by decide⟩ dL_law_593 dL_law_594 dL_law_595 dL_law_596 dL_law_597 ?_
  refine l_arg X hy hi hN 4 ⟨by decide, by decide⟩ dL_law_598 dL_law_599 dL_law_600 dL_law_601 dL_law_602 ?_
  refine l_i2l X dL_law_603 ?_
  refine l_bipush X 32 dL_law_604 (by decide) ?_
  refine l_lshl X dL_law_606 ?_
  refine l_arg X hy hi hN 5 ⟨by decide, by decide⟩ dL_law_607 dL_law_608 dL_law_609 dL_law_610 dL_law_611 ?_
  refine l_i2l X dL_law_612 ?_
  refine l_ldc2 X k_L_45 dL_law_613 ?_
  refine l_land X dL_law_616 ?_
  refine l_lor X dL_law_617 ?_
  refine l_callV X m_L_65 (c_X7_sing_F (fun k => base + k) M1 (xs (i + 1)) rfl (xs (i + 2)) rfl (xs (i + 3)) rfl (((xs (i + 4)).toInt64 <<< ((32 : Int32).toInt64 &&& 63)) ||| ((xs (i + 5)).toInt64 &&& 4294967295)) rfl hM1.1 hTp (ppS_Q F1 (by decide)) (fun x hx h => by have z : (M1.1 63 x).toInt = (M.1 63 x).toInt := congrArg Int32.toInt (F1.at 63 x (lo_in (by decide) (by decide) x)); exact (show 0 < (M.1 63 x).toInt from z ▸ h)) hCn hM1.2.2.2 hM1.2.1) rfl (by decide) (Nat.le_of_ble_eq_true rfl) (S := []) rfl dL_law_618 (fun v M2 q2 => ?_)
  obtain ⟨r2, a2, rfl, e2, -, z2, E2, I2, F2⟩ := q2
  have F2 : Fr W_X7_sing_F M1 M2 := F2
  have hX2 : LX M2 := LX_fr hX1 F2 (by decide)
  have hM2 : LM M2 := ⟨I2, WFM_fr0 hM1.2.1 F2 (noW_in (by decide)) (noW_in (by decide)) (noW_in (by decide)), WFT_fr hM1.2.2.1 F2 (by decide), z2⟩
  have tM2 : 0 ≤ (M2.1 47 23).toInt ∧ (M2.1 47 23).toInt ≤ n + 1 := by rw [F2.at 47 23 (by decide)]; omega
  have s0 : (M2.1 1 3).toInt = (M2.1 47 11).toInt := sc_keep hR.1.1 F1 F2 (by decide) (by decide) (by decide) (by decide)
  have s1 : (M2.1 1 12).toInt = (M2.1 47 12).toInt := sc_keep hR.1.2.1 F1 F2 (by decide) (by decide) (by decide) (by decide)
  have s2 : (M2.1 14 1).toInt = (M2.1 47 20).toInt := sc_keep hR.1.2.2.1 F1 F2 (by decide) (by decide) (by decide) (by decide)
  have s3 : (M2.1 14 12).toInt = (M2.1 47 24).toInt := sc_keep hR.1.2.2.2.1 F1 F2 (by decide) (by decide) (by decide) (by decide)
  have s4 : (M2.1 23 2).toInt = (M2.1 47 52).toInt := sc_keep hR.1.2.2.2.2.1 F1 F2 (by decide) (by decide) (by decide) (by decide)
  have s5 : (M2.1 23 7).toInt = (M2.1 47 53).toInt := sc_keep hR.1.2.2.2.2.2.1 F1 F2 (by decide) (by decide) (by decide) (by decide)
  have s6 : (M2.1 0 7).toInt = (M2.1 47 43).toInt := sc_keep hR.1.2.2.2.2.2.2 F1 F2 (by decide) (by decide) (by decide) (by decide)
  have t0 : ∀ j, j < 10 → M2.1 5 j = M2.1 51 j := row_keep hR.2.1 F1 F2 (by decide) (by decide) (by decide) (by decide)
  have t1 : ∀ j, j < 3 → M2.1 12 j = M2.1 58 j := row_keep hR.2.2.1 F1 F2 (by decide) (by decide) (by decide) (by decide)
  have t2 : ∀ j, j < 8 → M2.1 25 j = M2.1 80 j := row_keep hR.2.2.2 F1 F2 (by decide) (by decide) (by decide) (by decide)
  have vv2 : VV M2 := VV_fr (VV_fr hV F1 (by decide)) F2 (by decide)
  have sn2 : SCN M2 := SCN_fr (SCN_fr hS F1 (by decide)) F2 (by decide)
  have rc2 : RC M2 := sc_keep hC F1 F2 (by decide) (by decide) (by decide) (by decide)
  have hl2 : (M.1 1 12).toInt ≤ (M2.1 1 12).toInt := by rw [F2.at 1 12 (by decide), F1.at 1 12 (by decide)]; exact Int.le_refl _
  have bk2 : BK M2 := BK_keep hB F1 F2 (by decide) (by decide) hl2
  have bs2 : BSL M2 := BSL_keep hBS F1 F2 (by decide) (by decide)
  have gt2 : GT M2 := GT_fr (GT_fr hGT F1 (by decide)) F2 (by decide)
  have q52 : (M1.1 47 52).toInt = (M.1 47 52).toInt := by rw [F1.at 47 52 (by decide)]
  have q32 : (M1.1 47 32).toInt = (M.1 47 32).toInt := by rw [F1.at 47 32 (by decide)]
  have q63 : ∀ x : Nat, (M1.1 63 x).toInt = tel M x := fun x => congrArg Int32.toInt (F1.at 63 x (lo_in (by decide) (by decide) x))
  have q69 : M1.1 69 = M.1 69 := row_fr F1 (by decide)
  have p34 : M2.1 34 = M1.1 34 := row_fr F2 (by decide)
  have p33 : (M2.1 33 3).toInt = (M1.1 33 3).toInt := by rw [F2.at 33 3 (by decide)]
  have gS := hR.1.2.2.2.2.1
  have tt : 0 ≤ (xs (i + 1)).toInt ∧ (xs (i + 1)).toInt < 8 → (0 < (M.1 20 ((xs (i + 1)).toInt).toNat).toInt ↔ 0 < (M1.1 63 ((xs (i + 1)).toInt).toNat).toInt) := fun q => by rw [q63]; exact hS.2.1 _ (by omega)
  obtain ⟨ans, so1, so3⟩ := SNG_both (by omega) (fun _ => Iff.rfl) (hSO.1.trans q32.symm) (fun j hj => by rw [q69]; exact hSO.2 j hj) E1 E2
  have so2 : SON M2 := ⟨by rw [p33]; exact so1, fun j hj => by rw [p34]; exact so3 j (by rw [← p33]; exact hj)⟩
  show GL Γ M2 621 (LL b base y) [.int r2]
  refine l_pop X dL_law_621 rfl ?_
  refine l_goto X (tgt := 1445) dL_law_622 (by decide) ?_
  exact kk M2 ⟨⟨⟨⟨hX2, hM2, ⟨⟨s0, s1, s2, s3, s4, s5, s6⟩, t0, t1, t2⟩, tM2⟩, vv2⟩, sn2, rc2⟩, bk2, bs2, gt2, so2⟩
set_option maxHeartbeats 4000000 in
theorem cs_sung (X : gLX Γ base b N xs) {n i : Nat} {y : Int32} (hy : y.toInt = i) (hi : i + 6 ≤ N) (hN : N ≤ 3072) (hn : n ≤ 512) {M : Mem} (h : LF n M) (kk : ∀ M', LF (n + 1) M' → GL Γ M' 1445 (LL b base y) []) : GL Γ M 625 (LL b base y) [] := by
  obtain ⟨⟨⟨⟨hX, hM, hR, ht0, ht1⟩, hV⟩, hS, hC⟩, hB, hBS, hGT, hSO⟩ := h
  refine l_aload X 1 rfl dL_law_625 ?_
  refine l_arg X hy hi hN 1 ⟨by decide, by decide⟩ dL_law_626 dL_law_627 dL_law_628 dL_law_629 dL_law_630 ?_
  refine l_callV X m_L_66 (c_X6_sung_F (fun k => base + k) M (xs (i + 1)) rfl hX.1) rfl (by decide) (Nat.le_of_ble_eq_true rfl) (S := []) rfl dL_law_631 (fun v M1 q1 => ?_)
  obtain ⟨r1, a1, rfl, e1, A1, q1⟩ := q1
  have F1 : Fr [] M M1 := by rw [← q1]; exact Fr.rf
  have I1 : Iv TX M1 := by rw [← q1]; exact hX.1
  have F1 : Fr [] M M1 := F1
  have hX1 : LX M1 := gen_LX hX F1 I1 (by decide)
  have hM1 : LM M1 := LM_fr hM F1 (by decide)
  have tM1 : (M1.1 47 23).toInt = (M.1 47 23).toInt := by rw [F1.at 47 23 (by decide)]
  show GL Γ M1 634 (LL b base y) [.int r1]
  refine l_aload X 2 rfl dL_law_634 ?_
  refine l_arg X hy hi hN 1 ⟨by decide, by decide⟩ dL_law_635 dL_law_636 dL_law_637 dL_law_638 dL_law_639 ?_
  refine l_callV X m_L_69 (c_X7_sung_F (fun k => base + k) M1 (xs (i + 1)) rfl hM1.1) rfl (by decide) (Nat.le_of_ble_eq_true rfl) (S := [.int r1]) rfl dL_law_640 (fun v M2 q2 => ?_)
  obtain ⟨r2, a2, rfl, e2, A2, q2⟩ := q2
  have F2 : Fr [] M1 M2 := by rw [← q2]; exact Fr.rf
  have I2 : Iv TM M2 := by rw [← q2]; exact hM1.1
  have F2 : Fr [] M1 M2 := F2
  have hX2 : LX M2 := LX_fr hX1 F2 (by decide)
  have hM2 : LM M2 := gen_LM hM1 F2 I2 (by decide)
  have tM2 : 0 ≤ (M2.1 47 23).toInt ∧ (M2.1 47 23).toInt ≤ n + 1 := by rw [F2.at 47 23 (by decide)]; omega
  have s0 : (M2.1 1 3).toInt = (M2.1 47 11).toInt := sc_keep hR.1.1 F1 F2 (by decide) (by decide) (by decide) (by decide)
  have s1 : (M2.1 1 12).toInt = (M2.1 47 12).toInt := sc_keep hR.1.2.1 F1 F2 (by decide) (by decide) (by decide) (by decide)
  have s2 : (M2.1 14 1).toInt = (M2.1 47 20).toInt := sc_keep hR.1.2.2.1 F1 F2 (by decide) (by decide) (by decide) (by decide)
  have s3 : (M2.1 14 12).toInt = (M2.1 47 24).toInt := sc_keep hR.1.2.2.2.1 F1 F2 (by decide) (by decide) (by decide) (by decide)
  have s4 : (M2.1 23 2).toInt = (M2.1 47 52).toInt := sc_keep hR.1.2.2.2.2.1 F1 F2 (by decide) (by decide) (by decide) (by decide)
  have s5 : (M2.1 23 7).toInt = (M2.1 47 53).toInt := sc_keep hR.1.2.2.2.2.2.1 F1 F2 (by decide) (by decide) (by decide) (by decide)
  have s6 : (M2.1 0 7).toInt = (M2.1 47 43).toInt := sc_keep hR.1.2.2.2.2.2.2 F1 F2 (by decide) (by decide) (by decide) (by decide)
  have t0 : ∀ j, j < 10 → M2.1 5 j = M2.1 51 j := row_keep hR.2.1 F1 F2 (by decide) (by decide) (by decide) (by decide)
  have t1 : ∀ j, j < 3 → M2.1 12 j = M2.1 58 j := row_keep hR.2.2.1 F1 F2 (by decide) (by decide) (by decide) (by decide)
  have t2 : ∀ j, j < 8 → M2.1 25 j = M2.1 80 j := row_keep hR.2.2.2 F1 F2 (by decide) (by decide) (by decide) (by decide)
  have vv2 : VV M2 := VV_fr (VV_fr hV F1 (by decide)) F2 (by decide)
  have sn2 : SCN M2 := SCN_fr (SCN_fr hS F1 (by decide)) F2 (by decide)
  have rc2 : RC M2 := sc_keep hC F1 F2 (by decide) (by decide) (by decide) (by decide)
  have hl2 : (M.1 1 12).toInt ≤ (M2.1 1 12).toInt := by rw [F2.at 1 12 (by decide), F1.at 1 12 (by decide)]; exact Int.le_refl _
  have bk2 : BK M2 := BK_keep hB F1 F2 (by decide) (by decide) hl2
  have bs2 : BSL M2 := BSL_keep hBS F1 F2 (by decide) (by decide)
  have gt2 : GT M2 := GT_fr (GT_fr hGT F1 (by decide)) F2 (by decide)
  have so2 : SON M2 := SON_keep hSO F1 F2 (by decide) (by decide)
  have ans : a1 = a2 := by rw [← q1] at A2; exact sung_ans hSO.1 hSO.2 A1 A2
  show GL Γ M2 643 (LL b base y) [.int r2, .int r1]
  refine l_eq X (tgt := 1445) (Int32.toInt_inj.mp (by rw [e1, e2]; exact ans)) dL_law_643 (by decide) ?_
  exact kk M2 ⟨⟨⟨⟨hX2, hM2, ⟨⟨s0, s1, s2, s3, s4, s5, s6⟩, t0, t1, t2⟩, tM2⟩, vv2⟩, sn2, rc2⟩, bk2, bs2, gt2, so2⟩
set_option maxHeartbeats 4000000 in
theorem cs_singer (X : gLX Γ base b N xs) {n i : Nat} {y : Int32} (hy : y.toInt = i) (hi : i + 6 ≤ N) (hN : N ≤ 3072) (hn : n ≤ 512) {M : Mem} (h : LF n M) (kk : ∀ M', LF (n + 1) M' → GL Γ M' 1445 (LL b base y) []) : GL Γ M 648 (LL b base y) [] := by
  obtain ⟨⟨⟨⟨hX, hM, hR, ht0, ht1⟩, hV⟩, hS, hC⟩, hB, hBS, hGT, hSO⟩ := h
  refine l_aload X 1 rfl dL_law_648 ?_
  refine l_arg X hy hi hN 1 ⟨by decide, by decide⟩ dL_law_649 dL_law_650 dL_law_651 dL_law_652 dL_law_653 ?_
  refine l_callV X m_L_70 (c_X6_singer_E (fun k => base + k) M (xs (i + 1)) rfl hX.1) rfl (by decide) (Nat.le_of_ble_eq_true rfl) (S := []) rfl dL_law_654 (fun v M1 q1 => ?_)
  obtain ⟨r1, a1, rfl, e1, A1, E1, I1, F1⟩ := q1
  have F1 : Fr W_X6_singer_E M M1 := F1
  have hX1 : LX M1 := gen_LX hX F1 I1 (by decide)
  have hM1 : LM M1 := LM_fr hM F1 (by decide)
  have tM1 : (M1.1 47 23).toInt = (M.1 47 23).toInt := by rw [F1.at 47 23 (by decide)]
  show GL Γ M1 657 (LL b base y) [.int r1]
  refine l_pop X dL_law_657 rfl ?_
  refine l_aload X 2 rfl dL_law_658 ?_
  refine l_arg X hy hi hN 1 ⟨by decide, by decide⟩ dL_law_659 dL_law_660 dL_law_661 dL_law_662 dL_law_663 ?_
  refine l_callV X m_L_73 (c_X7_singer_E (fun k => base + k) M1 (xs (i + 1)) rfl hM1.1) rfl (by decide) (Nat.le_of_ble_eq_true rfl) (S := []) rfl dL_law_664 (fun v M2 q2 => ?_)
  obtain ⟨r2, a2, rfl, e2, A2, E2, I2, F2⟩ := q2
  have F2 : Fr W_X7_singer_E M1 M2 := F2
  have hX2 : LX M2 := LX_fr hX1 F2 (by decide)
  have hM2 : LM M2 := gen_LM hM1 F2 I2 (by decide)
  have tM2 : 0 ≤ (M2.1 47 23).toInt ∧ (M2.1 47 23).toInt ≤ n + 1 := by rw [F2.at 47 23 (by decide)]; omega
  have g_47_52 : (M1.1 47 52).toInt = (M.1 23 2).toInt := by rw [F1.at 47 52 (by decide)]; exact hR.1.2.2.2.2.1.symm
  have E2o := E2
  simp only [g_47_52] at A2 E2
  have s0 : (M2.1 1 3).toInt = (M2.1 47 11).toInt := sc_keep hR.1.1 F1 F2 (by decide) (by decide) (by decide) (by decide)
  have s1 : (M2.1 1 12).toInt = (M2.1 47 12).toInt := sc_keep hR.1.2.1 F1 F2 (by decide) (by decide) (by decide) (by decide)
  have s2 : (M2.1 14 1).toInt = (M2.1 47 20).toInt := sc_keep hR.1.2.2.1 F1 F2 (by decide) (by decide) (by decide) (by decide)
  have s3 : (M2.1 14 12).toInt = (M2.1 47 24).toInt := sc_keep hR.1.2.2.2.1 F1 F2 (by decide) (by decide) (by decide) (by decide)
  have s4 : (M2.1 23 2).toInt = (M2.1 47 52).toInt := by rw [F2.at 23 2 (by decide)]; exact ans2 E1.1 E2.1
  have s5 : (M2.1 23 7).toInt = (M2.1 47 53).toInt := sc_keep hR.1.2.2.2.2.2.1 F1 F2 (by decide) (by decide) (by decide) (by decide)
  have s6 : (M2.1 0 7).toInt = (M2.1 47 43).toInt := sc_keep hR.1.2.2.2.2.2.2 F1 F2 (by decide) (by decide) (by decide) (by decide)
  have t0 : ∀ j, j < 10 → M2.1 5 j = M2.1 51 j := row_keep hR.2.1 F1 F2 (by decide) (by decide) (by decide) (by decide)
  have t1 : ∀ j, j < 3 → M2.1 12 j = M2.1 58 j := row_keep hR.2.2.1 F1 F2 (by decide) (by decide) (by decide) (by decide)
  have t2 : ∀ j, j < 8 → M2.1 25 j = M2.1 80 j := row_keep hR.2.2.2 F1 F2 (by decide) (by decide) (by decide) (by decide)
  have ans : a1 = a2 := ans3 A1 A2 (fun _ => rfl)
  have vv2 : VV M2 := VV_fr (VV_fr hV F1 (by decide)) F2 (by decide)
  have sn2 : SCN M2 := SCN_fr (SCN_fr hS F1 (by decide)) F2 (by decide)
  have rc2 : RC M2 := sc_keep hC F1 F2 (by decide) (by decide) (by decide) (by decide)
  have bk2 : BK M2 := ⟨row_eq hB.1 Iff.rfl E1.2 E2.2 F1 F2 (by decide) (by decide), row_keep hB.2.1 F1 F2 (by decide) (by decide) (by decide) (by decide), row_keep hB.2.2.1 F1 F2 (by decide) (by decide) (by decide) (by decide), row_keep hB.2.2.2.1 F1 F2 (by decide) (by decide) (by decide) (by decide), row_keep hB.2.2.2.2.1 F1 F2 (by decide) (by decide) (by decide) (by decide), fun k hk => by rw [F2.at 28 k (hi_in (by decide) (by decide) k), F1.at 28 k (noW_in (by decide) k)]; exact hB.2.2.2.2.2.1 k hk, fun k hk => by rw [F2.at 23 7 (by decide), F1.at 23 7 (by decide)] at hk; rw [F2.at 27 k (hi_in (by decide) (by decide) k), F1.at 27 k (noW_in (by decide) k), F2.at 1 12 (by decide), F1.at 1 12 (by decide)]; exact hB.2.2.2.2.2.2 k hk⟩
  have bs2 : BSL M2 := BSL_keep hBS F1 F2 (by decide) (by decide)
  have gt2 : GT M2 := GT_fr (GT_fr hGT F1 (by decide)) F2 (by decide)
  have so2 : SON M2 := SON_keep hSO F1 F2 (by decide) (by decide)
  show GL Γ M2 667 (LL b base y) [.int r2]
  refine l_pop X dL_law_667 rfl ?_
  refine l_goto X (tgt := 1445) dL_law_668 (by decide) ?_
  exact kk M2 ⟨⟨⟨⟨hX2, hM2, ⟨⟨s0, s1, s2, s3, s4, s5, s6⟩, t0, t1, t2⟩, tM2⟩, vv2⟩, sn2, rc2⟩, bk2, bs2, gt2, so2⟩
set_option maxHeartbeats 4000000 in
theorem cs_village (X : gLX Γ base b N xs) {n i : Nat} {y : Int32} (hy : y.toInt = i) (hi : i + 6 ≤ N) (hN : N ≤ 3072) (hn : n ≤ 512) {M : Mem} (h : LF n M) (kk : ∀ M', LF (n + 1) M' → GL Γ M' 1445 (LL b base y) []) : GL Γ M 671 (LL b base y) [] := by
  obtain ⟨⟨⟨⟨hX, hM, hR, ht0, ht1⟩, hV⟩, hS, hC⟩, hB, hBS, hGT, hSO⟩ := h
  refine l_aload X 1 rfl dL_law_671 ?_
  refine l_arg X hy hi hN 1 ⟨by decide, by decide⟩ dL_law_672 dL_law_673 dL_law_674 dL_law_675 dL_law_676 ?_
  refine l_arg X hy hi hN 2 ⟨by decide, by decide⟩ dL_law_677 dL_law_678 dL_law_679 dL_law_680 dL_law_681 ?_
  refine l_callV X m_L_74 (c_X6_village (fun k => base + k) M (xs (i + 1)) rfl (xs (i + 2)) rfl hX.1) rfl (by decide) (Nat.le_of_ble_eq_true rfl) (S := []) rfl dL_law_682 (fun v M1 q1 => ?_)
  obtain ⟨r1, a1, rfl, e1, A1, E1, I1, F1⟩ := q1
  have F1 : Fr W_X6_village M M1 := F1
  have hX1 : LX M1 := gen_LX hX F1 I1 (by decide)
  have hM1 : LM M1 := LM_fr hM F1 (by decide)
  have tM1 : (M1.1 47 23).toInt = (M.1 47 23).toInt := by rw [F1.at 47 23 (by decide)]
  show GL Γ M1 685 (LL b base y) [.int r1]
  refine l_pop X dL_law_685 rfl ?_
  refine l_aload X 2 rfl dL_law_686 ?_
  refine l_arg X hy hi hN 1 ⟨by decide, by decide⟩ dL_law_687 dL_law_688 dL_law_689 dL_law_690 dL_law_691 ?_
  refine l_arg X hy hi hN 2 ⟨by decide, by decide⟩ dL_law_692 dL_law_693 dL_law_694 dL_law_695 dL_law_696 ?_
  refine l_callV X m_L_77 (c_X7_village (fun k => base + k) M1 (xs (i + 1)) rfl (xs (i + 2)) rfl hM1.1) rfl (by decide) (Nat.le_of_ble_eq_true rfl) (S := []) rfl dL_law_697 (fun v M2 q2 => ?_)
  obtain ⟨r2, a2, rfl, e2, A2, E2, I2, F2⟩ := q2
  have F2 : Fr W_X7_village M1 M2 := F2
  have hX2 : LX M2 := LX_fr hX1 F2 (by decide)
  have hM2 : LM M2 := gen_LM hM1 F2 I2 (by decide)
  have tM2 : 0 ≤ (M2.1 47 23).toInt ∧ (M2.1 47 23).toInt ≤ n + 1 := by rw [F2.at 47 23 (by decide)]; omega
  have g_47_52 : (M1.1 47 52).toInt = (M.1 23 2).toInt := by rw [F1.at 47 52 (by decide)]; exact hR.1.2.2.2.2.1.symm
  have E2o := E2
  simp only [g_47_52] at A2 E2
  have s0 : (M2.1 1 3).toInt = (M2.1 47 11).toInt := sc_keep hR.1.1 F1 F2 (by decide) (by decide) (by decide) (by decide)
  have s1 : (M2.1 1 12).toInt = (M2.1 47 12).toInt := sc_keep hR.1.2.1 F1 F2 (by decide) (by decide) (by decide) (by decide)
  have s2 : (M2.1 14 1).toInt = (M2.1 47 20).toInt := sc_keep hR.1.2.2.1 F1 F2 (by decide) (by decide) (by decide) (by decide)
  have s3 : (M2.1 14 12).toInt = (M2.1 47 24).toInt := sc_keep hR.1.2.2.2.1 F1 F2 (by decide) (by decide) (by decide) (by decide)
  have s4 : (M2.1 23 2).toInt = (M2.1 47 52).toInt := sc_keep hR.1.2.2.2.2.1 F1 F2 (by decide) (by decide) (by decide) (by decide)
  have s5 : (M2.1 23 7).toInt = (M2.1 47 53).toInt := sc_keep hR.1.2.2.2.2.2.1 F1 F2 (by decide) (by decide) (by decide) (by decide)
  have s6 : (M2.1 0 7).toInt = (M2.1 47 43).toInt := sc_keep hR.1.2.2.2.2.2.2 F1 F2 (by decide) (by decide) (by decide) (by decide)
  have t0 : ∀ j, j < 10 → M2.1 5 j = M2.1 51 j := row_keep hR.2.1 F1 F2 (by decide) (by decide) (by decide) (by decide)
  have t1 : ∀ j, j < 3 → M2.1 12 j = M2.1 58 j := row_keep hR.2.2.1 F1 F2 (by decide) (by decide) (by decide) (by decide)
  have t2 : ∀ j, j < 8 → M2.1 25 j = M2.1 80 j := row_eq hR.2.2.2 Iff.rfl E1 E2 F1 F2 (by decide) (by decide)
  have ans : a1 = a2 := ans3 A1 A2 (fun c => by have := (ig_23_2 hX.1); rw [F1.at 80 _ (noW_in (by decide) _), hR.2.2.2 _ (by omega)])
  have vv2 : VV M2 := VV_fr (VV_fr hV F1 (by decide)) F2 (by decide)
  have sn2 : SCN M2 := SCN_fr (SCN_fr hS F1 (by decide)) F2 (by decide)
  have rc2 : RC M2 := sc_keep hC F1 F2 (by decide) (by decide) (by decide) (by decide)
  have hl2 : (M.1 1 12).toInt ≤ (M2.1 1 12).toInt := by rw [F2.at 1 12 (by decide), F1.at 1 12 (by decide)]; exact Int.le_refl _
  have bk2 : BK M2 := BK_keep hB F1 F2 (by decide) (by decide) hl2
  have bs2 : BSL M2 := BSL_keep hBS F1 F2 (by decide) (by decide)
  have gt2 : GT M2 := GT_fr (GT_fr hGT F1 (by decide)) F2 (by decide)
  have so2 : SON M2 := SON_keep hSO F1 F2 (by decide) (by decide)
  show GL Γ M2 700 (LL b base y) [.int r2]
  refine l_pop X dL_law_700 rfl ?_
  refine l_goto X (tgt := 1445) dL_law_701 (by decide) ?_
  exact kk M2 ⟨⟨⟨⟨hX2, hM2, ⟨⟨s0, s1, s2, s3, s4, s5, s6⟩, t0, t1, t2⟩, tM2⟩, vv2⟩, sn2, rc2⟩, bk2, bs2, gt2, so2⟩
set_option maxHeartbeats 4000000 in
theorem cs_learn (X : gLX Γ base b N xs) {n i : Nat} {y : Int32} (hy : y.toInt = i) (hi : i + 6 ≤ N) (hN : N ≤ 3072) (hn : n ≤ 512) {M : Mem} (h : LF n M) (kk : ∀ M', LF (n + 1) M' → GL Γ M' 1445 (LL b base y) []) : GL Γ M 704 (LL b base y) [] := by
  obtain ⟨⟨⟨⟨hX, hM, hR, ht0, ht1⟩, hV⟩, hS, hC⟩, hB, hBS, hGT, hSO⟩ := h
  refine l_aload X 1 rfl dL_law_704 ?_
  refine l_arg X hy hi hN 1 ⟨by decide, by decide⟩ dL_law_705 dL_law_706 dL_law_707 dL_law_708 dL_law_709 ?_
  refine l_arg X hy hi hN 2 ⟨by decide, by decide⟩ dL_law_710 dL_law_711 dL_law_712 dL_law_713 dL_law_714 ?_
  refine l_arg X hy hi hN 3 ⟨by decide, by decide⟩ dL_law_715 dL_law_716 dL_law_717 dL_law_718 dL_law_719 ?_
  refine l_arg X hy hi hN 4 ⟨by decide, by decide⟩ dL_law_720 dL_law_721 dL_law_722 dL_law_723 dL_law_724 ?_
  refine l_callV X m_L_78 (c_X6_learn_E (fun k => base + k) M (xs (i + 1)) rfl (xs (i + 2)) rfl (xs (i + 3)) rfl (xs (i + 4)) rfl hX.1) rfl (by decide) (Nat.le_of_ble_eq_true rfl) (S := []) rfl dL_law_725 (fun v M1 q1 => ?_)
  obtain ⟨r1, a1, rfl, e1, A1, E1, I1, F1⟩ := q1
  have F1 : Fr W_X6_learn_E M M1 := F1
  have hX1 : LX M1 := gen_LX hX F1 I1 (by decide)
  have hM1 : LM M1 := LM_fr hM F1 (by decide)
  have tM1 : (M1.1 47 23).toInt = (M.1 47 23).toInt := by rw [F1.at 47 23 (by decide)]
  show GL Γ M1 728 (LL b base y) [.int r1]
  refine l_pop X dL_law_728 rfl ?_
  refine l_aload X 2 rfl dL_law_729 ?_
  refine l_arg X hy hi hN 1 ⟨by decide, by decide⟩ dL_law_730 dL_law_731 dL_law_732 dL_law_733 dL_law_734 ?_
  refine l_arg X hy hi hN 2 ⟨by decide, by decide⟩ dL_law_735 dL_law_736 dL_law_737 dL_law_738 dL_law_739 ?_
  refine l_arg X hy hi hN 3 ⟨by decide, by decide⟩ dL_law_740 dL_law_741 dL_law_742 dL_law_743 dL_law_744 ?_
  refine l_arg X hy hi hN 4 ⟨by decide, by decide⟩ dL_law_745 dL_law_746 dL_law_747 dL_law_748 dL_law_749 ?_
  refine l_callV X m_L_82 (c_X7_learn_E (fun k => base + k) M1 (xs (i + 1)) rfl (xs (i + 2)) rfl (xs (i + 3)) rfl (xs (i + 4)) rfl hM1.1) rfl (by decide) (Nat.le_of_ble_eq_true rfl) (S := []) rfl dL_law_750 (fun v M2 q2 => ?_)
  obtain ⟨r2, a2, rfl, e2, A2, E2, I2, F2⟩ := q2
  have F2 : Fr W_X7_learn_E M1 M2 := F2
  have hX2 : LX M2 := LX_fr hX1 F2 (by decide)
  have hM2 : LM M2 := gen_LM hM1 F2 I2 (by decide)
  have tM2 : 0 ≤ (M2.1 47 23).toInt ∧ (M2.1 47 23).toInt ≤ n + 1 := by rw [F2.at 47 23 (by decide)]; omega
  have g_47_52 : (M1.1 47 52).toInt = (M.1 23 2).toInt := by rw [F1.at 47 52 (by decide)]; exact hR.1.2.2.2.2.1.symm
  have g_47_12 : (M1.1 47 12).toInt = (M.1 1 12).toInt := by rw [F1.at 47 12 (by decide)]; exact hR.1.2.1.symm
  have g_47_53 : (M1.1 47 53).toInt = (M.1 23 7).toInt := by rw [F1.at 47 53 (by decide)]; exact hR.1.2.2.2.2.2.1.symm
  have E2o := E2
  simp only [g_47_52, g_47_12, g_47_53] at A2 E2
  have s0 : (M2.1 1 3).toInt = (M2.1 47 11).toInt := sc_keep hR.1.1 F1 F2 (by decide) (by decide) (by decide) (by decide)
  have s1 : (M2.1 1 12).toInt = (M2.1 47 12).toInt := sc_keep hR.1.2.1 F1 F2 (by decide) (by decide) (by decide) (by decide)
  have s2 : (M2.1 14 1).toInt = (M2.1 47 20).toInt := sc_keep hR.1.2.2.1 F1 F2 (by decide) (by decide) (by decide) (by decide)
  have s3 : (M2.1 14 12).toInt = (M2.1 47 24).toInt := sc_keep hR.1.2.2.2.1 F1 F2 (by decide) (by decide) (by decide) (by decide)
  have s4 : (M2.1 23 2).toInt = (M2.1 47 52).toInt := sc_keep hR.1.2.2.2.2.1 F1 F2 (by decide) (by decide) (by decide) (by decide)
  have s5 : (M2.1 23 7).toInt = (M2.1 47 53).toInt := by rw [F2.at 23 7 (by decide)]; exact ans2 E1.1 E2.1
  have s6 : (M2.1 0 7).toInt = (M2.1 47 43).toInt := sc_keep hR.1.2.2.2.2.2.2 F1 F2 (by decide) (by decide) (by decide) (by decide)
  have t0 : ∀ j, j < 10 → M2.1 5 j = M2.1 51 j := row_keep hR.2.1 F1 F2 (by decide) (by decide) (by decide) (by decide)
  have t1 : ∀ j, j < 3 → M2.1 12 j = M2.1 58 j := row_keep hR.2.2.1 F1 F2 (by decide) (by decide) (by decide) (by decide)
  have t2 : ∀ j, j < 8 → M2.1 25 j = M2.1 80 j := row_keep hR.2.2.2 F1 F2 (by decide) (by decide) (by decide) (by decide)
  have ans : a1 = a2 := ans4 A1 A2
  have vv2 : VV M2 := VV_fr (VV_fr hV F1 (by decide)) F2 (by decide)
  have sn2 : SCN M2 := SCN_fr (SCN_fr hS F1 (by decide)) F2 (by decide)
  have rc2 : RC M2 := sc_keep hC F1 F2 (by decide) (by decide) (by decide) (by decide)
  have zn := (ig_23_7 hX.1).1
  have bk2 : BK M2 := ⟨row_keep hB.1 F1 F2 (by decide) (by decide) (by decide) (by decide), row_eq hB.2.1 Iff.rfl E1.2.1 E2.2.1 F1 F2 (by decide) (by decide), row_eq hB.2.2.1 Iff.rfl E1.2.2.1 E2.2.2.1 F1 F2 (by decide) (by decide), row_eq hB.2.2.2.1 Iff.rfl E1.2.2.2.1 E2.2.2.2.1 F1 F2 (by decide) (by decide), row_eq hB.2.2.2.2.1 Iff.rfl E1.2.2.2.2 E2.2.2.2.2 F1 F2 (by decide) (by decide), fun k hk => by rw [F2.at 28 k (hi_in (by decide) (by decide) k)]; exact bk_hy hB.2.2.2.2.2.1 E1.2.2.2.1 (fun c => by omega) k hk, fun k hk => by rw [F2.at 23 7 (by decide)] at hk; rw [F2.at 27 k (hi_in (by decide) (by decide) k), F2.at 1 12 (by decide), F1.at 1 12 (by decide)]; exact bk_hw zn hB.2.2.2.2.2.2 E1.2.2.1 E1.1 (fun c => by omega) k hk⟩
  have bs2 : BSL M2 := BSL_keep hBS F1 F2 (by decide) (by decide)
  have gt2 : GT M2 := GT_fr (GT_fr hGT F1 (by decide)) F2 (by decide)
  have so2 : SON M2 := SON_keep hSO F1 F2 (by decide) (by decide)
  show GL Γ M2 753 (LL b base y) [.int r2]
  refine l_pop X dL_law_753 rfl ?_
  refine l_goto X (tgt := 1445) dL_law_754 (by decide) ?_
  exact kk M2 ⟨⟨⟨⟨hX2, hM2, ⟨⟨s0, s1, s2, s3, s4, s5, s6⟩, t0, t1, t2⟩, tM2⟩, vv2⟩, sn2, rc2⟩, bk2, bs2, gt2, so2⟩
set_option maxHeartbeats 4000000 in
theorem cs_forget (X : gLX Γ base b N xs) {n i : Nat} {y : Int32} (hy : y.toInt = i) (hi : i + 6 ≤ N) (hN : N ≤ 3072) (hn : n ≤ 512) {M : Mem} (h : LF n M) (kk : ∀ M', LF (n + 1) M' → GL Γ M' 1445 (LL b base y) []) : GL Γ M 757 (LL b base y) [] := by
  obtain ⟨⟨⟨⟨hX, hM, hR, ht0, ht1⟩, hV⟩, hS, hC⟩, hB, hBS, hGT, hSO⟩ := h
  refine l_aload X 1 rfl dL_law_757 ?_
  refine l_arg X hy hi hN 1 ⟨by decide, by decide⟩ dL_law_758 dL_law_759 dL_law_760 dL_law_761 dL_law_762 ?_
  refine l_arg X hy hi hN 2 ⟨by decide, by decide⟩ dL_law_763 dL_law_764 dL_law_765 dL_law_766 dL_law_767 ?_
  refine l_arg X hy hi hN 3 ⟨by decide, by decide⟩ dL_law_768 dL_law_769 dL_law_770 dL_law_771 dL_law_772 ?_
  refine l_callV X m_L_83 (c_X6_forget_E (fun k => base + k) M (xs (i + 1)) rfl (xs (i + 2)) rfl (xs (i + 3)) rfl hX.1) rfl (by decide) (Nat.le_of_ble_eq_true rfl) (S := []) rfl dL_law_773 (fun v M1 q1 => ?_)
  obtain ⟨r1, a1, rfl, e1, A1, E1, I1, F1⟩ := q1
  have F1 : Fr W_X6_forget_E M M1 := F1
  have hX1 : LX M1 := gen_LX hX F1 I1 (by decide)
  have hM1 : LM M1 := LM_fr hM F1 (by decide)
  have tM1 : (M1.1 47 23).toInt = (M.1 47 23).toInt := by rw [F1.at 47 23 (by decide)]
  show GL Γ M1 776 (LL b base y) [.int r1]
  refine l_pop X dL_law_776 rfl ?_
  refine l_aload X 2 rfl dL_law_777 ?_
  refine l_arg X hy hi hN 1 ⟨by decide, by decide⟩ dL_law_778 dL_law_779 dL_law_780 dL_law_781 dL_law_782 ?_
  refine l_arg X hy hi hN 2 ⟨by decide, by decide⟩ dL_law_783 dL_law_784 dL_law_785 dL_law_786 dL_law_787 ?_
  refine l_arg X hy hi hN 3 ⟨by decide, by decide⟩ dL_law_788 dL_law_789 dL_law_790 dL_law_791 dL_law_792 ?_
  refine l_callV X m_L_86 (c_X7_forget_E (fun k => base + k) M1 (xs (i + 1)) rfl (xs (i + 2)) rfl (xs (i + 3)) rfl hM1.1) rfl (by decide) (Nat.le_of_ble_eq_true rfl) (S := []) rfl dL_law_793 (fun v M2 q2 => ?_)
  obtain ⟨r2, a2, rfl, e2, A2, E2, I2, F2⟩ := q2
  have F2 : Fr W_X7_forget_E M1 M2 := F2
  have hX2 : LX M2 := LX_fr hX1 F2 (by decide)
  have hM2 : LM M2 := gen_LM hM1 F2 I2 (by decide)
  have tM2 : 0 ≤ (M2.1 47 23).toInt ∧ (M2.1 47 23).toInt ≤ n + 1 := by rw [F2.at 47 23 (by decide)]; omega
  have g_47_52 : (M1.1 47 52).toInt = (M.1 23 2).toInt := by rw [F1.at 47 52 (by decide)]; exact hR.1.2.2.2.2.1.symm
  have g_47_12 : (M1.1 47 12).toInt = (M.1 1 12).toInt := by rw [F1.at 47 12 (by decide)]; exact hR.1.2.1.symm
  have g_47_53 : (M1.1 47 53).toInt = (M.1 23 7).toInt := by rw [F1.at 47 53 (by decide)]; exact hR.1.2.2.2.2.2.1.symm
  have E2o := E2
  simp only [g_47_52, g_47_12, g_47_53] at A2 E2
  have s0 : (M2.1 1 3).toInt = (M2.1 47 11).toInt := sc_keep hR.1.1 F1 F2 (by decide) (by decide) (by decide) (by decide)
  have s1 : (M2.1 1 12).toInt = (M2.1 47 12).toInt := sc_keep hR.1.2.1 F1 F2 (by decide) (by decide) (by decide) (by decide)
  have s2 : (M2.1 14 1).toInt = (M2.1 47 20).toInt := sc_keep hR.1.2.2.1 F1 F2 (by decide) (by decide) (by decide) (by decide)
  have s3 : (M2.1 14 12).toInt = (M2.1 47 24).toInt := sc_keep hR.1.2.2.2.1 F1 F2 (by decide) (by decide) (by decide) (by decide)
  have s4 : (M2.1 23 2).toInt = (M2.1 47 52).toInt := sc_keep hR.1.2.2.2.2.1 F1 F2 (by decide) (by decide) (by decide) (by decide)
  have s5 : (M2.1 23 7).toInt = (M2.1 47 53).toInt := by rw [F2.at 23 7 (by decide)]; exact ans2 E1.1 E2.1
  have s6 : (M2.1 0 7).toInt = (M2.1 47 43).toInt := sc_keep hR.1.2.2.2.2.2.2 F1 F2 (by decide) (by decide) (by decide) (by decide)
  have t0 : ∀ j, j < 10 → M2.1 5 j = M2.1 51 j := row_keep hR.2.1 F1 F2 (by decide) (by decide) (by decide) (by decide)
  have t1 : ∀ j, j < 3 → M2.1 12 j = M2.1 58 j := row_keep hR.2.2.1 F1 F2 (by decide) (by decide) (by decide) (by decide)
  have t2 : ∀ j, j < 8 → M2.1 25 j = M2.1 80 j := row_keep hR.2.2.2 F1 F2 (by decide) (by decide) (by decide) (by decide)
  have ans : a1 = a2 := ans4 A1 A2
  have vv2 : VV M2 := VV_fr (VV_fr hV F1 (by decide)) F2 (by decide)
  have sn2 : SCN M2 := SCN_fr (SCN_fr hS F1 (by decide)) F2 (by decide)
  have rc2 : RC M2 := sc_keep hC F1 F2 (by decide) (by decide) (by decide) (by decide)
  have zn := (ig_23_7 hX.1).1
  have bk2 : BK M2 := ⟨row_keep hB.1 F1 F2 (by decide) (by decide) (by decide) (by decide), row_eq hB.2.1 Iff.rfl E1.2.1 E2.2.1 F1 F2 (by decide) (by decide), row_eq hB.2.2.1 Iff.rfl E1.2.2.1 E2.2.2.1 F1 F2 (by decide) (by decide), row_eq hB.2.2.2.1 Iff.rfl E1.2.2.2.1 E2.2.2.2.1 F1 F2 (by decide) (by decide), row_eq hB.2.2.2.2.1 Iff.rfl E1.2.2.2.2 E2.2.2.2.2 F1 F2 (by decide) (by decide), fun k hk => by rw [F2.at 28 k (hi_in (by decide) (by decide) k)]; exact bk_hy hB.2.2.2.2.2.1 E1.2.2.2.1 (fun c => by omega) k hk, fun k hk => by rw [F2.at 23 7 (by decide)] at hk; rw [F2.at 27 k (hi_in (by decide) (by decide) k), F2.at 1 12 (by decide), F1.at 1 12 (by decide)]; exact bk_hw zn hB.2.2.2.2.2.2 E1.2.2.1 E1.1 (fun c => by omega) k hk⟩
  have bs2 : BSL M2 := BSL_keep hBS F1 F2 (by decide) (by decide)
  have gt2 : GT M2 := GT_fr (GT_fr hGT F1 (by decide)) F2 (by decide)
  have so2 : SON M2 := SON_keep hSO F1 F2 (by decide) (by decide)
  show GL Γ M2 796 (LL b base y) [.int r2]
  refine l_pop X dL_law_796 rfl ?_
  refine l_goto X (tgt := 1445) dL_law_797 (by decide) ?_
  exact kk M2 ⟨⟨⟨⟨hX2, hM2, ⟨⟨s0, s1, s2, s3, s4, s5, s6⟩, t0, t1, t2⟩, tM2⟩, vv2⟩, sn2, rc2⟩, bk2, bs2, gt2, so2⟩
end
