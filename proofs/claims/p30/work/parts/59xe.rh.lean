section
/-! ===== tables in the reference's rows ===== -/
def MR (R : Nat → Int32) (o n : Nat) (A : Mat) : Prop := ∀ i j, i ≤ n → j ≤ n → (R (o + (25 * i + j))).toInt = ((cap (A i j) : Nat) : Int)
theorem MR_cong {R : Nat → Int32} {o n : Nat} {A B : Mat} (h : MR R o n A) (e : ∀ i j, i ≤ n → j ≤ n → cap (B i j) = cap (A i j)) : MR R o n B := fun i j h1 h2 => by rw [h i j h1 h2, e i j h1 h2]
theorem MR_row {R R' : Nat → Int32} {o o' n : Nat} {A : Mat} (hn : n < 25) (h : MR R o n A) (e : ∀ c, c < 625 → R' (o' + c) = R (o + c)) : MR R' o' n A := fun i j h1 h2 => by rw [e _ (by omega)]; exact h i j h1 h2
theorem MR_put {M : Mem} {r n c i j o : Nat} {x : Int32} {V V' : Mat} (hn : n < 25) (h : MR (M.1 r) o n V) (hc : c = o + (25 * i + j)) (hij : i ≤ n ∧ j ≤ n) (hx : x.toInt = ((cap (V' i j) : Nat) : Int)) (ho : ∀ i' j', i' ≤ n → j' ≤ n → ¬ (i' = i ∧ j' = j) → cap (V' i' j') = cap (V i' j')) : MR ((ui M r c x).1 r) o n V' := by
  intro i' j' h1 h2
  by_cases q : i' = i ∧ j' = j
  · obtain ⟨q1, q2⟩ := q
    subst q1; subst q2; subst hc
    rw [ui_eq]; exact hx
  · rw [ui_nj (by omega), h i' j' h1 h2, ho i' j' h1 h2 q]
/-- one on the diagonal, up to a place -/
theorem BG_end {R : Nat → Int32} {o n : Nat} {c : Int} (hn : n < 25) (h : ∀ d : Nat, (d : Int) < c → (R (o + d)).toInt = if d % 26 = 0 then 1 else 0) (hc : 625 ≤ c) : MR R o n mO := fun i j h1 h2 => by
  rw [h _ (by omega)]
  unfold mO
  by_cases q : i = j
  · subst q
    rw [if_pos (by omega), if_pos rfl]; rfl
  · rw [if_neg (by omega), if_neg q]; rfl
theorem BG_step {M : Mem} {r o ix : Nat} {c : Int} {x : Int32} (h : ∀ d : Nat, (d : Int) < c → (M.1 r (o + d)).toInt = if d % 26 = 0 then 1 else 0) (hc : 0 ≤ c) (hi : ix = o + c.toNat) (hx : x.toInt = if c.toNat % 26 = 0 then 1 else 0) : ∀ d : Nat, (d : Int) < c + 1 → ((ui M r ix x).1 r (o + d)).toInt = if d % 26 = 0 then 1 else 0 := by
  intro d hd
  by_cases q : d = c.toNat
  · rw [q, hi, ui_eq]; exact hx
  · rw [ui_nj (by omega)]; exact h d (by omega)
/-! ===== a table behind a table ===== -/
/-- rows before i, and of row i what is before j -/
def WKI (R : Nat → Int32) (n : Nat) (C : Mat) (i j : Int) : Prop := ∀ a b : Nat, a ≤ n → b ≤ n → ((a : Int) < i ∨ ((a : Int) = i ∧ (b : Int) < j)) → (R (25 * a + b)).toInt = ((cap (C a b) : Nat) : Int)
theorem WKI_0 {R : Nat → Int32} {n : Nat} {C : Mat} : WKI R n C 0 0 := fun a b _ _ h => absurd h (by omega)
theorem WKI_put {M : Mem} {n ix : Nat} {C : Mat} {i j : Int} {x : Int32} (hn : n < 25) (h : WKI (M.1 74) n C i j) (hij : 0 ≤ i ∧ 0 ≤ j ∧ j ≤ n) (hi : ix = 25 * i.toNat + j.toNat) (hx : x.toInt = ((cap (C i.toNat j.toNat) : Nat) : Int)) : WKI ((ui M 74 ix x).1 74) n C i (j + 1) := by
  intro a b h1 h2 h3
  by_cases q : a = i.toNat ∧ b = j.toNat
  · obtain ⟨q1, q2⟩ := q
    subst q1; subst q2; subst hi
    rw [ui_eq]; exact hx
  · rw [ui_nj (by omega)]
    exact h a b h1 h2 (by omega)
theorem WKI_row {R : Nat → Int32} {n : Nat} {C : Mat} {i j : Int} (h : WKI R n C i j) (hj : (n : Int) < j) : WKI R n C (i + 1) 0 := fun a b h1 h2 h3 => h a b h1 h2 (by omega)
theorem WKI_end {R R' : Nat → Int32} {n : Nat} {C : Mat} {i c : Int} (hn : n < 25) (h : WKI R n C i 0) (hi : (n : Int) < i) (e : ∀ d : Nat, (d : Int) < c → R' d = R d) (hc : 625 ≤ c) : MR R' 0 n C := fun a b h1 h2 => by
  rw [Nat.zero_add, e _ (by omega)]
  exact h a b h1 h2 (by omega)
theorem cp2_step {M : Mem} {r q : Nat} {i : Int} (hrq : r ≠ q) (h : ∀ j : Nat, (j : Int) < i → M.1 r j = M.1 q j) (hi : 0 ≤ i) : ∀ j : Nat, (j : Int) < i + 1 → (ui M r i.toNat (M.1 q i.toNat)).1 r j = (ui M r i.toNat (M.1 q i.toNat)).1 q j := by
  intro j hj
  rw [ui_nk hrq.symm]
  by_cases c : j = i.toNat
  · subst c; rw [ui_eq]
  · rw [ui_nj c]; exact h j (by omega)
/-- the sum so far -/
def smC (A B : Mat) (i j l : Nat) : Nat := sm (fun q => cap (A i q) * cap (B q j)) i l
theorem smC_le (A B : Mat) (i j : Nat) : ∀ l, smC A B i j l ≤ 1000000000000 * l
  | 0 => Nat.le_refl _
  | l + 1 => by
    have ih := smC_le A B i j l
    have z : cap (A i (i + l)) * cap (B (i + l) j) ≤ 1000000 * 1000000 := Nat.mul_le_mul (cap_le _) (cap_le _)
    show smC A B i j l + cap (A i (i + l)) * cap (B (i + l) j) ≤ _
    omega
theorem smC_cap {A B : Mat} {i j : Nat} : cap (smC A B i j (j + 1 - i)) = cap (mM A B i j) := sm_cap _ (fun k _ _ => cap_mul (cap_cap _) (cap_cap _))
theorem smC_s {A B : Mat} {i j l : Nat} {s u v z : Int} (hs : s = ((smC A B i j l : Nat) : Int)) (hu : u = ((cap (A i (i + l)) : Nat) : Int)) (hv : v = ((cap (B (i + l) j) : Nat) : Int)) (hz : z = s + u * v) : z = ((smC A B i j (l + 1) : Nat) : Int) := by
  rw [hz, hs, hu, hv]
  show _ = ((smC A B i j l + cap (A i (i + l)) * cap (B (i + l) j) : Nat) : Int)
  rw [Int.natCast_add, Int.natCast_mul]
/-! ===== a slot behind ===== -/
def mv5 (w : Nat → Nat) (A : Mat) (i m : Nat) : Mat := fun a b => if a < i then mS1 w A a b else if a = i ∧ m < b then mS1 w A a b else A a b
theorem mv5_0 {R : Nat → Int32} {n : Nat} {w : Nat → Nat} {A : Mat} (h : MR R 0 n A) : MR R 0 n (mv5 w A 0 n) := MR_cong h (fun i j h1 h2 => by unfold mv5; rw [if_neg (by omega), if_neg (by omega)])
theorem mv5_end {R : Nat → Int32} {n i m : Nat} {w : Nat → Nat} {A : Mat} (h : MR R 0 n (mv5 w A i m)) (hi : n < i) : MR R 0 n (mS1 w A) := MR_cong h (fun a b h1 h2 => by unfold mv5; rw [if_pos (by omega)])
theorem mS1_ut {w : Nat → Nat} {A : Mat} (hU : UTr A) {i j : Nat} (hj : 0 < j) : mS1 w A i j = A i (j - 1) * w (j - 1) := by
  unfold mS1
  by_cases q : i < j
  · rw [if_pos q]
  · rw [if_neg q, hU i (j - 1) (by omega), Nat.zero_mul]
theorem mv5_step {M : Mem} {n i j ix : Nat} {w : Nat → Nat} {A : Mat} {x : Int32} {z : Int} (hn : n < 25) (hU : UTr A) (h : MR (M.1 76) 0 n (mv5 w A i j)) (hij : i ≤ n ∧ 0 < j ∧ j ≤ n) (hi : ix = 25 * i + j) (hz : z = (M.1 76 (25 * i + (j - 1))).toInt * ((w (j - 1) : Nat) : Int)) (hx : x.toInt = if 1000000 < z then 1000000 else z) : MR ((ui M 76 ix x).1 76) 0 n (mv5 w A i (j - 1)) := by
  refine MR_put hn h (by omega) ⟨hij.1, hij.2.2⟩ ?_ (fun a b h1 h2 q => ?_)
  · have u := h i (j - 1) hij.1 (by omega)
    rw [Nat.zero_add] at u
    have e : mv5 w A i j i (j - 1) = A i (j - 1) := by unfold mv5; rw [if_neg (by omega), if_neg (by omega)]
    have e2 : mv5 w A i (j - 1) i j = A i (j - 1) * w (j - 1) := by unfold mv5; rw [if_neg (by omega), if_pos ⟨rfl, by omega⟩, mS1_ut hU hij.2.1]
    rw [e] at u
    rw [u] at hz
    rw [e2, ← cap_mul1]
    have e3 : z = ((cap (A i (j - 1)) * w (j - 1) : Nat) : Int) := by rw [hz, Int.natCast_mul]
    generalize cap (A i (j - 1)) * w (j - 1) = y at e3 ⊢
    unfold cap
    rw [hx, e3]
    split <;> split <;> omega
  · unfold mv5
    by_cases c : a < i
    · rw [if_pos c, if_pos c]
    · rw [if_neg c, if_neg c]
      by_cases c2 : a = i ∧ j < b
      · rw [if_pos c2, if_pos ⟨c2.1, by omega⟩]
      · rw [if_neg c2, if_neg (fun y => c2 ⟨y.1, by omega⟩)]
theorem mv5_row {M : Mem} {n i ix : Nat} {w : Nat → Nat} {A : Mat} {x : Int32} (hn : n < 25) (h : MR (M.1 76) 0 n (mv5 w A i 0)) (hin : i ≤ n) (hi : ix = 25 * i) (hx : x.toInt = 0) : MR ((ui M 76 ix x).1 76) 0 n (mv5 w A (i + 1) n) := by
  refine MR_put (j := 0) hn h (by omega) ⟨hin, Nat.zero_le _⟩ ?_ (fun a b h1 h2 q => ?_)
  · have e : mv5 w A (i + 1) n i 0 = 0 := by unfold mv5; rw [if_pos (by omega)]; unfold mS1; rw [if_neg (by omega)]
    rw [e, hx]; rfl
  · unfold mv5
    by_cases c : a < i
    · rw [if_pos c, if_pos (by omega)]
    · by_cases c2 : a = i
      · rw [if_pos (by omega), if_neg c, if_pos ⟨c2, by omega⟩]
      · rw [if_neg (by omega), if_neg (by omega), if_neg c, if_neg (by omega)]
/-! ===== sums ===== -/
def capI (x : Int) : Int := if 1000000 < x then 1000000 else x
/-- part's block at o with cur added, up to c -/
def PAI (P U R : Nat → Int32) (o : Nat) (c : Int) : Prop := (∀ d : Nat, (d : Int) < c → 0 ≤ (P (o + d)).toInt → 0 ≤ (U d).toInt → (R (o + d)).toInt = capI ((P (o + d)).toInt + (U d).toInt)) ∧ (∀ d : Nat, c ≤ (d : Int) → R (o + d) = P (o + d)) ∧ ∀ d : Nat, d < o → R d = P d
theorem PAI_0 {P U : Nat → Int32} {o : Nat} : PAI P U P o 0 := ⟨fun d hd => absurd hd (by omega), fun _ _ => rfl, fun _ _ => rfl⟩
theorem PAI_step {P U : Nat → Int32} {M : Mem} {o ix : Nat} {c a b z : Int} {x : Int32} (h : PAI P U (M.1 73) o c) (hc : 0 ≤ c) (hi : ix = o + c.toNat) (ha : a = (M.1 73 ix).toInt) (hb : b = (U c.toNat).toInt) (hz : z = a + b) (hx : 0 ≤ z → x.toInt = capI z) : PAI P U ((ui M 73 ix x).1 73) o (c + 1) := by
  refine ⟨fun d hd p0 u0 => ?_, fun d hd => by rw [ui_nj (by omega)]; exact h.2.1 d (by omega), fun d hd => by rw [ui_nj (by omega)]; exact h.2.2 d hd⟩
  by_cases q : d = c.toNat
  · subst q
    subst hi
    rw [ui_eq]
    have e := h.2.1 c.toNat (by omega)
    rw [ha, hb, e] at hz
    rw [hx (by omega), hz]
  · rw [ui_nj (by omega)]; exact h.1 d (by omega) p0 u0
theorem PAI_end {P U R : Nat → Int32} {o n : Nat} {c : Int} {A B : Mat} (hn : n < 25) (h : PAI P U R o c) (hc : 625 ≤ c) (hA : MR P o n A) (hB : MR U 0 n B) : MR R o n (mA A B) := fun i j h1 h2 => by
  have a := hA i j h1 h2
  have b := hB i j h1 h2
  rw [Nat.zero_add] at b
  rw [h.1 (25 * i + j) (by omega) (by omega) (by omega), a, b]
  have e : cap (mA A B i j) = cap (cap (A i j) + cap (B i j)) := cap_add (cap_cap _).symm (cap_cap _).symm
  rw [e]
  generalize cap (A i j) = u
  generalize cap (B i j) = v
  unfold capI cap
  split <;> split <;> omega
def OUP (P R : Nat → Int32) (o : Nat) : Prop := ∀ c, (c < o ∨ o + 625 ≤ c) → R c = P c
theorem PAI_out {P U R : Nat → Int32} {o : Nat} {c : Int} (h : PAI P U R o c) (hc : c ≤ 625) : OUP P R o := fun d hd => by
  rcases hd with z | z
  · exact h.2.2 d z
  · have e := h.2.1 (d - o) (by omega)
    rw [show o + (d - o) = d by omega] at e
    exact e
theorem OUP_tr {P Q R : Nat → Int32} {o : Nat} (h : OUP P Q o) (h' : OUP Q R o) : OUP P R o := fun c hc => (h' c hc).trans (h c hc)
theorem OUP_ui {P : Nat → Int32} {M : Mem} {r o ix : Nat} {x : Int32} (h : OUP P (M.1 r) o) (hi : o ≤ ix ∧ ix < o + 625) : OUP P ((ui M r ix x).1 r) o := fun c hc => by rw [ui_nj (by omega)]; exact h c hc
theorem MR_OUP {P R : Nat → Int32} {o u n : Nat} {A : Mat} (hn : n < 25) (h : MR P u n A) (o' : OUP P R o) (hu : u + 625 ≤ o ∨ o + 625 ≤ u) : MR R u n A := fun i j h1 h2 => by rw [o' _ (by omega)]; exact h i j h1 h2
/-! ===== the reference's pile ===== -/
def RMS (Ro Rp : Nat → Int32) (n : Nat) : List Int → List Mat → Prop
  | [], S => S = []
  | c :: t, S => if c = 124 then ∃ A' B S', S = A' :: B :: S' ∧ MR Rp (625 * t.length) n A' ∧ MR Ro (625 * t.length) n B ∧ RMS Ro Rp n t S' else ∃ B S', S = B :: S' ∧ MR Ro (625 * t.length) n B ∧ RMS Ro Rp n t S'
theorem RMS_fr {Ro Rp Ro' Rp' : Nat → Int32} {n : Nat} (hn : n < 25) : ∀ {t : List Int} {S : List Mat} {o : Nat}, 625 * t.length ≤ o → (∀ c, c < o → Ro' c = Ro c) → (∀ c, c < o → Rp' c = Rp c) → RMS Ro Rp n t S → RMS Ro' Rp' n t S
  | [], S, o, _, _, _, h => h
  | c :: t, S, o, ho, e1, e2, h => by
    rw [List.length_cons] at ho
    unfold RMS at h ⊢
    by_cases q : c = 124
    · rw [if_pos q] at h ⊢
      obtain ⟨A', B, S', h1, h2, h3, h4⟩ := h
      exact ⟨A', B, S', h1, fun i j u v => by rw [e2 _ (by omega)]; exact h2 i j u v, fun i j u v => by rw [e1 _ (by omega)]; exact h3 i j u v, RMS_fr hn (by omega) e1 e2 h4⟩
    · rw [if_neg q] at h ⊢
      obtain ⟨B, S', h1, h3, h4⟩ := h
      exact ⟨B, S', h1, fun i j u v => by rw [e1 _ (by omega)]; exact h3 i j u v, RMS_fr hn (by omega) e1 e2 h4⟩
theorem len_lvl : ∀ s : List Int, s.length ≤ lvl s
  | [] => Nat.le_refl _
  | c :: s => by
    have ih := len_lvl s
    show s.length + 1 ≤ (if c = 124 then 2 else 1) + lvl s
    split <;> omega
/-- where the reference stands in a text: what stands open, what it has -/
def RFT (M : Mem) (n : Nat) (p : RpT) (f : Nat → Int) (k deep : Int) : Prop := ∃ (s : List Int) (e : Bool) (A : Mat) (S : List Mat), gsN f k.toNat = some (s, e) ∧ deep = (s.length : Int) ∧ mcN p f k.toNat = A :: S ∧ MR (M.1 76) 0 n A ∧ RMS (M.1 72) (M.1 73) n s S
end
section
def wtR (M : Mem) (l s : Int) : Nat := if l = 40 then ctb (BM M s) ((M.1 47 12).toInt).toNat else if BM M s l.toNat = true then 1 else 0
theorem wtR_40 {M : Mem} {l s : Int} (h : l = 40) : ((wtR M l s : Nat) : Int) = cntL M s ((M.1 47 12).toInt).toNat := by unfold wtR; rw [if_pos h, cntL_ctb]
theorem wtR_y {M : Mem} {l s : Int} (h : l ≠ 40) (h1 : (M.1 85 l.toNat).toInt ≠ 0) (h2 : (M.1 55 l.toNat).toInt = s) : wtR M l s = 1 := by unfold wtR; rw [if_neg h, if_pos (BM_y h1 h2)]
theorem wtR_n {M : Mem} {l s : Int} (h : l ≠ 40) (h1 : (M.1 85 l.toNat).toInt = 0 ∨ (M.1 55 l.toNat).toInt ≠ s) : wtR M l s = 0 := by
  unfold wtR
  rw [if_neg h, if_neg]
  unfold BM
  rw [Bool.and_eq_true, decide_eq_true_eq, decide_eq_true_eq]
  rintro ⟨a, b⟩
  rcases h1 with z | z
  · exact a z
  · exact z b
theorem wtR_fr {W : List (Nat × Nat)} {M M' : Mem} (F : Fr W M M') (hw : (noW W 85 && (noW W 55 && !inW W 47 12)) = true) : wtR M' = wtR M := by
  simp only [Bool.and_eq_true, Bool.not_eq_true'] at hw
  unfold wtR BM
  rw [row_fr F hw.1, row_fr F hw.2.1, F.at 47 12 hw.2.2]
theorem MR_rng {R : Nat → Int32} {o n i j : Nat} {A : Mat} (h : MR R o n A) (hij : i ≤ n ∧ j ≤ n) : 0 ≤ (R (o + (25 * i + j))).toInt ∧ (R (o + (25 * i + j))).toInt ≤ 1000000 := by
  rw [h i j hij.1 hij.2]
  have z := cap_le (A i j)
  omega
theorem cpo_step {M : Mem} {P : Nat → Int32} {r o ix : Nat} {i : Int} {x : Int32} (h : ∀ j : Nat, (j : Int) < i → M.1 r (o + j) = P j) (hi : 0 ≤ i) (hx : ix = o + i.toNat) (hv : x = P i.toNat) : ∀ j : Nat, (j : Int) < i + 1 → (ui M r ix x).1 r (o + j) = P j := by
  intro j hj
  by_cases c : j = i.toNat
  · subst c; rw [hx, ui_eq, hv]
  · rw [ui_nj (by omega)]; exact h j (by omega)
theorem MR_cp {P R : Nat → Int32} {o n : Nat} {A : Mat} {c : Int} (hn : n < 25) (h : ∀ j : Nat, (j : Int) < c → R (o + j) = P j) (hc : 625 ≤ c) (hA : ∀ i j, i ≤ n → j ≤ n → (P (25 * i + j)).toInt = ((cap (A i j) : Nat) : Int)) : MR R o n A := fun i j h1 h2 => by
  rw [h _ (by omega)]
  exact hA i j h1 h2
theorem MR_z {R : Nat → Int32} {n : Nat} {A : Mat} (h : MR R 0 n A) : ∀ i j, i ≤ n → j ≤ n → (R (25 * i + j)).toInt = ((cap (A i j) : Nat) : Int) := fun i j h1 h2 => by
  have z := h i j h1 h2
  rw [Nat.zero_add] at z
  exact z
end
