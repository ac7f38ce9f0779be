section
/-! ===== what the class's small methods do ===== -/
theorem ui_row {M M' : Mem} {k j : Nat} {x : Int32} (h : M'.1 k = M.1 k) : (ui M' k j x).1 k = (ui M k j x).1 k := by
  funext b
  by_cases q : b = j
  · subst q; rw [ui_eq, ui_eq]
  · rw [ui_nj q, ui_nj q, h]
theorem pick_y {B : Nat → Bool} {a l v : Int} (h : v = a - ((ctb B l.toNat : Nat) : Int)) (hl : 0 ≤ l) (hb : B l.toNat = true) : v - 1 = a - ((ctb B (l + 1).toNat : Nat) : Int) := by
  rw [show (l + 1).toNat = l.toNat + 1 by omega, ctb_succ, if_pos hb]
  omega
theorem pick_n {B : Nat → Bool} {a l v : Int} (h : v = a - ((ctb B l.toNat : Nat) : Int)) (hl : 0 ≤ l) (hb : ¬ (B l.toNat = true)) : v = a - ((ctb B (l + 1).toNat : Nat) : Int) := by
  rw [show (l + 1).toNat = l.toNat + 1 by omega, ctb_succ, if_neg hb]
  omega
theorem ctb_4064 {B : Nat → Bool} (hz : ∀ l, 40 ≤ l → l < 64 → B l = false) : ctb B 64 = ctb B 40 := ctb_out (m := 40) 24 (fun k h1 h2 => hz k h1 (by omega))
theorem pick_pre {z Z : Int64} {a b : Int} (e : z = Z) (hz : ∀ l, 40 ≤ l → l < 64 → b64 Z l = false) (hb : b = ((ctb (b64 Z) 64 : Nat) : Int)) (ha : 0 ≤ a ∧ a < b) : 0 ≤ a ∧ a < ((ctb (b64 z) 40 : Nat) : Int) := by
  subst e
  rw [ctb_4064 hz] at hb
  omega
def SLX (M M' : Mem) (s a : Int) : Prop := (a = 0 ∧ (((ctb (b64 (M.2 33 11 &&& M.2 11 s.toNat)) 64 : Nat) : Int) = 0 ∨ 40 ≤ (M.1 33 5).toInt)) ∨ (a = 1 ∧ ¬ (((ctb (b64 (M.2 33 11 &&& M.2 11 s.toNat)) 64 : Nat) : Int) = 0 ∨ 40 ≤ (M.1 33 5).toInt) ∧ (M'.1 33 5).toInt = (M.1 33 5).toInt + 1 ∧ (M'.1 33 9).toInt = (M.1 33 9).toInt + 1 ∧ (M'.2 33 12).toInt = (M.2 33 12).toInt / ((ctb (b64 (M.2 33 11 &&& M.2 11 s.toNat)) 64 : Nat) : Int) ∧ ∃ v : Int32, M'.1 35 = (ui M 35 ((M.1 33 5).toInt).toNat v).1 35 ∧ v.toInt = nthN (b64 (M.2 33 11 &&& M.2 11 s.toNat)) ((M.2 33 12).toInt % ((ctb (b64 (M.2 33 11 &&& M.2 11 s.toNat)) 64 : Nat) : Int)) 40)
def AWX (M M' : Mem) (x : Int32) : Prop := (M'.1 33 7).toInt = (M.1 33 7).toInt + 1 ∧ M'.1 36 = (ui M 36 ((M.1 33 7).toInt).toNat x).1 36
def GBX (M M' : Mem) : Prop := (M'.1 33 7).toInt = (M.1 33 7).toInt - 1 ∧ (M'.1 33 8).toInt = (M.1 36 ((M.1 33 7).toInt - 1).toNat).toInt / 60 ∧ (M'.1 33 9).toInt = (M.1 36 ((M.1 33 7).toInt - 1).toNat).toInt % 60 + 1
def AGX (M M' : Mem) : Prop := (0 < (M.1 36 ((M.1 33 7).toInt - 1).toNat).toInt ∧ (M'.1 33 7).toInt = (M.1 33 7).toInt ∧ (M'.1 36 ((M.1 33 7).toInt - 1).toNat).toInt = (M.1 36 ((M.1 33 7).toInt - 1).toNat).toInt - 1 ∧ (∀ i, i ≠ ((M.1 33 7).toInt - 1).toNat → M'.1 36 i = M.1 36 i) ∧ (M'.1 33 9).toInt = (M.1 19 ((M.1 33 8).toInt * 60 + (M.1 33 9).toInt).toNat).toInt + 1) ∨ ((M.1 36 ((M.1 33 7).toInt - 1).toNat).toInt ≤ 0 ∧ (M'.1 33 7).toInt = (M.1 33 7).toInt - 1 ∧ M'.1 36 = M.1 36 ∧ (M'.1 33 9).toInt = (M.1 33 9).toInt + 1)
section
variable {M M' M1 M2 : Mem} {p : PaT} {td : Nat → Int} {x : Nat} {k k' n n' g g' b : Int} {L : List (Int × Int)} {R : List FrT} {o : List Int}
theorem SG_ch (hT : TVp p td) (hI : SgI p td ((x, k, L) :: R, n, g, o)) (hk : k < p.2.1 x) (hb : p.1 x k.toNat = b) (hc : b ≠ 93 ∧ b ≠ 41 ∧ b ≠ 124 ∧ b ≠ 125) : (97 ≤ b ∧ b ≤ 104) ∨ (65 ≤ b ∧ b ≤ 72) ∨ b = 91 ∨ b = 40 ∨ b = 123 := by
  obtain ⟨hx, ht, hk', hF, -⟩ := SG_fr hI
  obtain ⟨hz, hV, -⟩ := hT x hx ht
  obtain ⟨s1, e1, s2, e2, g1, g2, hch⟩ := TV_ch hV (show k.toNat < (p.2.1 x).toNat by omega)
  rw [hb] at hch
  rcases hch with ⟨w, _⟩ | ⟨w, _⟩ | ⟨w0, q, w1, w2⟩
  · omega
  · omega
  · rcases w2 with ⟨w3, _⟩ | ⟨w3, w4, w5⟩
    · omega
    · unfold prC at w3; omega
theorem RX_ui9 {v : Int32} (h : RX M x k L R n g o) (hv : v.toInt = k' + 2) : RX (ui M 33 9 v) x k' L R n g o := RX_at h (ui_nj (by decide)) (by rw [ui_eq]; exact hv) (ui_nj (by decide)) (ui_cell (by decide)) h.2.2.2.2.1 (by rw [ui_nj (by decide)]; exact h.2.2.2.2.2.1) (ui_nj (by decide)) (ui_cell (by decide))
theorem RX_ui10 {v : Int32} (h : RX M x k L R n g o) (hv : v.toInt = g') : RX (ui M 33 10 v) x k L R n g' o := RX_at h (ui_nj (by decide)) (by rw [ui_nj (by decide)]; exact h.2.1) (ui_nj (by decide)) (ui_cell (by decide)) h.2.2.2.2.1 (by rw [ui_eq]; exact hv) (ui_nj (by decide)) (ui_cell (by decide))
theorem PX_ui {S : Int64} {j : Nat} {v : Int32} (h : PX M p S td) : PX (ui M 33 j v) p S td := by
  unfold PX
  rw [ui_cell (k := 33) (a := 18) (by decide), ui_cell (k := 33) (a := 19) (by decide), ui_cell (k := 33) (a := 20) (by decide), ui_cell (k := 33) (a := 14) (by decide)]
  exact h
theorem RX_ch {v : Int32} (h : RX M x k L R n g o) (F : Fr [(33, 12)] M M1) (hv : v.toInt = k' + 2) (h12 : (M1.2 33 12).toInt = n') (hg : g = g') : RX (ui M1 33 9 v) x k' L R n' g' o := by
  have h1 : RX M1 x k L R n' g o := RX_at h (F.at 33 8 rfl) (by rw [F.at 33 9 rfl]; exact h.2.1) (F.at 33 7 rfl) (row_fr F (by decide)) h12 (by rw [F.at 33 10 rfl]; exact h.2.2.2.2.2.1) (F.at 33 5 rfl) (row_fr F (by decide))
  rw [← hg]
  exact RX_ui9 h1 hv
theorem RX_aw {w : Int32} {l s : Int} (h : RX M x k L R n g o) (A : AWX M M' w) (F : Fr [(33, 7), (36, 99)] M M') (hw : w.toInt = l - 1) : RX M' x k ((l, s) :: L) R n g o := RX_loop h (F.at 33 8 rfl) (by rw [F.at 33 9 rfl]; exact h.2.1) A.1 A.2 hw (by rw [F.atL 33 12 rfl]; exact h.2.2.2.2.1) (by rw [F.at 33 10 rfl]; exact h.2.2.2.2.2.1) (F.at 33 5 rfl) (row_fr F (by decide))
theorem RX_sc {w : Int32} {y : Nat} (h : RX M x k L R n g o) (A : AWX M M1 w) (F : Fr [(33, 7), (36, 99)] M M1) (hw : w.toInt = 60 * (x : Int) + k + 2) (E : (M2.1 33 8).toInt = y ∧ (M2.1 33 9).toInt = 2) (F2 : Fr [(33, 8), (33, 9)] M1 M2) (hg : g = g') : RX M2 y 0 [] ((x, k + 1, L) :: R) n g' o := by
  rw [← hg]
  exact RX_call h E.1 E.2 (by rw [F2.at 33 7 rfl]; exact A.1) (by rw [row_fr F2 (by decide)]; exact A.2) hw (by rw [F2.atL 33 12 rfl, F.atL 33 12 rfl]; exact h.2.2.2.2.1) (by rw [F2.at 33 10 rfl, F.at 33 10 rfl]; exact h.2.2.2.2.2.1) (by rw [F2.at 33 5 rfl, F.at 33 5 rfl]) (by rw [row_fr F2 (by decide), row_fr F (by decide)])
theorem IT_slot {a : Int} (hX : PX M p (M.2 33 11) td) (h : RX M x k L R n g o) (hb : 97 ≤ b ∧ b ≤ 104) (A : SLX M M' (b - 97) a) (F : Fr [(33, 5), (33, 9), (33, 12), (35, 99)] M M') : OKX M' (sgI p b x k L R n (g - 1) o) a := by
  obtain ⟨z1, z2, z3⟩ := hX.2.2 (b - 97).toNat (by omega)
  rw [show (((b - 97).toNat : Nat) : Int) = b - 97 by omega] at z1 z3
  obtain ⟨a1, a2, a3, a4, a5, a6, a7, a8⟩ := id h
  rw [sgI_slot hb]
  unfold SLX at A
  rw [← z1, a7, a5] at A
  rcases A with ⟨q1, q2⟩ | ⟨q1, q2, q3, q4, q5, v, q6, q7⟩
  · rw [if_pos q2]
    exact Or.inr ⟨q1, rfl⟩
  · rw [if_neg q2]
    rw [← z3] at q7
    refine OKX_y q1 rfl (RX_line h (F.at 33 8 rfl) (by rw [q4, a2]; omega) (F.at 33 7 rfl) (row_fr F (by decide)) q5 (by rw [F.at 33 10 rfl, a6]; omega) (by rw [q3, a7]) (by rw [a7]; exact q6) q7)
theorem AG_ok (hT : TVp p td) (hX : PX M p (M.2 33 11) td) (hI : SgI p td ((x, k, L) :: R, n, g, o)) (h : RX M x k L R n g o) (hk : k < p.2.1 x) (hb : p.1 x k.toNat = 125) (A : AGX M M') (F : Fr [(33, 7), (33, 9), (36, 99)] M M') : OKX M' (sgB x k L R n g o) 1 := by
  obtain ⟨q, l, L', eL, hl, hq⟩ := SG_br hT hI hk hb
  subst eL
  obtain ⟨fx, ft, fk, -⟩ := SG_fr hI
  obtain ⟨-, -, -, m125⟩ := PX_mate hX fx ft ⟨fk.1, hk⟩
  obtain ⟨r, r1, r2⟩ := m125 hb
  have er : r = q := Option.some.inj (r2.symm.trans hq)
  obtain ⟨t1, t2, t3⟩ := RX_top h
  obtain ⟨a1, a2, a3, a4, a5, a6, a7, a8⟩ := id h
  unfold AGX at A
  rw [t2, a1, a2, r1] at A
  rcases A with ⟨q1, q2, q3, q4, q5⟩ | ⟨q1, q2, q3, q4⟩
  · have e : sgB x k ((l, ((q + 1 : Nat) : Int)) :: L') R n g o = some ((x, ((q + 1 : Nat) : Int), (l - 1, ((q + 1 : Nat) : Int)) :: L') :: R, n, g, o) := if_pos (show 1 < l by omega)
    rw [e]
    exact OKX_y rfl rfl (RX_dec h (F.at 33 8 rfl) (by rw [q5, er]; omega) q2 q3 q4 (by rw [F.atL 33 12 rfl]; exact a5) (by rw [F.at 33 10 rfl]; exact a6) (F.at 33 5 rfl) (row_fr F (by decide)))
  · have e : sgB x k ((l, ((q + 1 : Nat) : Int)) :: L') R n g o = some ((x, k + 1, L') :: R, n, g, o) := if_neg (show ¬ 1 < l by omega)
    rw [e]
    exact OKX_y rfl rfl (RX_out h (F.at 33 8 rfl) (by rw [q4]; omega) q2 q3 (by rw [F.atL 33 12 rfl]; exact a5) (by rw [F.at 33 10 rfl]; exact a6) (F.at 33 5 rfl) (row_fr F (by decide)))
theorem AG_w (hT : TVp p td) (hI : SgI p td ((x, k, L) :: R, n, g, o)) (h : RX M x k L R n g o) (hk : k < p.2.1 x) (hb : p.1 x k.toNat = 125) : 1 ≤ (M.1 33 7).toInt := by
  obtain ⟨q, l, L', eL, -, -⟩ := SG_br hT hI hk hb
  subst eL
  exact (RX_top h).1
theorem OKX_to {r : Option SgT} {a c : Int} (h : OKX M' r a) (e : (a ≠ 0 ∧ c = 1) ∨ (a = 0 ∧ c = 0)) : OKX M' r c := by
  rcases h with ⟨q1, q2⟩ | ⟨q1, q2⟩
  · exact Or.inl ⟨by omega, q2⟩
  · exact Or.inr ⟨by omega, q2⟩
/-- one round of the class's loop -/
def SGC (p : PaT) (td : Nat → Int) (s0 : SgT) (M : Mem) (st : Int) : Prop := ∃ (x : Nat) (k : Int) (L : List (Int × Int)) (R : List FrT) (n g : Int) (o : List Int), sgN p s0 st.toNat = some ((x, k, L) :: R, n, g, o) ∧ SgI p td ((x, k, L) :: R, n, g, o) ∧ RX M x k L R n g o ∧ pot p ((x, k, L) :: R) g + st ≤ 6010
theorem pot_0 {F : List FrT} (hg : g ≤ 2000) : 0 ≤ pot p F g := by
  have z := pOp_rng p F
  have y := eI_rng p F
  unfold pot
  omega
theorem SGC_0 {y : Nat} (hy : y < 8) (ht : 0 < td y) (hT : TVp p td) (hn : 0 ≤ n) (h8 : (M.1 33 8).toInt = y) (h9 : (M.1 33 9).toInt = 2) (h7 : (M.1 33 7).toInt = 0) (h12 : (M.2 33 12).toInt = n) (h10 : (M.1 33 10).toInt = 0) (h5 : (M.1 33 5).toInt = 0) : SGC p td ([(y, 0, [])], n, 0, []) M 0 := by
  obtain ⟨hz, hV, -⟩ := hT y hy ht
  refine ⟨y, 0, [], [], n, 0, [], rfl, ⟨⟨⟨hy, ht, Int.le_refl _, hz.1, rfl⟩, fun b hb => (nomatch hb), trivial⟩, hn, ⟨Int.le_refl _, show (0 : Int) ≤ 2000 by decide⟩⟩, ⟨h8, by omega, by omega, by rw [h7]; rfl, h12, h10, by rw [h5]; rfl, rfl⟩, ?_⟩
  have e := (eI_rng p ((y, 0, []) :: [])).2
  show 3 * (2001 - 0) + (1 + ((0 : Nat) : Int) + 0) + eI p ((y, 0, []) :: []) + 0 ≤ 6010
  omega
theorem SGC_step {s0 : SgT} {st : Int} {a : Int} (hT : TVp p td) (hh : 0 ≤ p.2.2.2.1 ∧ p.2.2.2.1 ≤ 3) (hc : ∀ s, 0 ≤ p.2.2.2.2.1 s) (h0 : 0 ≤ st) (hN : sgN p s0 st.toNat = some ((x, k, L) :: R, n, g, o)) (hI : SgI p td ((x, k, L) :: R, n, g, o)) (hp : pot p ((x, k, L) :: R) g + st ≤ 6010) (hO : OKX M' (sgS p ((x, k, L) :: R, n, g, o)) a) (ha : a ≠ 0) : SGC p td s0 M' (st + 1) := by
  rcases hO with ⟨_, x', k', L', R', n', g', o', q1, q2⟩ | ⟨q1, _⟩
  · have z := sg_step hT hh hc hI q1
    have zp : pot p ((x', k', L') :: R') g' < pot p ((x, k, L) :: R) g := z.2
    exact ⟨x', k', L', R', n', g', o', by rw [show (st + 1).toNat = st.toNat + 1 by omega, sgN_succ hN]; exact q1, z.1, q2, by omega⟩
  · exact absurd q1 ha
theorem SGC_fail {s0 : SgT} {st : Int} (h0 : 0 ≤ st) (hN : sgN p s0 st.toNat = some ((x, k, L) :: R, n, g, o)) (hO : OKX M' (sgS p ((x, k, L) :: R, n, g, o)) 0) : Fail p s0 := by
  rcases hO with ⟨q1, _⟩ | ⟨_, q2⟩
  · omega
  · exact ⟨st.toNat + 1, by rw [sgN_succ hN]; exact q2⟩
theorem SGC_back {s0 : SgT} {st : Int} (hT : TVp p td) (hh : 0 ≤ p.2.2.2.1 ∧ p.2.2.2.1 ≤ 3) (hc : ∀ s, 0 ≤ p.2.2.2.2.1 s) (h0 : 0 ≤ st) (hN : sgN p s0 st.toNat = some ((x, k, L) :: R, n, g, o)) (hI : SgI p td ((x, k, L) :: R, n, g, o)) (h : RX M x k L R n g o) (hp : pot p ((x, k, L) :: R) g + st ≤ 6010) (hk : k = p.2.1 x) (hw : (M.1 33 7).toInt ≠ 0) (G : GBX M M') (F : Fr [(33, 7), (33, 8), (33, 9)] M M') : SGC p td s0 M' (st + 1) := by
  have eL := SG_end hT hI hk
  subst eL
  cases R with
  | nil => exact absurd (RX_last h) hw
  | cons f R =>
    obtain ⟨y, j, L'⟩ := f
    have hF := hI.1.2.2.1
    have hy : y < 8 := hF.1
    have ht : 0 < td y := hF.2.1
    have hj0 : 0 ≤ j := hF.2.2.1
    have hj1 : j ≤ p.2.1 y := hF.2.2.2.1
    have hz := (hT y hy ht).1
    refine SGC_step (a := 1) hT hh hc h0 hN hI hp (OKX_y rfl (sgS_end hk) (RX_back h ⟨hj0, by omega⟩ G.1 G.2.1 G.2.2 (row_fr F (by decide)) (F.atL 33 12 rfl) (F.at 33 10 rfl) (F.at 33 5 rfl) (row_fr F (by decide)))) (by decide)
theorem SGC_done {s0 : SgT} {st : Int} (hT : TVp p td) (h0 : 0 ≤ st) (hN : sgN p s0 st.toNat = some ((x, k, L) :: R, n, g, o)) (hI : SgI p td ((x, k, L) :: R, n, g, o)) (h : RX M x k L R n g o) (hk : k = p.2.1 x) (hw : (M.1 33 7).toInt = 0) : Done p s0 o := by
  have eL := SG_end hT hI hk
  subst eL
  cases R with
  | nil => exact ⟨st.toNat + 1, n, g, by rw [sgN_succ hN]; exact sgS_end hk⟩
  | cons f R => have z := (RX_ret (y := f.1) (j := f.2.1) (L' := f.2.2) h).1; omega
end
/-- what a song does to the class -/
def SGX (M M' : Mem) (p : PaT) (s0 : SgT) (a : Int) : Prop := (a = 1 ∧ ∃ o : List Int, Done p s0 o ∧ (M'.1 33 3).toInt = (o.length : Int) ∧ ordN (M'.1 34) o.length = o) ∨ (a = 0 ∧ Fail p s0 ∧ M'.1 34 = M.1 34 ∧ M'.1 33 3 = M.1 33 3)
end
section
/-- what a call of sing tells, on either side -/
def SNG (P Q : Prop) (p : PaT) (s0 : SgT) (k0 k1 : Int) (R0 R1 : Nat → Int32) (a : Int) : Prop := (¬ P ∧ a = -1 ∧ R1 = R0 ∧ k1 = k0) ∨ (P ∧ ¬ Q ∧ a = -2 ∧ R1 = R0 ∧ k1 = k0) ∨ (P ∧ Q ∧ Fail p s0 ∧ a = -3 ∧ R1 = R0 ∧ k1 = k0) ∨ (P ∧ Q ∧ ∃ o : List Int, Done p s0 o ∧ a = (o.length : Int) ∧ k1 = (o.length : Int) ∧ ordN R1 o.length = o)
theorem ordN_get {R : Nat → Int32} : ∀ {n : Nat} {o : List Int}, ordN R n = o → ∀ j, j < n → o[j]? = some (R j).toInt
  | 0, o, h, j, hj => absurd hj (Nat.not_lt_zero _)
  | n + 1, o, h, j, hj => by
    have h : ordN R n ++ [(R n).toInt] = o := h
    subst h
    by_cases q : j = n
    · subst q
      rw [List.getElem?_append_right (by rw [ordN_len]; omega), ordN_len, Nat.sub_self]
      rfl
    · rw [List.getElem?_append_left (by rw [ordN_len]; omega)]
      exact ordN_get rfl j (by omega)
theorem SNG_both {P Q P' Q' : Prop} {p : PaT} {s0 : SgT} {k0 k1 k0' k1' a a' : Int} {R0 R1 R0' R1' : Nat → Int32} (hP : P ↔ P') (hQ : P → (Q ↔ Q')) (hk : k0 = k0') (hR : ∀ j : Nat, (j : Int) < k0 → R0 j = R0' j) (h : SNG P Q p s0 k0 k1 R0 R1 a) (h' : SNG P' Q' p s0 k0' k1' R0' R1' a') : a = a' ∧ k1 = k1' ∧ ∀ j : Nat, (j : Int) < k1 → R1 j = R1' j := by
  rcases h with ⟨x1, x2, x3, x4⟩ | ⟨x0, x1, x2, x3, x4⟩ | ⟨x0, x1, x5, x2, x3, x4⟩ | ⟨x0, x1, o, x2, x3, x4, x5⟩ <;> rcases h' with ⟨y1, y2, y3, y4⟩ | ⟨y0, y1, y2, y3, y4⟩ | ⟨y0, y1, y5, y2, y3, y4⟩ | ⟨y0, y1, o', y2, y3, y4, y5⟩
  · exact ⟨by omega, by omega, fun j hj => by rw [x3, y3]; exact hR j (by omega)⟩
  · exact absurd (hP.mpr y0) x1
  · exact absurd (hP.mpr y0) x1
  · exact absurd (hP.mpr y0) x1
  · exact absurd (hP.mp x0) y1
  · exact ⟨by omega, by omega, fun j hj => by rw [x3, y3]; exact hR j (by omega)⟩
  · exact absurd ((hQ x0).mpr y1) x1
  · exact absurd ((hQ x0).mpr y1) x1
  · exact absurd (hP.mp x0) y1
  · exact absurd ((hQ x0).mp x1) y1
  · exact ⟨by omega, by omega, fun j hj => by rw [x3, y3]; exact hR j (by omega)⟩
  · exact absurd x5 (Done_Fail y2)
  · exact absurd (hP.mp x0) y1
  · exact absurd ((hQ x0).mp x1) y1
  · exact absurd y5 (Done_Fail x2)
  · have e := Done_one x2 y2
    subst e
    refine ⟨by omega, by omega, fun j hj => ?_⟩
    have u := ordN_get x5 j (by omega)
    have v := ordN_get y5 j (by omega)
    exact Int32.toInt_inj.mp (Option.some.inj (u.symm.trans v))
theorem SNG_ok {P Q : Prop} {p : PaT} {s0 : SgT} {M M1 M2 : Mem} {a b : Int} (hP : P) (hQ : Q) (h : SGX M1 M2 p s0 b) (e34 : M1.1 34 = M.1 34) (e3 : M1.1 33 3 = M.1 33 3) (hb : (b = 1 ∧ a = (M2.1 33 3).toInt) ∨ (b = 0 ∧ a = -3)) : SNG P Q p s0 (M.1 33 3).toInt (M2.1 33 3).toInt (M.1 34) (M2.1 34) a := by
  rcases h with ⟨q1, o, q2, q3, q4⟩ | ⟨q1, q2, q3, q4⟩
  · exact Or.inr (Or.inr (Or.inr ⟨hP, hQ, o, q2, by omega, q3, q4⟩))
  · exact Or.inr (Or.inr (Or.inl ⟨hP, hQ, q2, by omega, by rw [q3, e34], by rw [q4, e3]⟩))
end
