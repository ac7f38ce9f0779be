section
/-! ===== what holds along the song ===== -/
def eN (f : Nat → Int) (k : Nat) : Bool := match gsN f k with
  | some q => q.2
  | none => false
theorem eN_of {f : Nat → Int} {k : Nat} {s : List Int} {e : Bool} (h : gsN f k = some (s, e)) : eN f k = e := by unfold eN; rw [h]
def LMq (f : Nat → Int) : List Nat → List (Int × Int) → Prop
  | [], L => L = []
  | q :: s, L => if f q = 123 then ∃ (l : Int) (L' : List (Int × Int)), L = (l, ((q + 1 : Nat) : Int)) :: L' ∧ (1 ≤ l ∧ l ≤ 3) ∧ LMq f s L' else LMq f s L
theorem LMq_y {f : Nat → Int} {q : Nat} {s : List Nat} {L : List (Int × Int)} (h : LMq f (q :: s) L) (hq : f q = 123) : ∃ (l : Int) (L' : List (Int × Int)), L = (l, ((q + 1 : Nat) : Int)) :: L' ∧ (1 ≤ l ∧ l ≤ 3) ∧ LMq f s L' := by
  unfold LMq at h; rw [if_pos hq] at h; exact h
theorem LMq_n {f : Nat → Int} {q : Nat} {s : List Nat} {L : List (Int × Int)} (hq : f q ≠ 123) : LMq f (q :: s) L ↔ LMq f s L := by
  show (if f q = 123 then _ else _) ↔ _
  rw [if_neg hq]
theorem LMq_i {f : Nat → Int} {q : Nat} {s : List Nat} {L' : List (Int × Int)} {l r : Int} (hq : f q = 123) (hr : r = ((q + 1 : Nat) : Int)) (hl : 1 ≤ l ∧ l ≤ 3) (h : LMq f s L') : LMq f (q :: s) ((l, r) :: L') := by
  show if f q = 123 then _ else _
  rw [if_pos hq, hr]
  exact ⟨l, L', rfl, hl, h⟩
theorem LMq_len {f : Nat → Int} : ∀ {s : List Nat} {L : List (Int × Int)}, LMq f s L → L.length ≤ s.length
  | [], L, h => by have z : L = [] := h; rw [z]; exact Nat.le_refl _
  | q :: s, L, h => by
    by_cases c : f q = 123
    · obtain ⟨l, L', e, _, h'⟩ := LMq_y h c
      have z := LMq_len h'
      rw [e, List.length_cons, List.length_cons]; omega
    · have z := LMq_len ((LMq_n c).mp h)
      rw [List.length_cons]; omega
def FV (p : PaT) (td : Nat → Int) (a : FrT) : Prop := a.1 < 8 ∧ 0 < td a.1 ∧ 0 ≤ a.2.1 ∧ a.2.1 ≤ p.2.1 a.1 ∧ LMq (p.1 a.1) (psN (p.1 a.1) a.2.1.toNat) a.2.2
def FVs (p : PaT) (td : Nat → Int) : List FrT → Prop
  | [] => True
  | a :: R => FV p td a ∧ (∀ b, R.head? = some b → td a.1 < td b.1 ∧ eN (p.1 b.1) b.2.1.toNat = true) ∧ FVs p td R
def TVp (p : PaT) (td : Nat → Int) : Prop := ∀ x, x < 8 → 0 < td x → (0 ≤ p.2.1 x ∧ p.2.1 x ≤ 58) ∧ TVx (p.1 x) (p.2.1 x).toNat (p.2.2.1 x) ∧ ∀ k : Nat, (k : Int) < p.2.1 x → (65 ≤ p.1 x k ∧ p.1 x k ≤ 72) → 0 < td (p.1 x k - 65).toNat ∧ td (p.1 x k - 65).toNat < td x
def pOp (p : PaT) : List FrT → Int
  | [] => 0
  | a :: R => 1 + ((psN (p.1 a.1) a.2.1.toNat).length : Int) + pOp p R
def eI (p : PaT) : List FrT → Int
  | [] => 0
  | a :: _ => if eN (p.1 a.1) a.2.1.toNat = true then 1 else 0
def pot (p : PaT) (F : List FrT) (g : Int) : Int := 3 * (2001 - g) + pOp p F + eI p F
theorem eI_rng (p : PaT) (F : List FrT) : 0 ≤ eI p F ∧ eI p F ≤ 1 := by
  cases F with
  | nil => exact ⟨by show (0 : Int) ≤ 0; omega, by show (0 : Int) ≤ 1; omega⟩
  | cons a R => show 0 ≤ (if _ then (1 : Int) else 0) ∧ (if _ then (1 : Int) else 0) ≤ 1; split <;> omega
theorem pOp_rng (p : PaT) : ∀ F : List FrT, 0 ≤ pOp p F
  | [] => Int.le_refl _
  | a :: R => by have z := pOp_rng p R; show 0 ≤ 1 + _ + pOp p R; omega
theorem eI_t {p : PaT} {x : Nat} {k : Int} {L : List (Int × Int)} {R : List FrT} (h : eN (p.1 x) k.toNat = true) : eI p ((x, k, L) :: R) = 1 := by show (if _ then (1 : Int) else 0) = 1; rw [if_pos h]
theorem eI_f {p : PaT} {x : Nat} {k : Int} {L : List (Int × Int)} {R : List FrT} (h : eN (p.1 x) k.toNat = false) : eI p ((x, k, L) :: R) = 0 := by show (if _ then (1 : Int) else 0) = 0; rw [if_neg (by rw [h]; decide)]
/-- one frame moves -/
theorem FVs_mv {p : PaT} {td : Nat → Int} {x : Nat} {k k' : Int} {L L' : List (Int × Int)} {R : List FrT} (h : FVs p td ((x, k, L) :: R)) (h0 : 0 ≤ k' ∧ k' ≤ p.2.1 x) (hL : LMq (p.1 x) (psN (p.1 x) k'.toNat) L') : FVs p td ((x, k', L') :: R) := ⟨⟨h.1.1, h.1.2.1, h0.1, h0.2, hL⟩, h.2.1, h.2.2⟩
theorem pot_mv {p : PaT} {x : Nat} {k k' : Int} {L L' : List (Int × Int)} {R : List FrT} {g g' : Int} (h : 3 * (2001 - g') + ((psN (p.1 x) k'.toNat).length : Int) + eI p ((x, k', L') :: R) < 3 * (2001 - g) + ((psN (p.1 x) k.toNat).length : Int) + eI p ((x, k, L) :: R)) : pot p ((x, k', L') :: R) g' < pot p ((x, k, L) :: R) g := by
  show 3 * (2001 - g') + (1 + ((psN (p.1 x) k'.toNat).length : Int) + pOp p R) + eI p ((x, k', L') :: R) < 3 * (2001 - g) + (1 + ((psN (p.1 x) k.toNat).length : Int) + pOp p R) + eI p ((x, k, L) :: R)
  omega
def SgI (p : PaT) (td : Nat → Int) (σ : SgT) : Prop := FVs p td σ.1 ∧ 0 ≤ σ.2.1 ∧ (0 ≤ σ.2.2.1 ∧ σ.2.2.1 ≤ 2000)
theorem rk_frames {p : PaT} {td : Nat → Int} : ∀ (R : List FrT) (a : FrT), FVs p td (a :: R) → rkN td (td a.1) 8 + (R.length : Int) ≤ 7
  | [], a, h => by have z := rk_7 td (v := td a.1) (Int.le_refl _) 8 h.1.1; show _ + ((0 : Nat) : Int) ≤ 7; omega
  | b :: R, a, h => by
    have ih := rk_frames R b h.2.2
    have hb := (h.2.1 b rfl).1
    have z := rk_lt td (v := td a.1) (v' := td b.1) (by omega) (y := a.1) h.1.2.1 (Int.le_refl _) hb 8 h.1.1
    rw [List.length_cons]
    omega
theorem frames_8 {p : PaT} {td : Nat → Int} {F : List FrT} (h : FVs p td F) : F.length ≤ 8 := by
  cases F with
  | nil => exact Nat.zero_le _
  | cons a R =>
    have z := rk_frames R a h
    have y := rk_0 td (td a.1) 8
    rw [List.length_cons]; omega
theorem ps_len {f : Nat → Int} {n k : Nat} (h : gsN f n = some ([], true)) (hk : k ≤ n) : (psN f k).length ≤ k ∧ (psN f k).length + k ≤ n := by
  obtain ⟨s, e, g⟩ := gsN_pre h k hk
  have z := skN_len (gsN_skN h) hk (gsN_skN g)
  have es := gsN_ps g
  have el : s.length = (psN f k).length := by rw [es, List.length_map]
  omega
set_option maxHeartbeats 1000000 in
/-- a step keeps what holds, and comes nearer to the end -/
theorem sg_step {p : PaT} {td : Nat → Int} {x : Nat} {k n g : Int} {L : List (Int × Int)} {R : List FrT} {o : List Int} {τ : SgT} (hT : TVp p td) (hh : 0 ≤ p.2.2.2.1 ∧ p.2.2.2.1 ≤ 3) (hc : ∀ s, 0 ≤ p.2.2.2.2.1 s) (hI : SgI p td ((x, k, L) :: R, n, g, o)) (hs : sgS p ((x, k, L) :: R, n, g, o) = some τ) : SgI p td τ ∧ pot p τ.1 τ.2.2.1 < pot p ((x, k, L) :: R) g := by
  obtain ⟨hF, hn, hg⟩ := hI
  have hF : FVs p td ((x, k, L) :: R) := hF
  have hn : 0 ≤ n := hn
  have hg : 0 ≤ g ∧ g ≤ 2000 := hg
  obtain ⟨⟨hx, htd, hk0, hk1, hL⟩, hnx, hR⟩ := id hF
  have hx : x < 8 := hx
  have htd : 0 < td x := htd
  have hk0 : 0 ≤ k := hk0
  have hk1 : k ≤ p.2.1 x := hk1
  have hL : LMq (p.1 x) (psN (p.1 x) k.toNat) L := hL
  obtain ⟨hz, hV, hsc⟩ := hT x hx htd
  have hs : (if k = p.2.1 x then some (R, n, g, o) else if p.1 x k.toNat = 93 ∨ p.1 x k.toNat = 41 then some ((x, k + 1, L) :: R, n, g, o) else if p.1 x k.toNat = 124 then some ((x, p.2.2.1 x k.toNat + 1, L) :: R, n, g, o) else if p.1 x k.toNat = 125 then sgB x k L R n g o else if 2000 ≤ g then none else sgI p (p.1 x k.toNat) x k L R n g o) = some τ := hs
  have r0 := eI_rng p ((x, k, L) :: R)
  have ek : (k + 1).toNat = k.toNat + 1 := by omega
  by_cases c0 : k = p.2.1 x
  · rw [if_pos c0] at hs
    have e := Option.some.inj hs
    subst e
    refine ⟨⟨hR, hn, hg⟩, ?_⟩
    have z : psN (p.1 x) k.toNat = [] := by
      have y := (ps_len hV.1 (Nat.le_refl _)).2
      rw [c0]
      exact List.length_eq_zero_iff.mp (by omega)
    have e1 : eN (p.1 x) k.toNat = true := by rw [c0]; exact eN_of hV.1
    have e2 := eI_t (L := L) (R := R) e1
    have e3 := eI_rng p R
    show 3 * (2001 - g) + pOp p R + eI p R < 3 * (2001 - g) + (1 + ((psN (p.1 x) k.toNat).length : Int) + pOp p R) + eI p ((x, k, L) :: R)
    rw [z, e2, List.length_nil]
    (try dsimp only); omega
  · rw [if_neg c0] at hs
    have hkn : k.toNat < (p.2.1 x).toNat := by omega
    obtain ⟨s1, e1, s2, e2, g1, g2, hch⟩ := TV_ch hV hkn
    have en1 := eN_of g1
    have en2 : eN (p.1 x) (k + 1).toNat = e2 := by rw [ek]; exact eN_of g2
    generalize hb : p.1 x k.toNat = b at hs hch
    by_cases c1 : b = 93 ∨ b = 41
    · rw [if_pos c1] at hs
      have e := Option.some.inj hs
      subst e
      rcases hch with ⟨w, _⟩ | ⟨w, _⟩ | ⟨w0, q, w1, w2⟩
      · omega
      · omega
      · rcases w2 with ⟨w3, _⟩ | ⟨w3, w4, w5⟩
        · omega
        · have hq : p.1 x q ≠ 123 := fun z => by unfold prC at w3; omega
          rw [w1] at hL
          have hL' := (LMq_n hq).mp hL
          refine ⟨⟨FVs_mv hF ⟨by omega, by omega⟩ (by rw [ek, w5]; exact hL'), hn, hg⟩, pot_mv ?_⟩
          have l1 : (psN (p.1 x) k.toNat).length = ((psN (p.1 x) k.toNat).tail).length + 1 := by rw [w1]; rfl
          rw [eI_t (by rw [en2]; exact w4), eI_t (by rw [en1]; exact w0), ek, w5]
          (try dsimp only); omega
    · rw [if_neg c1] at hs
      by_cases c2 : b = 124
      · rw [if_pos c2] at hs
        have e := Option.some.inj hs
        subst e
        obtain ⟨j, j1, j2, j3, j4, s3, j5⟩ := TV_bar hV hkn (by rw [hb]; exact c2)
        have ej : (p.2.2.1 x k.toNat + 1).toNat = j + 1 := by rw [j1]; (try dsimp only); omega
        rcases hch with ⟨w, _⟩ | ⟨w, _⟩ | ⟨w0, q, w1, w2⟩
        · omega
        · omega
        · rcases w2 with ⟨w3, w4, _⟩ | ⟨w3, _⟩
          · rw [w1] at hL
            have hL' := (LMq_n (by omega)).mp hL
            refine ⟨⟨FVs_mv hF ⟨by rw [j1]; (try dsimp only); omega, by rw [j1]; (try dsimp only); omega⟩ (by rw [ej, j4]; exact hL'), hn, hg⟩, pot_mv ?_⟩
            have l1 : (psN (p.1 x) k.toNat).length = ((psN (p.1 x) k.toNat).tail).length + 1 := by rw [w1]; rfl
            rw [eI_t (k := p.2.2.1 x k.toNat + 1) (by rw [ej]; exact eN_of j5), eI_t (k := k) (by rw [en1]; exact w0), ej, j4]
            (try dsimp only); omega
          · unfold prC at w3; omega
      · rw [if_neg c2] at hs
        by_cases c3 : b = 125
        · rw [if_pos c3] at hs
          rcases hch with ⟨w, _⟩ | ⟨w, _⟩ | ⟨w0, q, w1, w2⟩
          · omega
          · omega
          · rcases w2 with ⟨w3, _⟩ | ⟨w3, w4, w5⟩
            · omega
            · have hq : p.1 x q = 123 := by unfold prC at w3; omega
              rw [w1] at hL
              obtain ⟨l, L', eL, hl, hL'⟩ := LMq_y hL hq
              subst eL
              have hs : (if 1 < l then some ((x, ((q + 1 : Nat) : Int), (l - 1, ((q + 1 : Nat) : Int)) :: L') :: R, n, g, o) else some ((x, k + 1, L') :: R, n, g, o)) = some τ := hs
              have hqm := psN_mem (f := p.1 x) (k := k.toNat) (q := q) (by rw [w1]; exact List.mem_cons_self)
              by_cases c4 : 1 < l
              · rw [if_pos c4] at hs
                have e := Option.some.inj hs
                subst e
                have hh1 := (psN_hist k.toNat [] q _ w1).1 (by omega)
                have pq : psN (p.1 x) (q + 1) = q :: (psN (p.1 x) k.toNat).tail := by rw [psN_op (by omega), hh1]
                have eq : (((q + 1 : Nat) : Int)).toNat = q + 1 := by omega
                refine ⟨⟨FVs_mv hF ⟨by omega, by omega⟩ (by rw [eq, pq]; exact LMq_i hq rfl (by omega) hL'), hn, hg⟩, pot_mv ?_⟩
                obtain ⟨sq, eq1, sq2, eq2, gq1, gq2, hcq⟩ := TV_ch hV (show q < (p.2.1 x).toNat by omega)
                have fq : eN (p.1 x) (((q + 1 : Nat) : Int)).toNat = false := by
                  rw [eq, eN_of gq2]
                  rcases hcq with ⟨_, z, _⟩ | ⟨z, _⟩ | ⟨_, q2, _, z | z⟩
                  · exact z
                  · omega
                  · omega
                  · have z1 := z.1; unfold prC at z1; omega
                rw [eI_f fq, eI_t (k := k) (by rw [en1]; exact w0), eq, pq, ← w1]
                (try dsimp only); omega
              · rw [if_neg c4] at hs
                have e := Option.some.inj hs
                subst e
                refine ⟨⟨FVs_mv hF ⟨by omega, by omega⟩ (by rw [ek, w5]; exact hL'), hn, hg⟩, pot_mv ?_⟩
                have l1 : (psN (p.1 x) k.toNat).length = ((psN (p.1 x) k.toNat).tail).length + 1 := by rw [w1]; rfl
                rw [eI_t (k := k + 1) (by rw [en2]; exact w4), eI_t (k := k) (by rw [en1]; exact w0), ek, w5]
                (try dsimp only); omega
        · rw [if_neg c3] at hs
          by_cases c4 : 2000 ≤ g
          · rw [if_pos c4] at hs; cases hs
          · rw [if_neg c4] at hs
            have hg' : 0 ≤ g + 1 ∧ g + 1 ≤ 2000 := by omega
            unfold sgI at hs
            have stay : (b = 91 ∨ b = 123 ∨ b = 40) → psN (p.1 x) (k.toNat + 1) = k.toNat :: psN (p.1 x) k.toNat := fun z => psN_op (by rw [hb]; exact z)
            have jump : (b = 91 ∨ b = 123 ∨ b = 40) → ∀ m, 0 ≤ m → SgI p td ((x, p.2.2.1 x k.toNat + 1, L) :: R, m, g + 1, o) ∧ pot p ((x, p.2.2.1 x k.toNat + 1, L) :: R) (g + 1) < pot p ((x, k, L) :: R) g := fun z m hm => by
              obtain ⟨j, j1, j2, j3, j4⟩ := TV_jump hV hkn (by rw [hb]; exact z)
              have ej : (p.2.2.1 x k.toNat + 1).toNat = j + 1 := by rw [j1]; (try dsimp only); omega
              have r1 := eI_rng p ((x, p.2.2.1 x k.toNat + 1, L) :: R)
              rcases j4 with ⟨_, j5, _⟩ | ⟨_, j6, j5, _⟩
              · refine ⟨⟨FVs_mv hF ⟨by rw [j1]; (try dsimp only); omega, by rw [j1]; (try dsimp only); omega⟩ (by rw [ej, j5]; exact hL), hm, hg'⟩, pot_mv ?_⟩
                rw [ej, j5]; (try dsimp only); omega
              · refine ⟨⟨FVs_mv hF ⟨by rw [j1]; (try dsimp only); omega, by rw [j1]; (try dsimp only); omega⟩ (by rw [ej, j5]; exact (LMq_n (by omega)).mpr hL), hm, hg'⟩, pot_mv ?_⟩
                rw [ej, j5, List.length_cons]; (try dsimp only); omega
            have into : (b = 91 ∨ b = 40) → ∀ m, 0 ≤ m → SgI p td ((x, k + 1, L) :: R, m, g + 1, o) ∧ pot p ((x, k + 1, L) :: R) (g + 1) < pot p ((x, k, L) :: R) g := fun z m hm => by
              have r1 := eI_rng p ((x, k + 1, L) :: R)
              refine ⟨⟨FVs_mv hF ⟨by omega, by omega⟩ (by rw [ek, stay (by omega)]; exact (LMq_n (by rw [hb]; (try dsimp only); omega)).mpr hL), hm, hg'⟩, pot_mv ?_⟩
              rw [ek, stay (by omega), List.length_cons]; (try dsimp only); omega
            have n2 : 0 ≤ n / 2 := Int.ediv_nonneg hn (by decide)
            have nh : 0 ≤ n / (p.2.2.2.1 + 1) := Int.ediv_nonneg hn (by omega)
            by_cases d1 : b = 91
            · rw [if_pos d1] at hs
              have e := Option.some.inj hs
              subst e
              split
              · exact jump (by omega) _ n2
              · exact into (by omega) _ n2
            · rw [if_neg d1] at hs
              by_cases d2 : b = 40
              · rw [if_pos d2] at hs
                have e := Option.some.inj hs
                subst e
                split
                · exact jump (by omega) _ n2
                · exact into (by omega) _ n2
              · rw [if_neg d2] at hs
                by_cases d3 : b = 123
                · rw [if_pos d3] at hs
                  by_cases d4 : n % (p.2.2.2.1 + 1) = 0
                  · rw [if_pos d4] at hs
                    have e := Option.some.inj hs
                    subst e
                    exact jump (by omega) _ nh
                  · rw [if_neg d4] at hs
                    have e := Option.some.inj hs
                    subst e
                    have m1 := Int.emod_nonneg n (show p.2.2.2.1 + 1 ≠ 0 by omega)
                    have m2 := Int.emod_lt_of_pos n (show 0 < p.2.2.2.1 + 1 by omega)
                    have r1 := eI_rng p ((x, k + 1, (n % (p.2.2.2.1 + 1), k + 1) :: L) :: R)
                    refine ⟨⟨FVs_mv hF ⟨by omega, by omega⟩ (by rw [ek, stay (by omega)]; exact LMq_i (by rw [hb]; exact d3) (by omega) (by omega) hL), nh, hg'⟩, pot_mv ?_⟩
                    rw [ek, stay (by omega), List.length_cons]; (try dsimp only); omega
                · rw [if_neg d3] at hs
                  have hlet : psN (p.1 x) (k.toNat + 1) = psN (p.1 x) k.toNat ∧ e2 = true := by
                    rcases hch with ⟨w, _⟩ | ⟨_, w1, w2⟩ | ⟨_, q, _, w | w⟩
                    · omega
                    · exact ⟨w2, w1⟩
                    · omega
                    · have w1 := w.1; unfold prC at w1; omega
                  by_cases d4 : 65 ≤ b ∧ b ≤ 72
                  · rw [if_pos d4] at hs
                    have e := Option.some.inj hs
                    subst e
                    have hy := hsc k.toNat (by omega) (by rw [hb]; exact d4)
                    rw [hb] at hy
                    have f1 : FVs p td ((x, k + 1, L) :: R) := FVs_mv hF ⟨by omega, by omega⟩ (by rw [ek, hlet.1]; exact hL)
                    obtain ⟨hzy, _, _⟩ := hT (b - 65).toNat (by omega) hy.1
                    have e0 : eI p (((b - 65).toNat, 0, []) :: (x, k + 1, L) :: R) = 0 := eI_f rfl
                    refine ⟨⟨⟨⟨by show (b - 65).toNat < 8; omega, hy.1, Int.le_refl _, hzy.1, rfl⟩, fun b' hb' => ?_, f1⟩, hn, hg'⟩, ?_⟩
                    · have eb := Option.some.inj hb'
                      subst eb
                      exact ⟨hy.2, by rw [en2]; exact hlet.2⟩
                    · unfold pot
                      rw [e0]
                      show 3 * (2001 - (g + 1)) + (1 + ((psN (p.1 (b - 65).toNat) 0).length : Int) + (1 + ((psN (p.1 x) (k + 1).toNat).length : Int) + pOp p R)) + 0 < 3 * (2001 - g) + (1 + ((psN (p.1 x) k.toNat).length : Int) + pOp p R) + _
                      rw [ek, hlet.1]
                      show 3 * (2001 - (g + 1)) + (1 + ((0 : Nat) : Int) + _) + 0 < _
                      (try dsimp only); omega
                  · rw [if_neg d4] at hs
                    by_cases d5 : p.2.2.2.2.1 (b - 97) = 0 ∨ 40 ≤ (o.length : Int)
                    · rw [if_pos d5] at hs; cases hs
                    · rw [if_neg d5] at hs
                      have e := Option.some.inj hs
                      subst e
                      have r1 := eI_rng p ((x, k + 1, L) :: R)
                      refine ⟨⟨FVs_mv hF ⟨by omega, by omega⟩ (by rw [ek, hlet.1]; exact hL), Int.ediv_nonneg hn (hc _), hg'⟩, pot_mv ?_⟩
                      rw [ek, hlet.1]; (try dsimp only); omega
end
