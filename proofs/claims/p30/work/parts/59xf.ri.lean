section
variable {M : Mem} {n N : Nat} {p : RpT} {f : Nat → Int} {k deep c : Int}
theorem RFT_0 (h : MR (M.1 76) 0 n mO) : RFT M n p f 0 0 := ⟨[], false, mO, [], rfl, rfl, rfl, h, rfl⟩
theorem gs_cur {s : List Int} {e : Bool} (hV : gsN f N = some ([], true)) (hk : 0 ≤ k ∧ k.toNat < N) (hc : f k.toNat = c) (g : gsN f k.toNat = some (s, e)) : ∃ s' e', gst s e c = some (s', e') ∧ gsN f (k + 1).toNat = some (s', e') := by
  obtain ⟨s', e', g1, g2⟩ := gsN_next hV hk.2 g
  rw [hc] at g1
  exact ⟨s', e', g1, by rw [show (k + 1).toNat = k.toNat + 1 by omega]; exact g2⟩
theorem mcN_next {S : List Mat} (hk : 0 ≤ k) (hc : f k.toNat = c) (e : mcN p f k.toNat = S) : mcN p f (k + 1).toNat = mcS p c S := by
  rw [show (k + 1).toNat = k.toNat + 1 by omega]
  show mcS p (f k.toNat) (mcN p f k.toNat) = _
  rw [hc, e]
theorem RFT_let (hV : gsN f N = some ([], true)) (h : RFT M n p f k deep) (hk : 0 ≤ k ∧ k.toNat < N) (hc : f k.toNat = c) (hl : (97 ≤ c ∧ c ≤ 104) ∨ (65 ≤ c ∧ c ≤ 72)) : ∃ A, MR (M.1 76) 0 n A ∧ UTr A ∧ ∀ (M' : Mem) (A' : Mat), M'.1 72 = M.1 72 → M'.1 73 = M.1 73 → MR (M'.1 76) 0 n A' → (∀ S, mcS p c (A :: S) = A' :: S) → RFT M' n p f (k + 1) deep := by
  obtain ⟨s, e, A, S, h1, h2, h3, h4, h5⟩ := h
  obtain ⟨s', e', g1, g2⟩ := gs_cur hV hk hc h1
  refine ⟨A, h4, mcN_UT k.toNat A (by rw [h3]; exact List.mem_cons_self), fun M' A' e72 e73 hA hm => ?_⟩
  rw [gst_let hl] at g1
  have es : s = s' := congrArg Prod.fst (Option.some.inj g1)
  subst es
  exact ⟨s, e', A', S, g2, h2, by rw [mcN_next hk.1 hc h3, hm], hA, by rw [e72, e73]; exact h5⟩
theorem RFT_op (hn : n < 25) (hV : gsN f N = some ([], true)) (h : RFT M n p f k deep) (hk : 0 ≤ k ∧ k.toNat < N) (hc : f k.toNat = c) (hl : c = 91 ∨ c = 123 ∨ c = 40) : ∃ A, MR (M.1 76) 0 n A ∧ ∀ M' : Mem, (∀ d, d < 625 * deep.toNat → M'.1 72 d = M.1 72 d) → M'.1 73 = M.1 73 → MR (M'.1 72) (625 * deep.toNat) n A → MR (M'.1 76) 0 n mO → RFT M' n p f (k + 1) (deep + 1) := by
  obtain ⟨s, e, A, S, h1, h2, h3, h4, h5⟩ := h
  obtain ⟨s', e', g1, g2⟩ := gs_cur hV hk hc h1
  refine ⟨A, h4, fun M' e72 e73 hB hO => ?_⟩
  rw [gst_op hl] at g1
  have es : c :: s = s' := congrArg Prod.fst (Option.some.inj g1)
  subst es
  have ed : deep.toNat = s.length := by omega
  rw [ed] at e72 hB
  refine ⟨c :: s, e', mO, A :: S, g2, by rw [List.length_cons]; omega, by rw [mcN_next hk.1 hc h3, mcS_op (by omega)], hO, ?_⟩
  unfold RMS
  rw [if_neg (by omega)]
  exact ⟨A, S, rfl, hB, RMS_fr hn (Nat.le_refl _) e72 (fun d _ => by rw [e73]) h5⟩
theorem RFT_bar (hn : n < 25) (hV : gsN f N = some ([], true)) (h : RFT M n p f k deep) (hk : 0 ≤ k ∧ k.toNat < N) (hc : f k.toNat = c) (hl : c = 124) : ∃ A, 1 ≤ deep ∧ MR (M.1 76) 0 n A ∧ ∀ M' : Mem, M'.1 72 = M.1 72 → (∀ d, d < 625 * (deep - 1).toNat → M'.1 73 d = M.1 73 d) → MR (M'.1 73) (625 * (deep - 1).toNat) n A → MR (M'.1 76) 0 n mO → RFT M' n p f (k + 1) deep := by
  obtain ⟨s, e, A, S, h1, h2, h3, h4, h5⟩ := h
  obtain ⟨s', e', g1, g2⟩ := gs_cur hV hk hc h1
  rcases gst_inv g1 with ⟨a, _⟩ | ⟨a, _⟩ | ⟨a, y, t, b, w⟩
  · omega
  · omega
  · subst b
    rw [List.length_cons] at h2
    refine ⟨A, by omega, h4, fun M' e72 e73 hB hO => ?_⟩
    have ed : (deep - 1).toNat = t.length := by omega
    rw [ed] at e73 hB
    rcases w with ⟨w1, w2, w3, w4⟩ | ⟨w1, _⟩
    · subst w3
      unfold RMS at h5
      rw [if_neg (by omega)] at h5
      obtain ⟨B, S', h6, h7, h8⟩ := h5
      subst h6
      refine ⟨124 :: t, e', mO, A :: B :: S', g2, by rw [List.length_cons]; omega, by rw [mcN_next hk.1 hc h3, mcS_op (by omega)], hO, ?_⟩
      unfold RMS
      rw [if_pos rfl]
      exact ⟨A, B, S', rfl, hB, by rw [e72]; exact h7, RMS_fr hn (Nat.le_refl _) (fun d _ => by rw [e72]) e73 h8⟩
    · unfold prC at w1; omega
theorem RFT_cl (hn : n < 25) (hV : gsN f N = some ([], true)) (h : RFT M n p f k deep) (hk : 0 ≤ k ∧ k.toNat < N) (hc : f k.toNat = c) (hl : c = 93 ∨ c = 125) : ∃ A B, 1 ≤ deep ∧ MR (M.1 76) 0 n A ∧ UTr A ∧ MR (M.1 72) (625 * (deep - 1).toNat) n B ∧ ∀ (M' : Mem) (C : Mat), M'.1 72 = M.1 72 → (∀ d, d < 625 * (deep - 1).toNat → M'.1 73 d = M.1 73 d) → MR (M'.1 76) 0 n C → (∀ S, mcS p c (A :: B :: S) = C :: S) → RFT M' n p f (k + 1) (deep - 1) := by
  obtain ⟨s, e, A, S, h1, h2, h3, h4, h5⟩ := h
  obtain ⟨s', e', g1, g2⟩ := gs_cur hV hk hc h1
  rcases gst_inv g1 with ⟨a, _⟩ | ⟨a, _⟩ | ⟨a, y, t, b, w⟩
  · omega
  · omega
  · subst b
    rw [List.length_cons] at h2
    have ed : (deep - 1).toNat = t.length := by omega
    rcases w with ⟨w1, _⟩ | ⟨w1, w2, w3⟩
    · omega
    · subst w2
      unfold RMS at h5
      rw [if_neg (by unfold prC at w1; omega)] at h5
      obtain ⟨B, S', h6, h7, h8⟩ := h5
      subst h6
      refine ⟨A, B, by omega, h4, mcN_UT k.toNat A (by rw [h3]; exact List.mem_cons_self), by rw [ed]; exact h7, fun M' C e72 e73 hC hm => ?_⟩
      rw [ed] at e73
      exact ⟨s', e', C, S', g2, by omega, by rw [mcN_next hk.1 hc h3, hm], hC, RMS_fr hn (Nat.le_refl _) (fun d _ => by rw [e72]) e73 h8⟩
theorem RFT_41 (hn : n < 25) (hV : gsN f N = some ([], true)) (h : RFT M n p f k deep) (hk : 0 ≤ k ∧ k.toNat < N) (hc : f k.toNat = c) (hl : c = 41) : ∃ A A' B, 1 ≤ deep ∧ MR (M.1 76) 0 n A ∧ MR (M.1 73) (625 * (deep - 1).toNat) n A' ∧ MR (M.1 72) (625 * (deep - 1).toNat) n B ∧ ∀ (M' : Mem) (C : Mat), M'.1 72 = M.1 72 → (∀ d, d < 625 * (deep - 1).toNat → M'.1 73 d = M.1 73 d) → MR (M'.1 76) 0 n C → (∀ S, mcS p c (A :: A' :: B :: S) = C :: S) → RFT M' n p f (k + 1) (deep - 1) := by
  obtain ⟨s, e, A, S, h1, h2, h3, h4, h5⟩ := h
  obtain ⟨s', e', g1, g2⟩ := gs_cur hV hk hc h1
  rcases gst_inv g1 with ⟨a, _⟩ | ⟨a, _⟩ | ⟨a, y, t, b, w⟩
  · omega
  · omega
  · subst b
    rw [List.length_cons] at h2
    have ed : (deep - 1).toNat = t.length := by omega
    rcases w with ⟨w1, _⟩ | ⟨w1, w2, w3⟩
    · omega
    · subst w2
      unfold RMS at h5
      rw [if_pos (by unfold prC at w1; omega)] at h5
      obtain ⟨A', B, S', h6, h7, h8, h9⟩ := h5
      subst h6
      refine ⟨A, A', B, by omega, h4, by rw [ed]; exact h7, by rw [ed]; exact h8, fun M' C e72 e73 hC hm => ?_⟩
      rw [ed] at e73
      exact ⟨s', e', C, S', g2, by omega, by rw [mcN_next hk.1 hc h3, hm], hC, RMS_fr hn (Nat.le_refl _) (fun d _ => by rw [e72]) e73 h9⟩
theorem RFT_end (hV : gsN f N = some ([], true)) (h : RFT M n p f k deep) (hk : k.toNat = N) : MR (M.1 76) 0 n (mcT p f N) := by
  obtain ⟨s, e, A, S, h1, h2, h3, h4, h5⟩ := h
  rw [hk] at h3
  unfold mcT
  rw [h3]
  exact h4
theorem mQ_1 {A : Mat} (h : UTr A) : mQ A 1 = mA A mO := by
  show mA mO (mM mO A) = _
  rw [mM_one h]
  exact mA_comm
theorem RFT_len (hV : gsN f N = some ([], true)) (hN : N ≤ 58) (h : RFT M n p f k deep) (hk : 0 ≤ k ∧ k.toNat ≤ N) : 0 ≤ deep ∧ deep ≤ 28 := by
  obtain ⟨s, e, A, S, h1, h2, -⟩ := h
  have z := lvl_28 hV hN hk.2 h1
  have y := len_lvl s
  omega
/-- tables done, by the time of telling -/
def TDM (R : Nat → Int32) (n : Nat) (td : Nat → Int) (T : Nat → Mat) (v t x : Int) : Prop := ∀ y : Nat, y < 8 → 0 < td y → (td y < t ∨ (td y = t ∧ (y : Int) < x)) → td y ≤ v → MR R (625 * y) n (T y)
theorem TDM_skip {R : Nat → Int32} {td : Nat → Int} {T : Nat → Mat} {v t x : Int} (h : TDM R n td T v t x) (hx : 0 ≤ x) (hs : td x.toNat ≠ t ∨ v < t) : TDM R n td T v t (x + 1) := fun y hy h0 h1 h2 => by
  by_cases q : y = x.toNat
  · subst q; exact h _ hy h0 (by omega) h2
  · exact h y hy h0 (by omega) h2
theorem TDM_put {R R' : Nat → Int32} {td : Nat → Int} {T : Nat → Mat} {v t x : Int} (hn : n < 25) (h : TDM R n td T v t x) (hx : 0 ≤ x) (o : OUP R R' (625 * x.toNat)) (hp : MR R' (625 * x.toNat) n (T x.toNat)) : TDM R' n td T v t (x + 1) := fun y hy h0 h1 h2 => by
  by_cases q : y = x.toNat
  · subst q; exact hp
  · exact MR_OUP hn (h y hy h0 (by omega) h2) o (by omega)
theorem TDM_next {R : Nat → Int32} {td : Nat → Int} {T : Nat → Mat} {v t x : Int} (h : TDM R n td T v t x) (hx : 8 ≤ x) : TDM R n td T v (t + 1) 0 := fun y hy h0 h1 h2 => h y hy h0 (by omega) h2
end
section
/-! ===== weights by the stock ===== -/
def wqB (B : Nat → Nat → Bool) (n : Nat) (l : Int) (s : Nat) : Nat := if l = 40 then ctb (B s) n else if B s l.toNat = true then 1 else 0
/-- line l is in a singer's stock, and of slot s -/
def Bu (M : Mem) (sg y : Int) (up s l : Nat) : Bool := (decide ((l : Int) < (M.1 47 12).toInt) && hsM M sg l y up) && decide ((M.1 55 l).toInt = (s : Int))
theorem wqB_le (B : Nat → Nat → Bool) {n : Nat} (hn : n ≤ 64) (l : Int) (s : Nat) : wqB B n l s ≤ 64 := by
  unfold wqB
  have z := ctb_le (B s) n
  split
  · omega
  · split <;> omega
theorem Bu_BM {W W' : List (Nat × Nat)} {M M1 M2 : Mem} {sg y : Int} {up : Nat} {l s : Nat} (h : ∀ l : Nat, l < 40 → ((M1.1 85 l).toInt ≠ 0 ↔ ((l : Int) < (M.1 47 12).toInt ∧ hsM M sg l y up = true))) (F : Fr W M M1) (F' : Fr W' M1 M2) (hw : (noW W 55 && !inW W 47 12) = true) (hw' : (noW W' 85 && (noW W' 55 && !inW W' 47 12)) = true) (hl : l < 40) : BM M2 (s : Int) l = Bu M sg y up s l := by
  simp only [Bool.and_eq_true, Bool.not_eq_true'] at hw hw'
  unfold BM Bu
  rw [row_fr F' hw'.1, row_fr F' hw'.2.1, row_fr F hw.1]
  congr 1
  by_cases q : (M1.1 85 l).toInt ≠ 0
  · obtain ⟨z1, z2⟩ := (h l hl).mp q
    rw [decide_eq_true q, decide_eq_true z1, z2]; rfl
  · rw [decide_eq_false q]
    by_cases z1 : (l : Int) < (M.1 47 12).toInt
    · rw [decide_eq_true z1, Bool.true_and, Bool.eq_false_iff.mpr (fun z2 => q ((h l hl).mpr ⟨z1, z2⟩))]
    · rw [decide_eq_false z1]; rfl
theorem wq_R {W W' : List (Nat × Nat)} {M M1 M2 : Mem} {sg y l : Int} {up s : Nat} (hl : 0 ≤ (M.1 47 12).toInt ∧ (M.1 47 12).toInt ≤ 40) (h : ∀ l : Nat, l < 40 → ((M1.1 85 l).toInt ≠ 0 ↔ ((l : Int) < (M.1 47 12).toInt ∧ hsM M sg l y up = true))) (F : Fr W M M1) (F' : Fr W' M1 M2) (hw : (noW W 55 && !inW W 47 12) = true) (hw' : (noW W' 85 && (noW W' 55 && !inW W' 47 12)) = true) (h40 : 0 ≤ l ∧ l ≤ 40) : wtR M2 l (s : Int) = wqB (Bu M sg y up) ((M.1 47 12).toInt).toNat l s ∧ wqB (Bu M sg y up) ((M.1 47 12).toInt).toNat l s ≤ 64 := by
  refine ⟨?_, wqB_le _ (by omega) l s⟩
  have e : (M2.1 47 12) = (M.1 47 12) := by
    simp only [Bool.and_eq_true, Bool.not_eq_true'] at hw hw'
    rw [F'.at 47 12 hw'.2.2, F.at 47 12 hw.2]
  unfold wtR wqB
  rw [e]
  by_cases q : l = 40
  · rw [if_pos q, if_pos q]
    exact ctb_cong (fun k hk => Bu_BM h F F' hw hw' (by omega))
  · rw [if_neg q, if_neg q, Bu_BM h F F' hw hw' (by omega)]
end
section
theorem hk_y {g : Nat → Int} {L : Int} {H : Int → Bool} {v l : Int} {m : Nat} (h : v = ((ctb (fun j => decide (g j ≠ 40) && !(decide (g j < L) && H (g j))) l.toNat : Nat) : Int)) (hl : 0 ≤ l) (h1 : g l.toNat ≠ 40) (h2 : ¬ (g l.toNat < L ∧ H (g l.toNat) = true)) (hm : m = l.toNat + 1) : v + 1 = ((ctb (fun j => decide (g j ≠ 40) && !(decide (g j < L) && H (g j))) m : Nat) : Int) := ctb_y h hl (by
  have e : (decide (g l.toNat < L) && H (g l.toNat)) = false := Bool.eq_false_iff.mpr (fun z => h2 (by rw [Bool.and_eq_true, decide_eq_true_eq] at z; exact z))
  rw [decide_eq_true h1, e]; rfl) hm
theorem hk_n {g : Nat → Int} {L : Int} {H : Int → Bool} {v l : Int} {m : Nat} (h : v = ((ctb (fun j => decide (g j ≠ 40) && !(decide (g j < L) && H (g j))) l.toNat : Nat) : Int)) (hl : 0 ≤ l) (h1 : g l.toNat = 40 ∨ (g l.toNat < L ∧ H (g l.toNat) = true)) (hm : m = l.toNat + 1) : v + 0 = ((ctb (fun j => decide (g j ≠ 40) && !(decide (g j < L) && H (g j))) m : Nat) : Int) := ctb_n (p := fun j => decide (g j ≠ 40) && !(decide (g j < L) && H (g j))) h hl (by
  rcases h1 with q | ⟨q1, q2⟩
  · rw [decide_eq_false (p := g l.toNat ≠ 40) (fun w => w q)]; rfl
  · rw [decide_eq_true q1, q2]; exact Bool.and_false _) hm
end
