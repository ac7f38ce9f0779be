section
def tf (M : Mem) : Nat → Int := fun k => (M.1 60 (k + 2)).toInt
def sg (M : Mem) : Nat → Int := fun i => (M.1 64 i).toInt
def stL (g : Nat → Int) : Nat → List Int
  | 0 => []
  | n + 1 => g n :: stL g n
theorem stL_congr {g g' : Nat → Int} : ∀ n, (∀ i, i < n → g' i = g i) → stL g' n = stL g n
  | 0, _ => rfl
  | n + 1, h => by
    show g' n :: stL g' n = g n :: stL g n
    rw [h n (by omega), stL_congr n (fun i hi => h i (by omega))]
def NSP (f : Nat → Int) (told : Nat → Int) (ns sc : Int) (n : Nat) : Prop := ns < 0 → ∀ k, k < n → 65 ≤ f k → f k ≤ 72 → 0 < told (f k - 65).toNat ∧ f k - 65 ≠ sc
/-- the tape is read up to 'at' -/
def PIv (f g told : Nat → Int) (at_ taped top ns sc : Int) : Prop := (2 ≤ at_ ∧ at_ ≤ taped ∧ taped ≤ 60 ∧ 0 ≤ top ∧ top ≤ at_ - 2) ∧ skN f (at_ - 2).toNat = some (stL g top.toNat) ∧ NSP f told ns sc (at_ - 2).toNat
def PI (M : Mem) (sc : Int) : Prop := PIv (tf M) (sg M) (tel M) (M.1 47 21).toInt (M.1 47 20).toInt (M.1 47 22).toInt (M.1 47 25).toInt sc
section
variable {f g g' told : Nat → Int} {at_ taped top ns ns' sc c : Int}
theorem NSP_next {n : Nat} (h : NSP f told ns sc n) (hc : 0 ≤ ns' ∨ (ns' = ns ∧ (0 ≤ ns ∨ ¬ (65 ≤ f n ∧ f n ≤ 72) ∨ (0 < told (f n - 65).toNat ∧ f n - 65 ≠ sc)))) : NSP f told ns' sc (n + 1) := by
  intro h0 k hk h1 h2
  rcases hc with hc | ⟨e, hc⟩
  · omega
  · by_cases q : k = n
    · subst q
      rcases hc with hc | hc | hc
      · omega
      · exact absurd ⟨h1, h2⟩ hc
      · exact hc
    · exact h (by omega) k (by omega) h1 h2
theorem PIv_step {s' : List Int} {top' : Int} (h : PIv f g told at_ taped top ns sc) (hlt : at_ < taped) (hs : stp (stL g top.toNat) (f (at_ - 2).toNat) = some s') (he : s' = stL g' top'.toNat) (ht : 0 ≤ top' ∧ top' ≤ top + 1) (hn : 0 ≤ ns' ∨ (ns' = ns ∧ (0 ≤ ns ∨ ¬ (65 ≤ f (at_ - 2).toNat ∧ f (at_ - 2).toNat ≤ 72) ∨ (0 < told (f (at_ - 2).toNat - 65).toNat ∧ f (at_ - 2).toNat - 65 ≠ sc)))) : PIv f g' told (at_ + 1) taped top' ns' sc := by
  obtain ⟨h1, h2, h3⟩ := h
  have e1 : (at_ + 1 - 2).toNat = (at_ - 2).toNat + 1 := by omega
  refine ⟨by omega, ?_, ?_⟩
  · rw [e1, skN_succ h2, hs, he]
  · rw [e1]; exact NSP_next h3 hn
end
variable {M : Mem} {sc : Int} {b z1 z2 v : Int32}
theorem tf_at {M : Mem} {a : Int} (h : 2 ≤ a) : tf M (a - 2).toNat = (M.1 60 a.toNat).toInt := by
  unfold tf; rw [show (a - 2).toNat + 2 = a.toNat by omega]
theorem PI_0 (h : (M.1 47 21).toInt = 2 ∧ 2 ≤ (M.1 47 20).toInt) (I : Iv TM M) {o : Int32} (ho : o.toInt = 0) : PI (ui M 47 22 o) sc := by
  have h20 := ig_47_20 I
  show PIv (tf (ui M 47 22 o)) (sg (ui M 47 22 o)) (tel (ui M 47 22 o)) ((ui M 47 22 o).1 47 21).toInt ((ui M 47 22 o).1 47 20).toInt ((ui M 47 22 o).1 47 22).toInt ((ui M 47 22 o).1 47 25).toInt sc
  rw [ui_eq, ui_nj (by decide), ui_nj (by decide), ui_nj (by decide), ho, h.1]
  exact ⟨by omega, rfl, fun _ k hk => absurd hk (Nat.not_lt_zero _)⟩
theorem PI_push (h : PI M sc) (hlt : (M.1 47 21).toInt < (M.1 47 20).toInt) (hb : b.toInt = (M.1 60 ((M.1 47 21).toInt).toNat).toInt) (hc : b.toInt = 91 ∨ b.toInt = 123 ∨ b.toInt = 40) (h1 : z1.toInt = (M.1 47 22).toInt + 1) (h2 : z2.toInt = (M.1 47 21).toInt + 1) : PI (ui (ui (ui M 64 ((M.1 47 22).toInt).toNat b) 47 22 z1) 47 21 z2) sc := by
  have e0 := h.1
  have ef := tf_at (M := M) e0.1
  have r21 : ((ui (ui (ui M 64 ((M.1 47 22).toInt).toNat b) 47 22 z1) 47 21 z2).1 47 21).toInt = (M.1 47 21).toInt + 1 := by rw [ui_eq, h2]
  have r22 : ((ui (ui (ui M 64 ((M.1 47 22).toInt).toNat b) 47 22 z1) 47 21 z2).1 47 22).toInt = (M.1 47 22).toInt + 1 := by rw [ui_nj (by decide), ui_eq, h1]
  have rsg : ∀ i, sg (ui (ui (ui M 64 ((M.1 47 22).toInt).toNat b) 47 22 z1) 47 21 z2) i = if i = ((M.1 47 22).toInt).toNat then b.toInt else sg M i := by
    intro i
    show ((ui (ui (ui M 64 ((M.1 47 22).toInt).toNat b) 47 22 z1) 47 21 z2).1 64 i).toInt = _
    rw [ui_nk (by decide), ui_nk (by decide)]
    by_cases q : i = ((M.1 47 22).toInt).toNat
    · rw [if_pos q, q, ui_eq]
    · rw [if_neg q, ui_nj q]; rfl
  show PIv (tf M) _ (tel M) _ (M.1 47 20).toInt _ (M.1 47 25).toInt sc
  rw [r21, r22]
  refine PIv_step h hlt (s' := (b.toInt) :: stL (sg M) ((M.1 47 22).toInt).toNat) ?_ ?_ (by omega) (Or.inr ⟨rfl, Or.inr (Or.inl (by rw [ef]; omega))⟩)
  · rw [ef, ← hb]
    unfold stp
    rw [if_pos hc]
  · rw [show ((M.1 47 22).toInt + 1).toNat = ((M.1 47 22).toInt).toNat + 1 by omega]
    show _ = sg _ ((M.1 47 22).toInt).toNat :: stL (sg _) ((M.1 47 22).toInt).toNat
    rw [rsg, if_pos rfl]
    exact congrArg _ (stL_congr (g := sg M) (g' := sg (ui (ui (ui M 64 ((M.1 47 22).toInt).toNat b) 47 22 z1) 47 21 z2)) _ (fun i hi => by rw [rsg, if_neg (by omega)])).symm
theorem PI_let0 (h : PI M sc) (hlt : (M.1 47 21).toInt < (M.1 47 20).toInt) {c : Int} (hcc : c = (M.1 60 ((M.1 47 21).toInt).toNat).toInt) (hc : (97 ≤ c ∧ c ≤ 104) ∨ (65 ≤ c ∧ c ≤ 72)) (hn : 0 ≤ (M.1 47 25).toInt ∨ ¬ (65 ≤ c ∧ c ≤ 72) ∨ (0 < (M.1 63 (c - 65).toNat).toInt ∧ c - 65 ≠ sc)) (h2 : z2.toInt = (M.1 47 21).toInt + 1) : PI (ui M 47 21 z2) sc := by
  subst hcc
  have e0 := h.1
  have ef := tf_at (M := M) e0.1
  have r21 : ((ui M 47 21 z2).1 47 21).toInt = (M.1 47 21).toInt + 1 := by rw [ui_eq, h2]
  show PIv (tf M) (sg M) (tel M) _ (M.1 47 20).toInt (M.1 47 22).toInt (M.1 47 25).toInt sc
  rw [r21]
  refine PIv_step h hlt (s' := stL (sg M) ((M.1 47 22).toInt).toNat) ?_ rfl (by omega) (Or.inr ⟨rfl, by rw [ef]; exact hn⟩)
  rw [ef]
  unfold stp
  rw [if_neg (by omega), if_neg (by omega), if_neg (by omega), if_neg (by omega), if_neg (by omega), if_pos hc]
theorem PI_let1 (h : PI M sc) (hlt : (M.1 47 21).toInt < (M.1 47 20).toInt) {c : Int} (hcc : c = (M.1 60 ((M.1 47 21).toInt).toNat).toInt) (hc : (97 ≤ c ∧ c ≤ 104) ∨ (65 ≤ c ∧ c ≤ 72)) (hn : 0 ≤ v.toInt) (h2 : z2.toInt = (M.1 47 21).toInt + 1) : PI (ui (ui M 47 25 v) 47 21 z2) sc := by
  subst hcc
  have e0 := h.1
  have ef := tf_at (M := M) e0.1
  have r21 : ((ui (ui M 47 25 v) 47 21 z2).1 47 21).toInt = (M.1 47 21).toInt + 1 := by rw [ui_eq, h2]
  have r25 : ((ui (ui M 47 25 v) 47 21 z2).1 47 25).toInt = v.toInt := by rw [ui_nj (by decide), ui_eq]
  show PIv (tf M) (sg M) (tel M) _ (M.1 47 20).toInt (M.1 47 22).toInt _ sc
  rw [r21, r25]
  refine PIv_step h hlt (s' := stL (sg M) ((M.1 47 22).toInt).toNat) ?_ rfl (by omega) (Or.inl hn)
  rw [ef]
  unfold stp
  rw [if_neg (by omega), if_neg (by omega), if_neg (by omega), if_neg (by omega), if_neg (by omega), if_pos hc]
theorem PI_pop (h : PI M sc) (hlt : (M.1 47 21).toInt < (M.1 47 20).toInt) (ht : (M.1 47 22).toInt ≠ 0) (hc : ((M.1 60 ((M.1 47 21).toInt).toNat).toInt = 93 ∧ (M.1 64 ((M.1 47 22).toInt - 1).toNat).toInt = 91) ∨ ((M.1 60 ((M.1 47 21).toInt).toNat).toInt = 125 ∧ (M.1 64 ((M.1 47 22).toInt - 1).toNat).toInt = 123) ∨ ((M.1 60 ((M.1 47 21).toInt).toNat).toInt = 41 ∧ (M.1 64 ((M.1 47 22).toInt - 1).toNat).toInt = 124)) (h1 : z1.toInt = (M.1 47 22).toInt - 1) (h2 : z2.toInt = (M.1 47 21).toInt + 1) : PI (ui (ui M 47 22 z1) 47 21 z2) sc := by
  have e0 := h.1
  have ef := tf_at (M := M) e0.1
  have r21 : ((ui (ui M 47 22 z1) 47 21 z2).1 47 21).toInt = (M.1 47 21).toInt + 1 := by rw [ui_eq, h2]
  have r22 : ((ui (ui M 47 22 z1) 47 21 z2).1 47 22).toInt = (M.1 47 22).toInt - 1 := by rw [ui_nj (by decide), ui_eq, h1]
  have es : stL (sg M) ((M.1 47 22).toInt).toNat = (M.1 64 ((M.1 47 22).toInt - 1).toNat).toInt :: stL (sg M) ((M.1 47 22).toInt - 1).toNat := by
    rw [show ((M.1 47 22).toInt).toNat = ((M.1 47 22).toInt - 1).toNat + 1 by omega]; rfl
  show PIv (tf M) (sg M) (tel M) _ (M.1 47 20).toInt _ (M.1 47 25).toInt sc
  rw [r21, r22]
  refine PIv_step h hlt (s' := stL (sg M) ((M.1 47 22).toInt - 1).toNat) ?_ rfl (by omega) (Or.inr ⟨rfl, Or.inr (Or.inl (by rw [ef]; omega))⟩)
  rw [ef, es]
  rcases hc with ⟨q1, q2⟩ | ⟨q1, q2⟩ | ⟨q1, q2⟩ <;> rw [q1, q2] <;> simp [stp]
theorem PI_bar (h : PI M sc) (hlt : (M.1 47 21).toInt < (M.1 47 20).toInt) (ht : (M.1 47 22).toInt ≠ 0) (hc : (M.1 60 ((M.1 47 21).toInt).toNat).toInt = 124 ∧ (M.1 64 ((M.1 47 22).toInt - 1).toNat).toInt = 40) (h1 : v.toInt = 124) (h2 : z2.toInt = (M.1 47 21).toInt + 1) : PI (ui (ui M 64 ((M.1 47 22).toInt - 1).toNat v) 47 21 z2) sc := by
  have e0 := h.1
  have ef := tf_at (M := M) e0.1
  have r21 : ((ui (ui M 64 ((M.1 47 22).toInt - 1).toNat v) 47 21 z2).1 47 21).toInt = (M.1 47 21).toInt + 1 := by rw [ui_eq, h2]
  have es : stL (sg M) ((M.1 47 22).toInt).toNat = (M.1 64 ((M.1 47 22).toInt - 1).toNat).toInt :: stL (sg M) ((M.1 47 22).toInt - 1).toNat := by
    rw [show ((M.1 47 22).toInt).toNat = ((M.1 47 22).toInt - 1).toNat + 1 by omega]; rfl
  have rsg : ∀ i, sg (ui (ui M 64 ((M.1 47 22).toInt - 1).toNat v) 47 21 z2) i = if i = ((M.1 47 22).toInt - 1).toNat then v.toInt else sg M i := by
    intro i
    show ((ui (ui M 64 ((M.1 47 22).toInt - 1).toNat v) 47 21 z2).1 64 i).toInt = _
    rw [ui_nk (by decide)]
    by_cases q : i = ((M.1 47 22).toInt - 1).toNat
    · rw [if_pos q, q, ui_eq]
    · rw [if_neg q, ui_nj q]; rfl
  show PIv (tf M) _ (tel M) _ (M.1 47 20).toInt (M.1 47 22).toInt (M.1 47 25).toInt sc
  rw [r21]
  refine PIv_step h hlt (s' := 124 :: stL (sg M) ((M.1 47 22).toInt - 1).toNat) ?_ ?_ (by omega) (Or.inr ⟨rfl, Or.inr (Or.inl (by rw [ef]; omega))⟩)
  · rw [ef, es, hc.1, hc.2]; simp [stp]
  · rw [show ((M.1 47 22).toInt).toNat = ((M.1 47 22).toInt - 1).toNat + 1 by omega]
    show _ = sg _ ((M.1 47 22).toInt - 1).toNat :: stL (sg _) ((M.1 47 22).toInt - 1).toNat
    rw [rsg, if_pos rfl, h1]
    exact congrArg _ (stL_congr (g := sg M) (g' := sg (ui (ui M 64 ((M.1 47 22).toInt - 1).toNat v) 47 21 z2)) _ (fun i hi => by rw [rsg, if_neg (by omega)])).symm
/-- all of the tape is read -/
def PD (M : Mem) (sc : Int) : Prop := 2 ≤ (M.1 47 20).toInt ∧ (M.1 47 21).toInt = (M.1 47 20).toInt ∧ skN (tf M) ((M.1 47 20).toInt - 2).toNat = some [] ∧ NSP (tf M) (tel M) (M.1 47 25).toInt sc ((M.1 47 20).toInt - 2).toNat
theorem PI_done (h : PI M sc) (hge : (M.1 47 20).toInt ≤ (M.1 47 21).toInt) (ht : (M.1 47 22).toInt = 0) : PD M sc := by
  obtain ⟨h1, h2, h3⟩ := h
  have e : (M.1 47 21).toInt = (M.1 47 20).toInt := by omega
  rw [e] at h2 h3
  rw [ht] at h2
  exact ⟨by omega, e, h2, h3⟩
end
