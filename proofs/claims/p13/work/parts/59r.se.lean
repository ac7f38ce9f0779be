section
/-! ===== the reference's reading of the tape ===== -/
def PEv (f g : Nat → Int) (bad : Int → Prop) (at_ top ns : Int) (e : Bool) : Prop := gsN f (at_ - 2).toNat = some (stL g top.toNat, e) ∧ UT f bad at_ ns
def PE (M : Mem) (sc : Int) (e : Bool) : Prop := PEv (tf M) (sg M) (bdM M sc) (M.1 47 21).toInt (M.1 47 22).toInt (M.1 47 25).toInt e
def OL (c : Int) : Prop := (c = 91 ∨ c = 123 ∨ c = 40) ∨ (97 ≤ c ∧ c ≤ 104) ∨ (65 ≤ c ∧ c ≤ 72)
def PF5 (M : Mem) (sc : Int) : Prop := ∃ e, PE M sc e ∧ (e = true → (M.1 47 21).toInt < (M.1 47 20).toInt ∧ OL (M.1 60 ((M.1 47 21).toInt).toNat).toInt)
theorem UT_keep {f : Nat → Int} {b : Int → Prop} {n u : Int} (h : UT f b n u) (hn : 2 ≤ n) (hb : 0 ≤ u ∨ ¬ b (f (n - 2).toNat)) : UT f b (n + 1) u := by
  rcases h with ⟨h1, h2⟩ | ⟨k, h1, h2, h3, h4⟩
  · refine Or.inl ⟨h1, fun k hk => ?_⟩
    by_cases q : k = (n - 2).toNat
    · rw [q]
      rcases hb with z | z
      · omega
      · exact z
    · exact h2 k (by omega)
  · exact Or.inr ⟨k, h1, by omega, h3, h4⟩
theorem UT_set {f : Nat → Int} {b : Int → Prop} {n u v : Int} (h : UT f b n u) (hn : 2 ≤ n) (hu : u < 0) (hb : b (f (n - 2).toNat)) (hv : v = n) : UT f b (n + 1) v := by
  rcases h with ⟨h1, h2⟩ | ⟨k, h1, h2, h3, h4⟩
  · exact Or.inr ⟨(n - 2).toNat, by omega, by omega, hb, fun j hj => h2 j (by omega)⟩
  · omega
theorem PEv_step {f g g' : Nat → Int} {bad : Int → Prop} {at_ top top' ns ns' : Int} {e e' : Bool} {s' : List Int} (h : PEv f g bad at_ top ns e) (h2 : 2 ≤ at_) (hs : gst (stL g top.toNat) e (f (at_ - 2).toNat) = some (s', e')) (he : s' = stL g' top'.toNat) (hn : UT f bad (at_ + 1) ns') : PEv f g' bad (at_ + 1) top' ns' e' := by
  refine ⟨?_, hn⟩
  rw [show (at_ + 1 - 2).toNat = (at_ - 2).toNat + 1 by omega, gsN_succ h.1, hs, he]
section
variable {M : Mem} {sc : Int} {b z1 z2 v : Int32} {e : Bool}
theorem bdM_n {M : Mem} {sc c : Int} (h : ¬ (65 ≤ c ∧ c ≤ 72)) : ¬ bdM M sc c := fun z => h z.1
theorem PE_push (h : PE M sc e) (h2a : 2 ≤ (M.1 47 21).toInt) (ht : 0 ≤ (M.1 47 22).toInt) (hb : b.toInt = (M.1 60 ((M.1 47 21).toInt).toNat).toInt) (hc : b.toInt = 91 ∨ b.toInt = 123 ∨ b.toInt = 40) (h1 : z1.toInt = (M.1 47 22).toInt + 1) (h2 : z2.toInt = (M.1 47 21).toInt + 1) : PE (ui (ui (ui M 64 ((M.1 47 22).toInt).toNat b) 47 22 z1) 47 21 z2) sc false := by
  have ef := tf_at (M := M) h2a
  have r21 : ((ui (ui (ui M 64 ((M.1 47 22).toInt).toNat b) 47 22 z1) 47 21 z2).1 47 21).toInt = (M.1 47 21).toInt + 1 := by rw [ui_eq, h2]
  have r22 : ((ui (ui (ui M 64 ((M.1 47 22).toInt).toNat b) 47 22 z1) 47 21 z2).1 47 22).toInt = (M.1 47 22).toInt + 1 := by rw [ui_nj (by decide), ui_eq, h1]
  have rsg : ∀ i, sg (ui (ui (ui M 64 ((M.1 47 22).toInt).toNat b) 47 22 z1) 47 21 z2) i = if i = ((M.1 47 22).toInt).toNat then b.toInt else sg M i := by
    intro i
    show ((ui (ui (ui M 64 ((M.1 47 22).toInt).toNat b) 47 22 z1) 47 21 z2).1 64 i).toInt = _
    rw [ui_nk (by decide), ui_nk (by decide)]
    by_cases q : i = ((M.1 47 22).toInt).toNat
    · rw [if_pos q, q, ui_eq]
    · rw [if_neg q, ui_nj q]; rfl
  show PEv (tf M) _ (bdM M sc) _ _ (M.1 47 25).toInt false
  rw [r21, r22]
  refine PEv_step h h2a (s' := (b.toInt) :: stL (sg M) ((M.1 47 22).toInt).toNat) ?_ ?_ (UT_keep h.2 h2a (Or.inr (bdM_n (by rw [ef]; omega))))
  · rw [ef, ← hb]
    exact gst_op hc
  · rw [show ((M.1 47 22).toInt + 1).toNat = ((M.1 47 22).toInt).toNat + 1 by omega]
    show _ = sg _ ((M.1 47 22).toInt).toNat :: stL (sg _) ((M.1 47 22).toInt).toNat
    rw [rsg, if_pos rfl]
    exact congrArg _ (stL_congr (g := sg M) (g' := sg (ui (ui (ui M 64 ((M.1 47 22).toInt).toNat b) 47 22 z1) 47 21 z2)) _ (fun i hi => by rw [rsg, if_neg (by omega)])).symm
theorem PE_let0 (h : PE M sc e) (h2a : 2 ≤ (M.1 47 21).toInt) {c : Int} (hcc : c = (M.1 60 ((M.1 47 21).toInt).toNat).toInt) (hc : (97 ≤ c ∧ c ≤ 104) ∨ (65 ≤ c ∧ c ≤ 72)) (hn : 0 ≤ (M.1 47 25).toInt ∨ ¬ (65 ≤ c ∧ c ≤ 72) ∨ (0 < (M.1 63 (c - 65).toNat).toInt ∧ c - 65 ≠ sc)) (h2 : z2.toInt = (M.1 47 21).toInt + 1) : PE (ui M 47 21 z2) sc true := by
  subst hcc
  have ef := tf_at (M := M) h2a
  have r21 : ((ui M 47 21 z2).1 47 21).toInt = (M.1 47 21).toInt + 1 := by rw [ui_eq, h2]
  show PEv (tf M) (sg M) (bdM M sc) _ (M.1 47 22).toInt (M.1 47 25).toInt true
  rw [r21]
  refine PEv_step h h2a (s' := stL (sg M) ((M.1 47 22).toInt).toNat) ?_ rfl (UT_keep h.2 h2a ?_)
  · rw [ef]; exact gst_let hc
  · rcases hn with z | z | z
    · exact Or.inl z
    · exact Or.inr (bdM_n (by rw [ef]; exact z))
    · refine Or.inr (fun w => ?_)
      rw [ef] at w
      rcases w.2 with y | y
      · exact z.2 y
      · exact y z.1
theorem PE_let1 (h : PE M sc e) (h2a : 2 ≤ (M.1 47 21).toInt) {c : Int} (hcc : c = (M.1 60 ((M.1 47 21).toInt).toNat).toInt) (hc : 65 ≤ c ∧ c ≤ 72) (hbd : c - 65 = sc ∨ ¬ (0 < (M.1 63 (c - 65).toNat).toInt)) (hu : (M.1 47 25).toInt < 0) (hv : v.toInt = (M.1 47 21).toInt) (h2 : z2.toInt = (M.1 47 21).toInt + 1) : PE (ui (ui M 47 25 v) 47 21 z2) sc true := by
  subst hcc
  have ef := tf_at (M := M) h2a
  have r21 : ((ui (ui M 47 25 v) 47 21 z2).1 47 21).toInt = (M.1 47 21).toInt + 1 := by rw [ui_eq, h2]
  have r25 : ((ui (ui M 47 25 v) 47 21 z2).1 47 25).toInt = v.toInt := by rw [ui_nj (by decide), ui_eq]
  show PEv (tf M) (sg M) (bdM M sc) _ (M.1 47 22).toInt _ true
  rw [r21, r25]
  refine PEv_step h h2a (s' := stL (sg M) ((M.1 47 22).toInt).toNat) ?_ rfl (UT_set h.2 h2a hu ?_ hv)
  · rw [ef]; exact gst_let (Or.inr hc)
  · rw [ef]; exact ⟨hc, hbd⟩
theorem sg_top {M : Mem} (ht : 1 ≤ (M.1 47 22).toInt) : stL (sg M) ((M.1 47 22).toInt).toNat = (M.1 64 ((M.1 47 22).toInt - 1).toNat).toInt :: stL (sg M) ((M.1 47 22).toInt - 1).toNat := by
  rw [show ((M.1 47 22).toInt).toNat = ((M.1 47 22).toInt - 1).toNat + 1 by omega]; rfl
theorem PE_pop (h : PE M sc true) (h2a : 2 ≤ (M.1 47 21).toInt) (ht : 1 ≤ (M.1 47 22).toInt) (hc : ((M.1 60 ((M.1 47 21).toInt).toNat).toInt = 93 ∧ (M.1 64 ((M.1 47 22).toInt - 1).toNat).toInt = 91) ∨ ((M.1 60 ((M.1 47 21).toInt).toNat).toInt = 125 ∧ (M.1 64 ((M.1 47 22).toInt - 1).toNat).toInt = 123) ∨ ((M.1 60 ((M.1 47 21).toInt).toNat).toInt = 41 ∧ (M.1 64 ((M.1 47 22).toInt - 1).toNat).toInt = 124)) (h1 : z1.toInt = (M.1 47 22).toInt - 1) (h2 : z2.toInt = (M.1 47 21).toInt + 1) : PE (ui (ui M 47 22 z1) 47 21 z2) sc true := by
  have ef := tf_at (M := M) h2a
  have r21 : ((ui (ui M 47 22 z1) 47 21 z2).1 47 21).toInt = (M.1 47 21).toInt + 1 := by rw [ui_eq, h2]
  have r22 : ((ui (ui M 47 22 z1) 47 21 z2).1 47 22).toInt = (M.1 47 22).toInt - 1 := by rw [ui_nj (by decide), ui_eq, h1]
  show PEv (tf M) (sg M) (bdM M sc) _ _ (M.1 47 25).toInt true
  rw [r21, r22]
  refine PEv_step h h2a (s' := stL (sg M) ((M.1 47 22).toInt - 1).toNat) ?_ rfl (UT_keep h.2 h2a (Or.inr (bdM_n (by rw [ef]; omega))))
  rw [ef, sg_top ht]
  exact gst_cl (by omega)
theorem PE_bar (h : PE M sc true) (h2a : 2 ≤ (M.1 47 21).toInt) (ht : 1 ≤ (M.1 47 22).toInt) (hc : (M.1 60 ((M.1 47 21).toInt).toNat).toInt = 124 ∧ (M.1 64 ((M.1 47 22).toInt - 1).toNat).toInt = 40) (h1 : v.toInt = 124) (h2 : z2.toInt = (M.1 47 21).toInt + 1) : PE (ui (ui M 64 ((M.1 47 22).toInt - 1).toNat v) 47 21 z2) sc false := by
  have ef := tf_at (M := M) h2a
  have r21 : ((ui (ui M 64 ((M.1 47 22).toInt - 1).toNat v) 47 21 z2).1 47 21).toInt = (M.1 47 21).toInt + 1 := by rw [ui_eq, h2]
  have rsg : ∀ i, sg (ui (ui M 64 ((M.1 47 22).toInt - 1).toNat v) 47 21 z2) i = if i = ((M.1 47 22).toInt - 1).toNat then v.toInt else sg M i := by
    intro i
    show ((ui (ui M 64 ((M.1 47 22).toInt - 1).toNat v) 47 21 z2).1 64 i).toInt = _
    rw [ui_nk (by decide)]
    by_cases q : i = ((M.1 47 22).toInt - 1).toNat
    · rw [if_pos q, q, ui_eq]
    · rw [if_neg q, ui_nj q]; rfl
  show PEv (tf M) _ (bdM M sc) _ (M.1 47 22).toInt (M.1 47 25).toInt false
  rw [r21]
  refine PEv_step h h2a (s' := 124 :: stL (sg M) ((M.1 47 22).toInt - 1).toNat) ?_ ?_ (UT_keep h.2 h2a (Or.inr (bdM_n (by rw [ef]; omega))))
  · rw [ef, sg_top ht, hc.1, hc.2]; exact gst_bar
  · rw [show ((M.1 47 22).toInt).toNat = ((M.1 47 22).toInt - 1).toNat + 1 by omega]
    show _ = sg _ ((M.1 47 22).toInt - 1).toNat :: stL (sg _) ((M.1 47 22).toInt - 1).toNat
    rw [rsg, if_pos rfl, h1]
    exact congrArg _ (stL_congr (g := sg M) (g' := sg (ui (ui M 64 ((M.1 47 22).toInt - 1).toNat v) 47 21 z2)) _ (fun i hi => by rw [rsg, if_neg (by omega)])).symm
/-- the three ways in which the reading ends -/
theorem PE_b10 {c : Int} (h : ∃ e, PE M sc e ∧ (e = true → OL c)) (h2a : 2 ≤ (M.1 47 21).toInt ∧ (M.1 47 21).toInt ≤ (M.1 47 20).toInt) (hc : ((M.1 47 21).toInt < (M.1 47 20).toInt ∧ c = (M.1 60 ((M.1 47 21).toInt).toNat).toInt ∧ 0 ≤ c) ∨ ((M.1 47 20).toInt ≤ (M.1 47 21).toInt ∧ c = -1)) (h1 : ¬ (c = 91 ∨ c = 123 ∨ c = 40)) (h2 : ¬ ((97 ≤ c ∧ c ≤ 104) ∨ (65 ≤ c ∧ c ≤ 72))) : MF2 (tf M) (M.1 47 20).toInt (M.1 47 21).toInt := by
  obtain ⟨e, h, he⟩ := h
  have e0 : e = false := by
    cases e with
    | false => rfl
    | true => exact absurd (he rfl) (fun z => by rcases z with z | z; exact h1 z; exact h2 z)
  subst e0
  have ef := tf_at (M := M) h2a.1
  rcases hc with ⟨q1, q2, q3⟩ | ⟨q1, q2⟩
  · exact Or.inl ⟨((M.1 47 21).toInt - 2).toNat, _, _, by omega, by omega, h.1, by rw [ef, ← q2]; exact gst_f h1 h2⟩
  · have ea : (M.1 47 21).toInt = (M.1 47 20).toInt := by omega
    have g := h.1
    rw [ea] at g
    exact Or.inr (Or.inl ⟨ea, _, _, g, fun z => nomatch z.2⟩)
theorem PE_b135 {c : Int} (h : PE M sc true) (h2a : 2 ≤ (M.1 47 21).toInt ∧ (M.1 47 21).toInt ≤ (M.1 47 20).toInt) (hc : ((M.1 47 21).toInt < (M.1 47 20).toInt ∧ c = (M.1 60 ((M.1 47 21).toInt).toNat).toInt ∧ 0 ≤ c) ∨ ((M.1 47 20).toInt ≤ (M.1 47 21).toInt ∧ c = -1)) (h1 : ¬ (c = 91 ∨ c = 123 ∨ c = 40)) (h2 : ¬ ((97 ≤ c ∧ c ≤ 104) ∨ (65 ≤ c ∧ c ≤ 72))) (ht : 0 ≤ (M.1 47 22).toInt) (h3 : (M.1 47 22).toInt = 0 ∨ (¬ (c = 124 ∧ (M.1 64 ((M.1 47 22).toInt - 1).toNat).toInt = 40) ∧ ¬ prC (M.1 64 ((M.1 47 22).toInt - 1).toNat).toInt c)) (h4 : ¬ (c = -1 ∧ (M.1 47 22).toInt = 0)) : MF2 (tf M) (M.1 47 20).toInt (M.1 47 21).toInt := by
  have ef := tf_at (M := M) h2a.1
  rcases hc with ⟨q1, q2, q3⟩ | ⟨q1, q2⟩
  · refine Or.inl ⟨((M.1 47 21).toInt - 2).toNat, _, _, by omega, by omega, h.1, ?_⟩
    rw [ef, ← q2]
    rcases Int.lt_or_le 0 (M.1 47 22).toInt with w | w
    · rw [sg_top (by omega)]
      rcases h3 with z | z
      · omega
      · exact gst_no h1 h2 z.1 z.2
    · rw [show ((M.1 47 22).toInt).toNat = 0 by omega]
      exact gst_nil h1 h2
  · have ea : (M.1 47 21).toInt = (M.1 47 20).toInt := by omega
    have g := h.1
    rw [ea] at g
    refine Or.inr (Or.inl ⟨ea, _, _, g, fun z => ?_⟩)
    have e1 := z.1
    rw [sg_top (by omega)] at e1
    cases e1
theorem PE_done (h : PE M sc true) (hge : (M.1 47 21).toInt = (M.1 47 20).toInt) (ht : (M.1 47 22).toInt = 0) : MF2 (tf M) (M.1 47 20).toInt (-1) ∧ UT (tf M) (bdM M sc) (M.1 47 20).toInt (M.1 47 25).toInt := by
  have g := h.1
  have u := h.2
  rw [hge] at g u
  rw [ht] at g
  exact ⟨Or.inr (Or.inr ⟨rfl, g⟩), u⟩
theorem PE_0 {o : Int32} (h : (M.1 47 21).toInt = 2) (hn : (M.1 47 25).toInt = -1) (ho : o.toInt = 0) : PF5 (ui M 47 22 o) sc := by
  refine ⟨false, ?_, fun z => nomatch z⟩
  show PEv (tf M) (sg (ui M 47 22 o)) (bdM M sc) ((ui M 47 22 o).1 47 21).toInt ((ui M 47 22 o).1 47 22).toInt ((ui M 47 22 o).1 47 25).toInt false
  rw [ui_eq, ui_nj (by decide), ui_nj (by decide), ho, h, hn]
  exact ⟨rfl, Or.inl ⟨rfl, fun k hk => absurd hk (by omega)⟩⟩
end
theorem NSx_no {M : Mem} {sc x k : Int} (hx : 0 ≤ x ∧ x ≤ 7) (hk : 0 ≤ k) (ht : 0 < (M.1 63 x.toNat).toInt) (hk2 : k < (M.1 62 x.toNat).toInt) (he : (M.1 61 (60 * x + k).toNat).toInt = 65 + sc) : ¬ NSx M sc 8 := fun z => by
  have w := z x.toNat (by omega) ht k.toNat (by show _ < ((M.1 62 x.toNat).toInt).toNat; omega)
  rw [txt_at hx.1 hk] at w
  exact w he
abbrev WP : List (Nat × Nat) := [(47, 20), (47, 21), (47, 22), (47, 25), (64, 99)]
def SMM (M M' : Mem) : Prop := M'.1 61 = M.1 61 ∧ M'.1 62 = M.1 62 ∧ M'.1 63 = M.1 63 ∧ M'.1 47 23 = M.1 47 23
theorem SMM_of {M M' : Mem} (F : Fr WP M M') : SMM M M' := ⟨row_fr F (by decide), row_fr F (by decide), row_fr F (by decide), F.at 47 23 rfl⟩
theorem tf_fr {M M' : Mem} (F : Fr WP M M') : tf M' = tf M := by funext k; unfold tf; rw [F.at 60 _ (noW_in (by decide) _)]
theorem bdM_fr {M M' : Mem} (F : Fr WP M M') : bdM M' = bdM M := by funext x y; unfold bdM; rw [row_fr F (c := 63) (by decide)]
theorem NSx_fr {M M' : Mem} (F : Fr WP M M') : NSx M' = NSx M := by
  funext s n
  unfold NSx NSk tel txt tsz
  rw [row_fr F (c := 61) (by decide), row_fr F (c := 62) (by decide), row_fr F (c := 63) (by decide)]
def KPM (M M' : Mem) (sc : Int) : Prop := (∀ i, M'.1 61 i = if 60 * sc.toNat ≤ i ∧ i < 60 * sc.toNat + ((M.1 47 20).toInt - 2).toNat then M.1 60 (i - 60 * sc.toNat + 2) else M.1 61 i) ∧ (∀ x, x ≠ sc.toNat → M'.1 62 x = M.1 62 x ∧ M'.1 63 x = M.1 63 x) ∧ (M'.1 62 sc.toNat).toInt = (M.1 47 20).toInt - 2 ∧ (M'.1 63 sc.toNat).toInt = (M.1 47 23).toInt + 1 ∧ (M'.1 47 23).toInt = (M.1 47 23).toInt + 1
def SCM (M M' : Mem) (a : Int) : Prop := ∃ p, MF (M.1 60 0).toInt (M.1 60 1).toInt (tf M) (M.1 47 20).toInt p ∧ ((0 ≤ p ∧ a = -1000 - p ∧ SMM M M') ∨ (p < 0 ∧ ∃ u, UT (tf M) (bdM M ((M.1 60 0).toInt - 65)) (M.1 47 20).toInt u ∧ ((0 ≤ u ∧ a = -2000 - u ∧ SMM M M') ∨ (u < 0 ∧ ((¬ NSx M ((M.1 60 0).toInt - 65) 8 ∧ a = -3000 ∧ SMM M M') ∨ (NSx M ((M.1 60 0).toInt - 65) 8 ∧ a = (M.1 60 0).toInt - 65 ∧ KPM M M' ((M.1 60 0).toInt - 65)))))))
theorem KPM_new {M mA mB M' : Mem} {sc k : Int} {z z2 : Int32} (F : Fr WP M mA) (hB : mB = ui (ui (ui mA 47 23 z) 63 sc.toNat z) 62 sc.toNat z2) (hz : z.toInt = (mA.1 47 23).toInt + 1) (hz2 : z2.toInt = (M.1 47 20).toInt - 2) (hC : CP mB M' sc k) (hk : k = (M.1 47 20).toInt) : KPM M M' sc := by
  have s := SMM_of F
  have e60 : ∀ j, mB.1 60 j = M.1 60 j := fun j => by rw [hB, ui_nk (by decide), ui_nk (by decide), ui_nk (by decide), F.at 60 j (noW_in (by decide) j)]
  have e61 : ∀ j, mB.1 61 j = M.1 61 j := fun j => by rw [hB, ui_nk (by decide), ui_nk (by decide), ui_nk (by decide), s.1]
  have e62 : ∀ j, M'.1 62 j = if j = sc.toNat then z2 else M.1 62 j := fun j => by
    rw [hC.1 62 j (by decide), hB]
    by_cases q : j = sc.toNat
    · rw [if_pos q, q, ui_eq]
    · rw [if_neg q, ui_nj q, ui_nk (by decide), ui_nk (by decide), s.2.1]
  have e63 : ∀ j, M'.1 63 j = if j = sc.toNat then z else M.1 63 j := fun j => by
    rw [hC.1 63 j (by decide), hB, ui_nk (by decide)]
    by_cases q : j = sc.toNat
    · rw [if_pos q, q, ui_eq]
    · rw [if_neg q, ui_nj q, ui_nk (by decide), s.2.2.1]
  have e23 : M'.1 47 23 = z := by rw [hC.1 47 23 (by decide), hB, ui_nk (by decide), ui_nk (by decide), ui_eq]
  refine ⟨fun i => ?_, fun x q => ⟨by rw [e62, if_neg q], by rw [e63, if_neg q]⟩, by rw [e62, if_pos rfl, hz2], by rw [e63, if_pos rfl, hz, s.2.2.2], by rw [e23, hz, s.2.2.2]⟩
  rw [hC.2 i, e60, e61, hk]
end
