section
theorem skN_congr {f g : Nat → Int} : ∀ n, (∀ k, k < n → f k = g k) → skN f n = skN g n
  | 0, _ => rfl
  | n + 1, h => by
    show (skN f n).bind _ = (skN g n).bind _
    rw [skN_congr n (fun k hk => h k (by omega)), h n (by omega)]
def WFT (M : Mem) : Prop := ∀ x, x < 8 → tel M x ≤ (M.1 47 23).toInt
theorem WFT_fr {W : List (Nat × Nat)} {M M' : Mem} (h : WFT M) (fr : Fr W M M') (hw : (noW W 63 && !inW W 47 23) = true) : WFT M' := by
  simp only [Bool.and_eq_true, Bool.not_eq_true'] at hw
  intro x hx
  show (M'.1 63 x).toInt ≤ _
  rw [fr.at 63 x (noW_in hw.1 x), fr.at 47 23 hw.2]
  exact h x hx
/-- the copy of the tape's text, up to place k of the tape -/
def CP (mB M : Mem) (sc k : Int) : Prop := (∀ c j, c ≠ 61 → M.1 c j = mB.1 c j) ∧ ∀ i, M.1 61 i = if 60 * sc.toNat ≤ i ∧ i < 60 * sc.toNat + (k - 2).toNat then mB.1 60 (i - 60 * sc.toNat + 2) else mB.1 61 i
theorem CP_0 {mB : Mem} {sc : Int} : CP mB mB sc 2 := ⟨fun _ _ _ => rfl, fun i => by rw [if_neg (by omega)]⟩
theorem CP_s {mB M : Mem} {sc k : Int} (h : CP mB M sc k) (hs : 0 ≤ sc) (hk : 2 ≤ k) : CP mB (ui M 61 (60 * sc + k - 2).toNat (M.1 60 k.toNat)) sc (k + 1) := by
  refine ⟨fun c j hc => by rw [ui_nk hc]; exact h.1 c j hc, fun i => ?_⟩
  rw [ui_1]
  by_cases q : i = (60 * sc + k - 2).toNat
  · have e : i - 60 * sc.toNat + 2 = k.toNat := by omega
    rw [if_pos ⟨rfl, q⟩, if_pos (by omega), h.1 60 _ (by decide), e]
  · rw [if_neg (fun z => q z.2), h.2 i]
    by_cases q2 : 60 * sc.toNat ≤ i ∧ i < 60 * sc.toNat + (k - 2).toNat
    · rw [if_pos q2, if_pos (by omega)]
    · rw [if_neg q2, if_neg (by omega)]
theorem WFM_new {mA mB M : Mem} {sc n : Int} {z z2 : Int32} (hW : WFM mA) (hT : WFT mA) (hS : NSx mA sc 8) (hsk : skN (tf mA) n.toNat = some []) (hnp : ∀ k, k < n.toNat → 65 ≤ tf mA k → tf mA k ≤ 72 → 0 < tel mA (tf mA k - 65).toNat ∧ tf mA k - 65 ≠ sc) (hB : mB = ui (ui (ui mA 47 23 z) 63 sc.toNat z) 62 sc.toNat z2) (hz : z.toInt = (mA.1 47 23).toInt + 1) (hz0 : 0 ≤ (mA.1 47 23).toInt) (hz2 : z2.toInt = n) (hn : 0 ≤ n ∧ n ≤ 58) (hs : 0 ≤ sc ∧ sc ≤ 7) (I : Iv TM mA) (hc : CP mB M sc (n + 2)) : WFM M ∧ WFT M ∧ (M.1 47 20).toInt = (mA.1 47 20).toInt ∧ (M.1 47 23).toInt = (mA.1 47 23).toInt + 1 := by
  have t61 : ∀ i, M.1 61 i = if 60 * sc.toNat ≤ i ∧ i < 60 * sc.toNat + n.toNat then mA.1 60 (i - 60 * sc.toNat + 2) else mA.1 61 i := by
    intro i
    rw [hc.2 i, hB, show (n + 2 - 2).toNat = n.toNat by omega, ui_nk (by decide), ui_nk (by decide), ui_nk (by decide), ui_nk (by decide), ui_nk (by decide), ui_nk (by decide)]
  have t62 : ∀ x, M.1 62 x = if x = sc.toNat then z2 else mA.1 62 x := by
    intro x
    rw [hc.1 62 x (by decide), hB]
    by_cases q : x = sc.toNat
    · rw [if_pos q, q, ui_eq]
    · rw [if_neg q, ui_nj q, ui_nk (by decide), ui_nk (by decide)]
  have t63 : ∀ x, M.1 63 x = if x = sc.toNat then z else mA.1 63 x := by
    intro x
    rw [hc.1 63 x (by decide), hB, ui_nk (by decide)]
    by_cases q : x = sc.toNat
    · rw [if_pos q, q, ui_eq]
    · rw [if_neg q, ui_nj q, ui_nk (by decide)]
  have t47 : (M.1 47 23).toInt = (mA.1 47 23).toInt + 1 := by rw [hc.1 47 23 (by decide), hB, ui_nk (by decide), ui_nk (by decide), ui_eq, hz]
  have tn : ∀ x, x ≠ sc.toNat → tel M x = tel mA x := fun x q => by show (M.1 63 x).toInt = _; rw [t63, if_neg q]; rfl
  have ts : tel M sc.toNat = (mA.1 47 23).toInt + 1 := by show (M.1 63 _).toInt = _; rw [t63, if_pos rfl, hz]
  have xs : ∀ k, k < n.toNat → txt M sc.toNat k = tf mA k := by
    intro k hk
    show (M.1 61 (60 * sc.toNat + k)).toInt = (mA.1 60 (k + 2)).toInt
    rw [t61, if_pos (by omega), show 60 * sc.toNat + k - 60 * sc.toNat + 2 = k + 2 by omega]
  have xn : ∀ x, x < 8 → x ≠ sc.toNat → ∀ k, k < (tsz mA x).toNat → txt M x k = txt mA x k := by
    intro x hx q k hk
    have h58 := (ig_62 I x hx).2
    have h58' : tsz mA x ≤ 58 := h58
    show (M.1 61 (60 * x + k)).toInt = _
    rw [t61, if_neg (by omega)]
    rfl
  refine ⟨fun x hx ht => ?_, fun x hx => ?_, ?_, t47⟩
  · by_cases q : x = sc.toNat
    · subst q
      have es : tsz M sc.toNat = n := by show (M.1 62 _).toInt = n; rw [t62, if_pos rfl, hz2]
      rw [es]
      refine ⟨by rw [skN_congr n.toNat xs]; exact hsk, fun k hk a1 a2 => ?_⟩
      rw [xs k hk] at a1 a2 ⊢
      obtain ⟨b1, b2⟩ := hnp k hk a1 a2
      have hne : (tf mA k - 65).toNat ≠ sc.toNat := by omega
      rw [tn _ hne, ts]
      have := hT (tf mA k - 65).toNat (by omega)
      exact ⟨b1, by omega⟩
    · have es : tsz M x = tsz mA x := by show (M.1 62 x).toInt = _; rw [t62, if_neg q]; rfl
      rw [tn x q] at ht
      obtain ⟨w1, w2⟩ := hW x hx ht
      rw [es, tn x q]
      refine ⟨by rw [skN_congr _ (xn x hx q)]; exact w1, fun k hk a1 a2 => ?_⟩
      rw [xn x hx q k hk] at a1 a2 ⊢
      have hne : (txt mA x k - 65).toNat ≠ sc.toNat := by
        have := hS x hx ht k hk
        omega
      rw [tn _ hne]
      exact w2 k hk a1 a2
  · rw [t47]
    by_cases q : x = sc.toNat
    · rw [q, ts]; omega
    · rw [tn x q]; have := hT x hx; omega
  · rw [hc.1 47 20 (by decide), hB, ui_nk (by decide), ui_nk (by decide), ui_nj (by decide)]
end
