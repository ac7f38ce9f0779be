section
variable {Γ : LC} {base b N : Nat} {xs : Nat → Int32}

theorem LI_more {n : Nat} {M : Mem} (h : LJ2 n M) : LJ2 (n + 1) M := ⟨⟨⟨h.1.1.1, h.1.1.2.1, h.1.1.2.2.1, h.1.1.2.2.2.1, by have := h.1.1.2.2.2.2; omega⟩, h.1.2⟩, h.2⟩
theorem lw_end (X : gLX Γ base b N xs) {y : Int32} {M : Mem} : GL Γ M 1451 (LL b base y) [] := by
  refine l_iconst X 1 dL_law_1451 (by decide) ?_
  exact l_end X dL_law_1452
set_option maxHeartbeats 4000000 in
theorem lw_loop (X : gLX Γ base b N xs) (hN : N ≤ 3072) : ∀ (r n : Nat), N ≤ 6 * (n + r) → n ≤ 512 → ∀ (y : Int32) (M : Mem), y.toInt = (6 * n : Nat) → LJ2 n M → GL Γ M 18 (LL b base y) [] := by
  intro r
  induction r with
  | zero =>
    intro n hr hn y M hy h
    refine l_iload X 3 rfl dL_law_18 ?_
    refine l_aload X 0 rfl dL_law_19 ?_
    refine l_slen X dL_law_20 ?_
    refine l_bipush X 6 dL_law_21 (by decide) ?_
    refine l_isub X dL_law_23 (fun v ev => ?_)
    have tv : v.toInt = (N : Int) - 6 := sub_nw ev (show (Int32.ofNat N).toInt = (N : Int) from nI_toInt (by omega)) (show (6 : Int32).toInt = 6 by decide) (by omega)
    refine l_gt X hy tv (tgt := 1451) dL_law_24 (by decide) (fun _ => lw_end X) (fun c => ?_)
    omega
  | succ r ih =>
    intro n hr hn y M hy h
    refine l_iload X 3 rfl dL_law_18 ?_
    refine l_aload X 0 rfl dL_law_19 ?_
    refine l_slen X dL_law_20 ?_
    refine l_bipush X 6 dL_law_21 (by decide) ?_
    refine l_isub X dL_law_23 (fun v ev => ?_)
    have tv : v.toInt = (N : Int) - 6 := sub_nw ev (show (Int32.ofNat N).toInt = (N : Int) from nI_toInt (by omega)) (show (6 : Int32).toInt = 6 by decide) (by omega)
    refine l_gt X hy tv (tgt := 1451) dL_law_24 (by decide) (fun _ => lw_end X) (fun c => ?_)
    have hi : 6 * n + 6 ≤ N := by omega
    refine l_aload X 0 rfl dL_law_27 ?_
    refine l_iload X 3 rfl dL_law_28 ?_
    refine l_sld X hy (by omega) dL_law_29 ?_
    refine l_bipush X 31 dL_law_30 (by decide) ?_
    refine l_iand X dL_law_32 (fun z ez => ?_)
    have hz := land31 ez
    have kk : ∀ M', LJ2 (n + 1) M' → GL Γ M' 1445 (LL b base y) [] := by
      intro M' h'
      refine l_iinc X 3 (fun v => [(3, .int v), (0, .ref b), (1, .ref (base + 0)), (2, .ref (base + 47))]) dL_law_1445 rfl (by decide) (fun _ => rfl) (fun v ev => ?_)
      have tv : v.toInt = ((6 * n : Nat) : Int) + 6 := add_nw ev hy (show (Int32.ofInt 6).toInt = 6 by decide) (by omega)
      refine l_goto X (tgt := 18) dL_law_1448 (by decide) ?_
      refine l_sub X [1, 2, 3, 0] rfl ?_
      exact ih (n + 1) (by omega) (by omega) v M' (by omega) h'
    have hc : z.toInt = 0 ∨ z.toInt = 1 ∨ z.toInt = 2 ∨ z.toInt = 3 ∨ z.toInt = 4 ∨ z.toInt = 5 ∨ z.toInt = 6 ∨ z.toInt = 7 ∨ z.toInt = 8 ∨ z.toInt = 9 ∨ z.toInt = 10 ∨ z.toInt = 11 ∨ z.toInt = 12 ∨ z.toInt = 13 ∨ z.toInt = 14 ∨ z.toInt = 15 ∨ z.toInt = 16 ∨ z.toInt = 17 ∨ z.toInt = 18 ∨ z.toInt = 19 ∨ z.toInt = 20 ∨ z.toInt = 21 ∨ z.toInt = 22 ∨ z.toInt = 23 ∨ z.toInt = 24 ∨ z.toInt = 25 ∨ z.toInt = 26 ∨ z.toInt = 27 ∨ z.toInt = 28 ∨ z.toInt = 29 ∨ z.toInt = 30 ∨ z.toInt = 31 := by omega
    rcases hc with hc | hc | hc | hc | hc | hc | hc | hc | hc | hc | hc | hc | hc | hc | hc | hc | hc | hc | hc | hc | hc | hc | hc | hc | hc | hc | hc | hc | hc | hc | hc | hc
    · exact l_tabIn X (tgt := 172) dL_law_33 hc (by decide) (by decide) rfl (by decide) (cs_half X hy hi hN hn h kk)
    · exact l_tabIn X (tgt := 215) dL_law_33 hc (by decide) (by decide) rfl (by decide) (cs_name X hy hi hN hn h kk)
    · exact l_tabIn X (tgt := 258) dL_law_33 hc (by decide) (by decide) rfl (by decide) (cs_line X hy hi hN hn h kk)
    · exact l_tabIn X (tgt := 321) dL_law_33 hc (by decide) (by decide) rfl (by decide) (cs_metre X hy hi hN hn h kk)
    · exact l_tabIn X (tgt := 354) dL_law_33 hc (by decide) (by decide) rfl (by decide) (cs_told X hy hi hN hn h kk)
    · exact l_tabIn X (tgt := 387) dL_law_33 hc (by decide) (by decide) rfl (by decide) (cs_swap X hy hi hN hn h kk)
    · exact l_tabIn X (tgt := 420) dL_law_33 hc (by decide) (by decide) rfl (by decide) (cs_broken X hy hi hN hn h kk)
    · exact l_tabIn X (tgt := 443) dL_law_33 hc (by decide) (by decide) rfl (by decide) (cs_feed X hy hi hN hn h kk)
    · exact l_tabIn X (tgt := 506) dL_law_33 hc (by decide) (by decide) rfl (by decide) (cs_scene X hy hi hN hn h kk)
    · exact l_tabIn X (tgt := 519) dL_law_33 hc (by decide) (by decide) rfl (by decide) (cs_hall X hy hi hN hn h kk)
    · exact l_tabIn X (tgt := 542) dL_law_33 hc (by decide) (by decide) rfl (by decide) (cs_sing X hy hi hN hn h kk)
    · exact l_tabIn X (tgt := 625) dL_law_33 hc (by decide) (by decide) rfl (by decide) (cs_sung X hy hi hN hn h kk)
    · exact l_tabIn X (tgt := 648) dL_law_33 hc (by decide) (by decide) rfl (by decide) (cs_singer X hy hi hN hn h kk)
    · exact l_tabIn X (tgt := 671) dL_law_33 hc (by decide) (by decide) rfl (by decide) (cs_village X hy hi hN hn h kk)
    · exact l_tabIn X (tgt := 704) dL_law_33 hc (by decide) (by decide) rfl (by decide) (cs_learn X hy hi hN hn h kk)
    · exact l_tabIn X (tgt := 757) dL_law_33 hc (by decide) (by decide) rfl (by decide) (cs_forget X hy hi hN hn h kk)
    · exact l_tabIn X (tgt := 800) dL_law_33 hc (by decide) (by decide) rfl (by decide) (cs_has X hy hi hN hn h kk)
    · exact l_tabIn X (tgt := 853) dL_law_33 hc (by decide) (by decide) rfl (by decide) (cs_stock X hy hi hN hn h kk)
    · exact l_tabIn X (tgt := 896) dL_law_33 hc (by decide) (by decide) rfl (by decide) (cs_unlike X hy hi hN hn h kk)
    · exact l_tabIn X (tgt := 949) dL_law_33 hc (by decide) (by decide) rfl (by decide) (cs_master X hy hi hN hn h kk)
    · exact l_tabIn X (tgt := 992) dL_law_33 hc (by decide) (by decide) rfl (by decide) (cs_lineage X hy hi hN hn h kk)
    · exact l_tabIn X (tgt := 1025) dL_law_33 hc (by decide) (by decide) rfl (by decide) (cs_loan X hy hi hN hn h kk)
    · exact l_tabIn X (tgt := 1078) dL_law_33 hc (by decide) (by decide) rfl (by decide) (cs_core X hy hi hN hn h kk)
    · exact l_tabIn X (tgt := 1121) dL_law_33 hc (by decide) (by decide) rfl (by decide) (cs_whose X hy hi hN hn h kk)
    · exact l_tabIn X (tgt := 1164) dL_law_33 hc (by decide) (by decide) rfl (by decide) (cs_put X hy hi hN hn h kk)
    · exact l_tabIn X (tgt := 1197) dL_law_33 hc (by decide) (by decide) rfl (by decide) (cs_runs X hy hi hN hn h kk)
    · exact l_tabIn X (tgt := 1250) dL_law_33 hc (by decide) (by decide) rfl (by decide) (cs_forged X hy hi hN hn h kk)
    · exact l_tabIn X (tgt := 1293) dL_law_33 hc (by decide) (by decide) rfl (by decide) (cs_record X hy hi hN hn h kk)
    · exact l_tabIn X (tgt := 1336) dL_law_33 hc (by decide) (by decide) rfl (by decide) (cs_heard X hy hi hN hn h kk)
    · exact l_tabIn X (tgt := 1379) dL_law_33 hc (by decide) (by decide) rfl (by decide) (cs_filled X hy hi hN hn h kk)
    · exact l_tabIn X (tgt := 1422) dL_law_33 hc (by decide) (by decide) rfl (by decide) (cs_count X hy hi hN hn h kk)
    · exact l_tabOut X (tgt := 1445) dL_law_33 hc (Or.inr (by decide)) (by decide) (kk M (LI_more h))
end
