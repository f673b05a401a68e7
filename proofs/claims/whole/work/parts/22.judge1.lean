/-! the judge's methods as functions of the heap -/
def jw_G (O : jc_O) : Prop := O (2, 0, 0) 0 = some (1, 0, 0) ∧ O (2, 0, 0) 1 = some (25, 0, 0) ∧ O (2, 0, 0) 2 = some (26, 0, 0) ∧ O (2, 0, 0) 3 = some (27, 0, 0) ∧ O (2, 0, 0) 4 = some (28, 0, 0)
def jw_C (O : jc_O) (c : Nat) : Prop := O (6, c, 0) 3 = some (20, c, 0) ∧ O (6, c, 0) 4 = some (21, c, 0) ∧ O (6, c, 0) 5 = some (22, c, 0) ∧ O (6, c, 0) 6 = some (23, c, 0)
/-- counts of a code within their bounds -/
def jw_n (I : jc_I) (c : Nat) : Prop := 0 ≤ I (6, c, 0) 7 ∧ I (6, c, 0) 7 ≤ 8 ∧ 0 ≤ I (6, c, 0) 8 ∧ I (6, c, 0) 8 ≤ 60 ∧ 0 ≤ I (6, c, 0) 9 ∧ I (6, c, 0) 9 ≤ 20
def g_dem (I : jc_I) (b : Int32) : jc_I := jc_up I (2, 0, 0) 7 (if I (2, 0, 0) 7 ≠ 0 ∧ b ≠ 0 then 1 else 0)
def g_top (I : jc_I) : Int32 := if 1 ≤ I (2, 0, 0) 6 ∧ I (2, 0, 0) 6 ≤ 12 then I (26, 0, 0) (I (2, 0, 0) 6 - 1).toNatClampNeg else 0
def g_give (I : jc_I) (k : Int32) : jc_I := if k = 0 ∨ I (2, 0, 0) 6 < 0 ∨ 12 ≤ I (2, 0, 0) 6 then g_dem I 0 else jc_up (jc_up I (26, 0, 0) (I (2, 0, 0) 6).toNatClampNeg k) (2, 0, 0) 6 (I (2, 0, 0) 6 + 1)
def g_take (I : jc_I) (k : Int32) : jc_I := if k = 0 ∨ g_top I ≠ k then g_dem I 0 else jc_up I (2, 0, 0) 6 (I (2, 0, 0) 6 - 1)
def g_mk (I : jc_I) (p : Int32) : Int32 := if 0 ≤ p ∧ p ≤ 60 then I (25, 0, 0) p.toNatClampNeg else 0
def g_mark (I : jc_I) (p a : Int32) : jc_I := if 0 ≤ p ∧ p ≤ 60 then jc_up I (25, 0, 0) p.toNatClampNeg (if I (25, 0, 0) p.toNatClampNeg < a then a else I (25, 0, 0) p.toNatClampNeg) else I
def g_leave (I : jc_I) (p : Int32) : jc_I := g_dem I (if I (2, 0, 0) 6 = 0 ∧ g_mk I p ≠ 2 then 1 else 0)
def g_arr (I : jc_I) (p : Int32) (b : Int32) : jc_I := if b ≠ 0 then g_dem I (if g_mk I p = 0 ∨ (g_mk I p = 1 ∧ I (2, 0, 0) 6 = 0) then 1 else 0) else if g_mk I p = 2 then g_give (jc_up (g_dem I (if g_mk I p ≠ 0 then 1 else 0)) (2, 0, 0) 6 0) 2 else jc_up (g_dem I (if g_mk I p ≠ 0 then 1 else 0)) (2, 0, 0) 6 0
def g_use (I : jc_I) (op : Int32) : jc_I := (fun J => if op = 15 ∨ op = 16 then g_give J 1 else if op = 23 then g_give J 2 else J) (g_take (if op = 17 then g_take I 1 else if op = 24 then g_take I 2 else I) 2)
def g_lk (I : jc_I) (c : Nat) (i : Int32) : Int32 := if 0 ≤ i ∧ i < I (6, c, 0) 7 then I (20, c, 0) i.toNatClampNeg else 0
def g_ret (I : jc_I) (c : Nat) : jc_I := (fun J => g_dem J (if J (2, 0, 0) 6 = 0 then 1 else 0)) (if I (6, c, 0) 2 ≠ 0 then g_take I (I (6, c, 0) 2) else I)
theorem ct_G_demand {I : jc_I} {O : jc_O} {live : jc_L → Prop} {b : Int32}  : jc_Ct y_G_demand [.inr (some (2, 0, 0)), .inl b] I O live (none, g_dem I b, O, live, 0, 0) := by
  refine jc_Ct.of (by decide +kernel) (rfl) (Nat.le_of_ble_eq_true rfl) ?_
  refine jr_aload_n d_G_demand_0 rfl rfl ?_
  refine jr_aload_n d_G_demand_1 rfl rfl ?_
  refine jr_getz d_G_demand_2 f_G_57 rfl ?_
  refine jr_if_eq (tgt := 16) d_G_demand_5 (by decide) (fun c5 => ?_) (fun c5 => ?_)
  · skip
    refine jr_iconst (v := 0) d_G_demand_16 (by decide) ?_
    refine jr_putz d_G_demand_17 f_G_57 (Or.inl rfl) rfl (by grind) ?_
    exact jr_retX (v := none) d_G_demand_20 (by first | exact Nat.le_refl _ | exact Nat.zero_le _ | (dsimp only; omega)) (by first | exact Nat.le_refl _ | exact Nat.zero_le _ | (dsimp only; omega)) (by first | with_reducible rfl | (dsimp only; (unfold g_dem; first | (rw [if_pos (by grind)]) | (rw [if_neg (by grind)])); done) | (exfalso; grind)) (by first | with_reducible rfl | (dsimp only; (unfold g_dem; first | (rw [if_pos (by grind)]) | (rw [if_neg (by grind)])); done) | (exfalso; grind)) (by first | with_reducible rfl | (dsimp only; (unfold g_dem; first | (rw [if_pos (by grind)]) | (rw [if_neg (by grind)])); done) | (exfalso; grind)) (by first | with_reducible rfl | (dsimp only; (unfold g_dem; first | (rw [if_pos (by grind)]) | (rw [if_neg (by grind)])); done) | (exfalso; grind))
  · skip
    refine jr_iload_n d_G_demand_8 rfl rfl ?_
    refine jr_if_eq (tgt := 16) d_G_demand_9 (by decide) (fun c9 => ?_) (fun c9 => ?_)
    · skip
      refine jr_iconst (v := 0) d_G_demand_16 (by decide) ?_
      refine jr_putz d_G_demand_17 f_G_57 (Or.inl rfl) rfl (by grind) ?_
      exact jr_retX (v := none) d_G_demand_20 (by first | exact Nat.le_refl _ | exact Nat.zero_le _ | (dsimp only; omega)) (by first | exact Nat.le_refl _ | exact Nat.zero_le _ | (dsimp only; omega)) (by first | with_reducible rfl | (dsimp only; (unfold g_dem; first | (rw [if_pos (by grind)]) | (rw [if_neg (by grind)])); done) | (exfalso; grind)) (by first | with_reducible rfl | (dsimp only; (unfold g_dem; first | (rw [if_pos (by grind)]) | (rw [if_neg (by grind)])); done) | (exfalso; grind)) (by first | with_reducible rfl | (dsimp only; (unfold g_dem; first | (rw [if_pos (by grind)]) | (rw [if_neg (by grind)])); done) | (exfalso; grind)) (by first | with_reducible rfl | (dsimp only; (unfold g_dem; first | (rw [if_pos (by grind)]) | (rw [if_neg (by grind)])); done) | (exfalso; grind))
    · skip
      refine jr_iconst (v := 1) d_G_demand_12 (by decide) ?_
      refine jr_goto (tgt := 17) d_G_demand_13 (by decide) ?_
      refine jr_putz d_G_demand_17 f_G_57 (Or.inl rfl) rfl (by grind) ?_
      exact jr_retX (v := none) d_G_demand_20 (by first | exact Nat.le_refl _ | exact Nat.zero_le _ | (dsimp only; omega)) (by first | exact Nat.le_refl _ | exact Nat.zero_le _ | (dsimp only; omega)) (by first | with_reducible rfl | (dsimp only; (unfold g_dem; first | (rw [if_pos (by grind)]) | (rw [if_neg (by grind)])); done) | (exfalso; grind)) (by first | with_reducible rfl | (dsimp only; (unfold g_dem; first | (rw [if_pos (by grind)]) | (rw [if_neg (by grind)])); done) | (exfalso; grind)) (by first | with_reducible rfl | (dsimp only; (unfold g_dem; first | (rw [if_pos (by grind)]) | (rw [if_neg (by grind)])); done) | (exfalso; grind)) (by first | with_reducible rfl | (dsimp only; (unfold g_dem; first | (rw [if_pos (by grind)]) | (rw [if_neg (by grind)])); done) | (exfalso; grind))
theorem ct_G_topKind {I : jc_I} {O : jc_O} {live : jc_L → Prop}  (hG : jw_G O) : jc_Ct y_G_topKind [.inr (some (2, 0, 0))] I O live (some (.inl (g_top I)), I, O, live, 0, 0) := by
  obtain ⟨hG0, hG1, hG2, hG3, hG4⟩ := id hG
  refine jc_Ct.of (by decide +kernel) (Or.inl rfl) (Nat.le_of_ble_eq_true rfl) ?_
  refine jr_aload_n d_G_topKind_0 rfl rfl ?_
  refine jr_geti d_G_topKind_1 f_G_65 rfl ?_
  refine jr_iconst (v := 1) d_G_topKind_4 (by decide) ?_
  refine jr_icmp_lt (tgt := 31) d_G_topKind_5 (by decide) (fun c5 => ?_) (fun c5 => ?_)
  · skip
    refine jr_iconst (v := 0) d_G_topKind_31 (by decide) ?_
    exact jr_retX (v := some _) d_G_topKind_32 (by first | exact Nat.le_refl _ | exact Nat.zero_le _ | (dsimp only; omega)) (by first | exact Nat.le_refl _ | exact Nat.zero_le _ | (dsimp only; omega)) (by first | with_reducible rfl | (dsimp only; (unfold g_top; first | (rw [if_pos (by grind)]) | (rw [if_neg (by grind)])); done) | (exfalso; grind)) (by first | with_reducible rfl | (dsimp only; (unfold g_top; first | (rw [if_pos (by grind)]) | (rw [if_neg (by grind)])); done) | (exfalso; grind)) (by first | with_reducible rfl | (dsimp only; (unfold g_top; first | (rw [if_pos (by grind)]) | (rw [if_neg (by grind)])); done) | (exfalso; grind)) (by first | with_reducible rfl | (dsimp only; (unfold g_top; first | (rw [if_pos (by grind)]) | (rw [if_neg (by grind)])); done) | (exfalso; grind))
  · skip
    refine jr_aload_n d_G_topKind_8 rfl rfl ?_
    refine jr_geti d_G_topKind_9 f_G_65 rfl ?_
    refine jr_bipush (v := 12) d_G_topKind_12 (by decide) ?_
    refine jr_icmp_gt (tgt := 31) d_G_topKind_14 (by decide) (fun c14 => ?_) (fun c14 => ?_)
    · skip
      refine jr_iconst (v := 0) d_G_topKind_31 (by decide) ?_
      exact jr_retX (v := some _) d_G_topKind_32 (by first | exact Nat.le_refl _ | exact Nat.zero_le _ | (dsimp only; omega)) (by first | exact Nat.le_refl _ | exact Nat.zero_le _ | (dsimp only; omega)) (by first | with_reducible rfl | (dsimp only; (unfold g_top; first | (rw [if_pos (by grind)]) | (rw [if_neg (by grind)])); done) | (exfalso; grind)) (by first | with_reducible rfl | (dsimp only; (unfold g_top; first | (rw [if_pos (by grind)]) | (rw [if_neg (by grind)])); done) | (exfalso; grind)) (by first | with_reducible rfl | (dsimp only; (unfold g_top; first | (rw [if_pos (by grind)]) | (rw [if_neg (by grind)])); done) | (exfalso; grind)) (by first | with_reducible rfl | (dsimp only; (unfold g_top; first | (rw [if_pos (by grind)]) | (rw [if_neg (by grind)])); done) | (exfalso; grind))
    · skip
      refine jr_aload_n d_G_topKind_17 rfl rfl ?_
      refine jr_getr d_G_topKind_18 f_G_15 rfl rfl ?_
      first | rw [hG0] | rw [hG1] | rw [hG2] | rw [hG3] | rw [hG4] | skip
      refine jr_aload_n d_G_topKind_21 rfl rfl ?_
      refine jr_geti d_G_topKind_22 f_G_65 rfl ?_
      refine jr_iconst (v := 1) d_G_topKind_25 (by decide) ?_
      refine jr_isub d_G_topKind_26 ?_
      refine jr_iald d_G_topKind_27 rfl rfl rfl (jin (m := 12) (by decide) (by grind) (by grind)) ?_
      refine jr_goto (tgt := 32) d_G_topKind_28 (by decide) ?_
      exact jr_retX (v := some _) d_G_topKind_32 (by first | exact Nat.le_refl _ | exact Nat.zero_le _ | (dsimp only; omega)) (by first | exact Nat.le_refl _ | exact Nat.zero_le _ | (dsimp only; omega)) (by first | with_reducible rfl | (dsimp only; (unfold g_top; first | (rw [if_pos (by grind)]) | (rw [if_neg (by grind)])); done) | (exfalso; grind)) (by first | with_reducible rfl | (dsimp only; (unfold g_top; first | (rw [if_pos (by grind)]) | (rw [if_neg (by grind)])); done) | (exfalso; grind)) (by first | with_reducible rfl | (dsimp only; (unfold g_top; first | (rw [if_pos (by grind)]) | (rw [if_neg (by grind)])); done) | (exfalso; grind)) (by first | with_reducible rfl | (dsimp only; (unfold g_top; first | (rw [if_pos (by grind)]) | (rw [if_neg (by grind)])); done) | (exfalso; grind))
theorem ct_G_markAt {I : jc_I} {O : jc_O} {live : jc_L → Prop} {p : Int32} (hG : jw_G O) : jc_Ct y_G_markAt [.inr (some (2, 0, 0)), .inl p] I O live (some (.inl (g_mk I p)), I, O, live, 0, 0) := by
  obtain ⟨hG0, hG1, hG2, hG3, hG4⟩ := id hG
  refine jc_Ct.of (by decide +kernel) (Or.inl rfl) (Nat.le_of_ble_eq_true rfl) ?_
  refine jr_iload_n d_G_markAt_0 rfl rfl ?_
  refine jr_if_lt (tgt := 19) d_G_markAt_1 (by decide) (fun c1 => ?_) (fun c1 => ?_)
  · skip
    refine jr_iconst (v := 0) d_G_markAt_19 (by decide) ?_
    exact jr_retX (v := some _) d_G_markAt_20 (by first | exact Nat.le_refl _ | exact Nat.zero_le _ | (dsimp only; omega)) (by first | exact Nat.le_refl _ | exact Nat.zero_le _ | (dsimp only; omega)) (by first | with_reducible rfl | (dsimp only; (unfold g_mk; first | (rw [if_pos (by grind)]) | (rw [if_neg (by grind)])); done) | (exfalso; grind)) (by first | with_reducible rfl | (dsimp only; (unfold g_mk; first | (rw [if_pos (by grind)]) | (rw [if_neg (by grind)])); done) | (exfalso; grind)) (by first | with_reducible rfl | (dsimp only; (unfold g_mk; first | (rw [if_pos (by grind)]) | (rw [if_neg (by grind)])); done) | (exfalso; grind)) (by first | with_reducible rfl | (dsimp only; (unfold g_mk; first | (rw [if_pos (by grind)]) | (rw [if_neg (by grind)])); done) | (exfalso; grind))
  · skip
    refine jr_iload_n d_G_markAt_4 rfl rfl ?_
    refine jr_bipush (v := 60) d_G_markAt_5 (by decide) ?_
    refine jr_icmp_gt (tgt := 19) d_G_markAt_7 (by decide) (fun c7 => ?_) (fun c7 => ?_)
    · skip
      refine jr_iconst (v := 0) d_G_markAt_19 (by decide) ?_
      exact jr_retX (v := some _) d_G_markAt_20 (by first | exact Nat.le_refl _ | exact Nat.zero_le _ | (dsimp only; omega)) (by first | exact Nat.le_refl _ | exact Nat.zero_le _ | (dsimp only; omega)) (by first | with_reducible rfl | (dsimp only; (unfold g_mk; first | (rw [if_pos (by grind)]) | (rw [if_neg (by grind)])); done) | (exfalso; grind)) (by first | with_reducible rfl | (dsimp only; (unfold g_mk; first | (rw [if_pos (by grind)]) | (rw [if_neg (by grind)])); done) | (exfalso; grind)) (by first | with_reducible rfl | (dsimp only; (unfold g_mk; first | (rw [if_pos (by grind)]) | (rw [if_neg (by grind)])); done) | (exfalso; grind)) (by first | with_reducible rfl | (dsimp only; (unfold g_mk; first | (rw [if_pos (by grind)]) | (rw [if_neg (by grind)])); done) | (exfalso; grind))
    · skip
      refine jr_aload_n d_G_markAt_10 rfl rfl ?_
      refine jr_getr d_G_markAt_11 f_G_9 rfl rfl ?_
      first | rw [hG0] | rw [hG1] | rw [hG2] | rw [hG3] | rw [hG4] | skip
      refine jr_iload_n d_G_markAt_14 rfl rfl ?_
      refine jr_iald d_G_markAt_15 rfl rfl rfl (jin (m := 61) (by decide) (by grind) (by grind)) ?_
      refine jr_goto (tgt := 20) d_G_markAt_16 (by decide) ?_
      exact jr_retX (v := some _) d_G_markAt_20 (by first | exact Nat.le_refl _ | exact Nat.zero_le _ | (dsimp only; omega)) (by first | exact Nat.le_refl _ | exact Nat.zero_le _ | (dsimp only; omega)) (by first | with_reducible rfl | (dsimp only; (unfold g_mk; first | (rw [if_pos (by grind)]) | (rw [if_neg (by grind)])); done) | (exfalso; grind)) (by first | with_reducible rfl | (dsimp only; (unfold g_mk; first | (rw [if_pos (by grind)]) | (rw [if_neg (by grind)])); done) | (exfalso; grind)) (by first | with_reducible rfl | (dsimp only; (unfold g_mk; first | (rw [if_pos (by grind)]) | (rw [if_neg (by grind)])); done) | (exfalso; grind)) (by first | with_reducible rfl | (dsimp only; (unfold g_mk; first | (rw [if_pos (by grind)]) | (rw [if_neg (by grind)])); done) | (exfalso; grind))
theorem ct_G_mark {I : jc_I} {O : jc_O} {live : jc_L → Prop} {p a : Int32} (hG : jw_G O) : jc_Ct y_G_mark [.inr (some (2, 0, 0)), .inl p, .inl a] I O live (none, g_mark I p a, O, live, 0, 0) := by
  obtain ⟨hG0, hG1, hG2, hG3, hG4⟩ := id hG
  refine jc_Ct.of (by decide +kernel) (rfl) (Nat.le_of_ble_eq_true rfl) ?_
  refine jr_iload_n d_G_mark_0 rfl rfl ?_
  refine jr_if_lt (tgt := 26) d_G_mark_1 (by decide) (fun c1 => ?_) (fun c1 => ?_)
  · skip
    exact jr_retX (v := none) d_G_mark_26 (by first | exact Nat.le_refl _ | exact Nat.zero_le _ | (dsimp only; omega)) (by first | exact Nat.le_refl _ | exact Nat.zero_le _ | (dsimp only; omega)) (by first | with_reducible rfl | (dsimp only; (unfold g_mark; first | (rw [if_pos (by grind)]) | (rw [if_neg (by grind)])); done) | (exfalso; grind)) (by first | with_reducible rfl | (dsimp only; (unfold g_mark; first | (rw [if_pos (by grind)]) | (rw [if_neg (by grind)])); done) | (exfalso; grind)) (by first | with_reducible rfl | (dsimp only; (unfold g_mark; first | (rw [if_pos (by grind)]) | (rw [if_neg (by grind)])); done) | (exfalso; grind)) (by first | with_reducible rfl | (dsimp only; (unfold g_mark; first | (rw [if_pos (by grind)]) | (rw [if_neg (by grind)])); done) | (exfalso; grind))
  · skip
    refine jr_iload_n d_G_mark_4 rfl rfl ?_
    refine jr_bipush (v := 60) d_G_mark_5 (by decide) ?_
    refine jr_icmp_gt (tgt := 26) d_G_mark_7 (by decide) (fun c7 => ?_) (fun c7 => ?_)
    · skip
      exact jr_retX (v := none) d_G_mark_26 (by first | exact Nat.le_refl _ | exact Nat.zero_le _ | (dsimp only; omega)) (by first | exact Nat.le_refl _ | exact Nat.zero_le _ | (dsimp only; omega)) (by first | with_reducible rfl | (dsimp only; (unfold g_mark; first | (rw [if_pos (by grind)]) | (rw [if_neg (by grind)])); done) | (exfalso; grind)) (by first | with_reducible rfl | (dsimp only; (unfold g_mark; first | (rw [if_pos (by grind)]) | (rw [if_neg (by grind)])); done) | (exfalso; grind)) (by first | with_reducible rfl | (dsimp only; (unfold g_mark; first | (rw [if_pos (by grind)]) | (rw [if_neg (by grind)])); done) | (exfalso; grind)) (by first | with_reducible rfl | (dsimp only; (unfold g_mark; first | (rw [if_pos (by grind)]) | (rw [if_neg (by grind)])); done) | (exfalso; grind))
    · skip
      refine jr_aload_n d_G_mark_10 rfl rfl ?_
      refine jr_getr d_G_mark_11 f_G_9 rfl rfl ?_
      first | rw [hG0] | rw [hG1] | rw [hG2] | rw [hG3] | rw [hG4] | skip
      refine jr_iload_n d_G_mark_14 rfl rfl ?_
      refine jr_aload_n d_G_mark_15 rfl rfl ?_
      refine jr_getr d_G_mark_16 f_G_9 rfl rfl ?_
      first | rw [hG0] | rw [hG1] | rw [hG2] | rw [hG3] | rw [hG4] | skip
      refine jr_iload_n d_G_mark_19 rfl rfl ?_
      refine jr_iald d_G_mark_20 rfl rfl rfl (jin (m := 61) (by decide) (by grind) (by grind)) ?_
      refine jr_iload_n d_G_mark_21 rfl rfl ?_
      refine jr_mmax d_G_mark_22 l_G_128 (Nat.le_of_ble_eq_true rfl) (Nat.le_of_ble_eq_true rfl) (by grind) (by grind) ?_
      refine jr_iast d_G_mark_25 rfl rfl rfl (jin (m := 61) (by decide) (by grind) (by grind)) ?_
      exact jr_retX (v := none) d_G_mark_26 (by first | exact Nat.le_refl _ | exact Nat.zero_le _ | (dsimp only; omega)) (by first | exact Nat.le_refl _ | exact Nat.zero_le _ | (dsimp only; omega)) (by first | with_reducible rfl | (dsimp only; (unfold g_mark; first | (rw [if_pos (by grind)]) | (rw [if_neg (by grind)])); done) | (exfalso; grind)) (by first | with_reducible rfl | (dsimp only; (unfold g_mark; first | (rw [if_pos (by grind)]) | (rw [if_neg (by grind)])); done) | (exfalso; grind)) (by first | with_reducible rfl | (dsimp only; (unfold g_mark; first | (rw [if_pos (by grind)]) | (rw [if_neg (by grind)])); done) | (exfalso; grind)) (by first | with_reducible rfl | (dsimp only; (unfold g_mark; first | (rw [if_pos (by grind)]) | (rw [if_neg (by grind)])); done) | (exfalso; grind))
theorem ct_G_give {I : jc_I} {O : jc_O} {live : jc_L → Prop} {k : Int32} (hG : jw_G O) : jc_Ct y_G_give [.inr (some (2, 0, 0)), .inl k] I O live (none, g_give I k, O, live, 0, 0) := by
  obtain ⟨hG0, hG1, hG2, hG3, hG4⟩ := id hG
  refine jc_Ct.of (by decide +kernel) (rfl) (Nat.le_of_ble_eq_true rfl) ?_
  refine jr_iload_n d_G_give_0 rfl rfl ?_
  refine jr_if_eq (tgt := 20) d_G_give_1 (by decide) (fun c1 => ?_) (fun c1 => ?_)
  · skip
    refine jr_aload_n d_G_give_20 rfl rfl ?_
    refine jr_iconst (v := 0) d_G_give_21 (by decide) ?_
    refine jv_V1v d_G_give_22 l_G_137 k_G_demand ⟨Nat.le_of_ble_eq_true rfl, Nat.le_of_ble_eq_true rfl⟩ rfl rfl (Nat.le_of_ble_eq_true rfl) (ct_G_demand) (by grind) (by grind) ?_
    exact jr_retX (v := none) d_G_give_25 (by first | exact Nat.le_refl _ | exact Nat.zero_le _ | (dsimp only; omega)) (by first | exact Nat.le_refl _ | exact Nat.zero_le _ | (dsimp only; omega)) (by first | with_reducible rfl | (dsimp only; (unfold g_give; first | (rw [if_pos (by grind)]) | (rw [if_neg (by grind)])); done) | (exfalso; grind)) (by first | with_reducible rfl | (dsimp only; (unfold g_give; first | (rw [if_pos (by grind)]) | (rw [if_neg (by grind)])); done) | (exfalso; grind)) (by first | with_reducible rfl | (dsimp only; (unfold g_give; first | (rw [if_pos (by grind)]) | (rw [if_neg (by grind)])); done) | (exfalso; grind)) (by first | with_reducible rfl | (dsimp only; (unfold g_give; first | (rw [if_pos (by grind)]) | (rw [if_neg (by grind)])); done) | (exfalso; grind))
  · skip
    refine jr_aload_n d_G_give_4 rfl rfl ?_
    refine jr_geti d_G_give_5 f_G_65 rfl ?_
    refine jr_if_lt (tgt := 20) d_G_give_8 (by decide) (fun c8 => ?_) (fun c8 => ?_)
    · skip
      refine jr_aload_n d_G_give_20 rfl rfl ?_
      refine jr_iconst (v := 0) d_G_give_21 (by decide) ?_
      refine jv_V1v d_G_give_22 l_G_137 k_G_demand ⟨Nat.le_of_ble_eq_true rfl, Nat.le_of_ble_eq_true rfl⟩ rfl rfl (Nat.le_of_ble_eq_true rfl) (ct_G_demand) (by grind) (by grind) ?_
      exact jr_retX (v := none) d_G_give_25 (by first | exact Nat.le_refl _ | exact Nat.zero_le _ | (dsimp only; omega)) (by first | exact Nat.le_refl _ | exact Nat.zero_le _ | (dsimp only; omega)) (by first | with_reducible rfl | (dsimp only; (unfold g_give; first | (rw [if_pos (by grind)]) | (rw [if_neg (by grind)])); done) | (exfalso; grind)) (by first | with_reducible rfl | (dsimp only; (unfold g_give; first | (rw [if_pos (by grind)]) | (rw [if_neg (by grind)])); done) | (exfalso; grind)) (by first | with_reducible rfl | (dsimp only; (unfold g_give; first | (rw [if_pos (by grind)]) | (rw [if_neg (by grind)])); done) | (exfalso; grind)) (by first | with_reducible rfl | (dsimp only; (unfold g_give; first | (rw [if_pos (by grind)]) | (rw [if_neg (by grind)])); done) | (exfalso; grind))
    · skip
      refine jr_aload_n d_G_give_11 rfl rfl ?_
      refine jr_geti d_G_give_12 f_G_65 rfl ?_
      refine jr_bipush (v := 12) d_G_give_15 (by decide) ?_
      refine jr_icmp_lt (tgt := 26) d_G_give_17 (by decide) (fun c17 => ?_) (fun c17 => ?_)
      · skip
        refine jr_aload_n d_G_give_26 rfl rfl ?_
        refine jr_getr d_G_give_27 f_G_15 rfl rfl ?_
        first | rw [hG0] | rw [hG1] | rw [hG2] | rw [hG3] | rw [hG4] | skip
        refine jr_aload_n d_G_give_30 rfl rfl ?_
        refine jr_geti d_G_give_31 f_G_65 rfl ?_
        refine jr_iload_n d_G_give_34 rfl rfl ?_
        refine jr_iast d_G_give_35 rfl rfl rfl (jin (m := 12) (by decide) (by grind) (by grind)) ?_
        refine jr_aload_n d_G_give_36 rfl rfl ?_
        refine jr_dup d_G_give_37 ?_
        refine jr_geti d_G_give_38 f_G_65 rfl ?_
        try simp only [jc_up_s, jc_up_k, jc_up_t, jc_cl_s, jc_cl_t, ne_eq, Nat.reduceEqDiff, not_false_eq_true, Nat.reduceAdd]
        refine jr_iconst (v := 1) d_G_give_41 (by decide) ?_
        refine jr_iadd d_G_give_42 ?_
        refine jr_puti d_G_give_43 f_G_65 (Or.inl rfl) rfl ?_
        exact jr_retX (v := none) d_G_give_46 (by first | exact Nat.le_refl _ | exact Nat.zero_le _ | (dsimp only; omega)) (by first | exact Nat.le_refl _ | exact Nat.zero_le _ | (dsimp only; omega)) (by first | with_reducible rfl | (dsimp only; (unfold g_give; first | (rw [if_pos (by grind)]) | (rw [if_neg (by grind)])); done) | (exfalso; grind)) (by first | with_reducible rfl | (dsimp only; (unfold g_give; first | (rw [if_pos (by grind)]) | (rw [if_neg (by grind)])); done) | (exfalso; grind)) (by first | with_reducible rfl | (dsimp only; (unfold g_give; first | (rw [if_pos (by grind)]) | (rw [if_neg (by grind)])); done) | (exfalso; grind)) (by first | with_reducible rfl | (dsimp only; (unfold g_give; first | (rw [if_pos (by grind)]) | (rw [if_neg (by grind)])); done) | (exfalso; grind))
      · skip
        refine jr_aload_n d_G_give_20 rfl rfl ?_
        refine jr_iconst (v := 0) d_G_give_21 (by decide) ?_
        refine jv_V1v d_G_give_22 l_G_137 k_G_demand ⟨Nat.le_of_ble_eq_true rfl, Nat.le_of_ble_eq_true rfl⟩ rfl rfl (Nat.le_of_ble_eq_true rfl) (ct_G_demand) (by grind) (by grind) ?_
        exact jr_retX (v := none) d_G_give_25 (by first | exact Nat.le_refl _ | exact Nat.zero_le _ | (dsimp only; omega)) (by first | exact Nat.le_refl _ | exact Nat.zero_le _ | (dsimp only; omega)) (by first | with_reducible rfl | (dsimp only; (unfold g_give; first | (rw [if_pos (by grind)]) | (rw [if_neg (by grind)])); done) | (exfalso; grind)) (by first | with_reducible rfl | (dsimp only; (unfold g_give; first | (rw [if_pos (by grind)]) | (rw [if_neg (by grind)])); done) | (exfalso; grind)) (by first | with_reducible rfl | (dsimp only; (unfold g_give; first | (rw [if_pos (by grind)]) | (rw [if_neg (by grind)])); done) | (exfalso; grind)) (by first | with_reducible rfl | (dsimp only; (unfold g_give; first | (rw [if_pos (by grind)]) | (rw [if_neg (by grind)])); done) | (exfalso; grind))
theorem ct_G_take {I : jc_I} {O : jc_O} {live : jc_L → Prop} {k : Int32} (hG : jw_G O) : jc_Ct y_G_take [.inr (some (2, 0, 0)), .inl k] I O live (none, g_take I k, O, live, 0, 0) := by
  obtain ⟨hG0, hG1, hG2, hG3, hG4⟩ := id hG
  refine jc_Ct.of (by decide +kernel) (rfl) (Nat.le_of_ble_eq_true rfl) ?_
  refine jr_iload_n d_G_take_0 rfl rfl ?_
  refine jr_if_eq (tgt := 12) d_G_take_1 (by decide) (fun c1 => ?_) (fun c1 => ?_)
  · skip
    refine jr_aload_n d_G_take_12 rfl rfl ?_
    refine jr_iconst (v := 0) d_G_take_13 (by decide) ?_
    refine jv_V1v d_G_take_14 l_G_137 k_G_demand ⟨Nat.le_of_ble_eq_true rfl, Nat.le_of_ble_eq_true rfl⟩ rfl rfl (Nat.le_of_ble_eq_true rfl) (ct_G_demand) (by grind) (by grind) ?_
    exact jr_retX (v := none) d_G_take_17 (by first | exact Nat.le_refl _ | exact Nat.zero_le _ | (dsimp only; omega)) (by first | exact Nat.le_refl _ | exact Nat.zero_le _ | (dsimp only; omega)) (by first | with_reducible rfl | (dsimp only; (unfold g_take; first | (rw [if_pos (by grind)]) | (rw [if_neg (by grind)])); done) | (exfalso; grind)) (by first | with_reducible rfl | (dsimp only; (unfold g_take; first | (rw [if_pos (by grind)]) | (rw [if_neg (by grind)])); done) | (exfalso; grind)) (by first | with_reducible rfl | (dsimp only; (unfold g_take; first | (rw [if_pos (by grind)]) | (rw [if_neg (by grind)])); done) | (exfalso; grind)) (by first | with_reducible rfl | (dsimp only; (unfold g_take; first | (rw [if_pos (by grind)]) | (rw [if_neg (by grind)])); done) | (exfalso; grind))
  · skip
    refine jr_aload_n d_G_take_4 rfl rfl ?_
    refine jv_V0r d_G_take_5 l_G_145 k_G_topKind ⟨Nat.le_of_ble_eq_true rfl, Nat.le_of_ble_eq_true rfl⟩ rfl rfl (Nat.le_of_ble_eq_true rfl) (ct_G_topKind hG) (by grind) (by grind) ?_
    refine jr_iload_n d_G_take_8 rfl rfl ?_
    refine jr_icmp_eq (tgt := 18) d_G_take_9 (by decide) (fun c9 => ?_) (fun c9 => ?_)
    · skip
      refine jr_aload_n d_G_take_18 rfl rfl ?_
      refine jr_dup d_G_take_19 ?_
      refine jr_geti d_G_take_20 f_G_65 rfl ?_
      refine jr_iconst (v := 1) d_G_take_23 (by decide) ?_
      refine jr_isub d_G_take_24 ?_
      refine jr_puti d_G_take_25 f_G_65 (Or.inl rfl) rfl ?_
      exact jr_retX (v := none) d_G_take_28 (by first | exact Nat.le_refl _ | exact Nat.zero_le _ | (dsimp only; omega)) (by first | exact Nat.le_refl _ | exact Nat.zero_le _ | (dsimp only; omega)) (by first | with_reducible rfl | (dsimp only; (unfold g_take; first | (rw [if_pos (by grind)]) | (rw [if_neg (by grind)])); done) | (exfalso; grind)) (by first | with_reducible rfl | (dsimp only; (unfold g_take; first | (rw [if_pos (by grind)]) | (rw [if_neg (by grind)])); done) | (exfalso; grind)) (by first | with_reducible rfl | (dsimp only; (unfold g_take; first | (rw [if_pos (by grind)]) | (rw [if_neg (by grind)])); done) | (exfalso; grind)) (by first | with_reducible rfl | (dsimp only; (unfold g_take; first | (rw [if_pos (by grind)]) | (rw [if_neg (by grind)])); done) | (exfalso; grind))
    · skip
      refine jr_aload_n d_G_take_12 rfl rfl ?_
      refine jr_iconst (v := 0) d_G_take_13 (by decide) ?_
      refine jv_V1v d_G_take_14 l_G_137 k_G_demand ⟨Nat.le_of_ble_eq_true rfl, Nat.le_of_ble_eq_true rfl⟩ rfl rfl (Nat.le_of_ble_eq_true rfl) (ct_G_demand) (by grind) (by grind) ?_
      exact jr_retX (v := none) d_G_take_17 (by first | exact Nat.le_refl _ | exact Nat.zero_le _ | (dsimp only; omega)) (by first | exact Nat.le_refl _ | exact Nat.zero_le _ | (dsimp only; omega)) (by first | with_reducible rfl | (dsimp only; (unfold g_take; first | (rw [if_pos (by grind)]) | (rw [if_neg (by grind)])); done) | (exfalso; grind)) (by first | with_reducible rfl | (dsimp only; (unfold g_take; first | (rw [if_pos (by grind)]) | (rw [if_neg (by grind)])); done) | (exfalso; grind)) (by first | with_reducible rfl | (dsimp only; (unfold g_take; first | (rw [if_pos (by grind)]) | (rw [if_neg (by grind)])); done) | (exfalso; grind)) (by first | with_reducible rfl | (dsimp only; (unfold g_take; first | (rw [if_pos (by grind)]) | (rw [if_neg (by grind)])); done) | (exfalso; grind))
theorem ct_G_leaveFor {I : jc_I} {O : jc_O} {live : jc_L → Prop} {p : Int32} (hG : jw_G O) : jc_Ct y_G_leaveFor [.inr (some (2, 0, 0)), .inl p] I O live (none, g_leave I p, O, live, 0, 0) := by
  obtain ⟨hG0, hG1, hG2, hG3, hG4⟩ := id hG
  refine jc_Ct.of (by decide +kernel) (rfl) (Nat.le_of_ble_eq_true rfl) ?_
  refine jr_aload_n d_G_leaveFor_0 rfl rfl ?_
  refine jr_aload_n d_G_leaveFor_1 rfl rfl ?_
  refine jr_geti d_G_leaveFor_2 f_G_65 rfl ?_
  refine jr_if_ne (tgt := 21) d_G_leaveFor_5 (by decide) (fun c5 => ?_) (fun c5 => ?_)
  · skip
    refine jr_iconst (v := 0) d_G_leaveFor_21 (by decide) ?_
    refine jv_V1v d_G_leaveFor_22 l_G_137 k_G_demand ⟨Nat.le_of_ble_eq_true rfl, Nat.le_of_ble_eq_true rfl⟩ rfl rfl (Nat.le_of_ble_eq_true rfl) (ct_G_demand) (by grind) (by grind) ?_
    exact jr_retX (v := none) d_G_leaveFor_25 (by first | exact Nat.le_refl _ | exact Nat.zero_le _ | (dsimp only; omega)) (by first | exact Nat.le_refl _ | exact Nat.zero_le _ | (dsimp only; omega)) (by first | with_reducible rfl | (dsimp only; (unfold g_leave; first | (rw [if_pos (by grind)]) | (rw [if_neg (by grind)])); done) | (exfalso; grind)) (by first | with_reducible rfl | (dsimp only; (unfold g_leave; first | (rw [if_pos (by grind)]) | (rw [if_neg (by grind)])); done) | (exfalso; grind)) (by first | with_reducible rfl | (dsimp only; (unfold g_leave; first | (rw [if_pos (by grind)]) | (rw [if_neg (by grind)])); done) | (exfalso; grind)) (by first | with_reducible rfl | (dsimp only; (unfold g_leave; first | (rw [if_pos (by grind)]) | (rw [if_neg (by grind)])); done) | (exfalso; grind))
  · skip
    refine jr_aload_n d_G_leaveFor_8 rfl rfl ?_
    refine jr_iload_n d_G_leaveFor_9 rfl rfl ?_
    refine jv_V1r d_G_leaveFor_10 l_G_134 k_G_markAt ⟨Nat.le_of_ble_eq_true rfl, Nat.le_of_ble_eq_true rfl⟩ rfl rfl (Nat.le_of_ble_eq_true rfl) (ct_G_markAt hG) (by grind) (by grind) ?_
    refine jr_iconst (v := 2) d_G_leaveFor_13 (by decide) ?_
    refine jr_icmp_eq (tgt := 21) d_G_leaveFor_14 (by decide) (fun c14 => ?_) (fun c14 => ?_)
    · skip
      refine jr_iconst (v := 0) d_G_leaveFor_21 (by decide) ?_
      refine jv_V1v d_G_leaveFor_22 l_G_137 k_G_demand ⟨Nat.le_of_ble_eq_true rfl, Nat.le_of_ble_eq_true rfl⟩ rfl rfl (Nat.le_of_ble_eq_true rfl) (ct_G_demand) (by grind) (by grind) ?_
      exact jr_retX (v := none) d_G_leaveFor_25 (by first | exact Nat.le_refl _ | exact Nat.zero_le _ | (dsimp only; omega)) (by first | exact Nat.le_refl _ | exact Nat.zero_le _ | (dsimp only; omega)) (by first | with_reducible rfl | (dsimp only; (unfold g_leave; first | (rw [if_pos (by grind)]) | (rw [if_neg (by grind)])); done) | (exfalso; grind)) (by first | with_reducible rfl | (dsimp only; (unfold g_leave; first | (rw [if_pos (by grind)]) | (rw [if_neg (by grind)])); done) | (exfalso; grind)) (by first | with_reducible rfl | (dsimp only; (unfold g_leave; first | (rw [if_pos (by grind)]) | (rw [if_neg (by grind)])); done) | (exfalso; grind)) (by first | with_reducible rfl | (dsimp only; (unfold g_leave; first | (rw [if_pos (by grind)]) | (rw [if_neg (by grind)])); done) | (exfalso; grind))
    · skip
      refine jr_iconst (v := 1) d_G_leaveFor_17 (by decide) ?_
      refine jr_goto (tgt := 22) d_G_leaveFor_18 (by decide) ?_
      refine jv_V1v d_G_leaveFor_22 l_G_137 k_G_demand ⟨Nat.le_of_ble_eq_true rfl, Nat.le_of_ble_eq_true rfl⟩ rfl rfl (Nat.le_of_ble_eq_true rfl) (ct_G_demand) (by grind) (by grind) ?_
      exact jr_retX (v := none) d_G_leaveFor_25 (by first | exact Nat.le_refl _ | exact Nat.zero_le _ | (dsimp only; omega)) (by first | exact Nat.le_refl _ | exact Nat.zero_le _ | (dsimp only; omega)) (by first | with_reducible rfl | (dsimp only; (unfold g_leave; first | (rw [if_pos (by grind)]) | (rw [if_neg (by grind)])); done) | (exfalso; grind)) (by first | with_reducible rfl | (dsimp only; (unfold g_leave; first | (rw [if_pos (by grind)]) | (rw [if_neg (by grind)])); done) | (exfalso; grind)) (by first | with_reducible rfl | (dsimp only; (unfold g_leave; first | (rw [if_pos (by grind)]) | (rw [if_neg (by grind)])); done) | (exfalso; grind)) (by first | with_reducible rfl | (dsimp only; (unfold g_leave; first | (rw [if_pos (by grind)]) | (rw [if_neg (by grind)])); done) | (exfalso; grind))
theorem ct_G_arrive {I : jc_I} {O : jc_O} {live : jc_L → Prop} {p b : Int32} (hG : jw_G O) : jc_Ct y_G_arrive [.inr (some (2, 0, 0)), .inl p, .inl b] I O live (none, g_arr I p b, O, live, 0, 0) := by
  obtain ⟨hG0, hG1, hG2, hG3, hG4⟩ := id hG
  refine jc_Ct.of (by decide +kernel) (rfl) (Nat.le_of_ble_eq_true rfl) ?_
  refine jr_aload_n d_G_arrive_0 rfl rfl ?_
  refine jr_iload_n d_G_arrive_1 rfl rfl ?_
  refine jv_V1r d_G_arrive_2 l_G_134 k_G_markAt ⟨Nat.le_of_ble_eq_true rfl, Nat.le_of_ble_eq_true rfl⟩ rfl rfl (Nat.le_of_ble_eq_true rfl) (ct_G_markAt hG) (by grind) (by grind) ?_
  refine jr_istore_n d_G_arrive_5 rfl (Nat.le_of_ble_eq_true rfl) ?_
  refine jr_iload_n d_G_arrive_6 rfl rfl ?_
  refine jr_if_eq (tgt := 36) d_G_arrive_7 (by decide) (fun c7 => ?_) (fun c7 => ?_)
  · skip
    refine jr_aload_n d_G_arrive_36 rfl rfl ?_
    refine jr_iload_n d_G_arrive_37 rfl rfl ?_
    refine jr_if_eq (tgt := 45) d_G_arrive_38 (by decide) (fun c38 => ?_) (fun c38 => ?_)
    · skip
      refine jr_iconst (v := 0) d_G_arrive_45 (by decide) ?_
      refine jv_V1v d_G_arrive_46 l_G_137 k_G_demand ⟨Nat.le_of_ble_eq_true rfl, Nat.le_of_ble_eq_true rfl⟩ rfl rfl (Nat.le_of_ble_eq_true rfl) (ct_G_demand) (by grind) (by grind) ?_
      refine jr_aload_n d_G_arrive_49 rfl rfl ?_
      refine jr_iconst (v := 0) d_G_arrive_50 (by decide) ?_
      refine jr_puti d_G_arrive_51 f_G_65 (Or.inl rfl) rfl ?_
      refine jr_iload_n d_G_arrive_54 rfl rfl ?_
      refine jr_iconst (v := 2) d_G_arrive_55 (by decide) ?_
      refine jr_icmp_ne (tgt := 64) d_G_arrive_56 (by decide) (fun c56 => ?_) (fun c56 => ?_)
      · skip
        exact jr_retX (v := none) d_G_arrive_64 (by first | exact Nat.le_refl _ | exact Nat.zero_le _ | (dsimp only; omega)) (by first | exact Nat.le_refl _ | exact Nat.zero_le _ | (dsimp only; omega)) (by first | with_reducible rfl | (dsimp only; (unfold g_arr; (repeat (first | rw [if_pos (by grind)] | rw [if_neg (by grind)]))); done) | (exfalso; grind)) (by first | with_reducible rfl | (dsimp only; (unfold g_arr; (repeat (first | rw [if_pos (by grind)] | rw [if_neg (by grind)]))); done) | (exfalso; grind)) (by first | with_reducible rfl | (dsimp only; (unfold g_arr; (repeat (first | rw [if_pos (by grind)] | rw [if_neg (by grind)]))); done) | (exfalso; grind)) (by first | with_reducible rfl | (dsimp only; (unfold g_arr; (repeat (first | rw [if_pos (by grind)] | rw [if_neg (by grind)]))); done) | (exfalso; grind))
      · skip
        refine jr_aload_n d_G_arrive_59 rfl rfl ?_
        refine jr_iconst (v := 2) d_G_arrive_60 (by decide) ?_
        refine jv_V1v d_G_arrive_61 l_G_141 k_G_give ⟨Nat.le_of_ble_eq_true rfl, Nat.le_of_ble_eq_true rfl⟩ rfl rfl (Nat.le_of_ble_eq_true rfl) (ct_G_give hG) (by grind) (by grind) ?_
        exact jr_retX (v := none) d_G_arrive_64 (by first | exact Nat.le_refl _ | exact Nat.zero_le _ | (dsimp only; omega)) (by first | exact Nat.le_refl _ | exact Nat.zero_le _ | (dsimp only; omega)) (by first | with_reducible rfl | (dsimp only; (unfold g_arr; (repeat (first | rw [if_pos (by grind)] | rw [if_neg (by grind)]))); done) | (exfalso; grind)) (by first | with_reducible rfl | (dsimp only; (unfold g_arr; (repeat (first | rw [if_pos (by grind)] | rw [if_neg (by grind)]))); done) | (exfalso; grind)) (by first | with_reducible rfl | (dsimp only; (unfold g_arr; (repeat (first | rw [if_pos (by grind)] | rw [if_neg (by grind)]))); done) | (exfalso; grind)) (by first | with_reducible rfl | (dsimp only; (unfold g_arr; (repeat (first | rw [if_pos (by grind)] | rw [if_neg (by grind)]))); done) | (exfalso; grind))
    · skip
      refine jr_iconst (v := 1) d_G_arrive_41 (by decide) ?_
      refine jr_goto (tgt := 46) d_G_arrive_42 (by decide) ?_
      refine jv_V1v d_G_arrive_46 l_G_137 k_G_demand ⟨Nat.le_of_ble_eq_true rfl, Nat.le_of_ble_eq_true rfl⟩ rfl rfl (Nat.le_of_ble_eq_true rfl) (ct_G_demand) (by grind) (by grind) ?_
      refine jr_aload_n d_G_arrive_49 rfl rfl ?_
      refine jr_iconst (v := 0) d_G_arrive_50 (by decide) ?_
      refine jr_puti d_G_arrive_51 f_G_65 (Or.inl rfl) rfl ?_
      refine jr_iload_n d_G_arrive_54 rfl rfl ?_
      refine jr_iconst (v := 2) d_G_arrive_55 (by decide) ?_
      refine jr_icmp_ne (tgt := 64) d_G_arrive_56 (by decide) (fun c56 => ?_) (fun c56 => ?_)
      · skip
        exact jr_retX (v := none) d_G_arrive_64 (by first | exact Nat.le_refl _ | exact Nat.zero_le _ | (dsimp only; omega)) (by first | exact Nat.le_refl _ | exact Nat.zero_le _ | (dsimp only; omega)) (by first | with_reducible rfl | (dsimp only; (unfold g_arr; (repeat (first | rw [if_pos (by grind)] | rw [if_neg (by grind)]))); done) | (exfalso; grind)) (by first | with_reducible rfl | (dsimp only; (unfold g_arr; (repeat (first | rw [if_pos (by grind)] | rw [if_neg (by grind)]))); done) | (exfalso; grind)) (by first | with_reducible rfl | (dsimp only; (unfold g_arr; (repeat (first | rw [if_pos (by grind)] | rw [if_neg (by grind)]))); done) | (exfalso; grind)) (by first | with_reducible rfl | (dsimp only; (unfold g_arr; (repeat (first | rw [if_pos (by grind)] | rw [if_neg (by grind)]))); done) | (exfalso; grind))
      · skip
        refine jr_aload_n d_G_arrive_59 rfl rfl ?_
        refine jr_iconst (v := 2) d_G_arrive_60 (by decide) ?_
        refine jv_V1v d_G_arrive_61 l_G_141 k_G_give ⟨Nat.le_of_ble_eq_true rfl, Nat.le_of_ble_eq_true rfl⟩ rfl rfl (Nat.le_of_ble_eq_true rfl) (ct_G_give hG) (by grind) (by grind) ?_
        exact jr_retX (v := none) d_G_arrive_64 (by first | exact Nat.le_refl _ | exact Nat.zero_le _ | (dsimp only; omega)) (by first | exact Nat.le_refl _ | exact Nat.zero_le _ | (dsimp only; omega)) (by first | with_reducible rfl | (dsimp only; (unfold g_arr; (repeat (first | rw [if_pos (by grind)] | rw [if_neg (by grind)]))); done) | (exfalso; grind)) (by first | with_reducible rfl | (dsimp only; (unfold g_arr; (repeat (first | rw [if_pos (by grind)] | rw [if_neg (by grind)]))); done) | (exfalso; grind)) (by first | with_reducible rfl | (dsimp only; (unfold g_arr; (repeat (first | rw [if_pos (by grind)] | rw [if_neg (by grind)]))); done) | (exfalso; grind)) (by first | with_reducible rfl | (dsimp only; (unfold g_arr; (repeat (first | rw [if_pos (by grind)] | rw [if_neg (by grind)]))); done) | (exfalso; grind))
  · skip
    refine jr_aload_n d_G_arrive_10 rfl rfl ?_
    refine jr_iload_n d_G_arrive_11 rfl rfl ?_
    refine jr_if_eq (tgt := 27) d_G_arrive_12 (by decide) (fun c12 => ?_) (fun c12 => ?_)
    · skip
      refine jr_iconst (v := 1) d_G_arrive_27 (by decide) ?_
      refine jr_goto (tgt := 32) d_G_arrive_28 (by decide) ?_
      refine jv_V1v d_G_arrive_32 l_G_137 k_G_demand ⟨Nat.le_of_ble_eq_true rfl, Nat.le_of_ble_eq_true rfl⟩ rfl rfl (Nat.le_of_ble_eq_true rfl) (ct_G_demand) (by grind) (by grind) ?_
      exact jr_retX (v := none) d_G_arrive_35 (by first | exact Nat.le_refl _ | exact Nat.zero_le _ | (dsimp only; omega)) (by first | exact Nat.le_refl _ | exact Nat.zero_le _ | (dsimp only; omega)) (by first | with_reducible rfl | (dsimp only; (unfold g_arr; (repeat (first | rw [if_pos (by grind)] | rw [if_neg (by grind)]))); done) | (exfalso; grind)) (by first | with_reducible rfl | (dsimp only; (unfold g_arr; (repeat (first | rw [if_pos (by grind)] | rw [if_neg (by grind)]))); done) | (exfalso; grind)) (by first | with_reducible rfl | (dsimp only; (unfold g_arr; (repeat (first | rw [if_pos (by grind)] | rw [if_neg (by grind)]))); done) | (exfalso; grind)) (by first | with_reducible rfl | (dsimp only; (unfold g_arr; (repeat (first | rw [if_pos (by grind)] | rw [if_neg (by grind)]))); done) | (exfalso; grind))
    · skip
      refine jr_iload_n d_G_arrive_15 rfl rfl ?_
      refine jr_iconst (v := 1) d_G_arrive_16 (by decide) ?_
      refine jr_icmp_ne (tgt := 31) d_G_arrive_17 (by decide) (fun c17 => ?_) (fun c17 => ?_)
      · skip
        refine jr_iconst (v := 0) d_G_arrive_31 (by decide) ?_
        refine jv_V1v d_G_arrive_32 l_G_137 k_G_demand ⟨Nat.le_of_ble_eq_true rfl, Nat.le_of_ble_eq_true rfl⟩ rfl rfl (Nat.le_of_ble_eq_true rfl) (ct_G_demand) (by grind) (by grind) ?_
        exact jr_retX (v := none) d_G_arrive_35 (by first | exact Nat.le_refl _ | exact Nat.zero_le _ | (dsimp only; omega)) (by first | exact Nat.le_refl _ | exact Nat.zero_le _ | (dsimp only; omega)) (by first | with_reducible rfl | (dsimp only; (unfold g_arr; (repeat (first | rw [if_pos (by grind)] | rw [if_neg (by grind)]))); done) | (exfalso; grind)) (by first | with_reducible rfl | (dsimp only; (unfold g_arr; (repeat (first | rw [if_pos (by grind)] | rw [if_neg (by grind)]))); done) | (exfalso; grind)) (by first | with_reducible rfl | (dsimp only; (unfold g_arr; (repeat (first | rw [if_pos (by grind)] | rw [if_neg (by grind)]))); done) | (exfalso; grind)) (by first | with_reducible rfl | (dsimp only; (unfold g_arr; (repeat (first | rw [if_pos (by grind)] | rw [if_neg (by grind)]))); done) | (exfalso; grind))
      · skip
        refine jr_aload_n d_G_arrive_20 rfl rfl ?_
        refine jr_geti d_G_arrive_21 f_G_65 rfl ?_
        refine jr_if_ne (tgt := 31) d_G_arrive_24 (by decide) (fun c24 => ?_) (fun c24 => ?_)
        · skip
          refine jr_iconst (v := 0) d_G_arrive_31 (by decide) ?_
          refine jv_V1v d_G_arrive_32 l_G_137 k_G_demand ⟨Nat.le_of_ble_eq_true rfl, Nat.le_of_ble_eq_true rfl⟩ rfl rfl (Nat.le_of_ble_eq_true rfl) (ct_G_demand) (by grind) (by grind) ?_
          exact jr_retX (v := none) d_G_arrive_35 (by first | exact Nat.le_refl _ | exact Nat.zero_le _ | (dsimp only; omega)) (by first | exact Nat.le_refl _ | exact Nat.zero_le _ | (dsimp only; omega)) (by first | with_reducible rfl | (dsimp only; (unfold g_arr; (repeat (first | rw [if_pos (by grind)] | rw [if_neg (by grind)]))); done) | (exfalso; grind)) (by first | with_reducible rfl | (dsimp only; (unfold g_arr; (repeat (first | rw [if_pos (by grind)] | rw [if_neg (by grind)]))); done) | (exfalso; grind)) (by first | with_reducible rfl | (dsimp only; (unfold g_arr; (repeat (first | rw [if_pos (by grind)] | rw [if_neg (by grind)]))); done) | (exfalso; grind)) (by first | with_reducible rfl | (dsimp only; (unfold g_arr; (repeat (first | rw [if_pos (by grind)] | rw [if_neg (by grind)]))); done) | (exfalso; grind))
        · skip
          refine jr_iconst (v := 1) d_G_arrive_27 (by decide) ?_
          refine jr_goto (tgt := 32) d_G_arrive_28 (by decide) ?_
          refine jv_V1v d_G_arrive_32 l_G_137 k_G_demand ⟨Nat.le_of_ble_eq_true rfl, Nat.le_of_ble_eq_true rfl⟩ rfl rfl (Nat.le_of_ble_eq_true rfl) (ct_G_demand) (by grind) (by grind) ?_
          exact jr_retX (v := none) d_G_arrive_35 (by first | exact Nat.le_refl _ | exact Nat.zero_le _ | (dsimp only; omega)) (by first | exact Nat.le_refl _ | exact Nat.zero_le _ | (dsimp only; omega)) (by first | with_reducible rfl | (dsimp only; (unfold g_arr; (repeat (first | rw [if_pos (by grind)] | rw [if_neg (by grind)]))); done) | (exfalso; grind)) (by first | with_reducible rfl | (dsimp only; (unfold g_arr; (repeat (first | rw [if_pos (by grind)] | rw [if_neg (by grind)]))); done) | (exfalso; grind)) (by first | with_reducible rfl | (dsimp only; (unfold g_arr; (repeat (first | rw [if_pos (by grind)] | rw [if_neg (by grind)]))); done) | (exfalso; grind)) (by first | with_reducible rfl | (dsimp only; (unfold g_arr; (repeat (first | rw [if_pos (by grind)] | rw [if_neg (by grind)]))); done) | (exfalso; grind))
theorem ct_G_followUse {I : jc_I} {O : jc_O} {live : jc_L → Prop} {op : Int32} (hG : jw_G O) : jc_Ct y_G_followUse [.inr (some (2, 0, 0)), .inl op] I O live (none, g_use I op, O, live, 0, 0) := by
  obtain ⟨hG0, hG1, hG2, hG3, hG4⟩ := id hG
  refine jc_Ct.of (by decide +kernel) (rfl) (Nat.le_of_ble_eq_true rfl) ?_
  refine jr_iload_n d_G_followUse_0 rfl rfl ?_
  refine jr_bipush (v := 17) d_G_followUse_1 (by decide) ?_
  refine jr_icmp_ne (tgt := 14) d_G_followUse_3 (by decide) (fun c3 => ?_) (fun c3 => ?_)
  · skip
    refine jr_iload_n d_G_followUse_14 rfl rfl ?_
    refine jr_bipush (v := 24) d_G_followUse_15 (by decide) ?_
    refine jr_icmp_ne (tgt := 25) d_G_followUse_17 (by decide) (fun c17 => ?_) (fun c17 => ?_)
    · skip
      refine jr_aload_n d_G_followUse_25 rfl rfl ?_
      refine jr_iconst (v := 2) d_G_followUse_26 (by decide) ?_
      refine jv_V1v d_G_followUse_27 l_G_148 k_G_take ⟨Nat.le_of_ble_eq_true rfl, Nat.le_of_ble_eq_true rfl⟩ rfl rfl (Nat.le_of_ble_eq_true rfl) (ct_G_take hG) (by grind) (by grind) ?_
      refine jr_iload_n d_G_followUse_30 rfl rfl ?_
      refine jr_bipush (v := 15) d_G_followUse_31 (by decide) ?_
      refine jr_icmp_eq (tgt := 42) d_G_followUse_33 (by decide) (fun c33 => ?_) (fun c33 => ?_)
      · skip
        refine jr_aload_n d_G_followUse_42 rfl rfl ?_
        refine jr_iconst (v := 1) d_G_followUse_43 (by decide) ?_
        refine jv_V1v d_G_followUse_44 l_G_141 k_G_give ⟨Nat.le_of_ble_eq_true rfl, Nat.le_of_ble_eq_true rfl⟩ rfl rfl (Nat.le_of_ble_eq_true rfl) (ct_G_give hG) (by grind) (by grind) ?_
        refine jr_goto (tgt := 61) d_G_followUse_47 (by decide) ?_
        exact jr_retX (v := none) d_G_followUse_61 (by first | exact Nat.le_refl _ | exact Nat.zero_le _ | (dsimp only; omega)) (by first | exact Nat.le_refl _ | exact Nat.zero_le _ | (dsimp only; omega)) (by first | with_reducible rfl | (dsimp only; (unfold g_use; dsimp only; (repeat (first | rw [if_pos (by grind)] | rw [if_neg (by grind)]))); done) | (exfalso; grind)) (by first | with_reducible rfl | (dsimp only; (unfold g_use; dsimp only; (repeat (first | rw [if_pos (by grind)] | rw [if_neg (by grind)]))); done) | (exfalso; grind)) (by first | with_reducible rfl | (dsimp only; (unfold g_use; dsimp only; (repeat (first | rw [if_pos (by grind)] | rw [if_neg (by grind)]))); done) | (exfalso; grind)) (by first | with_reducible rfl | (dsimp only; (unfold g_use; dsimp only; (repeat (first | rw [if_pos (by grind)] | rw [if_neg (by grind)]))); done) | (exfalso; grind))
      · skip
        refine jr_iload_n d_G_followUse_36 rfl rfl ?_
        refine jr_bipush (v := 16) d_G_followUse_37 (by decide) ?_
        refine jr_icmp_ne (tgt := 50) d_G_followUse_39 (by decide) (fun c39 => ?_) (fun c39 => ?_)
        · skip
          refine jr_iload_n d_G_followUse_50 rfl rfl ?_
          refine jr_bipush (v := 23) d_G_followUse_51 (by decide) ?_
          refine jr_icmp_ne (tgt := 61) d_G_followUse_53 (by decide) (fun c53 => ?_) (fun c53 => ?_)
          · skip
            exact jr_retX (v := none) d_G_followUse_61 (by first | exact Nat.le_refl _ | exact Nat.zero_le _ | (dsimp only; omega)) (by first | exact Nat.le_refl _ | exact Nat.zero_le _ | (dsimp only; omega)) (by first | with_reducible rfl | (dsimp only; (unfold g_use; dsimp only; (repeat (first | rw [if_pos (by grind)] | rw [if_neg (by grind)]))); done) | (exfalso; grind)) (by first | with_reducible rfl | (dsimp only; (unfold g_use; dsimp only; (repeat (first | rw [if_pos (by grind)] | rw [if_neg (by grind)]))); done) | (exfalso; grind)) (by first | with_reducible rfl | (dsimp only; (unfold g_use; dsimp only; (repeat (first | rw [if_pos (by grind)] | rw [if_neg (by grind)]))); done) | (exfalso; grind)) (by first | with_reducible rfl | (dsimp only; (unfold g_use; dsimp only; (repeat (first | rw [if_pos (by grind)] | rw [if_neg (by grind)]))); done) | (exfalso; grind))
          · skip
            refine jr_aload_n d_G_followUse_56 rfl rfl ?_
            refine jr_iconst (v := 2) d_G_followUse_57 (by decide) ?_
            refine jv_V1v d_G_followUse_58 l_G_141 k_G_give ⟨Nat.le_of_ble_eq_true rfl, Nat.le_of_ble_eq_true rfl⟩ rfl rfl (Nat.le_of_ble_eq_true rfl) (ct_G_give hG) (by grind) (by grind) ?_
            exact jr_retX (v := none) d_G_followUse_61 (by first | exact Nat.le_refl _ | exact Nat.zero_le _ | (dsimp only; omega)) (by first | exact Nat.le_refl _ | exact Nat.zero_le _ | (dsimp only; omega)) (by first | with_reducible rfl | (dsimp only; (unfold g_use; dsimp only; (repeat (first | rw [if_pos (by grind)] | rw [if_neg (by grind)]))); done) | (exfalso; grind)) (by first | with_reducible rfl | (dsimp only; (unfold g_use; dsimp only; (repeat (first | rw [if_pos (by grind)] | rw [if_neg (by grind)]))); done) | (exfalso; grind)) (by first | with_reducible rfl | (dsimp only; (unfold g_use; dsimp only; (repeat (first | rw [if_pos (by grind)] | rw [if_neg (by grind)]))); done) | (exfalso; grind)) (by first | with_reducible rfl | (dsimp only; (unfold g_use; dsimp only; (repeat (first | rw [if_pos (by grind)] | rw [if_neg (by grind)]))); done) | (exfalso; grind))
        · skip
          refine jr_aload_n d_G_followUse_42 rfl rfl ?_
          refine jr_iconst (v := 1) d_G_followUse_43 (by decide) ?_
          refine jv_V1v d_G_followUse_44 l_G_141 k_G_give ⟨Nat.le_of_ble_eq_true rfl, Nat.le_of_ble_eq_true rfl⟩ rfl rfl (Nat.le_of_ble_eq_true rfl) (ct_G_give hG) (by grind) (by grind) ?_
          refine jr_goto (tgt := 61) d_G_followUse_47 (by decide) ?_
          exact jr_retX (v := none) d_G_followUse_61 (by first | exact Nat.le_refl _ | exact Nat.zero_le _ | (dsimp only; omega)) (by first | exact Nat.le_refl _ | exact Nat.zero_le _ | (dsimp only; omega)) (by first | with_reducible rfl | (dsimp only; (unfold g_use; dsimp only; (repeat (first | rw [if_pos (by grind)] | rw [if_neg (by grind)]))); done) | (exfalso; grind)) (by first | with_reducible rfl | (dsimp only; (unfold g_use; dsimp only; (repeat (first | rw [if_pos (by grind)] | rw [if_neg (by grind)]))); done) | (exfalso; grind)) (by first | with_reducible rfl | (dsimp only; (unfold g_use; dsimp only; (repeat (first | rw [if_pos (by grind)] | rw [if_neg (by grind)]))); done) | (exfalso; grind)) (by first | with_reducible rfl | (dsimp only; (unfold g_use; dsimp only; (repeat (first | rw [if_pos (by grind)] | rw [if_neg (by grind)]))); done) | (exfalso; grind))
    · skip
      refine jr_aload_n d_G_followUse_20 rfl rfl ?_
      refine jr_iconst (v := 2) d_G_followUse_21 (by decide) ?_
      refine jv_V1v d_G_followUse_22 l_G_148 k_G_take ⟨Nat.le_of_ble_eq_true rfl, Nat.le_of_ble_eq_true rfl⟩ rfl rfl (Nat.le_of_ble_eq_true rfl) (ct_G_take hG) (by grind) (by grind) ?_
      refine jr_aload_n d_G_followUse_25 rfl rfl ?_
      refine jr_iconst (v := 2) d_G_followUse_26 (by decide) ?_
      refine jv_V1v d_G_followUse_27 l_G_148 k_G_take ⟨Nat.le_of_ble_eq_true rfl, Nat.le_of_ble_eq_true rfl⟩ rfl rfl (Nat.le_of_ble_eq_true rfl) (ct_G_take hG) (by grind) (by grind) ?_
      refine jr_iload_n d_G_followUse_30 rfl rfl ?_
      refine jr_bipush (v := 15) d_G_followUse_31 (by decide) ?_
      refine jr_icmp_eq (tgt := 42) d_G_followUse_33 (by decide) (fun c33 => ?_) (fun c33 => ?_)
      · skip
        refine jr_aload_n d_G_followUse_42 rfl rfl ?_
        refine jr_iconst (v := 1) d_G_followUse_43 (by decide) ?_
        refine jv_V1v d_G_followUse_44 l_G_141 k_G_give ⟨Nat.le_of_ble_eq_true rfl, Nat.le_of_ble_eq_true rfl⟩ rfl rfl (Nat.le_of_ble_eq_true rfl) (ct_G_give hG) (by grind) (by grind) ?_
        refine jr_goto (tgt := 61) d_G_followUse_47 (by decide) ?_
        exact jr_retX (v := none) d_G_followUse_61 (by first | exact Nat.le_refl _ | exact Nat.zero_le _ | (dsimp only; omega)) (by first | exact Nat.le_refl _ | exact Nat.zero_le _ | (dsimp only; omega)) (by first | with_reducible rfl | (dsimp only; (unfold g_use; dsimp only; (repeat (first | rw [if_pos (by grind)] | rw [if_neg (by grind)]))); done) | (exfalso; grind)) (by first | with_reducible rfl | (dsimp only; (unfold g_use; dsimp only; (repeat (first | rw [if_pos (by grind)] | rw [if_neg (by grind)]))); done) | (exfalso; grind)) (by first | with_reducible rfl | (dsimp only; (unfold g_use; dsimp only; (repeat (first | rw [if_pos (by grind)] | rw [if_neg (by grind)]))); done) | (exfalso; grind)) (by first | with_reducible rfl | (dsimp only; (unfold g_use; dsimp only; (repeat (first | rw [if_pos (by grind)] | rw [if_neg (by grind)]))); done) | (exfalso; grind))
      · skip
        refine jr_iload_n d_G_followUse_36 rfl rfl ?_
        refine jr_bipush (v := 16) d_G_followUse_37 (by decide) ?_
        refine jr_icmp_ne (tgt := 50) d_G_followUse_39 (by decide) (fun c39 => ?_) (fun c39 => ?_)
        · skip
          refine jr_iload_n d_G_followUse_50 rfl rfl ?_
          refine jr_bipush (v := 23) d_G_followUse_51 (by decide) ?_
          refine jr_icmp_ne (tgt := 61) d_G_followUse_53 (by decide) (fun c53 => ?_) (fun c53 => ?_)
          · skip
            exact jr_retX (v := none) d_G_followUse_61 (by first | exact Nat.le_refl _ | exact Nat.zero_le _ | (dsimp only; omega)) (by first | exact Nat.le_refl _ | exact Nat.zero_le _ | (dsimp only; omega)) (by first | with_reducible rfl | (dsimp only; (unfold g_use; dsimp only; (repeat (first | rw [if_pos (by grind)] | rw [if_neg (by grind)]))); done) | (exfalso; grind)) (by first | with_reducible rfl | (dsimp only; (unfold g_use; dsimp only; (repeat (first | rw [if_pos (by grind)] | rw [if_neg (by grind)]))); done) | (exfalso; grind)) (by first | with_reducible rfl | (dsimp only; (unfold g_use; dsimp only; (repeat (first | rw [if_pos (by grind)] | rw [if_neg (by grind)]))); done) | (exfalso; grind)) (by first | with_reducible rfl | (dsimp only; (unfold g_use; dsimp only; (repeat (first | rw [if_pos (by grind)] | rw [if_neg (by grind)]))); done) | (exfalso; grind))
          · skip
            refine jr_aload_n d_G_followUse_56 rfl rfl ?_
            refine jr_iconst (v := 2) d_G_followUse_57 (by decide) ?_
            refine jv_V1v d_G_followUse_58 l_G_141 k_G_give ⟨Nat.le_of_ble_eq_true rfl, Nat.le_of_ble_eq_true rfl⟩ rfl rfl (Nat.le_of_ble_eq_true rfl) (ct_G_give hG) (by grind) (by grind) ?_
            exact jr_retX (v := none) d_G_followUse_61 (by first | exact Nat.le_refl _ | exact Nat.zero_le _ | (dsimp only; omega)) (by first | exact Nat.le_refl _ | exact Nat.zero_le _ | (dsimp only; omega)) (by first | with_reducible rfl | (dsimp only; (unfold g_use; dsimp only; (repeat (first | rw [if_pos (by grind)] | rw [if_neg (by grind)]))); done) | (exfalso; grind)) (by first | with_reducible rfl | (dsimp only; (unfold g_use; dsimp only; (repeat (first | rw [if_pos (by grind)] | rw [if_neg (by grind)]))); done) | (exfalso; grind)) (by first | with_reducible rfl | (dsimp only; (unfold g_use; dsimp only; (repeat (first | rw [if_pos (by grind)] | rw [if_neg (by grind)]))); done) | (exfalso; grind)) (by first | with_reducible rfl | (dsimp only; (unfold g_use; dsimp only; (repeat (first | rw [if_pos (by grind)] | rw [if_neg (by grind)]))); done) | (exfalso; grind))
        · skip
          refine jr_aload_n d_G_followUse_42 rfl rfl ?_
          refine jr_iconst (v := 1) d_G_followUse_43 (by decide) ?_
          refine jv_V1v d_G_followUse_44 l_G_141 k_G_give ⟨Nat.le_of_ble_eq_true rfl, Nat.le_of_ble_eq_true rfl⟩ rfl rfl (Nat.le_of_ble_eq_true rfl) (ct_G_give hG) (by grind) (by grind) ?_
          refine jr_goto (tgt := 61) d_G_followUse_47 (by decide) ?_
          exact jr_retX (v := none) d_G_followUse_61 (by first | exact Nat.le_refl _ | exact Nat.zero_le _ | (dsimp only; omega)) (by first | exact Nat.le_refl _ | exact Nat.zero_le _ | (dsimp only; omega)) (by first | with_reducible rfl | (dsimp only; (unfold g_use; dsimp only; (repeat (first | rw [if_pos (by grind)] | rw [if_neg (by grind)]))); done) | (exfalso; grind)) (by first | with_reducible rfl | (dsimp only; (unfold g_use; dsimp only; (repeat (first | rw [if_pos (by grind)] | rw [if_neg (by grind)]))); done) | (exfalso; grind)) (by first | with_reducible rfl | (dsimp only; (unfold g_use; dsimp only; (repeat (first | rw [if_pos (by grind)] | rw [if_neg (by grind)]))); done) | (exfalso; grind)) (by first | with_reducible rfl | (dsimp only; (unfold g_use; dsimp only; (repeat (first | rw [if_pos (by grind)] | rw [if_neg (by grind)]))); done) | (exfalso; grind))
  · skip
    refine jr_aload_n d_G_followUse_6 rfl rfl ?_
    refine jr_iconst (v := 1) d_G_followUse_7 (by decide) ?_
    refine jv_V1v d_G_followUse_8 l_G_148 k_G_take ⟨Nat.le_of_ble_eq_true rfl, Nat.le_of_ble_eq_true rfl⟩ rfl rfl (Nat.le_of_ble_eq_true rfl) (ct_G_take hG) (by grind) (by grind) ?_
    refine jr_goto (tgt := 25) d_G_followUse_11 (by decide) ?_
    refine jr_aload_n d_G_followUse_25 rfl rfl ?_
    refine jr_iconst (v := 2) d_G_followUse_26 (by decide) ?_
    refine jv_V1v d_G_followUse_27 l_G_148 k_G_take ⟨Nat.le_of_ble_eq_true rfl, Nat.le_of_ble_eq_true rfl⟩ rfl rfl (Nat.le_of_ble_eq_true rfl) (ct_G_take hG) (by grind) (by grind) ?_
    refine jr_iload_n d_G_followUse_30 rfl rfl ?_
    refine jr_bipush (v := 15) d_G_followUse_31 (by decide) ?_
    refine jr_icmp_eq (tgt := 42) d_G_followUse_33 (by decide) (fun c33 => ?_) (fun c33 => ?_)
    · skip
      refine jr_aload_n d_G_followUse_42 rfl rfl ?_
      refine jr_iconst (v := 1) d_G_followUse_43 (by decide) ?_
      refine jv_V1v d_G_followUse_44 l_G_141 k_G_give ⟨Nat.le_of_ble_eq_true rfl, Nat.le_of_ble_eq_true rfl⟩ rfl rfl (Nat.le_of_ble_eq_true rfl) (ct_G_give hG) (by grind) (by grind) ?_
      refine jr_goto (tgt := 61) d_G_followUse_47 (by decide) ?_
      exact jr_retX (v := none) d_G_followUse_61 (by first | exact Nat.le_refl _ | exact Nat.zero_le _ | (dsimp only; omega)) (by first | exact Nat.le_refl _ | exact Nat.zero_le _ | (dsimp only; omega)) (by first | with_reducible rfl | (dsimp only; (unfold g_use; dsimp only; (repeat (first | rw [if_pos (by grind)] | rw [if_neg (by grind)]))); done) | (exfalso; grind)) (by first | with_reducible rfl | (dsimp only; (unfold g_use; dsimp only; (repeat (first | rw [if_pos (by grind)] | rw [if_neg (by grind)]))); done) | (exfalso; grind)) (by first | with_reducible rfl | (dsimp only; (unfold g_use; dsimp only; (repeat (first | rw [if_pos (by grind)] | rw [if_neg (by grind)]))); done) | (exfalso; grind)) (by first | with_reducible rfl | (dsimp only; (unfold g_use; dsimp only; (repeat (first | rw [if_pos (by grind)] | rw [if_neg (by grind)]))); done) | (exfalso; grind))
    · skip
      refine jr_iload_n d_G_followUse_36 rfl rfl ?_
      refine jr_bipush (v := 16) d_G_followUse_37 (by decide) ?_
      refine jr_icmp_ne (tgt := 50) d_G_followUse_39 (by decide) (fun c39 => ?_) (fun c39 => ?_)
      · skip
        refine jr_iload_n d_G_followUse_50 rfl rfl ?_
        refine jr_bipush (v := 23) d_G_followUse_51 (by decide) ?_
        refine jr_icmp_ne (tgt := 61) d_G_followUse_53 (by decide) (fun c53 => ?_) (fun c53 => ?_)
        · skip
          exact jr_retX (v := none) d_G_followUse_61 (by first | exact Nat.le_refl _ | exact Nat.zero_le _ | (dsimp only; omega)) (by first | exact Nat.le_refl _ | exact Nat.zero_le _ | (dsimp only; omega)) (by first | with_reducible rfl | (dsimp only; (unfold g_use; dsimp only; (repeat (first | rw [if_pos (by grind)] | rw [if_neg (by grind)]))); done) | (exfalso; grind)) (by first | with_reducible rfl | (dsimp only; (unfold g_use; dsimp only; (repeat (first | rw [if_pos (by grind)] | rw [if_neg (by grind)]))); done) | (exfalso; grind)) (by first | with_reducible rfl | (dsimp only; (unfold g_use; dsimp only; (repeat (first | rw [if_pos (by grind)] | rw [if_neg (by grind)]))); done) | (exfalso; grind)) (by first | with_reducible rfl | (dsimp only; (unfold g_use; dsimp only; (repeat (first | rw [if_pos (by grind)] | rw [if_neg (by grind)]))); done) | (exfalso; grind))
        · skip
          refine jr_aload_n d_G_followUse_56 rfl rfl ?_
          refine jr_iconst (v := 2) d_G_followUse_57 (by decide) ?_
          refine jv_V1v d_G_followUse_58 l_G_141 k_G_give ⟨Nat.le_of_ble_eq_true rfl, Nat.le_of_ble_eq_true rfl⟩ rfl rfl (Nat.le_of_ble_eq_true rfl) (ct_G_give hG) (by grind) (by grind) ?_
          exact jr_retX (v := none) d_G_followUse_61 (by first | exact Nat.le_refl _ | exact Nat.zero_le _ | (dsimp only; omega)) (by first | exact Nat.le_refl _ | exact Nat.zero_le _ | (dsimp only; omega)) (by first | with_reducible rfl | (dsimp only; (unfold g_use; dsimp only; (repeat (first | rw [if_pos (by grind)] | rw [if_neg (by grind)]))); done) | (exfalso; grind)) (by first | with_reducible rfl | (dsimp only; (unfold g_use; dsimp only; (repeat (first | rw [if_pos (by grind)] | rw [if_neg (by grind)]))); done) | (exfalso; grind)) (by first | with_reducible rfl | (dsimp only; (unfold g_use; dsimp only; (repeat (first | rw [if_pos (by grind)] | rw [if_neg (by grind)]))); done) | (exfalso; grind)) (by first | with_reducible rfl | (dsimp only; (unfold g_use; dsimp only; (repeat (first | rw [if_pos (by grind)] | rw [if_neg (by grind)]))); done) | (exfalso; grind))
      · skip
        refine jr_aload_n d_G_followUse_42 rfl rfl ?_
        refine jr_iconst (v := 1) d_G_followUse_43 (by decide) ?_
        refine jv_V1v d_G_followUse_44 l_G_141 k_G_give ⟨Nat.le_of_ble_eq_true rfl, Nat.le_of_ble_eq_true rfl⟩ rfl rfl (Nat.le_of_ble_eq_true rfl) (ct_G_give hG) (by grind) (by grind) ?_
        refine jr_goto (tgt := 61) d_G_followUse_47 (by decide) ?_
        exact jr_retX (v := none) d_G_followUse_61 (by first | exact Nat.le_refl _ | exact Nat.zero_le _ | (dsimp only; omega)) (by first | exact Nat.le_refl _ | exact Nat.zero_le _ | (dsimp only; omega)) (by first | with_reducible rfl | (dsimp only; (unfold g_use; dsimp only; (repeat (first | rw [if_pos (by grind)] | rw [if_neg (by grind)]))); done) | (exfalso; grind)) (by first | with_reducible rfl | (dsimp only; (unfold g_use; dsimp only; (repeat (first | rw [if_pos (by grind)] | rw [if_neg (by grind)]))); done) | (exfalso; grind)) (by first | with_reducible rfl | (dsimp only; (unfold g_use; dsimp only; (repeat (first | rw [if_pos (by grind)] | rw [if_neg (by grind)]))); done) | (exfalso; grind)) (by first | with_reducible rfl | (dsimp only; (unfold g_use; dsimp only; (repeat (first | rw [if_pos (by grind)] | rw [if_neg (by grind)]))); done) | (exfalso; grind))
theorem ct_G_followReturn {I : jc_I} {O : jc_O} {live : jc_L → Prop} {c : Nat} (hG : jw_G O) : jc_Ct y_G_followReturn [.inr (some (2, 0, 0)), .inr (some (6, c, 0))] I O live (none, g_ret I c, O, live, 0, 0) := by
  obtain ⟨hG0, hG1, hG2, hG3, hG4⟩ := id hG
  refine jc_Ct.of (by decide +kernel) (rfl) (Nat.le_of_ble_eq_true rfl) ?_
  refine jr_aload_n d_G_followReturn_0 rfl rfl ?_
  refine jr_geti d_G_followReturn_1 f_G_166 rfl ?_
  refine jr_if_eq (tgt := 15) d_G_followReturn_4 (by decide) (fun c4 => ?_) (fun c4 => ?_)
  · skip
    refine jr_aload_n d_G_followReturn_15 rfl rfl ?_
    refine jr_aload_n d_G_followReturn_16 rfl rfl ?_
    refine jr_geti d_G_followReturn_17 f_G_65 rfl ?_
    refine jr_if_ne (tgt := 27) d_G_followReturn_20 (by decide) (fun c20 => ?_) (fun c20 => ?_)
    · skip
      refine jr_iconst (v := 0) d_G_followReturn_27 (by decide) ?_
      refine jv_V1v d_G_followReturn_28 l_G_137 k_G_demand ⟨Nat.le_of_ble_eq_true rfl, Nat.le_of_ble_eq_true rfl⟩ rfl rfl (Nat.le_of_ble_eq_true rfl) (ct_G_demand) (by grind) (by grind) ?_
      exact jr_retX (v := none) d_G_followReturn_31 (by first | exact Nat.le_refl _ | exact Nat.zero_le _ | (dsimp only; omega)) (by first | exact Nat.le_refl _ | exact Nat.zero_le _ | (dsimp only; omega)) (by first | with_reducible rfl | (dsimp only; (unfold g_ret; dsimp only; (repeat (first | rw [if_pos (by grind)] | rw [if_neg (by grind)]))); done) | (exfalso; grind)) (by first | with_reducible rfl | (dsimp only; (unfold g_ret; dsimp only; (repeat (first | rw [if_pos (by grind)] | rw [if_neg (by grind)]))); done) | (exfalso; grind)) (by first | with_reducible rfl | (dsimp only; (unfold g_ret; dsimp only; (repeat (first | rw [if_pos (by grind)] | rw [if_neg (by grind)]))); done) | (exfalso; grind)) (by first | with_reducible rfl | (dsimp only; (unfold g_ret; dsimp only; (repeat (first | rw [if_pos (by grind)] | rw [if_neg (by grind)]))); done) | (exfalso; grind))
    · skip
      refine jr_iconst (v := 1) d_G_followReturn_23 (by decide) ?_
      refine jr_goto (tgt := 28) d_G_followReturn_24 (by decide) ?_
      refine jv_V1v d_G_followReturn_28 l_G_137 k_G_demand ⟨Nat.le_of_ble_eq_true rfl, Nat.le_of_ble_eq_true rfl⟩ rfl rfl (Nat.le_of_ble_eq_true rfl) (ct_G_demand) (by grind) (by grind) ?_
      exact jr_retX (v := none) d_G_followReturn_31 (by first | exact Nat.le_refl _ | exact Nat.zero_le _ | (dsimp only; omega)) (by first | exact Nat.le_refl _ | exact Nat.zero_le _ | (dsimp only; omega)) (by first | with_reducible rfl | (dsimp only; (unfold g_ret; dsimp only; (repeat (first | rw [if_pos (by grind)] | rw [if_neg (by grind)]))); done) | (exfalso; grind)) (by first | with_reducible rfl | (dsimp only; (unfold g_ret; dsimp only; (repeat (first | rw [if_pos (by grind)] | rw [if_neg (by grind)]))); done) | (exfalso; grind)) (by first | with_reducible rfl | (dsimp only; (unfold g_ret; dsimp only; (repeat (first | rw [if_pos (by grind)] | rw [if_neg (by grind)]))); done) | (exfalso; grind)) (by first | with_reducible rfl | (dsimp only; (unfold g_ret; dsimp only; (repeat (first | rw [if_pos (by grind)] | rw [if_neg (by grind)]))); done) | (exfalso; grind))
  · skip
    refine jr_aload_n d_G_followReturn_7 rfl rfl ?_
    refine jr_aload_n d_G_followReturn_8 rfl rfl ?_
    refine jr_geti d_G_followReturn_9 f_G_166 rfl ?_
    refine jv_V1v d_G_followReturn_12 l_G_148 k_G_take ⟨Nat.le_of_ble_eq_true rfl, Nat.le_of_ble_eq_true rfl⟩ rfl rfl (Nat.le_of_ble_eq_true rfl) (ct_G_take hG) (by grind) (by grind) ?_
    refine jr_aload_n d_G_followReturn_15 rfl rfl ?_
    refine jr_aload_n d_G_followReturn_16 rfl rfl ?_
    refine jr_geti d_G_followReturn_17 f_G_65 rfl ?_
    refine jr_if_ne (tgt := 27) d_G_followReturn_20 (by decide) (fun c20 => ?_) (fun c20 => ?_)
    · skip
      refine jr_iconst (v := 0) d_G_followReturn_27 (by decide) ?_
      refine jv_V1v d_G_followReturn_28 l_G_137 k_G_demand ⟨Nat.le_of_ble_eq_true rfl, Nat.le_of_ble_eq_true rfl⟩ rfl rfl (Nat.le_of_ble_eq_true rfl) (ct_G_demand) (by grind) (by grind) ?_
      exact jr_retX (v := none) d_G_followReturn_31 (by first | exact Nat.le_refl _ | exact Nat.zero_le _ | (dsimp only; omega)) (by first | exact Nat.le_refl _ | exact Nat.zero_le _ | (dsimp only; omega)) (by first | with_reducible rfl | (dsimp only; (unfold g_ret; dsimp only; (repeat (first | rw [if_pos (by grind)] | rw [if_neg (by grind)]))); done) | (exfalso; grind)) (by first | with_reducible rfl | (dsimp only; (unfold g_ret; dsimp only; (repeat (first | rw [if_pos (by grind)] | rw [if_neg (by grind)]))); done) | (exfalso; grind)) (by first | with_reducible rfl | (dsimp only; (unfold g_ret; dsimp only; (repeat (first | rw [if_pos (by grind)] | rw [if_neg (by grind)]))); done) | (exfalso; grind)) (by first | with_reducible rfl | (dsimp only; (unfold g_ret; dsimp only; (repeat (first | rw [if_pos (by grind)] | rw [if_neg (by grind)]))); done) | (exfalso; grind))
    · skip
      refine jr_iconst (v := 1) d_G_followReturn_23 (by decide) ?_
      refine jr_goto (tgt := 28) d_G_followReturn_24 (by decide) ?_
      refine jv_V1v d_G_followReturn_28 l_G_137 k_G_demand ⟨Nat.le_of_ble_eq_true rfl, Nat.le_of_ble_eq_true rfl⟩ rfl rfl (Nat.le_of_ble_eq_true rfl) (ct_G_demand) (by grind) (by grind) ?_
      exact jr_retX (v := none) d_G_followReturn_31 (by first | exact Nat.le_refl _ | exact Nat.zero_le _ | (dsimp only; omega)) (by first | exact Nat.le_refl _ | exact Nat.zero_le _ | (dsimp only; omega)) (by first | with_reducible rfl | (dsimp only; (unfold g_ret; dsimp only; (repeat (first | rw [if_pos (by grind)] | rw [if_neg (by grind)]))); done) | (exfalso; grind)) (by first | with_reducible rfl | (dsimp only; (unfold g_ret; dsimp only; (repeat (first | rw [if_pos (by grind)] | rw [if_neg (by grind)]))); done) | (exfalso; grind)) (by first | with_reducible rfl | (dsimp only; (unfold g_ret; dsimp only; (repeat (first | rw [if_pos (by grind)] | rw [if_neg (by grind)]))); done) | (exfalso; grind)) (by first | with_reducible rfl | (dsimp only; (unfold g_ret; dsimp only; (repeat (first | rw [if_pos (by grind)] | rw [if_neg (by grind)]))); done) | (exfalso; grind))
