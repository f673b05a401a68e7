/-- what Thing.begin leaves -/
def t_bg (I : jc_I) (k : Nat) (x : Int32) : jc_I := jc_zr (jc_up (jc_up (jc_up I (7, k, 0) 1 x) (7, k, 0) 2 (-1)) (7, k, 0) 3 0) (29, k, 0) 8 0
theorem t_bg_t (I : jc_I) (k : Nat) (x : Int32) (t : Nat) (u : Nat × Nat) (j : Nat) (h : t ≠ 7) (h2 : t ≠ 29) : t_bg I k x (t, u) j = I (t, u) j := by
  unfold t_bg jc_zr
  rw [if_neg (fun e => h2 (congrArg Prod.fst e.1)), jc_up_t _ _ _ _ _ _ _ _ h, jc_up_t _ _ _ _ _ _ _ _ h, jc_up_t _ _ _ _ _ _ _ _ h]
theorem ct_H_make_full {I : jc_I} {O : jc_O} {live : jc_L → Prop} {x : Int32} (hf : 2000 ≤ I (3, 0, 0) 2 ∨ 40000 ≤ I (3, 0, 0) 3) : jc_Ct y_H_make [.inr (some (3, 0, 0)), .inl x] I O live (some (.inl 0), I, O, live, 0, 0) := by
  refine jc_Ct.of (by decide +kernel) (Or.inl rfl) (Nat.le_of_ble_eq_true rfl) ?_
  refine jr_aload_n d_H_make_0 rfl rfl ?_
  refine jv_V0r d_H_make_1 l_H_29 k_H_isFull ⟨Nat.le_of_ble_eq_true rfl, Nat.le_of_ble_eq_true rfl⟩ rfl rfl (Nat.le_of_ble_eq_true rfl) (ct_H_isFull) (by first | decide | (dsimp only; omega) | (dsimp only; grind)) (by first | decide | (dsimp only; omega) | (dsimp only; grind)) ?_
  refine jr_if_eq (tgt := 9) d_H_make_4 (by decide) (fun c4 => ?_) (fun c4 => ?_)
  · skip
    exact absurd hf (by grind)
  · skip
    refine jr_iconst (v := 0) d_H_make_7 (by decide) ?_
    exact jr_retX (v := some _) d_H_make_8 (by first | exact Nat.le_refl _ | exact Nat.zero_le _ | (dsimp only; omega)) (by first | exact Nat.le_refl _ | exact Nat.zero_le _ | (dsimp only; omega)) (by first | with_reducible rfl | (dsimp only; rfl; done) | (exfalso; grind)) (by first | with_reducible rfl | (dsimp only; rfl; done) | (exfalso; grind)) (by first | with_reducible rfl | (dsimp only; rfl; done) | (exfalso; grind)) (by first | with_reducible rfl | (dsimp only; rfl; done) | (exfalso; grind))
theorem ct_H_make_old {I : jc_I} {O : jc_O} {live : jc_L → Prop} {x : Int32} (hf : ¬ (2000 ≤ I (3, 0, 0) 2 ∨ 40000 ≤ I (3, 0, 0) 3)) (h0 : O (3, 0, 0) 0 = some (30, 0, 0)) (hp : 0 ≤ I (3, 0, 0) 2) (ho : O (30, 0, 0) (I (3, 0, 0) 2).toNatClampNeg = some (7, (I (3, 0, 0) 2).toNatClampNeg, 0)) (ht : O (7, (I (3, 0, 0) 2).toNatClampNeg, 0) 0 = some (29, (I (3, 0, 0) 2).toNatClampNeg, 0)) : jc_Ct y_H_make [.inr (some (3, 0, 0)), .inl x] I O live (some (.inl (I (3, 0, 0) 2 + 1)), jc_up (jc_up (t_bg I (I (3, 0, 0) 2).toNatClampNeg x) (3, 0, 0) 2 (I (3, 0, 0) 2 + 1)) (3, 0, 0) 3 (I (3, 0, 0) 3 + 1), O, live, 0, 0) := by
  refine jc_Ct.of (by decide +kernel) (Or.inl rfl) (Nat.le_of_ble_eq_true rfl) ?_
  refine jr_aload_n d_H_make_0 rfl rfl ?_
  refine jv_V0r d_H_make_1 l_H_29 k_H_isFull ⟨Nat.le_of_ble_eq_true rfl, Nat.le_of_ble_eq_true rfl⟩ rfl rfl (Nat.le_of_ble_eq_true rfl) (ct_H_isFull) (by first | decide | (dsimp only; omega) | (dsimp only; grind)) (by first | decide | (dsimp only; omega) | (dsimp only; grind)) ?_
  refine jr_if_eq (tgt := 9) d_H_make_4 (by decide) (fun c4 => ?_) (fun c4 => ?_)
  · skip
    refine jr_aload_n d_H_make_9 rfl rfl ?_
    refine jr_getr d_H_make_10 f_H_11 rfl rfl ?_
    first | rw [h0] | rw [ho] | skip
    refine jr_aload_n d_H_make_13 rfl rfl ?_
    refine jr_geti d_H_make_14 f_H_21 rfl ?_
    refine jr_aald d_H_make_17 rfl rfl rfl (jin (m := 2000) (by decide) (by grind) (by grind)) ?_
    first | rw [h0] | rw [ho] | skip
    refine jr_astore_n d_H_make_18 rfl (Nat.le_of_ble_eq_true rfl) ?_
    refine jr_aload_n d_H_make_19 rfl rfl ?_
    refine jr_ifnonnull (tgt := 41) d_H_make_20 (by decide) (fun q20 c20 => ?_) (fun c20 => by cases c20)
    refine jr_aload_n d_H_make_41 rfl rfl ?_
    refine jr_iload_n d_H_make_42 rfl rfl ?_
    refine jv_V1v d_H_make_43 l_H_34 k_T_begin ⟨Nat.le_of_ble_eq_true rfl, Nat.le_of_ble_eq_true rfl⟩ rfl rfl (Nat.le_of_ble_eq_true rfl) (show jc_Ct y_T_begin _ _ _ _ (none, t_bg _ _ _, _, _, 0, 0) from ct_T_begin ht) (by first | decide | (dsimp only; omega) | (dsimp only; grind)) (by first | decide | (dsimp only; omega) | (dsimp only; grind)) ?_
    try simp only [jc_up_s, jc_up_k, jc_up_t, jc_cl_s, jc_cl_t, t_bg_t, ne_eq, Nat.reduceEqDiff, not_false_eq_true, Nat.reduceAdd]
    refine jr_aload_n d_H_make_46 rfl rfl ?_
    refine jr_dup d_H_make_47 ?_
    refine jr_geti d_H_make_48 f_H_21 rfl ?_
    refine jr_iconst (v := 1) d_H_make_51 (by decide) ?_
    refine jr_iadd d_H_make_52 ?_
    refine jr_puti d_H_make_53 f_H_21 (Or.inl rfl) rfl ?_
    refine jr_aload_n d_H_make_56 rfl rfl ?_
    refine jr_dup d_H_make_57 ?_
    refine jr_geti d_H_make_58 f_H_25 rfl ?_
    try simp only [jc_up_s, jc_up_k, jc_up_t, jc_cl_s, jc_cl_t, t_bg_t, ne_eq, Nat.reduceEqDiff, not_false_eq_true, Nat.reduceAdd]
    refine jr_iconst (v := 1) d_H_make_61 (by decide) ?_
    refine jr_iadd d_H_make_62 ?_
    refine jr_puti d_H_make_63 f_H_25 (Or.inl rfl) rfl ?_
    refine jr_aload_n d_H_make_66 rfl rfl ?_
    refine jr_geti d_H_make_67 f_H_21 rfl ?_
    try simp only [jc_up_s, jc_up_k, jc_up_t, jc_cl_s, jc_cl_t, t_bg_t, ne_eq, Nat.reduceEqDiff, not_false_eq_true, Nat.reduceAdd]
    exact jr_retX (v := some _) d_H_make_70 (by first | exact Nat.le_refl _ | exact Nat.zero_le _ | (dsimp only; omega)) (by first | exact Nat.le_refl _ | exact Nat.zero_le _ | (dsimp only; omega)) (by first | with_reducible rfl | (dsimp only; rfl; done) | (exfalso; grind)) (by first | with_reducible rfl | (dsimp only; rfl; done) | (exfalso; grind)) (by first | with_reducible rfl | (dsimp only; rfl; done) | (exfalso; grind)) (by first | with_reducible rfl | (dsimp only; rfl; done) | (exfalso; grind))
  · skip
    exact absurd hf (by grind)
theorem ct_H_make_new {I : jc_I} {O : jc_O} {live : jc_L → Prop} {x : Int32} (hf : ¬ (2000 ≤ I (3, 0, 0) 2 ∨ 40000 ≤ I (3, 0, 0) 3)) (h0 : O (3, 0, 0) 0 = some (30, 0, 0)) (hp : 0 ≤ I (3, 0, 0) 2) (ho : O (30, 0, 0) (I (3, 0, 0) 2).toNatClampNeg = none) (f1 : ¬ live (7, (I (3, 0, 0) 2).toNatClampNeg, 0)) (f2 : ¬ live (29, (I (3, 0, 0) 2).toNatClampNeg, 0)) : jc_Ct y_H_make [.inr (some (3, 0, 0)), .inl x] I O live (some (.inl (I (3, 0, 0) 2 + 1)), jc_up (jc_up (t_bg (jc_cl (jc_cl I (7, (I (3, 0, 0) 2).toNatClampNeg, 0) 0) (29, (I (3, 0, 0) 2).toNatClampNeg, 0) 0) (I (3, 0, 0) 2).toNatClampNeg x) (3, 0, 0) 2 (I (3, 0, 0) 2 + 1)) (3, 0, 0) 3 (I (3, 0, 0) 3 + 1), jc_up (jc_up (jc_cl (jc_cl O (7, (I (3, 0, 0) 2).toNatClampNeg, 0) none) (29, (I (3, 0, 0) 2).toNatClampNeg, 0) none) (7, (I (3, 0, 0) 2).toNatClampNeg, 0) 0 (some (29, (I (3, 0, 0) 2).toNatClampNeg, 0))) (30, 0, 0) (I (3, 0, 0) 2).toNatClampNeg (some (7, (I (3, 0, 0) 2).toNatClampNeg, 0)), jadd (29, (I (3, 0, 0) 2).toNatClampNeg, 0) (jadd (7, (I (3, 0, 0) 2).toNatClampNeg, 0) live), 2, 12) := by
  refine jc_Ct.of (by decide +kernel) (Or.inl rfl) (Nat.le_of_ble_eq_true rfl) ?_
  refine jr_aload_n d_H_make_0 rfl rfl ?_
  refine jv_V0r d_H_make_1 l_H_29 k_H_isFull ⟨Nat.le_of_ble_eq_true rfl, Nat.le_of_ble_eq_true rfl⟩ rfl rfl (Nat.le_of_ble_eq_true rfl) (ct_H_isFull) (by first | decide | (dsimp only; omega) | (dsimp only; grind)) (by first | decide | (dsimp only; omega) | (dsimp only; grind)) ?_
  refine jr_if_eq (tgt := 9) d_H_make_4 (by decide) (fun c4 => ?_) (fun c4 => ?_)
  · skip
    refine jr_aload_n d_H_make_9 rfl rfl ?_
    refine jr_getr d_H_make_10 f_H_11 rfl rfl ?_
    first | rw [h0] | rw [ho] | skip
    refine jr_aload_n d_H_make_13 rfl rfl ?_
    refine jr_geti d_H_make_14 f_H_21 rfl ?_
    refine jr_aald d_H_make_17 rfl rfl rfl (jin (m := 2000) (by decide) (by grind) (by grind)) ?_
    first | rw [h0] | rw [ho] | skip
    refine jr_astore_n d_H_make_18 rfl (Nat.le_of_ble_eq_true rfl) ?_
    refine jr_aload_n d_H_make_19 rfl rfl ?_
    refine jr_ifnonnull (tgt := 41) d_H_make_20 (by decide) (fun q20 c20 => by cases c20) (fun c20 => ?_)
    refine jr_new (7, (I (3, 0, 0) 2).toNatClampNeg, 0) d_H_make_23 n_H_9 rfl (f1) (by first | decide | (dsimp only; omega)) (by first | decide | (dsimp only; omega)) ?_
    refine jr_dup d_H_make_26 ?_
    refine jv_IN0vA d_H_make_27 l_H_33 k_T_init ⟨Nat.le_of_ble_eq_true rfl, Nat.le_of_ble_eq_true rfl⟩ (Nat.le_of_ble_eq_true rfl) (ct_T_init (k := (I (3, 0, 0) 2).toNatClampNeg) (by simp [*])) (fun q9 h9 => by first | exact Or.inr h9 | exact Or.inr (Or.inr h9) | (simp_all; done)) (by first | decide | (dsimp only; omega) | (dsimp only; grind)) (by first | decide | (dsimp only; omega) | (dsimp only; grind)) ?_
    refine jr_astore_n d_H_make_30 rfl (Nat.le_of_ble_eq_true rfl) ?_
    refine jr_aload_n d_H_make_31 rfl rfl ?_
    refine jr_getr d_H_make_32 f_H_11 rfl rfl ?_
    try simp only [jc_up_s, jc_up_k, jc_up_t, jc_cl_s, jc_cl_t, t_bg_t, ne_eq, Nat.reduceEqDiff, not_false_eq_true, Nat.reduceAdd]
    first | rw [h0] | rw [ho] | skip
    refine jr_aload_n d_H_make_35 rfl rfl ?_
    refine jr_geti d_H_make_36 f_H_21 rfl ?_
    try simp only [jc_up_s, jc_up_k, jc_up_t, jc_cl_s, jc_cl_t, t_bg_t, ne_eq, Nat.reduceEqDiff, not_false_eq_true, Nat.reduceAdd]
    refine jr_aload_n d_H_make_39 rfl rfl ?_
    refine jr_aast d_H_make_40 rfl rfl rfl (jin (m := 2000) (by decide) (by grind) (by grind)) (fun q9 e9 => by cases e9; exact ⟨_, _, rfl, rfl, Or.inl rfl⟩) ?_
    refine jr_aload_n d_H_make_41 rfl rfl ?_
    refine jr_iload_n d_H_make_42 rfl rfl ?_
    refine jv_V1v d_H_make_43 l_H_34 k_T_begin ⟨Nat.le_of_ble_eq_true rfl, Nat.le_of_ble_eq_true rfl⟩ rfl rfl (Nat.le_of_ble_eq_true rfl) (show jc_Ct y_T_begin _ _ _ _ (none, t_bg _ _ _, _, _, 0, 0) from ct_T_begin (k := (I (3, 0, 0) 2).toNatClampNeg) (by simp only [jc_up_s, jc_up_k, jc_up_t, jc_cl_s, jc_cl_t, ne_eq, Nat.reduceEqDiff, not_false_eq_true, Nat.reduceAdd])) (by first | decide | (dsimp only; omega) | (dsimp only; grind)) (by first | decide | (dsimp only; omega) | (dsimp only; grind)) ?_
    try simp only [jc_up_s, jc_up_k, jc_up_t, jc_cl_s, jc_cl_t, t_bg_t, ne_eq, Nat.reduceEqDiff, not_false_eq_true, Nat.reduceAdd]
    refine jr_aload_n d_H_make_46 rfl rfl ?_
    refine jr_dup d_H_make_47 ?_
    refine jr_geti d_H_make_48 f_H_21 rfl ?_
    try simp only [jc_up_s, jc_up_k, jc_up_t, jc_cl_s, jc_cl_t, t_bg_t, ne_eq, Nat.reduceEqDiff, not_false_eq_true, Nat.reduceAdd]
    refine jr_iconst (v := 1) d_H_make_51 (by decide) ?_
    refine jr_iadd d_H_make_52 ?_
    refine jr_puti d_H_make_53 f_H_21 (Or.inl rfl) rfl ?_
    refine jr_aload_n d_H_make_56 rfl rfl ?_
    refine jr_dup d_H_make_57 ?_
    refine jr_geti d_H_make_58 f_H_25 rfl ?_
    try simp only [jc_up_s, jc_up_k, jc_up_t, jc_cl_s, jc_cl_t, t_bg_t, ne_eq, Nat.reduceEqDiff, not_false_eq_true, Nat.reduceAdd]
    refine jr_iconst (v := 1) d_H_make_61 (by decide) ?_
    refine jr_iadd d_H_make_62 ?_
    refine jr_puti d_H_make_63 f_H_25 (Or.inl rfl) rfl ?_
    refine jr_aload_n d_H_make_66 rfl rfl ?_
    refine jr_geti d_H_make_67 f_H_21 rfl ?_
    try simp only [jc_up_s, jc_up_k, jc_up_t, jc_cl_s, jc_cl_t, t_bg_t, ne_eq, Nat.reduceEqDiff, not_false_eq_true, Nat.reduceAdd]
    exact jr_retX (v := some _) d_H_make_70 (by first | exact Nat.le_refl _ | exact Nat.zero_le _ | (dsimp only; omega)) (by first | exact Nat.le_refl _ | exact Nat.zero_le _ | (dsimp only; omega)) (by first | with_reducible rfl | (dsimp only; rfl; done) | (exfalso; grind)) (by first | with_reducible rfl | (dsimp only; rfl; done) | (exfalso; grind)) (by first | with_reducible rfl | (dsimp only; rfl; done) | (exfalso; grind)) (by first | with_reducible rfl | (dsimp only; rfl; done) | (exfalso; grind))
  · skip
    exact absurd hf (by grind)
/-- Heap.make: the answer, and what comes of the heap -/
def h_mk (I : jc_I) (O : jc_O) (live : jc_L → Prop) (x : Int32) : Int32 × jc_S :=
  if 2000 ≤ I (3, 0, 0) 2 ∨ 40000 ≤ I (3, 0, 0) 3 then (0, I, O, live, 0, 0)
  else if O (30, 0, 0) (I (3, 0, 0) 2).toNatClampNeg = none then (I (3, 0, 0) 2 + 1, jc_up (jc_up (t_bg (jc_cl (jc_cl I (7, (I (3, 0, 0) 2).toNatClampNeg, 0) 0) (29, (I (3, 0, 0) 2).toNatClampNeg, 0) 0) (I (3, 0, 0) 2).toNatClampNeg x) (3, 0, 0) 2 (I (3, 0, 0) 2 + 1)) (3, 0, 0) 3 (I (3, 0, 0) 3 + 1), jc_up (jc_up (jc_cl (jc_cl O (7, (I (3, 0, 0) 2).toNatClampNeg, 0) none) (29, (I (3, 0, 0) 2).toNatClampNeg, 0) none) (7, (I (3, 0, 0) 2).toNatClampNeg, 0) 0 (some (29, (I (3, 0, 0) 2).toNatClampNeg, 0))) (30, 0, 0) (I (3, 0, 0) 2).toNatClampNeg (some (7, (I (3, 0, 0) 2).toNatClampNeg, 0)), jadd (29, (I (3, 0, 0) 2).toNatClampNeg, 0) (jadd (7, (I (3, 0, 0) 2).toNatClampNeg, 0) live), 2, 12)
  else (I (3, 0, 0) 2 + 1, jc_up (jc_up (t_bg I (I (3, 0, 0) 2).toNatClampNeg x) (3, 0, 0) 2 (I (3, 0, 0) 2 + 1)) (3, 0, 0) 3 (I (3, 0, 0) 3 + 1), O, live, 0, 0)
/-- the next thing is there, or can be made -/
def jw_N (I : jc_I) (O : jc_O) (live : jc_L → Prop) : Prop := O (3, 0, 0) 0 = some (30, 0, 0) ∧ 0 ≤ I (3, 0, 0) 2 ∧ ((O (30, 0, 0) (I (3, 0, 0) 2).toNatClampNeg = some (7, (I (3, 0, 0) 2).toNatClampNeg, 0) ∧ O (7, (I (3, 0, 0) 2).toNatClampNeg, 0) 0 = some (29, (I (3, 0, 0) 2).toNatClampNeg, 0)) ∨ (O (30, 0, 0) (I (3, 0, 0) 2).toNatClampNeg = none ∧ ¬ live (7, (I (3, 0, 0) 2).toNatClampNeg, 0) ∧ ¬ live (29, (I (3, 0, 0) 2).toNatClampNeg, 0)))
theorem ct_H_make {I : jc_I} {O : jc_O} {live : jc_L → Prop} {x : Int32} (hN : jw_N I O live) : jc_Ct y_H_make [.inr (some (3, 0, 0)), .inl x] I O live (some (.inl (h_mk I O live x).1), (h_mk I O live x).2.1, (h_mk I O live x).2.2.1, (h_mk I O live x).2.2.2.1, (h_mk I O live x).2.2.2.2.1, (h_mk I O live x).2.2.2.2.2) := by
  obtain ⟨h0, hp, hw⟩ := hN
  by_cases hf : 2000 ≤ I (3, 0, 0) 2 ∨ 40000 ≤ I (3, 0, 0) 3
  · unfold h_mk
    rw [if_pos hf]
    exact ct_H_make_full hf
  · rcases hw with ⟨ho, ht⟩ | ⟨ho, f1, f2⟩
    · unfold h_mk
      rw [if_neg hf, if_neg (by rw [ho]; simp)]
      exact ct_H_make_old hf h0 hp ho ht
    · unfold h_mk
      rw [if_neg hf, if_pos ho]
      exact ct_H_make_new hf h0 hp ho f1 f2
theorem ct_Cs_begin_full {I : jc_I} {O : jc_O} {live : jc_L → Prop} {p r : Int32} (hf : 40 ≤ I (1, 0, 0) 1) : jc_Ct y_Cs_begin [.inr (some (1, 0, 0)), .inl p, .inl r] I O live (some (.inl (-12)), I, O, live, 0, 0) := by
  refine jc_Ct.of (by decide +kernel) (Or.inl rfl) (Nat.le_of_ble_eq_true rfl) ?_
  refine jr_aload_n d_Cs_begin_0 rfl rfl ?_
  refine jr_geti d_Cs_begin_1 f_Cs_17 rfl ?_
  refine jr_bipush (v := 40) d_Cs_begin_4 (by decide) ?_
  refine jr_icmp_lt (tgt := 12) d_Cs_begin_6 (by decide) (fun c6 => ?_) (fun c6 => ?_)
  · skip
    exact absurd hf (by grind)
  · skip
    refine jr_bipush (v := (-12)) d_Cs_begin_9 (by decide) ?_
    exact jr_retX (v := some _) d_Cs_begin_11 (by first | exact Nat.le_refl _ | exact Nat.zero_le _ | (dsimp only; omega)) (by first | exact Nat.le_refl _ | exact Nat.zero_le _ | (dsimp only; omega)) (by first | with_reducible rfl | (dsimp only; rfl; done) | (exfalso; grind)) (by first | with_reducible rfl | (dsimp only; rfl; done) | (exfalso; grind)) (by first | with_reducible rfl | (dsimp only; rfl; done) | (exfalso; grind)) (by first | with_reducible rfl | (dsimp only; rfl; done) | (exfalso; grind))
theorem ct_Cs_begin_new {I : jc_I} {O : jc_O} {live : jc_L → Prop} {p r : Int32} (hf : I (1, 0, 0) 1 < 40) (hp : 0 ≤ I (1, 0, 0) 1) (h0 : O (1, 0, 0) 0 = some (24, 0, 0)) (f0 : ¬ live (6, (I (1, 0, 0) 1).toNatClampNeg, 0)) (f1 : ¬ live (20, (I (1, 0, 0) 1).toNatClampNeg, 0)) (f2 : ¬ live (21, (I (1, 0, 0) 1).toNatClampNeg, 0)) (f3 : ¬ live (22, (I (1, 0, 0) 1).toNatClampNeg, 0)) (f4 : ¬ live (23, (I (1, 0, 0) 1).toNatClampNeg, 0)) : jc_Ct y_Cs_begin [.inr (some (1, 0, 0)), .inl p, .inl r] I O live (some (.inl (I (1, 0, 0) 1 + 1 - 1)), jc_up (jc_up (jc_up (jc_up (jc_cl (jc_cl (jc_cl (jc_cl (jc_cl I (6, (I (1, 0, 0) 1).toNatClampNeg, 0) 0) (20, (I (1, 0, 0) 1).toNatClampNeg, 0) 0) (21, (I (1, 0, 0) 1).toNatClampNeg, 0) 0) (22, (I (1, 0, 0) 1).toNatClampNeg, 0) 0) (23, (I (1, 0, 0) 1).toNatClampNeg, 0) 0) (6, (I (1, 0, 0) 1).toNatClampNeg, 0) 0 (I (1, 0, 0) 1)) (6, (I (1, 0, 0) 1).toNatClampNeg, 0) 1 p) (6, (I (1, 0, 0) 1).toNatClampNeg, 0) 2 r) (1, 0, 0) 1 (I (1, 0, 0) 1 + 1), jc_up (jc_up (jc_up (jc_cl (jc_up (jc_cl (jc_up (jc_cl (jc_up (jc_cl (jc_cl O (6, (I (1, 0, 0) 1).toNatClampNeg, 0) none) (20, (I (1, 0, 0) 1).toNatClampNeg, 0) none) (6, (I (1, 0, 0) 1).toNatClampNeg, 0) 3 (some (20, (I (1, 0, 0) 1).toNatClampNeg, 0))) (21, (I (1, 0, 0) 1).toNatClampNeg, 0) none) (6, (I (1, 0, 0) 1).toNatClampNeg, 0) 4 (some (21, (I (1, 0, 0) 1).toNatClampNeg, 0))) (22, (I (1, 0, 0) 1).toNatClampNeg, 0) none) (6, (I (1, 0, 0) 1).toNatClampNeg, 0) 5 (some (22, (I (1, 0, 0) 1).toNatClampNeg, 0))) (23, (I (1, 0, 0) 1).toNatClampNeg, 0) none) (6, (I (1, 0, 0) 1).toNatClampNeg, 0) 6 (some (23, (I (1, 0, 0) 1).toNatClampNeg, 0))) (1, 0, 0) 2 (some (6, (I (1, 0, 0) 1).toNatClampNeg, 0))) (24, 0, 0) (I (1, 0, 0) 1).toNatClampNeg (some (6, (I (1, 0, 0) 1).toNatClampNeg, 0)), (jadd (23, (I (1, 0, 0) 1).toNatClampNeg, 0) (jadd (22, (I (1, 0, 0) 1).toNatClampNeg, 0) (jadd (21, (I (1, 0, 0) 1).toNatClampNeg, 0) (jadd (20, (I (1, 0, 0) 1).toNatClampNeg, 0) (jadd (6, (I (1, 0, 0) 1).toNatClampNeg, 0) live))))), 5, 158) := by
  refine jc_Ct.of (by decide +kernel) (Or.inl rfl) (Nat.le_of_ble_eq_true rfl) ?_
  refine jr_aload_n d_Cs_begin_0 rfl rfl ?_
  refine jr_geti d_Cs_begin_1 f_Cs_17 rfl ?_
  refine jr_bipush (v := 40) d_Cs_begin_4 (by decide) ?_
  refine jr_icmp_lt (tgt := 12) d_Cs_begin_6 (by decide) (fun c6 => ?_) (fun c6 => ?_)
  · skip
    refine jr_aload_n d_Cs_begin_12 rfl rfl ?_
    refine jr_new (6, (I (1, 0, 0) 1).toNatClampNeg, 0) d_Cs_begin_13 n_Cs_9 rfl (f0) (by first | decide | (dsimp only; omega)) (by first | decide | (dsimp only; omega)) ?_
    refine jr_dup d_Cs_begin_16 ?_
    refine jr_aload_n d_Cs_begin_17 rfl rfl ?_
    refine jr_geti d_Cs_begin_18 f_Cs_17 rfl ?_
    try simp only [jc_up_s, jc_up_k, jc_up_t, jc_cl_s, jc_cl_t, ne_eq, Nat.reduceEqDiff, not_false_eq_true, Nat.reduceAdd]
    refine jr_iload_n d_Cs_begin_21 rfl rfl ?_
    refine jr_iload_n d_Cs_begin_22 rfl rfl ?_
    refine jv_I3vA d_Cs_begin_23 l_Cs_21 k_C_init ⟨Nat.le_of_ble_eq_true rfl, Nat.le_of_ble_eq_true rfl⟩ (Nat.le_of_ble_eq_true rfl) (ct_C_init (c := (I (1, 0, 0) 1).toNatClampNeg) (by simp [*]) (by simp [*]) (by simp [*]) (by simp [*])) (fun q9 h9 => Or.inr (Or.inr (Or.inr (Or.inr h9)))) (by first | decide | (dsimp only; omega) | (dsimp only; grind)) (by first | decide | (dsimp only; omega) | (dsimp only; grind)) ?_
    refine jr_putr d_Cs_begin_26 f_Cs_24 (Or.inl rfl) rfl rfl ?_
    refine jr_aload_n d_Cs_begin_29 rfl rfl ?_
    refine jr_getr d_Cs_begin_30 f_Cs_11 rfl rfl ?_
    try simp only [jc_up_s, jc_up_k, jc_up_t, jc_cl_s, jc_cl_t, ne_eq, Nat.reduceEqDiff, not_false_eq_true, Nat.reduceAdd]
    first | rw [h0] | skip
    refine jr_aload_n d_Cs_begin_33 rfl rfl ?_
    refine jr_geti d_Cs_begin_34 f_Cs_17 rfl ?_
    try simp only [jc_up_s, jc_up_k, jc_up_t, jc_cl_s, jc_cl_t, ne_eq, Nat.reduceEqDiff, not_false_eq_true, Nat.reduceAdd]
    refine jr_aload_n d_Cs_begin_37 rfl rfl ?_
    refine jr_getr d_Cs_begin_38 f_Cs_24 rfl rfl ?_
    try simp only [jc_up_s, jc_up_k, jc_up_t, jc_cl_s, jc_cl_t, ne_eq, Nat.reduceEqDiff, not_false_eq_true, Nat.reduceAdd]
    first | rw [h0] | skip
    refine jr_aast d_Cs_begin_41 rfl rfl rfl (jin (m := 40) (by decide) (by grind) (by grind)) (fun q9 e9 => by cases e9; exact ⟨_, _, rfl, rfl, Or.inl rfl⟩) ?_
    refine jr_aload_n d_Cs_begin_42 rfl rfl ?_
    refine jr_dup d_Cs_begin_43 ?_
    refine jr_geti d_Cs_begin_44 f_Cs_17 rfl ?_
    try simp only [jc_up_s, jc_up_k, jc_up_t, jc_cl_s, jc_cl_t, ne_eq, Nat.reduceEqDiff, not_false_eq_true, Nat.reduceAdd]
    refine jr_iconst (v := 1) d_Cs_begin_47 (by decide) ?_
    refine jr_iadd d_Cs_begin_48 ?_
    refine jr_puti d_Cs_begin_49 f_Cs_17 (Or.inl rfl) rfl ?_
    refine jr_aload_n d_Cs_begin_52 rfl rfl ?_
    refine jr_geti d_Cs_begin_53 f_Cs_17 rfl ?_
    try simp only [jc_up_s, jc_up_k, jc_up_t, jc_cl_s, jc_cl_t, ne_eq, Nat.reduceEqDiff, not_false_eq_true, Nat.reduceAdd]
    refine jr_iconst (v := 1) d_Cs_begin_56 (by decide) ?_
    refine jr_isub d_Cs_begin_57 ?_
    exact jr_retX (v := some _) d_Cs_begin_58 (by first | exact Nat.le_refl _ | exact Nat.zero_le _ | (dsimp only; omega)) (by first | exact Nat.le_refl _ | exact Nat.zero_le _ | (dsimp only; omega)) (by first | with_reducible rfl | (dsimp only; rfl; done) | (exfalso; grind)) (by first | with_reducible rfl | (dsimp only; rfl; done) | (exfalso; grind)) (by first | with_reducible rfl | (dsimp only; rfl; done) | (exfalso; grind)) (by first | with_reducible rfl | (dsimp only; rfl; done) | (exfalso; grind))
  · skip
    exact absurd hf (by grind)
theorem ct_C_tellRow_full {I : jc_I} {O : jc_O} {live : jc_L → Prop} {c : Nat} {a b e k : Int32} (hf : 20 ≤ I (6, c, 0) 9) : jc_Ct y_C_tellRow [.inr (some (6, c, 0)), .inl a, .inl b, .inl e, .inl k] I O live (some (.inl (-12)), I, O, live, 0, 0) := by
  refine jc_Ct.of (by decide +kernel) (Or.inl rfl) (Nat.le_of_ble_eq_true rfl) ?_
  refine jr_aload_n d_C_tellRow_0 rfl rfl ?_
  refine jr_geti d_C_tellRow_1 f_C_43 rfl ?_
  refine jr_bipush (v := 20) d_C_tellRow_4 (by decide) ?_
  refine jr_icmp_lt (tgt := 12) d_C_tellRow_6 (by decide) (fun c6 => ?_) (fun c6 => ?_)
  · skip
    exact absurd hf (by grind)
  · skip
    refine jr_bipush (v := (-12)) d_C_tellRow_9 (by decide) ?_
    exact jr_retX (v := some _) d_C_tellRow_11 (by first | exact Nat.le_refl _ | exact Nat.zero_le _ | (dsimp only; omega)) (by first | exact Nat.le_refl _ | exact Nat.zero_le _ | (dsimp only; omega)) (by first | with_reducible rfl | (dsimp only; rfl; done) | (exfalso; grind)) (by first | with_reducible rfl | (dsimp only; rfl; done) | (exfalso; grind)) (by first | with_reducible rfl | (dsimp only; rfl; done) | (exfalso; grind)) (by first | with_reducible rfl | (dsimp only; rfl; done) | (exfalso; grind))
theorem ct_C_tellRow_new {I : jc_I} {O : jc_O} {live : jc_L → Prop} {c : Nat} {a b e k : Int32} (hf : I (6, c, 0) 9 < 20) (hp : 0 ≤ I (6, c, 0) 9) (h6 : O (6, c, 0) 6 = some (23, c, 0)) (f0 : ¬ live (5, c, (I (6, c, 0) 9).toNatClampNeg)) : jc_Ct y_C_tellRow [.inr (some (6, c, 0)), .inl a, .inl b, .inl e, .inl k] I O live (some (.inl (I (6, c, 0) 9 + 1)), jc_up (jc_up (jc_up (jc_up (jc_up (jc_cl I (5, c, (I (6, c, 0) 9).toNatClampNeg) 0) (5, c, (I (6, c, 0) 9).toNatClampNeg) 0 a) (5, c, (I (6, c, 0) 9).toNatClampNeg) 1 b) (5, c, (I (6, c, 0) 9).toNatClampNeg) 2 e) (5, c, (I (6, c, 0) 9).toNatClampNeg) 3 k) (6, c, 0) 9 (I (6, c, 0) 9 + 1), jc_up (jc_cl O (5, c, (I (6, c, 0) 9).toNatClampNeg) none) (23, c, 0) (I (6, c, 0) 9).toNatClampNeg (some (5, c, (I (6, c, 0) 9).toNatClampNeg)), jadd (5, c, (I (6, c, 0) 9).toNatClampNeg) live, 1, 4) := by
  refine jc_Ct.of (by decide +kernel) (Or.inl rfl) (Nat.le_of_ble_eq_true rfl) ?_
  refine jr_aload_n d_C_tellRow_0 rfl rfl ?_
  refine jr_geti d_C_tellRow_1 f_C_43 rfl ?_
  refine jr_bipush (v := 20) d_C_tellRow_4 (by decide) ?_
  refine jr_icmp_lt (tgt := 12) d_C_tellRow_6 (by decide) (fun c6 => ?_) (fun c6 => ?_)
  · skip
    refine jr_aload_n d_C_tellRow_12 rfl rfl ?_
    refine jr_getr d_C_tellRow_13 f_C_23 rfl rfl ?_
    first | rw [h6] | skip
    refine jr_aload_n d_C_tellRow_16 rfl rfl ?_
    refine jr_geti d_C_tellRow_17 f_C_43 rfl ?_
    refine jr_new (5, c, (I (6, c, 0) 9).toNatClampNeg) d_C_tellRow_20 n_C_21 rfl (f0) (by first | decide | (dsimp only; omega)) (by first | decide | (dsimp only; omega)) ?_
    refine jr_dup d_C_tellRow_23 ?_
    refine jr_iload_n d_C_tellRow_24 rfl rfl ?_
    refine jr_iload_n d_C_tellRow_25 rfl rfl ?_
    refine jr_iload_n d_C_tellRow_26 rfl rfl ?_
    refine jr_iload d_C_tellRow_27 rfl ?_
    refine jv_I4v d_C_tellRow_29 l_C_46 k_R_init ⟨Nat.le_of_ble_eq_true rfl, Nat.le_of_ble_eq_true rfl⟩ (Nat.le_of_ble_eq_true rfl) (ct_R_init) (by first | decide | (dsimp only; omega) | (dsimp only; grind)) (by first | decide | (dsimp only; omega) | (dsimp only; grind)) ?_
    refine jr_aast d_C_tellRow_32 rfl rfl rfl (jin (m := 20) (by decide) (by grind) (by grind)) (fun q9 e9 => by cases e9; exact ⟨_, _, rfl, rfl, Or.inl rfl⟩) ?_
    refine jr_aload_n d_C_tellRow_33 rfl rfl ?_
    refine jr_dup d_C_tellRow_34 ?_
    refine jr_geti d_C_tellRow_35 f_C_43 rfl ?_
    try simp only [jc_up_s, jc_up_k, jc_up_t, jc_cl_s, jc_cl_t, ne_eq, Nat.reduceEqDiff, not_false_eq_true, Nat.reduceAdd]
    refine jr_iconst (v := 1) d_C_tellRow_38 (by decide) ?_
    refine jr_iadd d_C_tellRow_39 ?_
    refine jr_puti d_C_tellRow_40 f_C_43 (Or.inl rfl) rfl ?_
    refine jr_aload_n d_C_tellRow_43 rfl rfl ?_
    refine jr_geti d_C_tellRow_44 f_C_43 rfl ?_
    try simp only [jc_up_s, jc_up_k, jc_up_t, jc_cl_s, jc_cl_t, ne_eq, Nat.reduceEqDiff, not_false_eq_true, Nat.reduceAdd]
    exact jr_retX (v := some _) d_C_tellRow_47 (by first | exact Nat.le_refl _ | exact Nat.zero_le _ | (dsimp only; omega)) (by first | exact Nat.le_refl _ | exact Nat.zero_le _ | (dsimp only; omega)) (by first | with_reducible rfl | (dsimp only; rfl; done) | (exfalso; grind)) (by first | with_reducible rfl | (dsimp only; rfl; done) | (exfalso; grind)) (by first | with_reducible rfl | (dsimp only; rfl; done) | (exfalso; grind)) (by first | with_reducible rfl | (dsimp only; rfl; done) | (exfalso; grind))
  · skip
    exact absurd hf (by grind)
