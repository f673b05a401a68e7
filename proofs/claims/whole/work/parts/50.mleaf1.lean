/-- what the constructor of the reference's codes leaves -/
def qc_I (I : jc_I) (c : Nat) (p r : Int32) : jc_I := jc_up (jc_up (jc_cl (jc_cl (jc_cl (jc_cl (jc_cl (jc_cl (jc_cl I (40, c, 0) 0) (41, c, 0) 0) (42, c, 0) 0) (43, c, 0) 0) (44, c, 0) 0) (45, c, 0) 0) (46, c, 0) 0) (11, c, 0) 0 p) (11, c, 0) 1 r
def qc_O (O : jc_O) (c : Nat) : jc_O := (jc_up (jc_cl (jc_up (jc_cl (jc_up (jc_cl (jc_up (jc_cl (jc_up (jc_cl (jc_up (jc_cl (jc_up (jc_cl O (40, c, 0) none) (11, c, 0) 2 (some (40, c, 0))) (41, c, 0) none) (11, c, 0) 4 (some (41, c, 0))) (42, c, 0) none) (11, c, 0) 5 (some (42, c, 0))) (43, c, 0) none) (11, c, 0) 7 (some (43, c, 0))) (44, c, 0) none) (11, c, 0) 8 (some (44, c, 0))) (45, c, 0) none) (11, c, 0) 9 (some (45, c, 0))) (46, c, 0) none) (11, c, 0) 10 (some (46, c, 0)))
def qc_l (live : jc_L → Prop) (c : Nat) : jc_L → Prop := (jadd (46, c, 0) (jadd (45, c, 0) (jadd (44, c, 0) (jadd (43, c, 0) (jadd (42, c, 0) (jadd (41, c, 0) (jadd (40, c, 0) live)))))))
theorem ct_mC_init {I : jc_I} {O : jc_O} {live : jc_L → Prop} {c : Nat} {p r : Int32} (f0 : ¬ live (40, c, 0)) (f1 : ¬ live (41, c, 0)) (f2 : ¬ live (42, c, 0)) (f3 : ¬ live (43, c, 0)) (f4 : ¬ live (44, c, 0)) (f5 : ¬ live (45, c, 0)) (f6 : ¬ live (46, c, 0)) : jc_Ct y_mC_init [.inr (some (11, c, 0)), .inl p, .inl r] I O live (none, qc_I I c p r, qc_O O c, qc_l live c, 7, 208) := by
  refine jc_Ct.of (by decide +kernel) (rfl) (Nat.le_of_ble_eq_true rfl) ?_
  refine jr_aload_n d_mC_init_0 rfl rfl ?_
  refine jr_objInit d_mC_init_1 l_mC_3 oi_i oi_c (Nat.le_of_ble_eq_true rfl) (Nat.le_of_ble_eq_true rfl) ?_
  refine jr_aload_n d_mC_init_4 rfl rfl ?_
  refine jr_bipush (v := 8) d_mC_init_5 (by decide) ?_
  refine jr_newa (N := 8) (40, c, 0) d_mC_init_7 ac_int rfl rfl rfl rfl rfl (by simp [*]) (by decide) (by decide) (by decide) (by first | decide | (dsimp only; omega)) (by first | decide | (dsimp only; omega)) ?_
  refine jr_putr d_mC_init_9 f_mC_9 (Or.inr ⟨rfl, _, _, _, rfl, rfl⟩) rfl rfl ?_
  refine jr_aload_n d_mC_init_12 rfl rfl ?_
  refine jr_bipush (v := 60) d_mC_init_13 (by decide) ?_
  refine jr_newa (N := 60) (41, c, 0) d_mC_init_15 ac_int rfl rfl rfl rfl rfl (by simp [*]) (by decide) (by decide) (by decide) (by first | decide | (dsimp only; omega)) (by first | decide | (dsimp only; omega)) ?_
  refine jr_putr d_mC_init_17 f_mC_15 (Or.inr ⟨rfl, _, _, _, rfl, rfl⟩) rfl rfl ?_
  refine jr_aload_n d_mC_init_20 rfl rfl ?_
  refine jr_bipush (v := 60) d_mC_init_21 (by decide) ?_
  refine jr_newa (N := 60) (42, c, 0) d_mC_init_23 ac_int rfl rfl rfl rfl rfl (by simp [*]) (by decide) (by decide) (by decide) (by first | decide | (dsimp only; omega)) (by first | decide | (dsimp only; omega)) ?_
  refine jr_putr d_mC_init_25 f_mC_18 (Or.inr ⟨rfl, _, _, _, rfl, rfl⟩) rfl rfl ?_
  refine jr_aload_n d_mC_init_28 rfl rfl ?_
  refine jr_bipush (v := 20) d_mC_init_29 (by decide) ?_
  refine jr_newa (N := 20) (43, c, 0) d_mC_init_31 ac_int rfl rfl rfl rfl rfl (by simp [*]) (by decide) (by decide) (by decide) (by first | decide | (dsimp only; omega)) (by first | decide | (dsimp only; omega)) ?_
  refine jr_putr d_mC_init_33 f_mC_21 (Or.inr ⟨rfl, _, _, _, rfl, rfl⟩) rfl rfl ?_
  refine jr_aload_n d_mC_init_36 rfl rfl ?_
  refine jr_bipush (v := 20) d_mC_init_37 (by decide) ?_
  refine jr_newa (N := 20) (44, c, 0) d_mC_init_39 ac_int rfl rfl rfl rfl rfl (by simp [*]) (by decide) (by decide) (by decide) (by first | decide | (dsimp only; omega)) (by first | decide | (dsimp only; omega)) ?_
  refine jr_putr d_mC_init_41 f_mC_24 (Or.inr ⟨rfl, _, _, _, rfl, rfl⟩) rfl rfl ?_
  refine jr_aload_n d_mC_init_44 rfl rfl ?_
  refine jr_bipush (v := 20) d_mC_init_45 (by decide) ?_
  refine jr_newa (N := 20) (45, c, 0) d_mC_init_47 ac_int rfl rfl rfl rfl rfl (by simp [*]) (by decide) (by decide) (by decide) (by first | decide | (dsimp only; omega)) (by first | decide | (dsimp only; omega)) ?_
  refine jr_putr d_mC_init_49 f_mC_27 (Or.inr ⟨rfl, _, _, _, rfl, rfl⟩) rfl rfl ?_
  refine jr_aload_n d_mC_init_52 rfl rfl ?_
  refine jr_bipush (v := 20) d_mC_init_53 (by decide) ?_
  refine jr_newa (N := 20) (46, c, 0) d_mC_init_55 ac_int rfl rfl rfl rfl rfl (by simp [*]) (by decide) (by decide) (by decide) (by first | decide | (dsimp only; omega)) (by first | decide | (dsimp only; omega)) ?_
  refine jr_putr d_mC_init_57 f_mC_30 (Or.inr ⟨rfl, _, _, _, rfl, rfl⟩) rfl rfl ?_
  refine jr_aload_n d_mC_init_60 rfl rfl ?_
  refine jr_iload_n d_mC_init_61 rfl rfl ?_
  refine jr_puti d_mC_init_62 f_mC_33 (Or.inr ⟨rfl, _, _, _, rfl, rfl⟩) rfl ?_
  refine jr_aload_n d_mC_init_65 rfl rfl ?_
  refine jr_iload_n d_mC_init_66 rfl rfl ?_
  refine jr_puti d_mC_init_67 f_mC_37 (Or.inr ⟨rfl, _, _, _, rfl, rfl⟩) rfl ?_
  exact jr_retX (v := none) d_mC_init_70 (by first | exact Nat.le_refl _ | exact Nat.zero_le _ | (dsimp only; omega)) (by first | exact Nat.le_refl _ | exact Nat.zero_le _ | (dsimp only; omega)) (by first | with_reducible rfl | (dsimp only; rfl; done) | (exfalso; grind)) (by first | with_reducible rfl | (dsimp only; rfl; done) | (exfalso; grind)) (by first | with_reducible rfl | (dsimp only; rfl; done) | (exfalso; grind)) (by first | with_reducible rfl | (dsimp only; rfl; done) | (exfalso; grind))
theorem ct_mO_init {I : jc_I} {O : jc_O} {live : jc_L → Prop} {k : Nat} {x : Int32} (f1 : ¬ live (47, k, 0)) : jc_Ct y_mO_init [.inr (some (13, k, 0)), .inl x] I O live (none, jc_up (jc_up (jc_cl I (47, k, 0) 0) (13, k, 0) 2 (-1)) (13, k, 0) 0 x, jc_up (jc_cl O (47, k, 0) none) (13, k, 0) 1 (some (47, k, 0)), jadd (47, k, 0) live, 1, 8) := by
  refine jc_Ct.of (by decide +kernel) (rfl) (Nat.le_of_ble_eq_true rfl) ?_
  refine jr_aload_n d_mO_init_0 rfl rfl ?_
  refine jr_objInit d_mO_init_1 l_mO_1 oi_i oi_c (Nat.le_of_ble_eq_true rfl) (Nat.le_of_ble_eq_true rfl) ?_
  refine jr_aload_n d_mO_init_4 rfl rfl ?_
  refine jr_bipush (v := 8) d_mO_init_5 (by decide) ?_
  refine jr_newa (N := 8) (47, k, 0) d_mO_init_7 ac_int rfl rfl rfl rfl rfl (f1) (by decide) (by decide) (by decide) (by first | decide | (dsimp only; omega)) (by first | decide | (dsimp only; omega)) ?_
  refine jr_putr d_mO_init_9 f_mO_7 (Or.inr ⟨rfl, _, _, _, rfl, rfl⟩) rfl rfl ?_
  refine jr_aload_n d_mO_init_12 rfl rfl ?_
  refine jr_iconst (v := (-1)) d_mO_init_13 (by decide) ?_
  refine jr_puti d_mO_init_14 f_mO_13 (Or.inl rfl) rfl ?_
  refine jr_aload_n d_mO_init_17 rfl rfl ?_
  refine jr_iload_n d_mO_init_18 rfl rfl ?_
  refine jr_puti d_mO_init_19 f_mO_17 (Or.inr ⟨rfl, _, _, _, rfl, rfl⟩) rfl ?_
  exact jr_retX (v := none) d_mO_init_22 (by first | exact Nat.le_refl _ | exact Nat.zero_le _ | (dsimp only; omega)) (by first | exact Nat.le_refl _ | exact Nat.zero_le _ | (dsimp only; omega)) (by first | with_reducible rfl | (dsimp only; rfl; done) | (exfalso; grind)) (by first | with_reducible rfl | (dsimp only; rfl; done) | (exfalso; grind)) (by first | with_reducible rfl | (dsimp only; rfl; done) | (exfalso; grind)) (by first | with_reducible rfl | (dsimp only; rfl; done) | (exfalso; grind))
theorem ct_mF_init {I : jc_I} {O : jc_O} {live : jc_L → Prop} {t j : Nat} (f1 : ¬ live (48, t, j)) (f2 : ¬ live (49, t, j)) : jc_Ct y_mF_init [.inr (some (12, t, j))] I O live (none, jc_cl (jc_cl I (48, t, j) 0) (49, t, j) 0, jc_up (jc_cl (jc_up (jc_cl O (48, t, j) none) (12, t, j) 2 (some (48, t, j))) (49, t, j) none) (12, t, j) 3 (some (49, t, j)), jadd (49, t, j) (jadd (48, t, j) live), 2, 20) := by
  refine jc_Ct.of (by decide +kernel) (rfl) (Nat.le_of_ble_eq_true rfl) ?_
  refine jr_aload_n d_mF_init_0 rfl rfl ?_
  refine jr_objInit d_mF_init_1 l_mF_3 oi_i oi_c (Nat.le_of_ble_eq_true rfl) (Nat.le_of_ble_eq_true rfl) ?_
  refine jr_aload_n d_mF_init_4 rfl rfl ?_
  refine jr_bipush (v := 8) d_mF_init_5 (by decide) ?_
  refine jr_newa (N := 8) (48, t, j) d_mF_init_7 ac_int rfl rfl rfl rfl rfl (f1) (by decide) (by decide) (by decide) (by first | decide | (dsimp only; omega)) (by first | decide | (dsimp only; omega)) ?_
  refine jr_putr d_mF_init_9 f_mF_9 (Or.inr ⟨rfl, _, _, _, rfl, rfl⟩) rfl rfl ?_
  refine jr_aload_n d_mF_init_12 rfl rfl ?_
  refine jr_bipush (v := 12) d_mF_init_13 (by decide) ?_
  refine jr_newa (N := 12) (49, t, j) d_mF_init_15 ac_int rfl rfl rfl rfl rfl (by simp [*]) (by decide) (by decide) (by decide) (by first | decide | (dsimp only; omega)) (by first | decide | (dsimp only; omega)) ?_
  refine jr_putr d_mF_init_17 f_mF_15 (Or.inr ⟨rfl, _, _, _, rfl, rfl⟩) rfl rfl ?_
  exact jr_retX (v := none) d_mF_init_20 (by first | exact Nat.le_refl _ | exact Nat.zero_le _ | (dsimp only; omega)) (by first | exact Nat.le_refl _ | exact Nat.zero_le _ | (dsimp only; omega)) (by first | with_reducible rfl | (dsimp only; rfl; done) | (exfalso; grind)) (by first | with_reducible rfl | (dsimp only; rfl; done) | (exfalso; grind)) (by first | with_reducible rfl | (dsimp only; rfl; done) | (exfalso; grind)) (by first | with_reducible rfl | (dsimp only; rfl; done) | (exfalso; grind))
/-- a frame's own arrays -/
def qf (O : jc_O) (t j : Nat) : Prop := O (12, t, j) 2 = some (48, t, j) ∧ O (12, t, j) 3 = some (49, t, j)
def q_tp (I : jc_I) (t j : Nat) : Int32 := I (49, t, j) (I (12, t, j) 4 - 1).toNatClampNeg
def q_pop (I : jc_I) (t j : Nat) : jc_I := jc_up I (12, t, j) 4 (I (12, t, j) 4 - 1)
def q_psh (I : jc_I) (t j : Nat) (x : Int32) : jc_I := jc_up (jc_up I (49, t, j) (I (12, t, j) 4).toNatClampNeg x) (12, t, j) 4 (I (12, t, j) 4 + 1)
def q_on (I : jc_I) (t j : Nat) : jc_I := jc_up I (12, t, j) 5 (I (12, t, j) 5 + 1)
theorem jin1 {i : Int32} (h0 : 1 ≤ i) (h1 : i ≤ 12) : vp_in (i - 1) 12 := jin (m := 12) (by decide) (by grind) (by grind)
theorem jin0 {i : Int32} (h0 : 0 ≤ i) (h1 : i < 12) : vp_in i 12 := jin (m := 12) (by decide) (by grind) (by grind)
theorem ct_mF_top {I : jc_I} {O : jc_O} {live : jc_L → Prop} {t j : Nat} (hf : qf O t j) (h1 : 1 ≤ I (12, t, j) 4) (h2 : I (12, t, j) 4 ≤ 12) : jc_Ct y_mF_top [.inr (some (12, t, j))] I O live (some (.inl (q_tp I t j)), I, O, live, 0, 0) := by
  obtain ⟨g1, g2⟩ := id hf
  refine jc_Ct.of (by decide +kernel) (Or.inl rfl) (Nat.le_of_ble_eq_true rfl) ?_
  refine jr_aload_n d_mF_top_0 rfl rfl ?_
  refine jr_getr d_mF_top_1 f_mF_15 rfl rfl ?_
  first | rw [g2] | skip
  refine jr_aload_n d_mF_top_4 rfl rfl ?_
  refine jr_geti d_mF_top_5 f_mF_18 rfl ?_
  refine jr_iconst (v := 1) d_mF_top_8 (by decide) ?_
  refine jr_isub d_mF_top_9 ?_
  refine jr_iald d_mF_top_10 rfl rfl rfl (jin1 h1 h2) ?_
  exact jr_retX (v := some _) d_mF_top_11 (by first | exact Nat.le_refl _ | exact Nat.zero_le _ | (dsimp only; omega)) (by first | exact Nat.le_refl _ | exact Nat.zero_le _ | (dsimp only; omega)) (by first | with_reducible rfl | (dsimp only; rfl; done) | (exfalso; grind)) (by first | with_reducible rfl | (dsimp only; rfl; done) | (exfalso; grind)) (by first | with_reducible rfl | (dsimp only; rfl; done) | (exfalso; grind)) (by first | with_reducible rfl | (dsimp only; rfl; done) | (exfalso; grind))
theorem ct_mF_pop {I : jc_I} {O : jc_O} {live : jc_L → Prop} {t j : Nat} (hf : qf O t j) (h1 : 1 ≤ I (12, t, j) 4) (h2 : I (12, t, j) 4 ≤ 12) : jc_Ct y_mF_pop [.inr (some (12, t, j))] I O live (some (.inl (q_tp I t j)), q_pop I t j, O, live, 0, 0) := by
  obtain ⟨g1, g2⟩ := id hf
  refine jc_Ct.of (by decide +kernel) (Or.inl rfl) (Nat.le_of_ble_eq_true rfl) ?_
  refine jr_aload_n d_mF_pop_0 rfl rfl ?_
  refine jr_dup d_mF_pop_1 ?_
  refine jr_geti d_mF_pop_2 f_mF_18 rfl ?_
  refine jr_iconst (v := 1) d_mF_pop_5 (by decide) ?_
  refine jr_isub d_mF_pop_6 ?_
  refine jr_puti d_mF_pop_7 f_mF_18 (Or.inl rfl) rfl ?_
  refine jr_aload_n d_mF_pop_10 rfl rfl ?_
  refine jr_getr d_mF_pop_11 f_mF_15 rfl rfl ?_
  try simp only [jc_up_s, jc_up_k, jc_up_t, jc_cl_s, jc_cl_t, ne_eq, Nat.reduceEqDiff, not_false_eq_true, Nat.reduceAdd]
  first | rw [g2] | skip
  refine jr_aload_n d_mF_pop_14 rfl rfl ?_
  refine jr_geti d_mF_pop_15 f_mF_18 rfl ?_
  try simp only [jc_up_s, jc_up_k, jc_up_t, jc_cl_s, jc_cl_t, ne_eq, Nat.reduceEqDiff, not_false_eq_true, Nat.reduceAdd]
  refine jr_iald d_mF_pop_18 rfl rfl rfl (jin1 h1 h2) ?_
  try simp only [jc_up_s, jc_up_k, jc_up_t, jc_cl_s, jc_cl_t, ne_eq, Nat.reduceEqDiff, not_false_eq_true, Nat.reduceAdd]
  exact jr_retX (v := some _) d_mF_pop_19 (by first | exact Nat.le_refl _ | exact Nat.zero_le _ | (dsimp only; omega)) (by first | exact Nat.le_refl _ | exact Nat.zero_le _ | (dsimp only; omega)) (by first | with_reducible rfl | (dsimp only; rfl; done) | (exfalso; grind)) (by first | with_reducible rfl | (dsimp only; rfl; done) | (exfalso; grind)) (by first | with_reducible rfl | (dsimp only; rfl; done) | (exfalso; grind)) (by first | with_reducible rfl | (dsimp only; rfl; done) | (exfalso; grind))
theorem ct_mF_push {I : jc_I} {O : jc_O} {live : jc_L → Prop} {t j : Nat} {x : Int32} (hf : qf O t j) (h1 : 0 ≤ I (12, t, j) 4) (h2 : I (12, t, j) 4 < 12) : jc_Ct y_mF_push [.inr (some (12, t, j)), .inl x] I O live (none, q_psh I t j x, O, live, 0, 0) := by
  obtain ⟨g1, g2⟩ := id hf
  refine jc_Ct.of (by decide +kernel) (rfl) (Nat.le_of_ble_eq_true rfl) ?_
  refine jr_aload_n d_mF_push_0 rfl rfl ?_
  refine jr_getr d_mF_push_1 f_mF_15 rfl rfl ?_
  first | rw [g2] | skip
  refine jr_aload_n d_mF_push_4 rfl rfl ?_
  refine jr_geti d_mF_push_5 f_mF_18 rfl ?_
  refine jr_iload_n d_mF_push_8 rfl rfl ?_
  refine jr_iast d_mF_push_9 rfl rfl rfl (jin0 h1 h2) ?_
  refine jr_aload_n d_mF_push_10 rfl rfl ?_
  refine jr_dup d_mF_push_11 ?_
  refine jr_geti d_mF_push_12 f_mF_18 rfl ?_
  try simp only [jc_up_s, jc_up_k, jc_up_t, jc_cl_s, jc_cl_t, ne_eq, Nat.reduceEqDiff, not_false_eq_true, Nat.reduceAdd]
  refine jr_iconst (v := 1) d_mF_push_15 (by decide) ?_
  refine jr_iadd d_mF_push_16 ?_
  refine jr_puti d_mF_push_17 f_mF_18 (Or.inl rfl) rfl ?_
  exact jr_retX (v := none) d_mF_push_20 (by first | exact Nat.le_refl _ | exact Nat.zero_le _ | (dsimp only; omega)) (by first | exact Nat.le_refl _ | exact Nat.zero_le _ | (dsimp only; omega)) (by first | with_reducible rfl | (dsimp only; rfl; done) | (exfalso; grind)) (by first | with_reducible rfl | (dsimp only; rfl; done) | (exfalso; grind)) (by first | with_reducible rfl | (dsimp only; rfl; done) | (exfalso; grind)) (by first | with_reducible rfl | (dsimp only; rfl; done) | (exfalso; grind))
theorem ct_mT_init {I : jc_I} {O : jc_O} {live : jc_L → Prop} {t x : Nat} {n : Int32} (f1 : ¬ live (15, x, 0)) : jc_Ct y_mT_init [.inr (some (14, t, 0)), .inl n] I O live (none, jc_up (jc_up (jc_cl I (15, x, 0) 0) (15, x, 0) 2 0) (14, t, 0) 0 n, jc_up (jc_up (jc_cl O (15, x, 0) none) (15, x, 0) 0 (some (97, 0, 0))) (14, t, 0) 1 (some (15, x, 0)), jadd (15, x, 0) live, 1, 3) := by
  refine jc_Ct.of (by decide +kernel) (rfl) (Nat.le_of_ble_eq_true rfl) ?_
  refine jr_aload_n d_mT_init_0 rfl rfl ?_
  refine jr_objInit d_mT_init_1 l_mT_3 oi_i oi_c (Nat.le_of_ble_eq_true rfl) (Nat.le_of_ble_eq_true rfl) ?_
  refine jr_aload_n d_mT_init_4 rfl rfl ?_
  refine jr_new (15, x, 0) d_mT_init_5 n_mT_9 rfl (f1) (by first | decide | (dsimp only; omega)) (by first | decide | (dsimp only; omega)) ?_
  refine jr_dup d_mT_init_8 ?_
  refine jv_I0v d_mT_init_9 l_mT_11 k_aL_init ⟨Nat.le_of_ble_eq_true rfl, Nat.le_of_ble_eq_true rfl⟩ (Nat.le_of_ble_eq_true rfl) (ct_aL_init) (by first | decide | (dsimp only; omega) | (dsimp only; grind)) (by first | decide | (dsimp only; omega) | (dsimp only; grind)) ?_
  refine jr_putr d_mT_init_12 f_mT_12 (Or.inr ⟨rfl, _, _, _, rfl, rfl⟩) rfl rfl ?_
  refine jr_aload_n d_mT_init_15 rfl rfl ?_
  refine jr_iload_n d_mT_init_16 rfl rfl ?_
  refine jr_puti d_mT_init_17 f_mT_18 (Or.inr ⟨rfl, _, _, _, rfl, rfl⟩) rfl ?_
  exact jr_retX (v := none) d_mT_init_20 (by first | exact Nat.le_refl _ | exact Nat.zero_le _ | (dsimp only; omega)) (by first | exact Nat.le_refl _ | exact Nat.zero_le _ | (dsimp only; omega)) (by first | with_reducible rfl | (dsimp only; rfl; done) | (exfalso; grind)) (by first | with_reducible rfl | (dsimp only; rfl; done) | (exfalso; grind)) (by first | with_reducible rfl | (dsimp only; rfl; done) | (exfalso; grind)) (by first | with_reducible rfl | (dsimp only; rfl; done) | (exfalso; grind))
def qt_bg (I : jc_I) (t : Nat) : jc_I := jc_up (jc_up (jc_up (jc_up (jc_up I (14, t, 0) 2 0) (14, t, 0) 3 0) (14, t, 0) 4 0) (14, t, 0) 5 0) (14, t, 0) 6 0
theorem ct_mT_begin {I : jc_I} {O : jc_O} {live : jc_L → Prop} {t : Nat}  : jc_Ct y_mT_begin [.inr (some (14, t, 0))] I O live (none, qt_bg I t, O, live, 0, 0) := by
  refine jc_Ct.of (by decide +kernel) (rfl) (Nat.le_of_ble_eq_true rfl) ?_
  refine jr_aload_n d_mT_begin_0 rfl rfl ?_
  refine jr_iconst (v := 0) d_mT_begin_1 (by decide) ?_
  refine jr_puti d_mT_begin_2 f_mT_22 (Or.inl rfl) rfl ?_
  refine jr_aload_n d_mT_begin_5 rfl rfl ?_
  refine jr_iconst (v := 0) d_mT_begin_6 (by decide) ?_
  refine jr_puti d_mT_begin_7 f_mT_25 (Or.inl rfl) rfl ?_
  refine jr_aload_n d_mT_begin_10 rfl rfl ?_
  refine jr_iconst (v := 0) d_mT_begin_11 (by decide) ?_
  refine jr_puti d_mT_begin_12 f_mT_28 (Or.inl rfl) rfl ?_
  refine jr_aload_n d_mT_begin_15 rfl rfl ?_
  refine jr_iconst (v := 0) d_mT_begin_16 (by decide) ?_
  refine jr_puti d_mT_begin_17 f_mT_31 (Or.inl rfl) rfl ?_
  refine jr_aload_n d_mT_begin_20 rfl rfl ?_
  refine jr_iconst (v := 0) d_mT_begin_21 (by decide) ?_
  refine jr_puti d_mT_begin_22 f_mT_34 (Or.inl rfl) rfl ?_
  exact jr_retX (v := none) d_mT_begin_25 (by first | exact Nat.le_refl _ | exact Nat.zero_le _ | (dsimp only; omega)) (by first | exact Nat.le_refl _ | exact Nat.zero_le _ | (dsimp only; omega)) (by first | with_reducible rfl | (dsimp only; rfl; done) | (exfalso; grind)) (by first | with_reducible rfl | (dsimp only; rfl; done) | (exfalso; grind)) (by first | with_reducible rfl | (dsimp only; rfl; done) | (exfalso; grind)) (by first | with_reducible rfl | (dsimp only; rfl; done) | (exfalso; grind))
theorem ct_mT_top {I : jc_I} {O : jc_O} {live : jc_L → Prop} {t x n j : Nat} {f : Nat → jc_L} (h1 : O (14, t, 0) 1 = some (15, x, 0)) (hl : ql I O live x n f) (hd : I (14, t, 0) 2 - 1 = Int32.ofNat j) (hj : j < n) (he : f j = (12, t, j)) : jc_Ct y_mT_top [.inr (some (14, t, 0))] I O live (some (.inr (some (12, t, j))), I, O, live, 0, 0) := by
  refine jc_Ct.of (by decide +kernel) (Or.inl ⟨_, rfl⟩) (Nat.le_of_ble_eq_true rfl) ?_
  refine jr_aload_n d_mT_top_0 rfl rfl ?_
  refine jr_getr d_mT_top_1 f_mT_12 rfl rfl ?_
  first | rw [h1] | skip
  refine jr_aload_n d_mT_top_4 rfl rfl ?_
  refine jr_geti d_mT_top_5 f_mT_22 rfl ?_
  refine jr_iconst (v := 1) d_mT_top_8 (by decide) ?_
  refine jr_isub d_mT_top_9 ?_
  refine jv_V1r d_mT_top_10 l_mT_37 k_aL_get ⟨Nat.le_of_ble_eq_true rfl, Nat.le_of_ble_eq_true rfl⟩ rfl rfl (Nat.le_of_ble_eq_true rfl) (ct_aL_getq hl hd hj) (by first | decide | (dsimp only; omega) | (dsimp only; grind)) (by first | decide | (dsimp only; omega) | (dsimp only; grind)) ?_
  first | rw [h1] | skip
  rw [he]
  refine jr_cast d_mT_top_13 c_mT_41 rfl ⟨_, rfl, ca_mF_mF⟩ ?_
  exact jr_retX (v := some _) d_mT_top_16 (by first | exact Nat.le_refl _ | exact Nat.zero_le _ | (dsimp only; omega)) (by first | exact Nat.le_refl _ | exact Nat.zero_le _ | (dsimp only; omega)) (by first | with_reducible rfl | (dsimp only; rfl; done) | (exfalso; grind)) (by first | with_reducible rfl | (dsimp only; rfl; done) | (exfalso; grind)) (by first | with_reducible rfl | (dsimp only; rfl; done) | (exfalso; grind)) (by first | with_reducible rfl | (dsimp only; rfl; done) | (exfalso; grind))
theorem ct_m_isPlace {I : jc_I} {O : jc_O} {live : jc_L → Prop} {p : Int32}  : jc_Ct y_m_isPlace [.inl p] I O live (some (.inl (if 0 ≤ p ∧ p ≤ 60 then 1 else 0)), I, O, live, 0, 0) := by
  refine jc_Ct.of (by decide +kernel) (Or.inr ⟨rfl, by grind⟩) (Nat.le_of_ble_eq_true rfl) ?_
  refine jr_iload_n d_m_isPlace_0 rfl rfl ?_
  refine jr_if_lt (tgt := 14) d_m_isPlace_1 (by decide) (fun c1 => ?_) (fun c1 => ?_)
  · skip
    refine jr_iconst (v := 0) d_m_isPlace_14 (by decide) ?_
    exact jr_retX (v := some _) d_m_isPlace_15 (by first | exact Nat.le_refl _ | exact Nat.zero_le _ | (dsimp only; omega)) (by first | exact Nat.le_refl _ | exact Nat.zero_le _ | (dsimp only; omega)) (by first | with_reducible rfl | (dsimp only; (repeat (first | rw [if_pos (by grind)] | rw [if_neg (by grind)])); done) | (exfalso; grind)) (by first | with_reducible rfl | (dsimp only; (repeat (first | rw [if_pos (by grind)] | rw [if_neg (by grind)])); done) | (exfalso; grind)) (by first | with_reducible rfl | (dsimp only; (repeat (first | rw [if_pos (by grind)] | rw [if_neg (by grind)])); done) | (exfalso; grind)) (by first | with_reducible rfl | (dsimp only; (repeat (first | rw [if_pos (by grind)] | rw [if_neg (by grind)])); done) | (exfalso; grind))
  · skip
    refine jr_iload_n d_m_isPlace_4 rfl rfl ?_
    refine jr_bipush (v := 60) d_m_isPlace_5 (by decide) ?_
    refine jr_icmp_gt (tgt := 14) d_m_isPlace_7 (by decide) (fun c7 => ?_) (fun c7 => ?_)
    · skip
      refine jr_iconst (v := 0) d_m_isPlace_14 (by decide) ?_
      exact jr_retX (v := some _) d_m_isPlace_15 (by first | exact Nat.le_refl _ | exact Nat.zero_le _ | (dsimp only; omega)) (by first | exact Nat.le_refl _ | exact Nat.zero_le _ | (dsimp only; omega)) (by first | with_reducible rfl | (dsimp only; (repeat (first | rw [if_pos (by grind)] | rw [if_neg (by grind)])); done) | (exfalso; grind)) (by first | with_reducible rfl | (dsimp only; (repeat (first | rw [if_pos (by grind)] | rw [if_neg (by grind)])); done) | (exfalso; grind)) (by first | with_reducible rfl | (dsimp only; (repeat (first | rw [if_pos (by grind)] | rw [if_neg (by grind)])); done) | (exfalso; grind)) (by first | with_reducible rfl | (dsimp only; (repeat (first | rw [if_pos (by grind)] | rw [if_neg (by grind)])); done) | (exfalso; grind))
    · skip
      refine jr_iconst (v := 1) d_m_isPlace_10 (by decide) ?_
      refine jr_goto (tgt := 15) d_m_isPlace_11 (by decide) ?_
      exact jr_retX (v := some _) d_m_isPlace_15 (by first | exact Nat.le_refl _ | exact Nat.zero_le _ | (dsimp only; omega)) (by first | exact Nat.le_refl _ | exact Nat.zero_le _ | (dsimp only; omega)) (by first | with_reducible rfl | (dsimp only; (repeat (first | rw [if_pos (by grind)] | rw [if_neg (by grind)])); done) | (exfalso; grind)) (by first | with_reducible rfl | (dsimp only; (repeat (first | rw [if_pos (by grind)] | rw [if_neg (by grind)])); done) | (exfalso; grind)) (by first | with_reducible rfl | (dsimp only; (repeat (first | rw [if_pos (by grind)] | rw [if_neg (by grind)])); done) | (exfalso; grind)) (by first | with_reducible rfl | (dsimp only; (repeat (first | rw [if_pos (by grind)] | rw [if_neg (by grind)])); done) | (exfalso; grind))
theorem ct_m_isCode {I : jc_I} {O : jc_O} {live : jc_L → Prop} {c : Int32} (h0 : O (10, 0, 0) 0 = some (15, 0, 0)) : jc_Ct y_m_isCode [.inr (some (10, 0, 0)), .inl c] I O live (some (.inl (if 0 ≤ c ∧ c < I (15, 0, 0) 1 then 1 else 0)), I, O, live, 0, 0) := by
  refine jc_Ct.of (by decide +kernel) (Or.inr ⟨rfl, by grind⟩) (Nat.le_of_ble_eq_true rfl) ?_
  refine jr_iload_n d_m_isCode_0 rfl rfl ?_
  refine jr_if_lt (tgt := 19) d_m_isCode_1 (by decide) (fun c1 => ?_) (fun c1 => ?_)
  · skip
    refine jr_iconst (v := 0) d_m_isCode_19 (by decide) ?_
    exact jr_retX (v := some _) d_m_isCode_20 (by first | exact Nat.le_refl _ | exact Nat.zero_le _ | (dsimp only; omega)) (by first | exact Nat.le_refl _ | exact Nat.zero_le _ | (dsimp only; omega)) (by first | with_reducible rfl | (dsimp only; (repeat (first | rw [if_pos (by grind)] | rw [if_neg (by grind)])); done) | (exfalso; grind)) (by first | with_reducible rfl | (dsimp only; (repeat (first | rw [if_pos (by grind)] | rw [if_neg (by grind)])); done) | (exfalso; grind)) (by first | with_reducible rfl | (dsimp only; (repeat (first | rw [if_pos (by grind)] | rw [if_neg (by grind)])); done) | (exfalso; grind)) (by first | with_reducible rfl | (dsimp only; (repeat (first | rw [if_pos (by grind)] | rw [if_neg (by grind)])); done) | (exfalso; grind))
  · skip
    refine jr_iload_n d_m_isCode_4 rfl rfl ?_
    refine jr_aload_n d_m_isCode_5 rfl rfl ?_
    refine jr_getr d_m_isCode_6 f_m_10 rfl rfl ?_
    first | rw [h0] | skip
    refine jv_V0r d_m_isCode_9 l_m_33 k_aL_size ⟨Nat.le_of_ble_eq_true rfl, Nat.le_of_ble_eq_true rfl⟩ rfl rfl (Nat.le_of_ble_eq_true rfl) (ct_aL_size) (by first | decide | (dsimp only; omega) | (dsimp only; grind)) (by first | decide | (dsimp only; omega) | (dsimp only; grind)) ?_
    refine jr_icmp_ge (tgt := 19) d_m_isCode_12 (by decide) (fun c12 => ?_) (fun c12 => ?_)
    · skip
      refine jr_iconst (v := 0) d_m_isCode_19 (by decide) ?_
      exact jr_retX (v := some _) d_m_isCode_20 (by first | exact Nat.le_refl _ | exact Nat.zero_le _ | (dsimp only; omega)) (by first | exact Nat.le_refl _ | exact Nat.zero_le _ | (dsimp only; omega)) (by first | with_reducible rfl | (dsimp only; (repeat (first | rw [if_pos (by grind)] | rw [if_neg (by grind)])); done) | (exfalso; grind)) (by first | with_reducible rfl | (dsimp only; (repeat (first | rw [if_pos (by grind)] | rw [if_neg (by grind)])); done) | (exfalso; grind)) (by first | with_reducible rfl | (dsimp only; (repeat (first | rw [if_pos (by grind)] | rw [if_neg (by grind)])); done) | (exfalso; grind)) (by first | with_reducible rfl | (dsimp only; (repeat (first | rw [if_pos (by grind)] | rw [if_neg (by grind)])); done) | (exfalso; grind))
    · skip
      refine jr_iconst (v := 1) d_m_isCode_15 (by decide) ?_
      refine jr_goto (tgt := 20) d_m_isCode_16 (by decide) ?_
      exact jr_retX (v := some _) d_m_isCode_20 (by first | exact Nat.le_refl _ | exact Nat.zero_le _ | (dsimp only; omega)) (by first | exact Nat.le_refl _ | exact Nat.zero_le _ | (dsimp only; omega)) (by first | with_reducible rfl | (dsimp only; (repeat (first | rw [if_pos (by grind)] | rw [if_neg (by grind)])); done) | (exfalso; grind)) (by first | with_reducible rfl | (dsimp only; (repeat (first | rw [if_pos (by grind)] | rw [if_neg (by grind)])); done) | (exfalso; grind)) (by first | with_reducible rfl | (dsimp only; (repeat (first | rw [if_pos (by grind)] | rw [if_neg (by grind)])); done) | (exfalso; grind)) (by first | with_reducible rfl | (dsimp only; (repeat (first | rw [if_pos (by grind)] | rw [if_neg (by grind)])); done) | (exfalso; grind))
def q_gv (I : jc_I) (k : Int32) : Int32 × jc_I := if k = 0 then (1, I) else if I (10, 0, 0) 8 = 12 then (0, I) else (1, jc_up (jc_up I (51, 0, 0) (I (10, 0, 0) 8).toNatClampNeg k) (10, 0, 0) 8 (I (10, 0, 0) 8 + 1))
def q_tk (I : jc_I) (k : Int32) : Int32 × jc_I := if k = 0 then (1, I) else if I (10, 0, 0) 8 = 0 ∨ I (51, 0, 0) (I (10, 0, 0) 8 - 1).toNatClampNeg ≠ k then (0, I) else (1, jc_up I (10, 0, 0) 8 (I (10, 0, 0) 8 - 1))
/-- the kinds' row -/
def qk (I : jc_I) (O : jc_O) : Prop := O (10, 0, 0) 7 = some (51, 0, 0) ∧ 0 ≤ I (10, 0, 0) 8 ∧ I (10, 0, 0) 8 ≤ 12
theorem ct_m_gives {I : jc_I} {O : jc_O} {live : jc_L → Prop} {k : Int32} (hk : qk I O) : jc_Ct y_m_gives [.inr (some (10, 0, 0)), .inl k] I O live (some (.inl (q_gv I k).1), (q_gv I k).2, O, live, 0, 0) := by
  obtain ⟨g1, g2, g3⟩ := id hk
  refine jc_Ct.of (by decide +kernel) (Or.inr ⟨rfl, by unfold q_gv; grind⟩) (Nat.le_of_ble_eq_true rfl) ?_
  refine jr_iload_n d_m_gives_0 rfl rfl ?_
  refine jr_if_ne (tgt := 6) d_m_gives_1 (by decide) (fun c1 => ?_) (fun c1 => ?_)
  · skip
    refine jr_aload_n d_m_gives_6 rfl rfl ?_
    refine jr_geti d_m_gives_7 f_m_84 rfl ?_
    refine jr_bipush (v := 12) d_m_gives_10 (by decide) ?_
    refine jr_icmp_ne (tgt := 17) d_m_gives_12 (by decide) (fun c12 => ?_) (fun c12 => ?_)
    · skip
      refine jr_aload_n d_m_gives_17 rfl rfl ?_
      refine jr_getr d_m_gives_18 f_m_26 rfl rfl ?_
      first | rw [g1] | skip
      refine jr_aload_n d_m_gives_21 rfl rfl ?_
      refine jr_geti d_m_gives_22 f_m_84 rfl ?_
      refine jr_iload_n d_m_gives_25 rfl rfl ?_
      refine jr_iast d_m_gives_26 rfl rfl rfl (jin0 g2 (by grind)) ?_
      refine jr_aload_n d_m_gives_27 rfl rfl ?_
      refine jr_dup d_m_gives_28 ?_
      refine jr_geti d_m_gives_29 f_m_84 rfl ?_
      try simp only [jc_up_s, jc_up_k, jc_up_t, jc_cl_s, jc_cl_t, ne_eq, Nat.reduceEqDiff, not_false_eq_true, Nat.reduceAdd]
      refine jr_iconst (v := 1) d_m_gives_32 (by decide) ?_
      refine jr_iadd d_m_gives_33 ?_
      refine jr_puti d_m_gives_34 f_m_84 (Or.inl rfl) rfl ?_
      refine jr_iconst (v := 1) d_m_gives_37 (by decide) ?_
      exact jr_retX (v := some _) d_m_gives_38 (by first | exact Nat.le_refl _ | exact Nat.zero_le _ | (dsimp only; omega)) (by first | exact Nat.le_refl _ | exact Nat.zero_le _ | (dsimp only; omega)) (by first | with_reducible rfl | (dsimp only; (unfold q_gv; (repeat (first | rw [if_pos (by grind)] | rw [if_neg (by grind)]))); done) | (exfalso; grind)) (by first | with_reducible rfl | (dsimp only; (unfold q_gv; (repeat (first | rw [if_pos (by grind)] | rw [if_neg (by grind)]))); done) | (exfalso; grind)) (by first | with_reducible rfl | (dsimp only; (unfold q_gv; (repeat (first | rw [if_pos (by grind)] | rw [if_neg (by grind)]))); done) | (exfalso; grind)) (by first | with_reducible rfl | (dsimp only; (unfold q_gv; (repeat (first | rw [if_pos (by grind)] | rw [if_neg (by grind)]))); done) | (exfalso; grind))
    · skip
      refine jr_iconst (v := 0) d_m_gives_15 (by decide) ?_
      exact jr_retX (v := some _) d_m_gives_16 (by first | exact Nat.le_refl _ | exact Nat.zero_le _ | (dsimp only; omega)) (by first | exact Nat.le_refl _ | exact Nat.zero_le _ | (dsimp only; omega)) (by first | with_reducible rfl | (dsimp only; (unfold q_gv; (repeat (first | rw [if_pos (by grind)] | rw [if_neg (by grind)]))); done) | (exfalso; grind)) (by first | with_reducible rfl | (dsimp only; (unfold q_gv; (repeat (first | rw [if_pos (by grind)] | rw [if_neg (by grind)]))); done) | (exfalso; grind)) (by first | with_reducible rfl | (dsimp only; (unfold q_gv; (repeat (first | rw [if_pos (by grind)] | rw [if_neg (by grind)]))); done) | (exfalso; grind)) (by first | with_reducible rfl | (dsimp only; (unfold q_gv; (repeat (first | rw [if_pos (by grind)] | rw [if_neg (by grind)]))); done) | (exfalso; grind))
  · skip
    refine jr_iconst (v := 1) d_m_gives_4 (by decide) ?_
    exact jr_retX (v := some _) d_m_gives_5 (by first | exact Nat.le_refl _ | exact Nat.zero_le _ | (dsimp only; omega)) (by first | exact Nat.le_refl _ | exact Nat.zero_le _ | (dsimp only; omega)) (by first | with_reducible rfl | (dsimp only; (unfold q_gv; (repeat (first | rw [if_pos (by grind)] | rw [if_neg (by grind)]))); done) | (exfalso; grind)) (by first | with_reducible rfl | (dsimp only; (unfold q_gv; (repeat (first | rw [if_pos (by grind)] | rw [if_neg (by grind)]))); done) | (exfalso; grind)) (by first | with_reducible rfl | (dsimp only; (unfold q_gv; (repeat (first | rw [if_pos (by grind)] | rw [if_neg (by grind)]))); done) | (exfalso; grind)) (by first | with_reducible rfl | (dsimp only; (unfold q_gv; (repeat (first | rw [if_pos (by grind)] | rw [if_neg (by grind)]))); done) | (exfalso; grind))
theorem ct_m_takes {I : jc_I} {O : jc_O} {live : jc_L → Prop} {k : Int32} (hk : qk I O) : jc_Ct y_m_takes [.inr (some (10, 0, 0)), .inl k] I O live (some (.inl (q_tk I k).1), (q_tk I k).2, O, live, 0, 0) := by
  obtain ⟨g1, g2, g3⟩ := id hk
  refine jc_Ct.of (by decide +kernel) (Or.inr ⟨rfl, by unfold q_tk; grind⟩) (Nat.le_of_ble_eq_true rfl) ?_
  refine jr_iload_n d_m_takes_0 rfl rfl ?_
  refine jr_if_ne (tgt := 6) d_m_takes_1 (by decide) (fun c1 => ?_) (fun c1 => ?_)
  · skip
    refine jr_aload_n d_m_takes_6 rfl rfl ?_
    refine jr_geti d_m_takes_7 f_m_84 rfl ?_
    refine jr_if_eq (tgt := 28) d_m_takes_10 (by decide) (fun c10 => ?_) (fun c10 => ?_)
    · skip
      refine jr_iconst (v := 0) d_m_takes_28 (by decide) ?_
      exact jr_retX (v := some _) d_m_takes_29 (by first | exact Nat.le_refl _ | exact Nat.zero_le _ | (dsimp only; omega)) (by first | exact Nat.le_refl _ | exact Nat.zero_le _ | (dsimp only; omega)) (by first | with_reducible rfl | (dsimp only; (unfold q_tk; (repeat (first | rw [if_pos (by grind)] | rw [if_neg (by grind)]))); done) | (exfalso; grind)) (by first | with_reducible rfl | (dsimp only; (unfold q_tk; (repeat (first | rw [if_pos (by grind)] | rw [if_neg (by grind)]))); done) | (exfalso; grind)) (by first | with_reducible rfl | (dsimp only; (unfold q_tk; (repeat (first | rw [if_pos (by grind)] | rw [if_neg (by grind)]))); done) | (exfalso; grind)) (by first | with_reducible rfl | (dsimp only; (unfold q_tk; (repeat (first | rw [if_pos (by grind)] | rw [if_neg (by grind)]))); done) | (exfalso; grind))
    · skip
      refine jr_aload_n d_m_takes_13 rfl rfl ?_
      refine jr_getr d_m_takes_14 f_m_26 rfl rfl ?_
      first | rw [g1] | skip
      refine jr_aload_n d_m_takes_17 rfl rfl ?_
      refine jr_geti d_m_takes_18 f_m_84 rfl ?_
      refine jr_iconst (v := 1) d_m_takes_21 (by decide) ?_
      refine jr_isub d_m_takes_22 ?_
      refine jr_iald d_m_takes_23 rfl rfl rfl (jin1 (by grind) (by grind)) ?_
      refine jr_iload_n d_m_takes_24 rfl rfl ?_
      refine jr_icmp_eq (tgt := 30) d_m_takes_25 (by decide) (fun c25 => ?_) (fun c25 => ?_)
      · skip
        refine jr_aload_n d_m_takes_30 rfl rfl ?_
        refine jr_dup d_m_takes_31 ?_
        refine jr_geti d_m_takes_32 f_m_84 rfl ?_
        refine jr_iconst (v := 1) d_m_takes_35 (by decide) ?_
        refine jr_isub d_m_takes_36 ?_
        refine jr_puti d_m_takes_37 f_m_84 (Or.inl rfl) rfl ?_
        refine jr_iconst (v := 1) d_m_takes_40 (by decide) ?_
        exact jr_retX (v := some _) d_m_takes_41 (by first | exact Nat.le_refl _ | exact Nat.zero_le _ | (dsimp only; omega)) (by first | exact Nat.le_refl _ | exact Nat.zero_le _ | (dsimp only; omega)) (by first | with_reducible rfl | (dsimp only; (unfold q_tk; (repeat (first | rw [if_pos (by grind)] | rw [if_neg (by grind)]))); done) | (exfalso; grind)) (by first | with_reducible rfl | (dsimp only; (unfold q_tk; (repeat (first | rw [if_pos (by grind)] | rw [if_neg (by grind)]))); done) | (exfalso; grind)) (by first | with_reducible rfl | (dsimp only; (unfold q_tk; (repeat (first | rw [if_pos (by grind)] | rw [if_neg (by grind)]))); done) | (exfalso; grind)) (by first | with_reducible rfl | (dsimp only; (unfold q_tk; (repeat (first | rw [if_pos (by grind)] | rw [if_neg (by grind)]))); done) | (exfalso; grind))
      · skip
        refine jr_iconst (v := 0) d_m_takes_28 (by decide) ?_
        exact jr_retX (v := some _) d_m_takes_29 (by first | exact Nat.le_refl _ | exact Nat.zero_le _ | (dsimp only; omega)) (by first | exact Nat.le_refl _ | exact Nat.zero_le _ | (dsimp only; omega)) (by first | with_reducible rfl | (dsimp only; (unfold q_tk; (repeat (first | rw [if_pos (by grind)] | rw [if_neg (by grind)]))); done) | (exfalso; grind)) (by first | with_reducible rfl | (dsimp only; (unfold q_tk; (repeat (first | rw [if_pos (by grind)] | rw [if_neg (by grind)]))); done) | (exfalso; grind)) (by first | with_reducible rfl | (dsimp only; (unfold q_tk; (repeat (first | rw [if_pos (by grind)] | rw [if_neg (by grind)]))); done) | (exfalso; grind)) (by first | with_reducible rfl | (dsimp only; (unfold q_tk; (repeat (first | rw [if_pos (by grind)] | rw [if_neg (by grind)]))); done) | (exfalso; grind))
  · skip
    refine jr_iconst (v := 1) d_m_takes_4 (by decide) ?_
    exact jr_retX (v := some _) d_m_takes_5 (by first | exact Nat.le_refl _ | exact Nat.zero_le _ | (dsimp only; omega)) (by first | exact Nat.le_refl _ | exact Nat.zero_le _ | (dsimp only; omega)) (by first | with_reducible rfl | (dsimp only; (unfold q_tk; (repeat (first | rw [if_pos (by grind)] | rw [if_neg (by grind)]))); done) | (exfalso; grind)) (by first | with_reducible rfl | (dsimp only; (unfold q_tk; (repeat (first | rw [if_pos (by grind)] | rw [if_neg (by grind)]))); done) | (exfalso; grind)) (by first | with_reducible rfl | (dsimp only; (unfold q_tk; (repeat (first | rw [if_pos (by grind)] | rw [if_neg (by grind)]))); done) | (exfalso; grind)) (by first | with_reducible rfl | (dsimp only; (unfold q_tk; (repeat (first | rw [if_pos (by grind)] | rw [if_neg (by grind)]))); done) | (exfalso; grind))
theorem ct_m_isLeaving {I : jc_I} {O : jc_O} {live : jc_L → Prop} {op : Int32}  : jc_Ct y_m_isLeaving [.inl op] I O live (some (.inl (if op = 11 ∨ op = 19 ∨ op = 22 then 1 else 0)), I, O, live, 0, 0) := by
  refine jc_Ct.of (by decide +kernel) (Or.inr ⟨rfl, by grind⟩) (Nat.le_of_ble_eq_true rfl) ?_
  refine jr_iload_n d_m_isLeaving_0 rfl rfl ?_
  refine jr_bipush (v := 11) d_m_isLeaving_1 (by decide) ?_
  refine jr_icmp_eq (tgt := 18) d_m_isLeaving_3 (by decide) (fun c3 => ?_) (fun c3 => ?_)
  · skip
    refine jr_iconst (v := 1) d_m_isLeaving_18 (by decide) ?_
    refine jr_goto (tgt := 23) d_m_isLeaving_19 (by decide) ?_
    exact jr_retX (v := some _) d_m_isLeaving_23 (by first | exact Nat.le_refl _ | exact Nat.zero_le _ | (dsimp only; omega)) (by first | exact Nat.le_refl _ | exact Nat.zero_le _ | (dsimp only; omega)) (by first | with_reducible rfl | (dsimp only; (repeat (first | rw [if_pos (by grind)] | rw [if_neg (by grind)])); done) | (exfalso; grind)) (by first | with_reducible rfl | (dsimp only; (repeat (first | rw [if_pos (by grind)] | rw [if_neg (by grind)])); done) | (exfalso; grind)) (by first | with_reducible rfl | (dsimp only; (repeat (first | rw [if_pos (by grind)] | rw [if_neg (by grind)])); done) | (exfalso; grind)) (by first | with_reducible rfl | (dsimp only; (repeat (first | rw [if_pos (by grind)] | rw [if_neg (by grind)])); done) | (exfalso; grind))
  · skip
    refine jr_iload_n d_m_isLeaving_6 rfl rfl ?_
    refine jr_bipush (v := 19) d_m_isLeaving_7 (by decide) ?_
    refine jr_icmp_eq (tgt := 18) d_m_isLeaving_9 (by decide) (fun c9 => ?_) (fun c9 => ?_)
    · skip
      refine jr_iconst (v := 1) d_m_isLeaving_18 (by decide) ?_
      refine jr_goto (tgt := 23) d_m_isLeaving_19 (by decide) ?_
      exact jr_retX (v := some _) d_m_isLeaving_23 (by first | exact Nat.le_refl _ | exact Nat.zero_le _ | (dsimp only; omega)) (by first | exact Nat.le_refl _ | exact Nat.zero_le _ | (dsimp only; omega)) (by first | with_reducible rfl | (dsimp only; (repeat (first | rw [if_pos (by grind)] | rw [if_neg (by grind)])); done) | (exfalso; grind)) (by first | with_reducible rfl | (dsimp only; (repeat (first | rw [if_pos (by grind)] | rw [if_neg (by grind)])); done) | (exfalso; grind)) (by first | with_reducible rfl | (dsimp only; (repeat (first | rw [if_pos (by grind)] | rw [if_neg (by grind)])); done) | (exfalso; grind)) (by first | with_reducible rfl | (dsimp only; (repeat (first | rw [if_pos (by grind)] | rw [if_neg (by grind)])); done) | (exfalso; grind))
    · skip
      refine jr_iload_n d_m_isLeaving_12 rfl rfl ?_
      refine jr_bipush (v := 22) d_m_isLeaving_13 (by decide) ?_
      refine jr_icmp_ne (tgt := 22) d_m_isLeaving_15 (by decide) (fun c15 => ?_) (fun c15 => ?_)
      · skip
        refine jr_iconst (v := 0) d_m_isLeaving_22 (by decide) ?_
        exact jr_retX (v := some _) d_m_isLeaving_23 (by first | exact Nat.le_refl _ | exact Nat.zero_le _ | (dsimp only; omega)) (by first | exact Nat.le_refl _ | exact Nat.zero_le _ | (dsimp only; omega)) (by first | with_reducible rfl | (dsimp only; (repeat (first | rw [if_pos (by grind)] | rw [if_neg (by grind)])); done) | (exfalso; grind)) (by first | with_reducible rfl | (dsimp only; (repeat (first | rw [if_pos (by grind)] | rw [if_neg (by grind)])); done) | (exfalso; grind)) (by first | with_reducible rfl | (dsimp only; (repeat (first | rw [if_pos (by grind)] | rw [if_neg (by grind)])); done) | (exfalso; grind)) (by first | with_reducible rfl | (dsimp only; (repeat (first | rw [if_pos (by grind)] | rw [if_neg (by grind)])); done) | (exfalso; grind))
      · skip
        refine jr_iconst (v := 1) d_m_isLeaving_18 (by decide) ?_
        refine jr_goto (tgt := 23) d_m_isLeaving_19 (by decide) ?_
        exact jr_retX (v := some _) d_m_isLeaving_23 (by first | exact Nat.le_refl _ | exact Nat.zero_le _ | (dsimp only; omega)) (by first | exact Nat.le_refl _ | exact Nat.zero_le _ | (dsimp only; omega)) (by first | with_reducible rfl | (dsimp only; (repeat (first | rw [if_pos (by grind)] | rw [if_neg (by grind)])); done) | (exfalso; grind)) (by first | with_reducible rfl | (dsimp only; (repeat (first | rw [if_pos (by grind)] | rw [if_neg (by grind)])); done) | (exfalso; grind)) (by first | with_reducible rfl | (dsimp only; (repeat (first | rw [if_pos (by grind)] | rw [if_neg (by grind)])); done) | (exfalso; grind)) (by first | with_reducible rfl | (dsimp only; (repeat (first | rw [if_pos (by grind)] | rw [if_neg (by grind)])); done) | (exfalso; grind))
def q_lk (I : jc_I) (c : Nat) (i : Int32) : Int32 := if 0 ≤ i ∧ i < I (11, c, 0) 3 then I (40, c, 0) i.toNatClampNeg else 0
/-- a code's arrays and counts -/
def qc (O : jc_O) (c : Nat) : Prop := O (11, c, 0) 2 = some (40, c, 0) ∧ O (11, c, 0) 4 = some (41, c, 0) ∧ O (11, c, 0) 5 = some (42, c, 0) ∧ O (11, c, 0) 7 = some (43, c, 0) ∧ O (11, c, 0) 8 = some (44, c, 0) ∧ O (11, c, 0) 9 = some (45, c, 0) ∧ O (11, c, 0) 10 = some (46, c, 0)
def qn (I : jc_I) (c : Nat) : Prop := 0 ≤ I (11, c, 0) 3 ∧ I (11, c, 0) 3 ≤ 8 ∧ 0 ≤ I (11, c, 0) 6 ∧ I (11, c, 0) 6 ≤ 60 ∧ 0 ≤ I (11, c, 0) 11 ∧ I (11, c, 0) 11 ≤ 20
theorem ct_m_kindOf {I : jc_I} {O : jc_O} {live : jc_L → Prop} {c : Nat} {i : Int32} (hc : qc O c) (hn : qn I c) : jc_Ct y_m_kindOf [.inr (some (11, c, 0)), .inl i] I O live (some (.inl (q_lk I c i)), I, O, live, 0, 0) := by
  obtain ⟨g2, g4, g5, g7, g8, g9, g10⟩ := id hc
  obtain ⟨n1, n2, n3, n4, n5, n6⟩ := id hn
  refine jc_Ct.of (by decide +kernel) (Or.inl rfl) (Nat.le_of_ble_eq_true rfl) ?_
  refine jr_iload_n d_m_kindOf_0 rfl rfl ?_
  refine jr_if_lt (tgt := 21) d_m_kindOf_1 (by decide) (fun c1 => ?_) (fun c1 => ?_)
  · skip
    refine jr_iconst (v := 0) d_m_kindOf_21 (by decide) ?_
    exact jr_retX (v := some _) d_m_kindOf_22 (by first | exact Nat.le_refl _ | exact Nat.zero_le _ | (dsimp only; omega)) (by first | exact Nat.le_refl _ | exact Nat.zero_le _ | (dsimp only; omega)) (by first | with_reducible rfl | (dsimp only; (unfold q_lk; (repeat (first | rw [if_pos (by grind)] | rw [if_neg (by grind)]))); done) | (exfalso; grind)) (by first | with_reducible rfl | (dsimp only; (unfold q_lk; (repeat (first | rw [if_pos (by grind)] | rw [if_neg (by grind)]))); done) | (exfalso; grind)) (by first | with_reducible rfl | (dsimp only; (unfold q_lk; (repeat (first | rw [if_pos (by grind)] | rw [if_neg (by grind)]))); done) | (exfalso; grind)) (by first | with_reducible rfl | (dsimp only; (unfold q_lk; (repeat (first | rw [if_pos (by grind)] | rw [if_neg (by grind)]))); done) | (exfalso; grind))
  · skip
    refine jr_iload_n d_m_kindOf_4 rfl rfl ?_
    refine jr_aload_n d_m_kindOf_5 rfl rfl ?_
    refine jr_geti d_m_kindOf_6 f_m_50 rfl ?_
    refine jr_icmp_ge (tgt := 21) d_m_kindOf_9 (by decide) (fun c9 => ?_) (fun c9 => ?_)
    · skip
      refine jr_iconst (v := 0) d_m_kindOf_21 (by decide) ?_
      exact jr_retX (v := some _) d_m_kindOf_22 (by first | exact Nat.le_refl _ | exact Nat.zero_le _ | (dsimp only; omega)) (by first | exact Nat.le_refl _ | exact Nat.zero_le _ | (dsimp only; omega)) (by first | with_reducible rfl | (dsimp only; (unfold q_lk; (repeat (first | rw [if_pos (by grind)] | rw [if_neg (by grind)]))); done) | (exfalso; grind)) (by first | with_reducible rfl | (dsimp only; (unfold q_lk; (repeat (first | rw [if_pos (by grind)] | rw [if_neg (by grind)]))); done) | (exfalso; grind)) (by first | with_reducible rfl | (dsimp only; (unfold q_lk; (repeat (first | rw [if_pos (by grind)] | rw [if_neg (by grind)]))); done) | (exfalso; grind)) (by first | with_reducible rfl | (dsimp only; (unfold q_lk; (repeat (first | rw [if_pos (by grind)] | rw [if_neg (by grind)]))); done) | (exfalso; grind))
    · skip
      refine jr_aload_n d_m_kindOf_12 rfl rfl ?_
      refine jr_getr d_m_kindOf_13 f_m_53 rfl rfl ?_
      first | rw [g2] | rw [g4] | rw [g5] | rw [g7] | rw [g8] | rw [g9] | rw [g10] | skip
      refine jr_iload_n d_m_kindOf_16 rfl rfl ?_
      refine jr_iald d_m_kindOf_17 rfl rfl rfl (jin (m := 8) (by decide) (by grind) (by grind)) ?_
      refine jr_goto (tgt := 22) d_m_kindOf_18 (by decide) ?_
      exact jr_retX (v := some _) d_m_kindOf_22 (by first | exact Nat.le_refl _ | exact Nat.zero_le _ | (dsimp only; omega)) (by first | exact Nat.le_refl _ | exact Nat.zero_le _ | (dsimp only; omega)) (by first | with_reducible rfl | (dsimp only; (unfold q_lk; (repeat (first | rw [if_pos (by grind)] | rw [if_neg (by grind)]))); done) | (exfalso; grind)) (by first | with_reducible rfl | (dsimp only; (unfold q_lk; (repeat (first | rw [if_pos (by grind)] | rw [if_neg (by grind)]))); done) | (exfalso; grind)) (by first | with_reducible rfl | (dsimp only; (unfold q_lk; (repeat (first | rw [if_pos (by grind)] | rw [if_neg (by grind)]))); done) | (exfalso; grind)) (by first | with_reducible rfl | (dsimp only; (unfold q_lk; (repeat (first | rw [if_pos (by grind)] | rw [if_neg (by grind)]))); done) | (exfalso; grind))
def q_ta (I : jc_I) (c : Nat) (p : Int32) : Nat → Nat → Int32
  | 0, _ => 0
  | m + 1, r => if I (45, c, 0) r = p then 1 else q_ta I c p m (r + 1)
theorem q_ta01 {I : jc_I} {c : Nat} {p : Int32} : ∀ m r, q_ta I c p m r = 0 ∨ q_ta I c p m r = 1
  | 0, _ => Or.inl rfl
  | m + 1, r => by rw [q_ta]; split; exact Or.inr rfl; exact q_ta01 m (r + 1)
theorem lp_mC_isTaker {I : jc_I} {O : jc_O} {live : jc_L → Prop} {c : Nat} {p : Int32} (hc : qc O c) (hn : qn I c) : ∀ (m r : Nat), r + m = (I (11, c, 0) 11).toNatClampNeg → jc_R y_mC_isTaker 2 [some (.inr (some (11, c, 0))), some (.inl p), some (.inl (Int32.ofNat r))] [] I O live 0 0 (some (.inl (q_ta I c p m r)), I, O, live, 0, 0) := by
  obtain ⟨g2, g4, g5, g7, g8, g9, g10⟩ := id hc
  obtain ⟨n1, n2, n3, n4, n5, n6⟩ := id hn
  intro m
  induction m with
  | zero =>
    intro r hm
    (have a2 := jNI n5); (have a4 := jle.mp n6); rw [show (20 : Int32).toInt = 20 from by decide] at a4; (have a1 := jofI (n := r) (by omega)); (have a3 := jofN (n := r) (by omega))
    refine jr_iload_n d_mC_isTaker_2 rfl rfl ?_
    refine jr_aload_n d_mC_isTaker_3 rfl rfl ?_
    refine jr_geti d_mC_isTaker_4 f_mC_40 rfl ?_
    refine jr_icmp_ge (tgt := 28) d_mC_isTaker_7 (by decide) (fun c7 => ?_) (fun c7 => ?_)
    · skip
      refine jr_iconst (v := 0) d_mC_isTaker_28 (by decide) ?_
      exact jr_retX (v := some _) d_mC_isTaker_29 (by first | exact Nat.le_refl _ | exact Nat.zero_le _ | (dsimp only; omega)) (by first | exact Nat.le_refl _ | exact Nat.zero_le _ | (dsimp only; omega)) (by first | with_reducible rfl | (dsimp only; rfl; done) | (exfalso; grind)) (by first | with_reducible rfl | (dsimp only; rfl; done) | (exfalso; grind)) (by first | with_reducible rfl | (dsimp only; rfl; done) | (exfalso; grind)) (by first | with_reducible rfl | (dsimp only; rfl; done) | (exfalso; grind))
    · skip
      exfalso; rw [jle, a1] at c7; omega
  | succ m ih =>
    intro r hm
    (have a2 := jNI n5); (have a4 := jle.mp n6); rw [show (20 : Int32).toInt = 20 from by decide] at a4; (have a1 := jofI (n := r) (by omega)); (have a3 := jofN (n := r) (by omega))
    refine jr_iload_n d_mC_isTaker_2 rfl rfl ?_
    refine jr_aload_n d_mC_isTaker_3 rfl rfl ?_
    refine jr_geti d_mC_isTaker_4 f_mC_40 rfl ?_
    refine jr_icmp_ge (tgt := 28) d_mC_isTaker_7 (by decide) (fun c7 => ?_) (fun c7 => ?_)
    · skip
      exfalso; rw [jle, a1] at c7; omega
    · skip
      refine jr_aload_n d_mC_isTaker_10 rfl rfl ?_
      refine jr_getr d_mC_isTaker_11 f_mC_27 rfl rfl ?_
      first | rw [g2] | rw [g4] | rw [g5] | rw [g7] | rw [g8] | rw [g9] | rw [g10] | skip
      refine jr_iload_n d_mC_isTaker_14 rfl rfl ?_
      refine jr_iald d_mC_isTaker_15 rfl rfl rfl (jinv (by rw [jle, a1, j0I]; omega) (by rw [a3]; show r < 20; omega)) ?_
      rw [a3]
      refine jr_iload_n d_mC_isTaker_16 rfl rfl ?_
      refine jr_icmp_ne (tgt := 22) d_mC_isTaker_17 (by decide) (fun c17 => ?_) (fun c17 => ?_)
      · skip
        refine jr_iinc d_mC_isTaker_22 rfl jinc1 ?_
        refine jr_goto (tgt := 2) d_mC_isTaker_25 (by decide) ?_
        exact (by have e := ih (r + 1) (by omega); rw [← jof1 (by omega)] at e; rw [q_ta, if_neg c17]; exact e)
      · skip
        refine jr_iconst (v := 1) d_mC_isTaker_20 (by decide) ?_
        exact jr_retX (v := some _) d_mC_isTaker_21 (by first | exact Nat.le_refl _ | exact Nat.zero_le _ | (dsimp only; omega)) (by first | exact Nat.le_refl _ | exact Nat.zero_le _ | (dsimp only; omega)) (by first | with_reducible rfl | (dsimp only; (rw [q_ta, if_pos c17]); done) | (exfalso; grind)) (by first | with_reducible rfl | (dsimp only; (rw [q_ta, if_pos c17]); done) | (exfalso; grind)) (by first | with_reducible rfl | (dsimp only; (rw [q_ta, if_pos c17]); done) | (exfalso; grind)) (by first | with_reducible rfl | (dsimp only; (rw [q_ta, if_pos c17]); done) | (exfalso; grind))
theorem ct_mC_isTaker {I : jc_I} {O : jc_O} {live : jc_L → Prop} {c : Nat} {p : Int32} (hc : qc O c) (hn : qn I c) : jc_Ct y_mC_isTaker [.inr (some (11, c, 0)), .inl p] I O live (some (.inl (q_ta I c p (I (11, c, 0) 11).toNatClampNeg 0)), I, O, live, 0, 0) := by
  refine jc_Ct.of (by decide +kernel) (Or.inr ⟨rfl, q_ta01 _ _⟩) (Nat.le_of_ble_eq_true rfl) ?_
  refine jr_iconst (v := 0) d_mC_isTaker_0 (by decide) ?_
  refine jr_istore_n d_mC_isTaker_1 rfl (Nat.le_of_ble_eq_true rfl) ?_
  exact lp_mC_isTaker hc hn (I (11, c, 0) 11).toNatClampNeg 0 (by omega)
