theorem ct_Cs_init {I : jc_I} {O : jc_O} {live : jc_L → Prop}  (f1 : ¬ live (24, 0, 0)) : jc_Ct y_Cs_init [.inr (some (1, 0, 0))] I O live (none, (jc_cl I (24, 0, 0) 0), (jc_up (jc_cl O (24, 0, 0) none) (1, 0, 0) 0 (some (24, 0, 0))), (jadd (24, 0, 0) live), 1, 40) := by
  refine jc_Ct.of (by decide +kernel) (rfl) (Nat.le_of_ble_eq_true rfl) ?_
  refine jr_aload_n d_Cs_init_0 rfl rfl ?_
  refine jr_objInit d_Cs_init_1 l_Cs_3 oi_i oi_c (Nat.le_of_ble_eq_true rfl) (Nat.le_of_ble_eq_true rfl) ?_
  refine jr_aload_n d_Cs_init_4 rfl rfl ?_
  refine jr_bipush (v := 40) d_Cs_init_5 (by decide) ?_
  refine jr_newq (N := 40) (24, 0, 0) d_Cs_init_7 c_Cs_9 ao_C rfl rfl rfl (f1) (by decide) (by decide) (by decide) (by first | decide | (dsimp only; omega)) (by first | decide | (dsimp only; omega)) ?_
  refine jr_putr d_Cs_init_10 f_Cs_11 (Or.inr ⟨rfl, _, _, _, rfl, rfl⟩) rfl rfl ?_
  exact jr_retX (v := none) d_Cs_init_13 (by first | exact Nat.le_refl _ | exact Nat.zero_le _ | (dsimp only; omega)) (by first | exact Nat.le_refl _ | exact Nat.zero_le _ | (dsimp only; omega)) (by first | with_reducible rfl | (dsimp only; rfl; done) | (rfl; done) | (exfalso; grind)) (by first | with_reducible rfl | (dsimp only; rfl; done) | (rfl; done) | (exfalso; grind)) (by first | with_reducible rfl | (dsimp only; rfl; done) | (rfl; done) | (exfalso; grind)) (by first | with_reducible rfl | (dsimp only; rfl; done) | (rfl; done) | (exfalso; grind))
theorem ct_G_init {I : jc_I} {O : jc_O} {live : jc_L → Prop}  (f25 : ¬ live (25, 0, 0)) (f26 : ¬ live (26, 0, 0)) (f27 : ¬ live (27, 0, 0)) (f28 : ¬ live (28, 0, 0)) : jc_Ct y_G_init [.inr (some (2, 0, 0)), .inr (some (1, 0, 0))] I O live (none, (jc_cl (jc_cl (jc_cl (jc_cl I (25, 0, 0) 0) (26, 0, 0) 0) (27, 0, 0) 0) (28, 0, 0) 0), (jc_up (jc_up (jc_cl (jc_up (jc_cl (jc_up (jc_cl (jc_up (jc_cl O (25, 0, 0) none) (2, 0, 0) 1 (some (25, 0, 0))) (26, 0, 0) none) (2, 0, 0) 2 (some (26, 0, 0))) (27, 0, 0) none) (2, 0, 0) 3 (some (27, 0, 0))) (28, 0, 0) none) (2, 0, 0) 4 (some (28, 0, 0))) (2, 0, 0) 0 (some (1, 0, 0))), (jadd (28, 0, 0) (jadd (27, 0, 0) (jadd (26, 0, 0) (jadd (25, 0, 0) live)))), 4, 153) := by
  refine jc_Ct.of (by decide +kernel) (rfl) (Nat.le_of_ble_eq_true rfl) ?_
  refine jr_aload_n d_G_init_0 rfl rfl ?_
  refine jr_objInit d_G_init_1 l_G_3 oi_i oi_c (Nat.le_of_ble_eq_true rfl) (Nat.le_of_ble_eq_true rfl) ?_
  refine jr_aload_n d_G_init_4 rfl rfl ?_
  refine jr_bipush (v := 61) d_G_init_5 (by decide) ?_
  refine jr_newa (N := 61) (25, 0, 0) d_G_init_7 ac_int rfl rfl rfl rfl rfl (f25) (by decide) (by decide) (by decide) (by first | decide | (dsimp only; omega)) (by first | decide | (dsimp only; omega)) ?_
  refine jr_putr d_G_init_9 f_G_9 (Or.inr ⟨rfl, _, _, _, rfl, rfl⟩) rfl rfl ?_
  refine jr_aload_n d_G_init_12 rfl rfl ?_
  refine jr_bipush (v := 12) d_G_init_13 (by decide) ?_
  refine jr_newa (N := 12) (26, 0, 0) d_G_init_15 ac_int rfl rfl rfl rfl rfl (by simp [*]) (by decide) (by decide) (by decide) (by first | decide | (dsimp only; omega)) (by first | decide | (dsimp only; omega)) ?_
  refine jr_putr d_G_init_17 f_G_15 (Or.inr ⟨rfl, _, _, _, rfl, rfl⟩) rfl rfl ?_
  refine jr_aload_n d_G_init_20 rfl rfl ?_
  refine jr_bipush (v := 40) d_G_init_21 (by decide) ?_
  refine jr_newa (N := 40) (27, 0, 0) d_G_init_23 ac_int rfl rfl rfl rfl rfl (by simp [*]) (by decide) (by decide) (by decide) (by first | decide | (dsimp only; omega)) (by first | decide | (dsimp only; omega)) ?_
  refine jr_putr d_G_init_25 f_G_18 (Or.inr ⟨rfl, _, _, _, rfl, rfl⟩) rfl rfl ?_
  refine jr_aload_n d_G_init_28 rfl rfl ?_
  refine jr_bipush (v := 40) d_G_init_29 (by decide) ?_
  refine jr_newa (N := 40) (28, 0, 0) d_G_init_31 ac_boolean rfl rfl rfl rfl rfl (by simp [*]) (by decide) (by decide) (by decide) (by first | decide | (dsimp only; omega)) (by first | decide | (dsimp only; omega)) ?_
  refine jr_putr d_G_init_33 f_G_21 (Or.inr ⟨rfl, _, _, _, rfl, rfl⟩) rfl rfl ?_
  refine jr_aload_n d_G_init_36 rfl rfl ?_
  refine jr_aload_n d_G_init_37 rfl rfl ?_
  refine jr_putr d_G_init_38 f_G_25 (Or.inr ⟨rfl, _, _, _, rfl, rfl⟩) rfl rfl ?_
  exact jr_retX (v := none) d_G_init_41 (by first | exact Nat.le_refl _ | exact Nat.zero_le _ | (dsimp only; omega)) (by first | exact Nat.le_refl _ | exact Nat.zero_le _ | (dsimp only; omega)) (by first | with_reducible rfl | (dsimp only; rfl; done) | (rfl; done) | (exfalso; grind)) (by first | with_reducible rfl | (dsimp only; rfl; done) | (rfl; done) | (exfalso; grind)) (by first | with_reducible rfl | (dsimp only; rfl; done) | (rfl; done) | (exfalso; grind)) (by first | with_reducible rfl | (dsimp only; rfl; done) | (rfl; done) | (exfalso; grind))
theorem ct_H_init {I : jc_I} {O : jc_O} {live : jc_L → Prop}  (f1 : ¬ live (30, 0, 0)) (f2 : ¬ live (31, 0, 0)) : jc_Ct y_H_init [.inr (some (3, 0, 0))] I O live (none, (jc_cl (jc_cl I (30, 0, 0) 0) (31, 0, 0) 0), (jc_up (jc_cl (jc_up (jc_cl O (30, 0, 0) none) (3, 0, 0) 0 (some (30, 0, 0))) (31, 0, 0) none) (3, 0, 0) 1 (some (31, 0, 0))), (jadd (31, 0, 0) (jadd (30, 0, 0) live)), 2, 2004) := by
  refine jc_Ct.of (by decide +kernel) (rfl) (Nat.le_of_ble_eq_true rfl) ?_
  refine jr_aload_n d_H_init_0 rfl rfl ?_
  refine jr_objInit d_H_init_1 l_H_3 oi_i oi_c (Nat.le_of_ble_eq_true rfl) (Nat.le_of_ble_eq_true rfl) ?_
  refine jr_aload_n d_H_init_4 rfl rfl ?_
  refine jr_sipush (v := 2000) d_H_init_5 (by decide) ?_
  refine jr_newq (N := 2000) (30, 0, 0) d_H_init_8 c_H_9 ao_T rfl rfl rfl (f1) (by decide) (by decide) (by decide) (by first | decide | (dsimp only; omega)) (by first | decide | (dsimp only; omega)) ?_
  refine jr_putr d_H_init_11 f_H_11 (Or.inr ⟨rfl, _, _, _, rfl, rfl⟩) rfl rfl ?_
  refine jr_aload_n d_H_init_14 rfl rfl ?_
  refine jr_iconst (v := 4) d_H_init_15 (by decide) ?_
  refine jr_newa (N := 4) (31, 0, 0) d_H_init_16 ac_int rfl rfl rfl rfl rfl (by simp [*]) (by decide) (by decide) (by decide) (by first | decide | (dsimp only; omega)) (by first | decide | (dsimp only; omega)) ?_
  refine jr_putr d_H_init_18 f_H_17 (Or.inr ⟨rfl, _, _, _, rfl, rfl⟩) rfl rfl ?_
  exact jr_retX (v := none) d_H_init_21 (by first | exact Nat.le_refl _ | exact Nat.zero_le _ | (dsimp only; omega)) (by first | exact Nat.le_refl _ | exact Nat.zero_le _ | (dsimp only; omega)) (by first | with_reducible rfl | (dsimp only; rfl; done) | (rfl; done) | (exfalso; grind)) (by first | with_reducible rfl | (dsimp only; rfl; done) | (rfl; done) | (exfalso; grind)) (by first | with_reducible rfl | (dsimp only; rfl; done) | (rfl; done) | (exfalso; grind)) (by first | with_reducible rfl | (dsimp only; rfl; done) | (rfl; done) | (exfalso; grind))
theorem ct_M_init {I : jc_I} {O : jc_O} {live : jc_L → Prop}  (f1 : ¬ live (35, 0, 0)) : jc_Ct y_M_init [.inr (some (4, 0, 0)), .inr (some (1, 0, 0)), .inr (some (2, 0, 0)), .inr (some (3, 0, 0))] I O live (none, (jc_cl I (35, 0, 0) 0), (jc_up (jc_up (jc_up (jc_up (jc_cl O (35, 0, 0) none) (4, 0, 0) 3 (some (35, 0, 0))) (4, 0, 0) 0 (some (1, 0, 0))) (4, 0, 0) 1 (some (2, 0, 0))) (4, 0, 0) 2 (some (3, 0, 0))), (jadd (35, 0, 0) live), 1, 8) := by
  refine jc_Ct.of (by decide +kernel) (rfl) (Nat.le_of_ble_eq_true rfl) ?_
  refine jr_aload_n d_M_init_0 rfl rfl ?_
  refine jr_objInit d_M_init_1 l_M_3 oi_i oi_c (Nat.le_of_ble_eq_true rfl) (Nat.le_of_ble_eq_true rfl) ?_
  refine jr_aload_n d_M_init_4 rfl rfl ?_
  refine jr_bipush (v := 8) d_M_init_5 (by decide) ?_
  refine jr_newq (N := 8) (35, 0, 0) d_M_init_7 c_M_9 ao_S rfl rfl rfl (f1) (by decide) (by decide) (by decide) (by first | decide | (dsimp only; omega)) (by first | decide | (dsimp only; omega)) ?_
  refine jr_putr d_M_init_10 f_M_11 (Or.inr ⟨rfl, _, _, _, rfl, rfl⟩) rfl rfl ?_
  refine jr_aload_n d_M_init_13 rfl rfl ?_
  refine jr_aload_n d_M_init_14 rfl rfl ?_
  refine jr_putr d_M_init_15 f_M_17 (Or.inr ⟨rfl, _, _, _, rfl, rfl⟩) rfl rfl ?_
  refine jr_aload_n d_M_init_18 rfl rfl ?_
  refine jr_aload_n d_M_init_19 rfl rfl ?_
  refine jr_putr d_M_init_20 f_M_21 (Or.inr ⟨rfl, _, _, _, rfl, rfl⟩) rfl rfl ?_
  refine jr_aload_n d_M_init_23 rfl rfl ?_
  refine jr_aload_n d_M_init_24 rfl rfl ?_
  refine jr_putr d_M_init_25 f_M_25 (Or.inr ⟨rfl, _, _, _, rfl, rfl⟩) rfl rfl ?_
  exact jr_retX (v := none) d_M_init_28 (by first | exact Nat.le_refl _ | exact Nat.zero_le _ | (dsimp only; omega)) (by first | exact Nat.le_refl _ | exact Nat.zero_le _ | (dsimp only; omega)) (by first | with_reducible rfl | (dsimp only; rfl; done) | (rfl; done) | (exfalso; grind)) (by first | with_reducible rfl | (dsimp only; rfl; done) | (rfl; done) | (exfalso; grind)) (by first | with_reducible rfl | (dsimp only; rfl; done) | (rfl; done) | (exfalso; grind)) (by first | with_reducible rfl | (dsimp only; rfl; done) | (rfl; done) | (exfalso; grind))
def j_iI (I : jc_I) : jc_I := (jc_cl (jc_cl (jc_cl (jc_cl (jc_cl (jc_cl (jc_cl (jc_cl (jc_cl (jc_cl (jc_cl (jc_cl I (1, 0, 0) 0) (24, 0, 0) 0) (2, 0, 0) 0) (25, 0, 0) 0) (26, 0, 0) 0) (27, 0, 0) 0) (28, 0, 0) 0) (3, 0, 0) 0) (30, 0, 0) 0) (31, 0, 0) 0) (4, 0, 0) 0) (35, 0, 0) 0)
def j_iO (O : jc_O) : jc_O := (jc_up (jc_up (jc_up (jc_up (jc_up (jc_cl (jc_cl (jc_up (jc_up (jc_cl (jc_up (jc_cl (jc_cl (jc_up (jc_up (jc_up (jc_cl (jc_up (jc_cl (jc_up (jc_cl (jc_up (jc_cl (jc_cl (jc_up (jc_up (jc_cl (jc_cl O (1, 0, 0) none) (24, 0, 0) none) (1, 0, 0) 0 (some (24, 0, 0))) (0, 0, 0) 0 (some (1, 0, 0))) (2, 0, 0) none) (25, 0, 0) none) (2, 0, 0) 1 (some (25, 0, 0))) (26, 0, 0) none) (2, 0, 0) 2 (some (26, 0, 0))) (27, 0, 0) none) (2, 0, 0) 3 (some (27, 0, 0))) (28, 0, 0) none) (2, 0, 0) 4 (some (28, 0, 0))) (2, 0, 0) 0 (some (1, 0, 0))) (0, 0, 0) 1 (some (2, 0, 0))) (3, 0, 0) none) (30, 0, 0) none) (3, 0, 0) 0 (some (30, 0, 0))) (31, 0, 0) none) (3, 0, 0) 1 (some (31, 0, 0))) (0, 0, 0) 2 (some (3, 0, 0))) (4, 0, 0) none) (35, 0, 0) none) (4, 0, 0) 3 (some (35, 0, 0))) (4, 0, 0) 0 (some (1, 0, 0))) (4, 0, 0) 1 (some (2, 0, 0))) (4, 0, 0) 2 (some (3, 0, 0))) (0, 0, 0) 3 (some (4, 0, 0)))
def j_il (live : jc_L → Prop) : jc_L → Prop := (jadd (35, 0, 0) (jadd (4, 0, 0) (jadd (31, 0, 0) (jadd (30, 0, 0) (jadd (3, 0, 0) (jadd (28, 0, 0) (jadd (27, 0, 0) (jadd (26, 0, 0) (jadd (25, 0, 0) (jadd (2, 0, 0) (jadd (24, 0, 0) (jadd (1, 0, 0) live))))))))))))
theorem ct_J_init {I : jc_I} {O : jc_O} {live : jc_L → Prop}  (f0 : ¬ live (1, 0, 0)) (f1 : ¬ live (24, 0, 0)) (f2 : ¬ live (2, 0, 0)) (f3 : ¬ live (25, 0, 0)) (f4 : ¬ live (26, 0, 0)) (f5 : ¬ live (27, 0, 0)) (f6 : ¬ live (28, 0, 0)) (f7 : ¬ live (3, 0, 0)) (f8 : ¬ live (30, 0, 0)) (f9 : ¬ live (31, 0, 0)) (f10 : ¬ live (4, 0, 0)) (f11 : ¬ live (35, 0, 0)) : jc_Ct y_J_init [.inr (some (0, 0, 0))] I O live (none, j_iI I, j_iO O, j_il live, 12, 2226) := by
  refine jc_Ct.of (by decide +kernel) (rfl) (Nat.le_of_ble_eq_true rfl) ?_
  refine jr_aload_n d_J_init_0 rfl rfl ?_
  refine jr_objInit d_J_init_1 l_J_1 oi_i oi_c (Nat.le_of_ble_eq_true rfl) (Nat.le_of_ble_eq_true rfl) ?_
  refine jr_aload_n d_J_init_4 rfl rfl ?_
  refine jr_new (1, 0, 0) d_J_init_5 n_J_7 rfl (f0) (by first | decide | (dsimp only; omega)) (by first | decide | (dsimp only; omega)) ?_
  refine jr_dup d_J_init_8 ?_
  refine jv_IN0vA d_J_init_9 l_J_9 k_Cs_init ⟨Nat.le_of_ble_eq_true rfl, Nat.le_of_ble_eq_true rfl⟩ (Nat.le_of_ble_eq_true rfl) (ct_Cs_init (by simp [*])) (fun q9 h9 => by first | exact Or.inr h9 | exact Or.inr (Or.inr h9) | exact Or.inr (Or.inr (Or.inr (Or.inr h9)))) (by first | decide | exact Nat.zero_le _ | (dsimp only; omega) | (dsimp only; grind)) (by first | decide | exact Nat.zero_le _ | (dsimp only; omega) | (dsimp only; grind)) ?_
  refine jr_putr d_J_init_12 f_J_10 (Or.inr ⟨rfl, _, _, _, rfl, rfl⟩) rfl rfl ?_
  refine jr_aload_n d_J_init_15 rfl rfl ?_
  refine jr_new (2, 0, 0) d_J_init_16 n_J_16 rfl (by simp [*]) (by first | decide | (dsimp only; omega)) (by first | decide | (dsimp only; omega)) ?_
  refine jr_dup d_J_init_19 ?_
  refine jr_aload_n d_J_init_20 rfl rfl ?_
  refine jr_getr d_J_init_21 f_J_10 rfl rfl ?_
  try simp only [jc_up_s, jc_up_k, jc_up_t, jc_cl_s, jc_cl_t, ne_eq, Nat.reduceEqDiff, not_false_eq_true, Nat.reduceAdd]
  refine jv_I1vA d_J_init_24 l_J_18 k_G_init ⟨Nat.le_of_ble_eq_true rfl, Nat.le_of_ble_eq_true rfl⟩ (Nat.le_of_ble_eq_true rfl) (ct_G_init (by simp [*]) (by simp [*]) (by simp [*]) (by simp [*])) (fun q9 h9 => by first | exact Or.inr h9 | exact Or.inr (Or.inr h9) | exact Or.inr (Or.inr (Or.inr (Or.inr h9)))) (by first | decide | exact Nat.zero_le _ | (dsimp only; omega) | (dsimp only; grind)) (by first | decide | exact Nat.zero_le _ | (dsimp only; omega) | (dsimp only; grind)) ?_
  refine jr_putr d_J_init_27 f_J_21 (Or.inr ⟨rfl, _, _, _, rfl, rfl⟩) rfl rfl ?_
  refine jr_aload_n d_J_init_30 rfl rfl ?_
  refine jr_new (3, 0, 0) d_J_init_31 n_J_25 rfl (by simp [*]) (by first | decide | (dsimp only; omega)) (by first | decide | (dsimp only; omega)) ?_
  refine jr_dup d_J_init_34 ?_
  refine jv_IN0vA d_J_init_35 l_J_27 k_H_init ⟨Nat.le_of_ble_eq_true rfl, Nat.le_of_ble_eq_true rfl⟩ (Nat.le_of_ble_eq_true rfl) (ct_H_init (by simp [*]) (by simp [*])) (fun q9 h9 => by first | exact Or.inr h9 | exact Or.inr (Or.inr h9) | exact Or.inr (Or.inr (Or.inr (Or.inr h9)))) (by first | decide | exact Nat.zero_le _ | (dsimp only; omega) | (dsimp only; grind)) (by first | decide | exact Nat.zero_le _ | (dsimp only; omega) | (dsimp only; grind)) ?_
  refine jr_putr d_J_init_38 f_J_28 (Or.inr ⟨rfl, _, _, _, rfl, rfl⟩) rfl rfl ?_
  refine jr_aload_n d_J_init_41 rfl rfl ?_
  refine jr_new (4, 0, 0) d_J_init_42 n_J_32 rfl (by simp [*]) (by first | decide | (dsimp only; omega)) (by first | decide | (dsimp only; omega)) ?_
  refine jr_dup d_J_init_45 ?_
  refine jr_aload_n d_J_init_46 rfl rfl ?_
  refine jr_getr d_J_init_47 f_J_10 rfl rfl ?_
  try simp only [jc_up_s, jc_up_k, jc_up_t, jc_cl_s, jc_cl_t, ne_eq, Nat.reduceEqDiff, not_false_eq_true, Nat.reduceAdd]
  refine jr_aload_n d_J_init_50 rfl rfl ?_
  refine jr_getr d_J_init_51 f_J_21 rfl rfl ?_
  try simp only [jc_up_s, jc_up_k, jc_up_t, jc_cl_s, jc_cl_t, ne_eq, Nat.reduceEqDiff, not_false_eq_true, Nat.reduceAdd]
  refine jr_aload_n d_J_init_54 rfl rfl ?_
  refine jr_getr d_J_init_55 f_J_28 rfl rfl ?_
  try simp only [jc_up_s, jc_up_k, jc_up_t, jc_cl_s, jc_cl_t, ne_eq, Nat.reduceEqDiff, not_false_eq_true, Nat.reduceAdd]
  refine jv_I3vA d_J_init_58 l_J_34 k_M_init ⟨Nat.le_of_ble_eq_true rfl, Nat.le_of_ble_eq_true rfl⟩ (Nat.le_of_ble_eq_true rfl) (ct_M_init (by simp [*])) (fun q9 h9 => by first | exact Or.inr h9 | exact Or.inr (Or.inr h9) | exact Or.inr (Or.inr (Or.inr (Or.inr h9)))) (by first | decide | exact Nat.zero_le _ | (dsimp only; omega) | (dsimp only; grind)) (by first | decide | exact Nat.zero_le _ | (dsimp only; omega) | (dsimp only; grind)) ?_
  refine jr_putr d_J_init_61 f_J_37 (Or.inr ⟨rfl, _, _, _, rfl, rfl⟩) rfl rfl ?_
  exact jr_retX (v := none) d_J_init_64 (by first | exact Nat.le_refl _ | exact Nat.zero_le _ | (dsimp only; omega)) (by first | exact Nat.le_refl _ | exact Nat.zero_le _ | (dsimp only; omega)) (by first | with_reducible rfl | (dsimp only; rfl; done) | (rfl; done) | (exfalso; grind)) (by first | with_reducible rfl | (dsimp only; rfl; done) | (rfl; done) | (exfalso; grind)) (by first | with_reducible rfl | (dsimp only; rfl; done) | (rfl; done) | (exfalso; grind)) (by first | with_reducible rfl | (dsimp only; rfl; done) | (rfl; done) | (exfalso; grind))
def q_iI (I : jc_I) : jc_I := (jc_cl (jc_cl (jc_up (jc_cl (jc_up (jc_cl (jc_up (jc_cl I (15, 0, 0) 0) (15, 0, 0) 2 0) (15, 1, 0) 0) (15, 1, 0) 2 0) (15, 2, 0) 0) (15, 2, 0) 2 0) (50, 0, 0) 0) (51, 0, 0) 0)
def q_iO (O : jc_O) : jc_O := (jc_up (jc_cl (jc_up (jc_cl (jc_up (jc_up (jc_cl (jc_up (jc_up (jc_cl (jc_up (jc_up (jc_cl O (15, 0, 0) none) (15, 0, 0) 0 (some (97, 0, 0))) (10, 0, 0) 0 (some (15, 0, 0))) (15, 1, 0) none) (15, 1, 0) 0 (some (97, 0, 0))) (10, 0, 0) 2 (some (15, 1, 0))) (15, 2, 0) none) (15, 2, 0) 0 (some (97, 0, 0))) (10, 0, 0) 4 (some (15, 2, 0))) (50, 0, 0) none) (10, 0, 0) 6 (some (50, 0, 0))) (51, 0, 0) none) (10, 0, 0) 7 (some (51, 0, 0)))
def q_il (live : jc_L → Prop) : jc_L → Prop := (jadd (51, 0, 0) (jadd (50, 0, 0) (jadd (15, 2, 0) (jadd (15, 1, 0) (jadd (15, 0, 0) live)))))
theorem ct_m_init {I : jc_I} {O : jc_O} {live : jc_L → Prop}  (f0 : ¬ live (15, 0, 0)) (f1 : ¬ live (15, 1, 0)) (f2 : ¬ live (15, 2, 0)) (f3 : ¬ live (50, 0, 0)) (f4 : ¬ live (51, 0, 0)) : jc_Ct y_m_init [.inr (some (10, 0, 0))] I O live (none, q_iI I, q_iO O, q_il live, 5, 25) := by
  refine jc_Ct.of (by decide +kernel) (rfl) (Nat.le_of_ble_eq_true rfl) ?_
  refine jr_aload_n d_m_init_0 rfl rfl ?_
  refine jr_objInit d_m_init_1 l_m_1 oi_i oi_c (Nat.le_of_ble_eq_true rfl) (Nat.le_of_ble_eq_true rfl) ?_
  refine jr_aload_n d_m_init_4 rfl rfl ?_
  refine jr_new (15, 0, 0) d_m_init_5 n_m_7 rfl (f0) (by first | decide | (dsimp only; omega)) (by first | decide | (dsimp only; omega)) ?_
  refine jr_dup d_m_init_8 ?_
  refine jv_I0v d_m_init_9 l_m_9 k_aL_init ⟨Nat.le_of_ble_eq_true rfl, Nat.le_of_ble_eq_true rfl⟩ (Nat.le_of_ble_eq_true rfl) (ct_aL_init) (by first | decide | exact Nat.zero_le _ | (dsimp only; omega) | (dsimp only; grind)) (by first | decide | exact Nat.zero_le _ | (dsimp only; omega) | (dsimp only; grind)) ?_
  refine jr_putr d_m_init_12 f_m_10 (Or.inr ⟨rfl, _, _, _, rfl, rfl⟩) rfl rfl ?_
  refine jr_aload_n d_m_init_15 rfl rfl ?_
  refine jr_new (15, 1, 0) d_m_init_16 n_m_7 rfl (by simp [*]) (by first | decide | (dsimp only; omega)) (by first | decide | (dsimp only; omega)) ?_
  refine jr_dup d_m_init_19 ?_
  refine jv_I0v d_m_init_20 l_m_9 k_aL_init ⟨Nat.le_of_ble_eq_true rfl, Nat.le_of_ble_eq_true rfl⟩ (Nat.le_of_ble_eq_true rfl) (ct_aL_init) (by first | decide | exact Nat.zero_le _ | (dsimp only; omega) | (dsimp only; grind)) (by first | decide | exact Nat.zero_le _ | (dsimp only; omega) | (dsimp only; grind)) ?_
  refine jr_putr d_m_init_23 f_m_16 (Or.inr ⟨rfl, _, _, _, rfl, rfl⟩) rfl rfl ?_
  refine jr_aload_n d_m_init_26 rfl rfl ?_
  refine jr_new (15, 2, 0) d_m_init_27 n_m_7 rfl (by simp [*]) (by first | decide | (dsimp only; omega)) (by first | decide | (dsimp only; omega)) ?_
  refine jr_dup d_m_init_30 ?_
  refine jv_I0v d_m_init_31 l_m_9 k_aL_init ⟨Nat.le_of_ble_eq_true rfl, Nat.le_of_ble_eq_true rfl⟩ (Nat.le_of_ble_eq_true rfl) (ct_aL_init) (by first | decide | exact Nat.zero_le _ | (dsimp only; omega) | (dsimp only; grind)) (by first | decide | exact Nat.zero_le _ | (dsimp only; omega) | (dsimp only; grind)) ?_
  refine jr_putr d_m_init_34 f_m_19 (Or.inr ⟨rfl, _, _, _, rfl, rfl⟩) rfl rfl ?_
  refine jr_aload_n d_m_init_37 rfl rfl ?_
  refine jr_iconst (v := 4) d_m_init_38 (by decide) ?_
  refine jr_newa (N := 4) (50, 0, 0) d_m_init_39 ac_int rfl rfl rfl rfl rfl (by simp [*]) (by decide) (by decide) (by decide) (by first | decide | (dsimp only; omega)) (by first | decide | (dsimp only; omega)) ?_
  refine jr_putr d_m_init_41 f_m_22 (Or.inr ⟨rfl, _, _, _, rfl, rfl⟩) rfl rfl ?_
  refine jr_aload_n d_m_init_44 rfl rfl ?_
  refine jr_bipush (v := 12) d_m_init_45 (by decide) ?_
  refine jr_newa (N := 12) (51, 0, 0) d_m_init_47 ac_int rfl rfl rfl rfl rfl (by simp [*]) (by decide) (by decide) (by decide) (by first | decide | (dsimp only; omega)) (by first | decide | (dsimp only; omega)) ?_
  refine jr_putr d_m_init_49 f_m_26 (Or.inr ⟨rfl, _, _, _, rfl, rfl⟩) rfl rfl ?_
  exact jr_retX (v := none) d_m_init_52 (by first | exact Nat.le_refl _ | exact Nat.zero_le _ | (dsimp only; omega)) (by first | exact Nat.le_refl _ | exact Nat.zero_le _ | (dsimp only; omega)) (by first | with_reducible rfl | (dsimp only; rfl; done) | (rfl; done) | (exfalso; grind)) (by first | with_reducible rfl | (dsimp only; rfl; done) | (rfl; done) | (exfalso; grind)) (by first | with_reducible rfl | (dsimp only; rfl; done) | (rfl; done) | (exfalso; grind)) (by first | with_reducible rfl | (dsimp only; rfl; done) | (rfl; done) | (exfalso; grind))
def s_mkI (I : jc_I) (t : Nat) : Nat → jc_I
  | 0 => I
  | n + 1 => jc_cl (jc_cl (jc_cl (s_mkI I t n) (8, t, n) 0) (32, t, n) 0) (33, t, n) 0
def s_mkO (O : jc_O) (t : Nat) : Nat → jc_O
  | 0 => O
  | n + 1 => jc_up (jc_up (jc_cl (jc_up (jc_cl (jc_cl (s_mkO O t n) (8, t, n) none) (32, t, n) none) (8, t, n) 0 (some (32, t, n))) (33, t, n) none) (8, t, n) 1 (some (33, t, n))) (34, t, 0) n (some (8, t, n))
def s_mkl (live : jc_L → Prop) (t : Nat) : Nat → (jc_L → Prop)
  | 0 => live
  | n + 1 => jadd (33, t, n) (jadd (32, t, n) (jadd (8, t, n) (s_mkl live t n)))
theorem s_mkl_l {live : jc_L → Prop} {t : Nat} {q : jc_L} : ∀ n, s_mkl live t n q → live q ∨ ((q.1 = 8 ∨ q.1 = 32 ∨ q.1 = 33) ∧ q.2.1 = t ∧ q.2.2 < n)
  | 0, h => Or.inl h
  | n + 1, h => by
    rcases h with e | e | e | e
    · refine Or.inr ?_; rw [e]; exact ⟨by simp, rfl, by simp⟩
    · refine Or.inr ?_; rw [e]; exact ⟨by simp, rfl, by simp⟩
    · refine Or.inr ?_; rw [e]; exact ⟨by simp, rfl, by simp⟩
    · rcases s_mkl_l n e with g | ⟨g1, g2, g3⟩
      · exact Or.inl g
      · exact Or.inr ⟨g1, g2, by omega⟩
theorem s_mkO_9 {O : jc_O} {t a : Nat} {u : Nat × Nat} {k : Nat} (h1 : a ≠ 8) (h2 : a ≠ 32) (h3 : a ≠ 33) (h4 : a ≠ 34) : ∀ n, s_mkO O t n (a, u) k = O (a, u) k
  | 0 => rfl
  | n + 1 => by rw [s_mkO, jc_up_t _ _ _ _ _ _ _ _ h4, jc_up_t _ _ _ _ _ _ _ _ h1, jc_cl_t _ _ _ _ _ _ _ h3, jc_up_t _ _ _ _ _ _ _ _ h1, jc_cl_t _ _ _ _ _ _ _ h2, jc_cl_t _ _ _ _ _ _ _ h1, s_mkO_9 h1 h2 h3 h4 n]
theorem lp_S_init {I : jc_I} {O : jc_O} {live : jc_L → Prop} {t : Nat} {x : Int32} (h1 : O (9, t, 0) 1 = some (34, t, 0)) (hf : ∀ j, j < 30 → ¬ live (8, t, j) ∧ ¬ live (32, t, j) ∧ ¬ live (33, t, j)) : ∀ (m r : Nat), r + m = 30 → jc_R y_S_init 20 [some (.inr (some (9, t, 0))), some (.inl x), some (.inl (Int32.ofNat r))] [] (s_mkI I t r) (s_mkO O t r) (s_mkl live t r) (1 + 3 * r) (30 + 25 * r) (none, s_mkI I t 30, s_mkO O t 30, s_mkl live t 30, 91, 780) := by
  intro m
  induction m with
  | zero =>
    intro r hm
    (have a1 := jofI (n := r) (by omega)); (have a3 := jofN (n := r) (by omega)); (have a30 : (30 : Int32).toInt = 30 := by decide); (have h1 : s_mkO O t r (9, t, 0) 1 = some (34, t, 0) := (s_mkO_9 (by decide) (by decide) (by decide) (by decide) r).trans h1)
    refine jr_iload_n d_S_init_20 rfl rfl ?_
    refine jr_bipush (v := 30) d_S_init_21 (by decide) ?_
    refine jr_icmp_ge (tgt := 45) d_S_init_23 (by decide) (fun c23 => ?_) (fun c23 => ?_)
    · skip
      exact jr_retX (v := none) d_S_init_45 (by first | exact Nat.le_refl _ | exact Nat.zero_le _ | (dsimp only; omega) | (dsimp only; omega)) (by first | exact Nat.le_refl _ | exact Nat.zero_le _ | (dsimp only; omega) | (dsimp only; omega)) (by first | with_reducible rfl | (dsimp only; (rw [show r = 30 from by omega]); done) | ((rw [show r = 30 from by omega]); done) | (exfalso; grind)) (by first | with_reducible rfl | (dsimp only; (rw [show r = 30 from by omega]); done) | ((rw [show r = 30 from by omega]); done) | (exfalso; grind)) (by first | with_reducible rfl | (dsimp only; (rw [show r = 30 from by omega]); done) | ((rw [show r = 30 from by omega]); done) | (exfalso; grind)) (by first | with_reducible rfl | (dsimp only; (rw [show r = 30 from by omega]); done) | ((rw [show r = 30 from by omega]); done) | (exfalso; grind))
    · skip
      exfalso; rw [jle, a1, a30] at c23; omega
  | succ m ih =>
    intro r hm
    (have a1 := jofI (n := r) (by omega)); (have a3 := jofN (n := r) (by omega)); (have a30 : (30 : Int32).toInt = 30 := by decide); (have h1 : s_mkO O t r (9, t, 0) 1 = some (34, t, 0) := (s_mkO_9 (by decide) (by decide) (by decide) (by decide) r).trans h1)
    refine jr_iload_n d_S_init_20 rfl rfl ?_
    refine jr_bipush (v := 30) d_S_init_21 (by decide) ?_
    refine jr_icmp_ge (tgt := 45) d_S_init_23 (by decide) (fun c23 => ?_) (fun c23 => ?_)
    · skip
      exfalso; rw [jle, a1, a30] at c23; omega
    · skip
      refine jr_aload_n d_S_init_26 rfl rfl ?_
      refine jr_getr d_S_init_27 f_S_11 rfl rfl ?_
      first | rw [h1] | skip
      refine jr_iload_n d_S_init_30 rfl rfl ?_
      refine jr_new (8, t, r) d_S_init_31 n_S_9 rfl ((fun h9 => by rcases s_mkl_l r h9 with g | g; exact (hf r (by omega)).1 g; exact absurd g.2.2 (by simp))) (by first | decide | (dsimp only; omega)) (by first | decide | (dsimp only; omega)) ?_
      refine jr_dup d_S_init_34 ?_
      refine jv_IN0vA d_S_init_35 l_S_21 k_F_init ⟨Nat.le_of_ble_eq_true rfl, Nat.le_of_ble_eq_true rfl⟩ (Nat.le_of_ble_eq_true rfl) (ct_F_init (t := t) (j := r) (fun h9 => by rcases h9 with e | h9; (cases e); rcases s_mkl_l r h9 with g | g; exact (hf r (by omega)).2.1 g; exact absurd g.2.2 (by simp)) (fun h9 => by rcases h9 with e | h9; (cases e); rcases s_mkl_l r h9 with g | g; exact (hf r (by omega)).2.2 g; exact absurd g.2.2 (by simp))) (fun q9 h9 => Or.inr (Or.inr h9)) (by first | decide | exact Nat.zero_le _ | (dsimp only; omega) | (dsimp only; grind) | (dsimp only; omega)) (by first | decide | exact Nat.zero_le _ | (dsimp only; omega) | (dsimp only; grind) | (dsimp only; omega)) ?_
      refine jr_aast d_S_init_38 rfl rfl rfl (jinv (by rw [jle, a1, j0I]; omega) (by rw [a3]; show r < 30; omega)) (fun q9 e9 => by cases e9; exact ⟨_, _, rfl, rfl, Or.inl rfl⟩) ?_
      rw [a3]
      refine jr_iinc d_S_init_39 rfl jinc1 ?_
      refine jr_goto (tgt := 20) d_S_init_42 (by decide) ?_
      exact (by have e := ih (r + 1) (by omega); rw [← jof1 (by omega)] at e; exact e)
theorem ct_S_init {I : jc_I} {O : jc_O} {live : jc_L → Prop} {t : Nat} {x : Int32} (f0 : ¬ live (34, t, 0)) (hf : ∀ j, j < 30 → ¬ live (8, t, j) ∧ ¬ live (32, t, j) ∧ ¬ live (33, t, j)) : jc_Ct y_S_init [.inr (some (9, t, 0)), .inl x] I O live (none, s_mkI (jc_up (jc_cl I (34, t, 0) 0) (9, t, 0) 0 x) t 30, s_mkO (jc_up (jc_cl O (34, t, 0) none) (9, t, 0) 1 (some (34, t, 0))) t 30, s_mkl (jadd (34, t, 0) live) t 30, 91, 780) := by
  refine jc_Ct.of (by decide +kernel) (rfl) (Nat.le_of_ble_eq_true rfl) ?_
  refine jr_aload_n d_S_init_0 rfl rfl ?_
  refine jr_objInit d_S_init_1 l_S_3 oi_i oi_c (Nat.le_of_ble_eq_true rfl) (Nat.le_of_ble_eq_true rfl) ?_
  refine jr_aload_n d_S_init_4 rfl rfl ?_
  refine jr_bipush (v := 30) d_S_init_5 (by decide) ?_
  refine jr_newq (N := 30) (34, t, 0) d_S_init_7 c_S_9 ao_F rfl rfl rfl (f0) (by decide) (by decide) (by decide) (by first | decide | (dsimp only; omega)) (by first | decide | (dsimp only; omega)) ?_
  refine jr_putr d_S_init_10 f_S_11 (Or.inr ⟨rfl, _, _, _, rfl, rfl⟩) rfl rfl ?_
  refine jr_aload_n d_S_init_13 rfl rfl ?_
  refine jr_iload_n d_S_init_14 rfl rfl ?_
  refine jr_puti d_S_init_15 f_S_17 (Or.inr ⟨rfl, _, _, _, rfl, rfl⟩) rfl ?_
  refine jr_iconst (v := 0) d_S_init_18 (by decide) ?_
  refine jr_istore_n d_S_init_19 rfl (Nat.le_of_ble_eq_true rfl) ?_
  exact lp_S_init (I := (jc_up (jc_cl I (34, t, 0) 0) (9, t, 0) 0 x)) (O := (jc_up (jc_cl O (34, t, 0) none) (9, t, 0) 1 (some (34, t, 0)))) (live := jadd (34, t, 0) live) (t := t) (x := x) (jc_up_s _ _ _ _) (fun j hj => ⟨fun g => g.elim (fun e => by cases e) (hf j hj).1, fun g => g.elim (fun e => by cases e) (hf j hj).2.1, fun g => g.elim (fun e => by cases e) (hf j hj).2.2⟩) 30 0 (by omega)
