abbrev jadd (q : jc_L) (live : jc_L → Prop) : jc_L → Prop := fun q' => q' = q ∨ live q'
/-- heap, references, labels, and how many cells and slots came -/
abbrev jc_S : Type := jc_I × jc_O × (jc_L → Prop) × Nat × Nat
theorem ct_T_init {I : jc_I} {O : jc_O} {live : jc_L → Prop} {k : Nat} (f1 : ¬ live (29, k, 0)) : jc_Ct y_T_init [.inr (some (7, k, 0))] I O live (none, jc_cl I (29, k, 0) 0, jc_up (jc_cl O (29, k, 0) none) (7, k, 0) 0 (some (29, k, 0)), jadd (29, k, 0) live, 1, 8) := by
  refine jc_Ct.of (by decide +kernel) (rfl) (Nat.le_of_ble_eq_true rfl) ?_
  refine jr_aload_n d_T_init_0 rfl rfl ?_
  refine jr_objInit d_T_init_1 l_T_3 oi_i oi_c (Nat.le_of_ble_eq_true rfl) (Nat.le_of_ble_eq_true rfl) ?_
  refine jr_aload_n d_T_init_4 rfl rfl ?_
  refine jr_bipush (v := 8) d_T_init_5 (by decide) ?_
  refine jr_newa (N := 8) (29, k, 0) d_T_init_7 ac_int rfl rfl rfl rfl rfl (f1) (by decide) (by decide) (by decide) (by first | decide | (dsimp only; omega)) (by first | decide | (dsimp only; omega)) ?_
  refine jr_putr d_T_init_9 f_T_9 (Or.inr ⟨rfl, _, _, _, rfl, rfl⟩) rfl rfl ?_
  exact jr_retX (v := none) d_T_init_12 (by first | exact Nat.le_refl _ | exact Nat.zero_le _ | (dsimp only; omega)) (by first | exact Nat.le_refl _ | exact Nat.zero_le _ | (dsimp only; omega)) (by first | with_reducible rfl | (dsimp only; rfl; done) | (exfalso; grind)) (by first | with_reducible rfl | (dsimp only; rfl; done) | (exfalso; grind)) (by first | with_reducible rfl | (dsimp only; rfl; done) | (exfalso; grind)) (by first | with_reducible rfl | (dsimp only; rfl; done) | (exfalso; grind))
theorem ct_C_init {I : jc_I} {O : jc_O} {live : jc_L → Prop} {c : Nat} {x p r : Int32} (f1 : ¬ live (20, c, 0)) (f2 : ¬ live (21, c, 0)) (f3 : ¬ live (22, c, 0)) (f4 : ¬ live (23, c, 0)) : jc_Ct y_C_init [.inr (some (6, c, 0)), .inl x, .inl p, .inl r] I O live (none, jc_up (jc_up (jc_up (jc_cl (jc_cl (jc_cl (jc_cl I (20, c, 0) 0) (21, c, 0) 0) (22, c, 0) 0) (23, c, 0) 0) (6, c, 0) 0 x) (6, c, 0) 1 p) (6, c, 0) 2 r, jc_up (jc_cl (jc_up (jc_cl (jc_up (jc_cl (jc_up (jc_cl O (20, c, 0) none) (6, c, 0) 3 (some (20, c, 0))) (21, c, 0) none) (6, c, 0) 4 (some (21, c, 0))) (22, c, 0) none) (6, c, 0) 5 (some (22, c, 0))) (23, c, 0) none) (6, c, 0) 6 (some (23, c, 0)), jadd (23, c, 0) (jadd (22, c, 0) (jadd (21, c, 0) (jadd (20, c, 0) live))), 4, 148) := by
  refine jc_Ct.of (by decide +kernel) (rfl) (Nat.le_of_ble_eq_true rfl) ?_
  refine jr_aload_n d_C_init_0 rfl rfl ?_
  refine jr_objInit d_C_init_1 l_C_3 oi_i oi_c (Nat.le_of_ble_eq_true rfl) (Nat.le_of_ble_eq_true rfl) ?_
  refine jr_aload_n d_C_init_4 rfl rfl ?_
  refine jr_bipush (v := 8) d_C_init_5 (by decide) ?_
  refine jr_newa (N := 8) (20, c, 0) d_C_init_7 ac_int rfl rfl rfl rfl rfl (f1) (by decide) (by decide) (by decide) (by first | decide | (dsimp only; omega)) (by first | decide | (dsimp only; omega)) ?_
  refine jr_putr d_C_init_9 f_C_9 (Or.inr ⟨rfl, _, _, _, rfl, rfl⟩) rfl rfl ?_
  refine jr_aload_n d_C_init_12 rfl rfl ?_
  refine jr_bipush (v := 60) d_C_init_13 (by decide) ?_
  refine jr_newa (N := 60) (21, c, 0) d_C_init_15 ac_int rfl rfl rfl rfl rfl (by simp [*]) (by decide) (by decide) (by decide) (by first | decide | (dsimp only; omega)) (by first | decide | (dsimp only; omega)) ?_
  refine jr_putr d_C_init_17 f_C_15 (Or.inr ⟨rfl, _, _, _, rfl, rfl⟩) rfl rfl ?_
  refine jr_aload_n d_C_init_20 rfl rfl ?_
  refine jr_bipush (v := 60) d_C_init_21 (by decide) ?_
  refine jr_newa (N := 60) (22, c, 0) d_C_init_23 ac_int rfl rfl rfl rfl rfl (by simp [*]) (by decide) (by decide) (by decide) (by first | decide | (dsimp only; omega)) (by first | decide | (dsimp only; omega)) ?_
  refine jr_putr d_C_init_25 f_C_18 (Or.inr ⟨rfl, _, _, _, rfl, rfl⟩) rfl rfl ?_
  refine jr_aload_n d_C_init_28 rfl rfl ?_
  refine jr_bipush (v := 20) d_C_init_29 (by decide) ?_
  refine jr_newq (N := 20) (23, c, 0) d_C_init_31 c_C_21 ao_R rfl rfl rfl (by simp [*]) (by decide) (by decide) (by decide) (by first | decide | (dsimp only; omega)) (by first | decide | (dsimp only; omega)) ?_
  refine jr_putr d_C_init_34 f_C_23 (Or.inr ⟨rfl, _, _, _, rfl, rfl⟩) rfl rfl ?_
  refine jr_aload_n d_C_init_37 rfl rfl ?_
  refine jr_iload_n d_C_init_38 rfl rfl ?_
  refine jr_puti d_C_init_39 f_C_27 (Or.inr ⟨rfl, _, _, _, rfl, rfl⟩) rfl ?_
  refine jr_aload_n d_C_init_42 rfl rfl ?_
  refine jr_iload_n d_C_init_43 rfl rfl ?_
  refine jr_puti d_C_init_44 f_C_31 (Or.inr ⟨rfl, _, _, _, rfl, rfl⟩) rfl ?_
  refine jr_aload_n d_C_init_47 rfl rfl ?_
  refine jr_iload_n d_C_init_48 rfl rfl ?_
  refine jr_puti d_C_init_49 f_C_34 (Or.inr ⟨rfl, _, _, _, rfl, rfl⟩) rfl ?_
  exact jr_retX (v := none) d_C_init_52 (by first | exact Nat.le_refl _ | exact Nat.zero_le _ | (dsimp only; omega)) (by first | exact Nat.le_refl _ | exact Nat.zero_le _ | (dsimp only; omega)) (by first | with_reducible rfl | (dsimp only; rfl; done) | (exfalso; grind)) (by first | with_reducible rfl | (dsimp only; rfl; done) | (exfalso; grind)) (by first | with_reducible rfl | (dsimp only; rfl; done) | (exfalso; grind)) (by first | with_reducible rfl | (dsimp only; rfl; done) | (exfalso; grind))
theorem ct_F_init {I : jc_I} {O : jc_O} {live : jc_L → Prop} {t j : Nat} (f1 : ¬ live (32, t, j)) (f2 : ¬ live (33, t, j)) : jc_Ct y_F_init [.inr (some (8, t, j))] I O live (none, jc_cl (jc_cl I (32, t, j) 0) (33, t, j) 0, jc_up (jc_cl (jc_up (jc_cl O (32, t, j) none) (8, t, j) 0 (some (32, t, j))) (33, t, j) none) (8, t, j) 1 (some (33, t, j)), jadd (33, t, j) (jadd (32, t, j) live), 2, 20) := by
  refine jc_Ct.of (by decide +kernel) (rfl) (Nat.le_of_ble_eq_true rfl) ?_
  refine jr_aload_n d_F_init_0 rfl rfl ?_
  refine jr_objInit d_F_init_1 l_F_3 oi_i oi_c (Nat.le_of_ble_eq_true rfl) (Nat.le_of_ble_eq_true rfl) ?_
  refine jr_aload_n d_F_init_4 rfl rfl ?_
  refine jr_bipush (v := 12) d_F_init_5 (by decide) ?_
  refine jr_newa (N := 12) (32, t, j) d_F_init_7 ac_int rfl rfl rfl rfl rfl (f1) (by decide) (by decide) (by decide) (by first | decide | (dsimp only; omega)) (by first | decide | (dsimp only; omega)) ?_
  refine jr_putr d_F_init_9 f_F_9 (Or.inr ⟨rfl, _, _, _, rfl, rfl⟩) rfl rfl ?_
  refine jr_aload_n d_F_init_12 rfl rfl ?_
  refine jr_bipush (v := 8) d_F_init_13 (by decide) ?_
  refine jr_newa (N := 8) (33, t, j) d_F_init_15 ac_int rfl rfl rfl rfl rfl (by simp [*]) (by decide) (by decide) (by decide) (by first | decide | (dsimp only; omega)) (by first | decide | (dsimp only; omega)) ?_
  refine jr_putr d_F_init_17 f_F_15 (Or.inr ⟨rfl, _, _, _, rfl, rfl⟩) rfl rfl ?_
  exact jr_retX (v := none) d_F_init_20 (by first | exact Nat.le_refl _ | exact Nat.zero_le _ | (dsimp only; omega)) (by first | exact Nat.le_refl _ | exact Nat.zero_le _ | (dsimp only; omega)) (by first | with_reducible rfl | (dsimp only; rfl; done) | (exfalso; grind)) (by first | with_reducible rfl | (dsimp only; rfl; done) | (exfalso; grind)) (by first | with_reducible rfl | (dsimp only; rfl; done) | (exfalso; grind)) (by first | with_reducible rfl | (dsimp only; rfl; done) | (exfalso; grind))
