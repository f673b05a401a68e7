theorem ct_R_init {I : jc_I} {O : jc_O} {live : jc_L → Prop} {c r : Nat} {a b e k : Int32}  : jc_Ct y_R_init [.inr (some (5, c, r)), .inl a, .inl b, .inl e, .inl k] I O live (none, jc_up (jc_up (jc_up (jc_up I (5, c, r) 0 a) (5, c, r) 1 b) (5, c, r) 2 e) (5, c, r) 3 k, O, live, 0, 0) := by
  refine jc_Ct.of (by decide +kernel) (rfl) (Nat.le_of_ble_eq_true rfl) ?_
  refine jr_aload_n d_R_init_0 rfl rfl ?_
  refine jr_objInit d_R_init_1 l_R_3 oi_i oi_c (Nat.le_of_ble_eq_true rfl) (Nat.le_of_ble_eq_true rfl) ?_
  refine jr_aload_n d_R_init_4 rfl rfl ?_
  refine jr_iload_n d_R_init_5 rfl rfl ?_
  refine jr_puti d_R_init_6 f_R_9 (Or.inr ⟨rfl, _, _, _, rfl, rfl⟩) rfl ?_
  refine jr_aload_n d_R_init_9 rfl rfl ?_
  refine jr_iload_n d_R_init_10 rfl rfl ?_
  refine jr_puti d_R_init_11 f_R_15 (Or.inr ⟨rfl, _, _, _, rfl, rfl⟩) rfl ?_
  refine jr_aload_n d_R_init_14 rfl rfl ?_
  refine jr_iload_n d_R_init_15 rfl rfl ?_
  refine jr_puti d_R_init_16 f_R_18 (Or.inr ⟨rfl, _, _, _, rfl, rfl⟩) rfl ?_
  refine jr_aload_n d_R_init_19 rfl rfl ?_
  refine jr_iload d_R_init_20 rfl ?_
  refine jr_puti d_R_init_22 f_R_21 (Or.inr ⟨rfl, _, _, _, rfl, rfl⟩) rfl ?_
  exact jr_retX (v := none) d_R_init_25 (by first | exact Nat.le_refl _ | exact Nat.zero_le _ | (dsimp only; omega)) (by first | exact Nat.le_refl _ | exact Nat.zero_le _ | (dsimp only; omega)) (by first | with_reducible rfl | (dsimp only; rfl; done) | (exfalso; grind)) (by first | with_reducible rfl | (dsimp only; rfl; done) | (exfalso; grind)) (by first | with_reducible rfl | (dsimp only; rfl; done) | (exfalso; grind)) (by first | with_reducible rfl | (dsimp only; rfl; done) | (exfalso; grind))
theorem ct_R_takes {I : jc_I} {O : jc_O} {live : jc_L → Prop} {c r : Nat} {x k : Int32}  : jc_Ct y_R_takes [.inr (some (5, c, r)), .inl x, .inl k] I O live (some (.inl (if I (5, c, r) 0 ≤ x ∧ x < I (5, c, r) 1 ∧ (I (5, c, r) 3 = 10 ∨ I (5, c, r) 3 = k) then 1 else 0)), I, O, live, 0, 0) := by
  refine jc_Ct.of (by decide +kernel) (Or.inr ⟨rfl, by grind⟩) (Nat.le_of_ble_eq_true rfl) ?_
  refine jr_iload_n d_R_takes_0 rfl rfl ?_
  refine jr_aload_n d_R_takes_1 rfl rfl ?_
  refine jr_geti d_R_takes_2 f_R_9 rfl ?_
  refine jr_icmp_lt (tgt := 37) d_R_takes_5 (by decide) (fun c5 => ?_) (fun c5 => ?_)
  · skip
    refine jr_iconst (v := 0) d_R_takes_37 (by decide) ?_
    exact jr_retX (v := some _) d_R_takes_38 (by first | exact Nat.le_refl _ | exact Nat.zero_le _ | (dsimp only; omega)) (by first | exact Nat.le_refl _ | exact Nat.zero_le _ | (dsimp only; omega)) (by first | with_reducible rfl | (dsimp only; first | (rw [if_pos (by grind)]) | (rw [if_neg (by grind)]); done) | (exfalso; grind)) (by first | with_reducible rfl | (dsimp only; first | (rw [if_pos (by grind)]) | (rw [if_neg (by grind)]); done) | (exfalso; grind)) (by first | with_reducible rfl | (dsimp only; first | (rw [if_pos (by grind)]) | (rw [if_neg (by grind)]); done) | (exfalso; grind)) (by first | with_reducible rfl | (dsimp only; first | (rw [if_pos (by grind)]) | (rw [if_neg (by grind)]); done) | (exfalso; grind))
  · skip
    refine jr_iload_n d_R_takes_8 rfl rfl ?_
    refine jr_aload_n d_R_takes_9 rfl rfl ?_
    refine jr_geti d_R_takes_10 f_R_15 rfl ?_
    refine jr_icmp_ge (tgt := 37) d_R_takes_13 (by decide) (fun c13 => ?_) (fun c13 => ?_)
    · skip
      refine jr_iconst (v := 0) d_R_takes_37 (by decide) ?_
      exact jr_retX (v := some _) d_R_takes_38 (by first | exact Nat.le_refl _ | exact Nat.zero_le _ | (dsimp only; omega)) (by first | exact Nat.le_refl _ | exact Nat.zero_le _ | (dsimp only; omega)) (by first | with_reducible rfl | (dsimp only; first | (rw [if_pos (by grind)]) | (rw [if_neg (by grind)]); done) | (exfalso; grind)) (by first | with_reducible rfl | (dsimp only; first | (rw [if_pos (by grind)]) | (rw [if_neg (by grind)]); done) | (exfalso; grind)) (by first | with_reducible rfl | (dsimp only; first | (rw [if_pos (by grind)]) | (rw [if_neg (by grind)]); done) | (exfalso; grind)) (by first | with_reducible rfl | (dsimp only; first | (rw [if_pos (by grind)]) | (rw [if_neg (by grind)]); done) | (exfalso; grind))
    · skip
      refine jr_aload_n d_R_takes_16 rfl rfl ?_
      refine jr_geti d_R_takes_17 f_R_21 rfl ?_
      refine jr_bipush (v := 10) d_R_takes_20 (by decide) ?_
      refine jr_icmp_eq (tgt := 33) d_R_takes_22 (by decide) (fun c22 => ?_) (fun c22 => ?_)
      · skip
        refine jr_iconst (v := 1) d_R_takes_33 (by decide) ?_
        refine jr_goto (tgt := 38) d_R_takes_34 (by decide) ?_
        exact jr_retX (v := some _) d_R_takes_38 (by first | exact Nat.le_refl _ | exact Nat.zero_le _ | (dsimp only; omega)) (by first | exact Nat.le_refl _ | exact Nat.zero_le _ | (dsimp only; omega)) (by first | with_reducible rfl | (dsimp only; first | (rw [if_pos (by grind)]) | (rw [if_neg (by grind)]); done) | (exfalso; grind)) (by first | with_reducible rfl | (dsimp only; first | (rw [if_pos (by grind)]) | (rw [if_neg (by grind)]); done) | (exfalso; grind)) (by first | with_reducible rfl | (dsimp only; first | (rw [if_pos (by grind)]) | (rw [if_neg (by grind)]); done) | (exfalso; grind)) (by first | with_reducible rfl | (dsimp only; first | (rw [if_pos (by grind)]) | (rw [if_neg (by grind)]); done) | (exfalso; grind))
      · skip
        refine jr_aload_n d_R_takes_25 rfl rfl ?_
        refine jr_geti d_R_takes_26 f_R_21 rfl ?_
        refine jr_iload_n d_R_takes_29 rfl rfl ?_
        refine jr_icmp_ne (tgt := 37) d_R_takes_30 (by decide) (fun c30 => ?_) (fun c30 => ?_)
        · skip
          refine jr_iconst (v := 0) d_R_takes_37 (by decide) ?_
          exact jr_retX (v := some _) d_R_takes_38 (by first | exact Nat.le_refl _ | exact Nat.zero_le _ | (dsimp only; omega)) (by first | exact Nat.le_refl _ | exact Nat.zero_le _ | (dsimp only; omega)) (by first | with_reducible rfl | (dsimp only; first | (rw [if_pos (by grind)]) | (rw [if_neg (by grind)]); done) | (exfalso; grind)) (by first | with_reducible rfl | (dsimp only; first | (rw [if_pos (by grind)]) | (rw [if_neg (by grind)]); done) | (exfalso; grind)) (by first | with_reducible rfl | (dsimp only; first | (rw [if_pos (by grind)]) | (rw [if_neg (by grind)]); done) | (exfalso; grind)) (by first | with_reducible rfl | (dsimp only; first | (rw [if_pos (by grind)]) | (rw [if_neg (by grind)]); done) | (exfalso; grind))
        · skip
          refine jr_iconst (v := 1) d_R_takes_33 (by decide) ?_
          refine jr_goto (tgt := 38) d_R_takes_34 (by decide) ?_
          exact jr_retX (v := some _) d_R_takes_38 (by first | exact Nat.le_refl _ | exact Nat.zero_le _ | (dsimp only; omega)) (by first | exact Nat.le_refl _ | exact Nat.zero_le _ | (dsimp only; omega)) (by first | with_reducible rfl | (dsimp only; first | (rw [if_pos (by grind)]) | (rw [if_neg (by grind)]); done) | (exfalso; grind)) (by first | with_reducible rfl | (dsimp only; first | (rw [if_pos (by grind)]) | (rw [if_neg (by grind)]); done) | (exfalso; grind)) (by first | with_reducible rfl | (dsimp only; first | (rw [if_pos (by grind)]) | (rw [if_neg (by grind)]); done) | (exfalso; grind)) (by first | with_reducible rfl | (dsimp only; first | (rw [if_pos (by grind)]) | (rw [if_neg (by grind)]); done) | (exfalso; grind))
theorem ct_T_kind {I : jc_I} {O : jc_O} {live : jc_L → Prop} {k : Nat}  : jc_Ct y_T_kind [.inr (some (7, k, 0))] I O live (some (.inl (I (7, k, 0) 1)), I, O, live, 0, 0) := by
  refine jc_Ct.of (by decide +kernel) (Or.inl rfl) (Nat.le_of_ble_eq_true rfl) ?_
  refine jr_aload_n d_T_kind_0 rfl rfl ?_
  refine jr_geti d_T_kind_1 f_T_15 rfl ?_
  exact jr_retX (v := some _) d_T_kind_4 (by first | exact Nat.le_refl _ | exact Nat.zero_le _ | (dsimp only; omega)) (by first | exact Nat.le_refl _ | exact Nat.zero_le _ | (dsimp only; omega)) (by first | with_reducible rfl | (dsimp only; rfl; done) | (exfalso; grind)) (by first | with_reducible rfl | (dsimp only; rfl; done) | (exfalso; grind)) (by first | with_reducible rfl | (dsimp only; rfl; done) | (exfalso; grind)) (by first | with_reducible rfl | (dsimp only; rfl; done) | (exfalso; grind))
theorem ct_T_setFree {I : jc_I} {O : jc_O} {live : jc_L → Prop} {k : Nat}  : jc_Ct y_T_setFree [.inr (some (7, k, 0))] I O live (none, jc_up (jc_up I (7, k, 0) 2 (-1)) (7, k, 0) 3 0, O, live, 0, 0) := by
  refine jc_Ct.of (by decide +kernel) (rfl) (Nat.le_of_ble_eq_true rfl) ?_
  refine jr_aload_n d_T_setFree_0 rfl rfl ?_
  refine jr_iconst (v := (-1)) d_T_setFree_1 (by decide) ?_
  refine jr_puti d_T_setFree_2 f_T_22 (Or.inl rfl) rfl ?_
  refine jr_aload_n d_T_setFree_5 rfl rfl ?_
  refine jr_iconst (v := 0) d_T_setFree_6 (by decide) ?_
  refine jr_puti d_T_setFree_7 f_T_25 (Or.inl rfl) rfl ?_
  exact jr_retX (v := none) d_T_setFree_10 (by first | exact Nat.le_refl _ | exact Nat.zero_le _ | (dsimp only; omega)) (by first | exact Nat.le_refl _ | exact Nat.zero_le _ | (dsimp only; omega)) (by first | with_reducible rfl | (dsimp only; rfl; done) | (exfalso; grind)) (by first | with_reducible rfl | (dsimp only; rfl; done) | (exfalso; grind)) (by first | with_reducible rfl | (dsimp only; rfl; done) | (exfalso; grind)) (by first | with_reducible rfl | (dsimp only; rfl; done) | (exfalso; grind))
theorem ct_T_isHeldBy {I : jc_I} {O : jc_O} {live : jc_L → Prop} {k : Nat} {x : Int32}  : jc_Ct y_T_isHeldBy [.inr (some (7, k, 0)), .inl x] I O live (some (.inl (if I (7, k, 0) 2 = x then 1 else 0)), I, O, live, 0, 0) := by
  refine jc_Ct.of (by decide +kernel) (Or.inr ⟨rfl, by grind⟩) (Nat.le_of_ble_eq_true rfl) ?_
  refine jr_aload_n d_T_isHeldBy_0 rfl rfl ?_
  refine jr_geti d_T_isHeldBy_1 f_T_22 rfl ?_
  refine jr_iload_n d_T_isHeldBy_4 rfl rfl ?_
  refine jr_icmp_ne (tgt := 12) d_T_isHeldBy_5 (by decide) (fun c5 => ?_) (fun c5 => ?_)
  · skip
    refine jr_iconst (v := 0) d_T_isHeldBy_12 (by decide) ?_
    exact jr_retX (v := some _) d_T_isHeldBy_13 (by first | exact Nat.le_refl _ | exact Nat.zero_le _ | (dsimp only; omega)) (by first | exact Nat.le_refl _ | exact Nat.zero_le _ | (dsimp only; omega)) (by first | with_reducible rfl | (dsimp only; first | (rw [if_pos (by grind)]) | (rw [if_neg (by grind)]); done) | (exfalso; grind)) (by first | with_reducible rfl | (dsimp only; first | (rw [if_pos (by grind)]) | (rw [if_neg (by grind)]); done) | (exfalso; grind)) (by first | with_reducible rfl | (dsimp only; first | (rw [if_pos (by grind)]) | (rw [if_neg (by grind)]); done) | (exfalso; grind)) (by first | with_reducible rfl | (dsimp only; first | (rw [if_pos (by grind)]) | (rw [if_neg (by grind)]); done) | (exfalso; grind))
  · skip
    refine jr_iconst (v := 1) d_T_isHeldBy_8 (by decide) ?_
    refine jr_goto (tgt := 13) d_T_isHeldBy_9 (by decide) ?_
    exact jr_retX (v := some _) d_T_isHeldBy_13 (by first | exact Nat.le_refl _ | exact Nat.zero_le _ | (dsimp only; omega)) (by first | exact Nat.le_refl _ | exact Nat.zero_le _ | (dsimp only; omega)) (by first | with_reducible rfl | (dsimp only; first | (rw [if_pos (by grind)]) | (rw [if_neg (by grind)]); done) | (exfalso; grind)) (by first | with_reducible rfl | (dsimp only; first | (rw [if_pos (by grind)]) | (rw [if_neg (by grind)]); done) | (exfalso; grind)) (by first | with_reducible rfl | (dsimp only; first | (rw [if_pos (by grind)]) | (rw [if_neg (by grind)]); done) | (exfalso; grind)) (by first | with_reducible rfl | (dsimp only; first | (rw [if_pos (by grind)]) | (rw [if_neg (by grind)]); done) | (exfalso; grind))
theorem ct_T_isHeldByAnotherThan {I : jc_I} {O : jc_O} {live : jc_L → Prop} {k : Nat} {x : Int32}  : jc_Ct y_T_isHeldByAnotherThan [.inr (some (7, k, 0)), .inl x] I O live (some (.inl (if I (7, k, 0) 2 ≠ -1 ∧ I (7, k, 0) 2 ≠ x then 1 else 0)), I, O, live, 0, 0) := by
  refine jc_Ct.of (by decide +kernel) (Or.inr ⟨rfl, by grind⟩) (Nat.le_of_ble_eq_true rfl) ?_
  refine jr_aload_n d_T_isHeldByAnotherThan_0 rfl rfl ?_
  refine jr_geti d_T_isHeldByAnotherThan_1 f_T_22 rfl ?_
  refine jr_iconst (v := (-1)) d_T_isHeldByAnotherThan_4 (by decide) ?_
  refine jr_icmp_eq (tgt := 20) d_T_isHeldByAnotherThan_5 (by decide) (fun c5 => ?_) (fun c5 => ?_)
  · skip
    refine jr_iconst (v := 0) d_T_isHeldByAnotherThan_20 (by decide) ?_
    exact jr_retX (v := some _) d_T_isHeldByAnotherThan_21 (by first | exact Nat.le_refl _ | exact Nat.zero_le _ | (dsimp only; omega)) (by first | exact Nat.le_refl _ | exact Nat.zero_le _ | (dsimp only; omega)) (by first | with_reducible rfl | (dsimp only; first | (rw [if_pos (by grind)]) | (rw [if_neg (by grind)]); done) | (exfalso; grind)) (by first | with_reducible rfl | (dsimp only; first | (rw [if_pos (by grind)]) | (rw [if_neg (by grind)]); done) | (exfalso; grind)) (by first | with_reducible rfl | (dsimp only; first | (rw [if_pos (by grind)]) | (rw [if_neg (by grind)]); done) | (exfalso; grind)) (by first | with_reducible rfl | (dsimp only; first | (rw [if_pos (by grind)]) | (rw [if_neg (by grind)]); done) | (exfalso; grind))
  · skip
    refine jr_aload_n d_T_isHeldByAnotherThan_8 rfl rfl ?_
    refine jr_geti d_T_isHeldByAnotherThan_9 f_T_22 rfl ?_
    refine jr_iload_n d_T_isHeldByAnotherThan_12 rfl rfl ?_
    refine jr_icmp_eq (tgt := 20) d_T_isHeldByAnotherThan_13 (by decide) (fun c13 => ?_) (fun c13 => ?_)
    · skip
      refine jr_iconst (v := 0) d_T_isHeldByAnotherThan_20 (by decide) ?_
      exact jr_retX (v := some _) d_T_isHeldByAnotherThan_21 (by first | exact Nat.le_refl _ | exact Nat.zero_le _ | (dsimp only; omega)) (by first | exact Nat.le_refl _ | exact Nat.zero_le _ | (dsimp only; omega)) (by first | with_reducible rfl | (dsimp only; first | (rw [if_pos (by grind)]) | (rw [if_neg (by grind)]); done) | (exfalso; grind)) (by first | with_reducible rfl | (dsimp only; first | (rw [if_pos (by grind)]) | (rw [if_neg (by grind)]); done) | (exfalso; grind)) (by first | with_reducible rfl | (dsimp only; first | (rw [if_pos (by grind)]) | (rw [if_neg (by grind)]); done) | (exfalso; grind)) (by first | with_reducible rfl | (dsimp only; first | (rw [if_pos (by grind)]) | (rw [if_neg (by grind)]); done) | (exfalso; grind))
    · skip
      refine jr_iconst (v := 1) d_T_isHeldByAnotherThan_16 (by decide) ?_
      refine jr_goto (tgt := 21) d_T_isHeldByAnotherThan_17 (by decide) ?_
      exact jr_retX (v := some _) d_T_isHeldByAnotherThan_21 (by first | exact Nat.le_refl _ | exact Nat.zero_le _ | (dsimp only; omega)) (by first | exact Nat.le_refl _ | exact Nat.zero_le _ | (dsimp only; omega)) (by first | with_reducible rfl | (dsimp only; first | (rw [if_pos (by grind)]) | (rw [if_neg (by grind)]); done) | (exfalso; grind)) (by first | with_reducible rfl | (dsimp only; first | (rw [if_pos (by grind)]) | (rw [if_neg (by grind)]); done) | (exfalso; grind)) (by first | with_reducible rfl | (dsimp only; first | (rw [if_pos (by grind)]) | (rw [if_neg (by grind)]); done) | (exfalso; grind)) (by first | with_reducible rfl | (dsimp only; first | (rw [if_pos (by grind)]) | (rw [if_neg (by grind)]); done) | (exfalso; grind))
theorem ct_T_enter {I : jc_I} {O : jc_O} {live : jc_L → Prop} {k : Nat} {x : Int32}  : jc_Ct y_T_enter [.inr (some (7, k, 0)), .inl x] I O live (none, jc_up (jc_up I (7, k, 0) 2 x) (7, k, 0) 3 (I (7, k, 0) 3 + 1), O, live, 0, 0) := by
  refine jc_Ct.of (by decide +kernel) (rfl) (Nat.le_of_ble_eq_true rfl) ?_
  refine jr_aload_n d_T_enter_0 rfl rfl ?_
  refine jr_iload_n d_T_enter_1 rfl rfl ?_
  refine jr_puti d_T_enter_2 f_T_22 (Or.inl rfl) rfl ?_
  refine jr_aload_n d_T_enter_5 rfl rfl ?_
  refine jr_dup d_T_enter_6 ?_
  refine jr_geti d_T_enter_7 f_T_25 rfl ?_
  try simp only [jc_up_s, jc_up_k, jc_up_t, jc_cl_s, jc_cl_t, ne_eq, Nat.reduceEqDiff, not_false_eq_true, Nat.reduceAdd]
  refine jr_iconst (v := 1) d_T_enter_10 (by decide) ?_
  refine jr_iadd d_T_enter_11 ?_
  refine jr_puti d_T_enter_12 f_T_25 (Or.inl rfl) rfl ?_
  exact jr_retX (v := none) d_T_enter_15 (by first | exact Nat.le_refl _ | exact Nat.zero_le _ | (dsimp only; omega)) (by first | exact Nat.le_refl _ | exact Nat.zero_le _ | (dsimp only; omega)) (by first | with_reducible rfl | (dsimp only; rfl; done) | (exfalso; grind)) (by first | with_reducible rfl | (dsimp only; rfl; done) | (exfalso; grind)) (by first | with_reducible rfl | (dsimp only; rfl; done) | (exfalso; grind)) (by first | with_reducible rfl | (dsimp only; rfl; done) | (exfalso; grind))
theorem ct_T_leave {I : jc_I} {O : jc_O} {live : jc_L → Prop} {k : Nat}  : jc_Ct y_T_leave [.inr (some (7, k, 0))] I O live (none, if I (7, k, 0) 3 - 1 ≤ 0 then jc_up (jc_up (jc_up I (7, k, 0) 3 (I (7, k, 0) 3 - 1)) (7, k, 0) 2 (-1)) (7, k, 0) 3 0 else jc_up I (7, k, 0) 3 (I (7, k, 0) 3 - 1), O, live, 0, 0) := by
  refine jc_Ct.of (by decide +kernel) (rfl) (Nat.le_of_ble_eq_true rfl) ?_
  refine jr_aload_n d_T_leave_0 rfl rfl ?_
  refine jr_dup d_T_leave_1 ?_
  refine jr_geti d_T_leave_2 f_T_25 rfl ?_
  refine jr_iconst (v := 1) d_T_leave_5 (by decide) ?_
  refine jr_isub d_T_leave_6 ?_
  refine jr_puti d_T_leave_7 f_T_25 (Or.inl rfl) rfl ?_
  refine jr_aload_n d_T_leave_10 rfl rfl ?_
  refine jr_geti d_T_leave_11 f_T_25 rfl ?_
  try simp only [jc_up_s, jc_up_k, jc_up_t, jc_cl_s, jc_cl_t, ne_eq, Nat.reduceEqDiff, not_false_eq_true, Nat.reduceAdd]
  refine jr_if_gt (tgt := 21) d_T_leave_14 (by decide) (fun c14 => ?_) (fun c14 => ?_)
  · skip
    exact jr_retX (v := none) d_T_leave_21 (by first | exact Nat.le_refl _ | exact Nat.zero_le _ | (dsimp only; omega)) (by first | exact Nat.le_refl _ | exact Nat.zero_le _ | (dsimp only; omega)) (by first | with_reducible rfl | (dsimp only; first | (rw [if_pos (by grind)]) | (rw [if_neg (by grind)]); done) | (exfalso; grind)) (by first | with_reducible rfl | (dsimp only; first | (rw [if_pos (by grind)]) | (rw [if_neg (by grind)]); done) | (exfalso; grind)) (by first | with_reducible rfl | (dsimp only; first | (rw [if_pos (by grind)]) | (rw [if_neg (by grind)]); done) | (exfalso; grind)) (by first | with_reducible rfl | (dsimp only; first | (rw [if_pos (by grind)]) | (rw [if_neg (by grind)]); done) | (exfalso; grind))
  · skip
    refine jr_aload_n d_T_leave_17 rfl rfl ?_
    refine jv_V0v d_T_leave_18 l_T_19 k_T_setFree ⟨Nat.le_of_ble_eq_true rfl, Nat.le_of_ble_eq_true rfl⟩ rfl rfl (Nat.le_of_ble_eq_true rfl) (ct_T_setFree) (by grind) (by grind) ?_
    exact jr_retX (v := none) d_T_leave_21 (by first | exact Nat.le_refl _ | exact Nat.zero_le _ | (dsimp only; omega)) (by first | exact Nat.le_refl _ | exact Nat.zero_le _ | (dsimp only; omega)) (by first | with_reducible rfl | (dsimp only; first | (rw [if_pos (by grind)]) | (rw [if_neg (by grind)]); done) | (exfalso; grind)) (by first | with_reducible rfl | (dsimp only; first | (rw [if_pos (by grind)]) | (rw [if_neg (by grind)]); done) | (exfalso; grind)) (by first | with_reducible rfl | (dsimp only; first | (rw [if_pos (by grind)]) | (rw [if_neg (by grind)]); done) | (exfalso; grind)) (by first | with_reducible rfl | (dsimp only; first | (rw [if_pos (by grind)]) | (rw [if_neg (by grind)]); done) | (exfalso; grind))
theorem ct_T_field {I : jc_I} {O : jc_O} {live : jc_L → Prop} {k : Nat} {i : Int32} (h0 : O (7, k, 0) 0 = some (29, k, 0)) : jc_Ct y_T_field [.inr (some (7, k, 0)), .inl i] I O live (some (.inl (if 0 ≤ i ∧ i < 8 then I (29, k, 0) i.toNatClampNeg else 0)), I, O, live, 0, 0) := by
  refine jc_Ct.of (by decide +kernel) (Or.inl rfl) (Nat.le_of_ble_eq_true rfl) ?_
  refine jr_iload_n d_T_field_0 rfl rfl ?_
  refine jr_if_lt (tgt := 19) d_T_field_1 (by decide) (fun c1 => ?_) (fun c1 => ?_)
  · skip
    refine jr_iconst (v := 0) d_T_field_19 (by decide) ?_
    exact jr_retX (v := some _) d_T_field_20 (by first | exact Nat.le_refl _ | exact Nat.zero_le _ | (dsimp only; omega)) (by first | exact Nat.le_refl _ | exact Nat.zero_le _ | (dsimp only; omega)) (by first | with_reducible rfl | (dsimp only; first | (rw [if_pos (by grind)]) | (rw [if_neg (by grind)]); done) | (exfalso; grind)) (by first | with_reducible rfl | (dsimp only; first | (rw [if_pos (by grind)]) | (rw [if_neg (by grind)]); done) | (exfalso; grind)) (by first | with_reducible rfl | (dsimp only; first | (rw [if_pos (by grind)]) | (rw [if_neg (by grind)]); done) | (exfalso; grind)) (by first | with_reducible rfl | (dsimp only; first | (rw [if_pos (by grind)]) | (rw [if_neg (by grind)]); done) | (exfalso; grind))
  · skip
    refine jr_iload_n d_T_field_4 rfl rfl ?_
    refine jr_bipush (v := 8) d_T_field_5 (by decide) ?_
    refine jr_icmp_ge (tgt := 19) d_T_field_7 (by decide) (fun c7 => ?_) (fun c7 => ?_)
    · skip
      refine jr_iconst (v := 0) d_T_field_19 (by decide) ?_
      exact jr_retX (v := some _) d_T_field_20 (by first | exact Nat.le_refl _ | exact Nat.zero_le _ | (dsimp only; omega)) (by first | exact Nat.le_refl _ | exact Nat.zero_le _ | (dsimp only; omega)) (by first | with_reducible rfl | (dsimp only; first | (rw [if_pos (by grind)]) | (rw [if_neg (by grind)]); done) | (exfalso; grind)) (by first | with_reducible rfl | (dsimp only; first | (rw [if_pos (by grind)]) | (rw [if_neg (by grind)]); done) | (exfalso; grind)) (by first | with_reducible rfl | (dsimp only; first | (rw [if_pos (by grind)]) | (rw [if_neg (by grind)]); done) | (exfalso; grind)) (by first | with_reducible rfl | (dsimp only; first | (rw [if_pos (by grind)]) | (rw [if_neg (by grind)]); done) | (exfalso; grind))
    · skip
      refine jr_aload_n d_T_field_10 rfl rfl ?_
      refine jr_getr d_T_field_11 f_T_9 rfl rfl ?_
      first | rw [h0] | skip
      refine jr_iload_n d_T_field_14 rfl rfl ?_
      refine jr_iald d_T_field_15 rfl rfl rfl (jin (m := 8) (by decide) (by grind) (by grind)) ?_
      refine jr_goto (tgt := 20) d_T_field_16 (by decide) ?_
      exact jr_retX (v := some _) d_T_field_20 (by first | exact Nat.le_refl _ | exact Nat.zero_le _ | (dsimp only; omega)) (by first | exact Nat.le_refl _ | exact Nat.zero_le _ | (dsimp only; omega)) (by first | with_reducible rfl | (dsimp only; first | (rw [if_pos (by grind)]) | (rw [if_neg (by grind)]); done) | (exfalso; grind)) (by first | with_reducible rfl | (dsimp only; first | (rw [if_pos (by grind)]) | (rw [if_neg (by grind)]); done) | (exfalso; grind)) (by first | with_reducible rfl | (dsimp only; first | (rw [if_pos (by grind)]) | (rw [if_neg (by grind)]); done) | (exfalso; grind)) (by first | with_reducible rfl | (dsimp only; first | (rw [if_pos (by grind)]) | (rw [if_neg (by grind)]); done) | (exfalso; grind))
theorem ct_T_setField {I : jc_I} {O : jc_O} {live : jc_L → Prop} {k : Nat} {i x : Int32} (h0 : O (7, k, 0) 0 = some (29, k, 0)) : jc_Ct y_T_setField [.inr (some (7, k, 0)), .inl i, .inl x] I O live (none, if 0 ≤ i ∧ i < 8 then jc_up I (29, k, 0) i.toNatClampNeg x else I, O, live, 0, 0) := by
  refine jc_Ct.of (by decide +kernel) (rfl) (Nat.le_of_ble_eq_true rfl) ?_
  refine jr_iload_n d_T_setField_0 rfl rfl ?_
  refine jr_if_lt (tgt := 17) d_T_setField_1 (by decide) (fun c1 => ?_) (fun c1 => ?_)
  · skip
    exact jr_retX (v := none) d_T_setField_17 (by first | exact Nat.le_refl _ | exact Nat.zero_le _ | (dsimp only; omega)) (by first | exact Nat.le_refl _ | exact Nat.zero_le _ | (dsimp only; omega)) (by first | with_reducible rfl | (dsimp only; first | (rw [if_pos (by grind)]) | (rw [if_neg (by grind)]); done) | (exfalso; grind)) (by first | with_reducible rfl | (dsimp only; first | (rw [if_pos (by grind)]) | (rw [if_neg (by grind)]); done) | (exfalso; grind)) (by first | with_reducible rfl | (dsimp only; first | (rw [if_pos (by grind)]) | (rw [if_neg (by grind)]); done) | (exfalso; grind)) (by first | with_reducible rfl | (dsimp only; first | (rw [if_pos (by grind)]) | (rw [if_neg (by grind)]); done) | (exfalso; grind))
  · skip
    refine jr_iload_n d_T_setField_4 rfl rfl ?_
    refine jr_bipush (v := 8) d_T_setField_5 (by decide) ?_
    refine jr_icmp_ge (tgt := 17) d_T_setField_7 (by decide) (fun c7 => ?_) (fun c7 => ?_)
    · skip
      exact jr_retX (v := none) d_T_setField_17 (by first | exact Nat.le_refl _ | exact Nat.zero_le _ | (dsimp only; omega)) (by first | exact Nat.le_refl _ | exact Nat.zero_le _ | (dsimp only; omega)) (by first | with_reducible rfl | (dsimp only; first | (rw [if_pos (by grind)]) | (rw [if_neg (by grind)]); done) | (exfalso; grind)) (by first | with_reducible rfl | (dsimp only; first | (rw [if_pos (by grind)]) | (rw [if_neg (by grind)]); done) | (exfalso; grind)) (by first | with_reducible rfl | (dsimp only; first | (rw [if_pos (by grind)]) | (rw [if_neg (by grind)]); done) | (exfalso; grind)) (by first | with_reducible rfl | (dsimp only; first | (rw [if_pos (by grind)]) | (rw [if_neg (by grind)]); done) | (exfalso; grind))
    · skip
      refine jr_aload_n d_T_setField_10 rfl rfl ?_
      refine jr_getr d_T_setField_11 f_T_9 rfl rfl ?_
      first | rw [h0] | skip
      refine jr_iload_n d_T_setField_14 rfl rfl ?_
      refine jr_iload_n d_T_setField_15 rfl rfl ?_
      refine jr_iast d_T_setField_16 rfl rfl rfl (jin (m := 8) (by decide) (by grind) (by grind)) ?_
      exact jr_retX (v := none) d_T_setField_17 (by first | exact Nat.le_refl _ | exact Nat.zero_le _ | (dsimp only; omega)) (by first | exact Nat.le_refl _ | exact Nat.zero_le _ | (dsimp only; omega)) (by first | with_reducible rfl | (dsimp only; first | (rw [if_pos (by grind)]) | (rw [if_neg (by grind)]); done) | (exfalso; grind)) (by first | with_reducible rfl | (dsimp only; first | (rw [if_pos (by grind)]) | (rw [if_neg (by grind)]); done) | (exfalso; grind)) (by first | with_reducible rfl | (dsimp only; first | (rw [if_pos (by grind)]) | (rw [if_neg (by grind)]); done) | (exfalso; grind)) (by first | with_reducible rfl | (dsimp only; first | (rw [if_pos (by grind)]) | (rw [if_neg (by grind)]); done) | (exfalso; grind))
theorem ct_C_size {I : jc_I} {O : jc_O} {live : jc_L → Prop} {c : Nat}  : jc_Ct y_C_size [.inr (some (6, c, 0))] I O live (some (.inl (I (6, c, 0) 8)), I, O, live, 0, 0) := by
  refine jc_Ct.of (by decide +kernel) (Or.inl rfl) (Nat.le_of_ble_eq_true rfl) ?_
  refine jr_aload_n d_C_size_0 rfl rfl ?_
  refine jr_geti d_C_size_1 f_C_40 rfl ?_
  exact jr_retX (v := some _) d_C_size_4 (by first | exact Nat.le_refl _ | exact Nat.zero_le _ | (dsimp only; omega)) (by first | exact Nat.le_refl _ | exact Nat.zero_le _ | (dsimp only; omega)) (by first | with_reducible rfl | (dsimp only; rfl; done) | (exfalso; grind)) (by first | with_reducible rfl | (dsimp only; rfl; done) | (exfalso; grind)) (by first | with_reducible rfl | (dsimp only; rfl; done) | (exfalso; grind)) (by first | with_reducible rfl | (dsimp only; rfl; done) | (exfalso; grind))
theorem ct_C_localCount {I : jc_I} {O : jc_O} {live : jc_L → Prop} {c : Nat}  : jc_Ct y_C_localCount [.inr (some (6, c, 0))] I O live (some (.inl (I (6, c, 0) 7)), I, O, live, 0, 0) := by
  refine jc_Ct.of (by decide +kernel) (Or.inl rfl) (Nat.le_of_ble_eq_true rfl) ?_
  refine jr_aload_n d_C_localCount_0 rfl rfl ?_
  refine jr_geti d_C_localCount_1 f_C_37 rfl ?_
  exact jr_retX (v := some _) d_C_localCount_4 (by first | exact Nat.le_refl _ | exact Nat.zero_le _ | (dsimp only; omega)) (by first | exact Nat.le_refl _ | exact Nat.zero_le _ | (dsimp only; omega)) (by first | with_reducible rfl | (dsimp only; rfl; done) | (exfalso; grind)) (by first | with_reducible rfl | (dsimp only; rfl; done) | (exfalso; grind)) (by first | with_reducible rfl | (dsimp only; rfl; done) | (exfalso; grind)) (by first | with_reducible rfl | (dsimp only; rfl; done) | (exfalso; grind))
theorem ct_C_rowCount {I : jc_I} {O : jc_O} {live : jc_L → Prop} {c : Nat}  : jc_Ct y_C_rowCount [.inr (some (6, c, 0))] I O live (some (.inl (I (6, c, 0) 9)), I, O, live, 0, 0) := by
  refine jc_Ct.of (by decide +kernel) (Or.inl rfl) (Nat.le_of_ble_eq_true rfl) ?_
  refine jr_aload_n d_C_rowCount_0 rfl rfl ?_
  refine jr_geti d_C_rowCount_1 f_C_43 rfl ?_
  exact jr_retX (v := some _) d_C_rowCount_4 (by first | exact Nat.le_refl _ | exact Nat.zero_le _ | (dsimp only; omega)) (by first | exact Nat.le_refl _ | exact Nat.zero_le _ | (dsimp only; omega)) (by first | with_reducible rfl | (dsimp only; rfl; done) | (exfalso; grind)) (by first | with_reducible rfl | (dsimp only; rfl; done) | (exfalso; grind)) (by first | with_reducible rfl | (dsimp only; rfl; done) | (exfalso; grind)) (by first | with_reducible rfl | (dsimp only; rfl; done) | (exfalso; grind))
theorem ct_C_localKind {I : jc_I} {O : jc_O} {live : jc_L → Prop} {c : Nat} {i : Int32} (h3 : O (6, c, 0) 3 = some (20, c, 0)) (hn : I (6, c, 0) 7 ≤ 8) : jc_Ct y_C_localKind [.inr (some (6, c, 0)), .inl i] I O live (some (.inl (if 0 ≤ i ∧ i < I (6, c, 0) 7 then I (20, c, 0) i.toNatClampNeg else 0)), I, O, live, 0, 0) := by
  refine jc_Ct.of (by decide +kernel) (Or.inl rfl) (Nat.le_of_ble_eq_true rfl) ?_
  refine jr_iload_n d_C_localKind_0 rfl rfl ?_
  refine jr_if_lt (tgt := 21) d_C_localKind_1 (by decide) (fun c1 => ?_) (fun c1 => ?_)
  · skip
    refine jr_iconst (v := 0) d_C_localKind_21 (by decide) ?_
    exact jr_retX (v := some _) d_C_localKind_22 (by first | exact Nat.le_refl _ | exact Nat.zero_le _ | (dsimp only; omega)) (by first | exact Nat.le_refl _ | exact Nat.zero_le _ | (dsimp only; omega)) (by first | with_reducible rfl | (dsimp only; first | (rw [if_pos (by grind)]) | (rw [if_neg (by grind)]); done) | (exfalso; grind)) (by first | with_reducible rfl | (dsimp only; first | (rw [if_pos (by grind)]) | (rw [if_neg (by grind)]); done) | (exfalso; grind)) (by first | with_reducible rfl | (dsimp only; first | (rw [if_pos (by grind)]) | (rw [if_neg (by grind)]); done) | (exfalso; grind)) (by first | with_reducible rfl | (dsimp only; first | (rw [if_pos (by grind)]) | (rw [if_neg (by grind)]); done) | (exfalso; grind))
  · skip
    refine jr_iload_n d_C_localKind_4 rfl rfl ?_
    refine jr_aload_n d_C_localKind_5 rfl rfl ?_
    refine jr_geti d_C_localKind_6 f_C_37 rfl ?_
    refine jr_icmp_ge (tgt := 21) d_C_localKind_9 (by decide) (fun c9 => ?_) (fun c9 => ?_)
    · skip
      refine jr_iconst (v := 0) d_C_localKind_21 (by decide) ?_
      exact jr_retX (v := some _) d_C_localKind_22 (by first | exact Nat.le_refl _ | exact Nat.zero_le _ | (dsimp only; omega)) (by first | exact Nat.le_refl _ | exact Nat.zero_le _ | (dsimp only; omega)) (by first | with_reducible rfl | (dsimp only; first | (rw [if_pos (by grind)]) | (rw [if_neg (by grind)]); done) | (exfalso; grind)) (by first | with_reducible rfl | (dsimp only; first | (rw [if_pos (by grind)]) | (rw [if_neg (by grind)]); done) | (exfalso; grind)) (by first | with_reducible rfl | (dsimp only; first | (rw [if_pos (by grind)]) | (rw [if_neg (by grind)]); done) | (exfalso; grind)) (by first | with_reducible rfl | (dsimp only; first | (rw [if_pos (by grind)]) | (rw [if_neg (by grind)]); done) | (exfalso; grind))
    · skip
      refine jr_aload_n d_C_localKind_12 rfl rfl ?_
      refine jr_getr d_C_localKind_13 f_C_9 rfl rfl ?_
      first | rw [h3] | skip
      refine jr_iload_n d_C_localKind_16 rfl rfl ?_
      refine jr_iald d_C_localKind_17 rfl rfl rfl (jin (m := 8) (by decide) (by grind) (by grind)) ?_
      refine jr_goto (tgt := 22) d_C_localKind_18 (by decide) ?_
      exact jr_retX (v := some _) d_C_localKind_22 (by first | exact Nat.le_refl _ | exact Nat.zero_le _ | (dsimp only; omega)) (by first | exact Nat.le_refl _ | exact Nat.zero_le _ | (dsimp only; omega)) (by first | with_reducible rfl | (dsimp only; first | (rw [if_pos (by grind)]) | (rw [if_neg (by grind)]); done) | (exfalso; grind)) (by first | with_reducible rfl | (dsimp only; first | (rw [if_pos (by grind)]) | (rw [if_neg (by grind)]); done) | (exfalso; grind)) (by first | with_reducible rfl | (dsimp only; first | (rw [if_pos (by grind)]) | (rw [if_neg (by grind)]); done) | (exfalso; grind)) (by first | with_reducible rfl | (dsimp only; first | (rw [if_pos (by grind)]) | (rw [if_neg (by grind)]); done) | (exfalso; grind))
theorem ct_C_op {I : jc_I} {O : jc_O} {live : jc_L → Prop} {c : Nat} {i : Int32} (h4 : O (6, c, 0) 4 = some (21, c, 0)) (hn : I (6, c, 0) 8 ≤ 60) : jc_Ct y_C_op [.inr (some (6, c, 0)), .inl i] I O live (some (.inl (if 0 ≤ i ∧ i < I (6, c, 0) 8 then I (21, c, 0) i.toNatClampNeg else -1)), I, O, live, 0, 0) := by
  refine jc_Ct.of (by decide +kernel) (Or.inl rfl) (Nat.le_of_ble_eq_true rfl) ?_
  refine jr_iload_n d_C_op_0 rfl rfl ?_
  refine jr_if_lt (tgt := 21) d_C_op_1 (by decide) (fun c1 => ?_) (fun c1 => ?_)
  · skip
    refine jr_iconst (v := (-1)) d_C_op_21 (by decide) ?_
    exact jr_retX (v := some _) d_C_op_22 (by first | exact Nat.le_refl _ | exact Nat.zero_le _ | (dsimp only; omega)) (by first | exact Nat.le_refl _ | exact Nat.zero_le _ | (dsimp only; omega)) (by first | with_reducible rfl | (dsimp only; first | (rw [if_pos (by grind)]) | (rw [if_neg (by grind)]); done) | (exfalso; grind)) (by first | with_reducible rfl | (dsimp only; first | (rw [if_pos (by grind)]) | (rw [if_neg (by grind)]); done) | (exfalso; grind)) (by first | with_reducible rfl | (dsimp only; first | (rw [if_pos (by grind)]) | (rw [if_neg (by grind)]); done) | (exfalso; grind)) (by first | with_reducible rfl | (dsimp only; first | (rw [if_pos (by grind)]) | (rw [if_neg (by grind)]); done) | (exfalso; grind))
  · skip
    refine jr_iload_n d_C_op_4 rfl rfl ?_
    refine jr_aload_n d_C_op_5 rfl rfl ?_
    refine jr_geti d_C_op_6 f_C_40 rfl ?_
    refine jr_icmp_ge (tgt := 21) d_C_op_9 (by decide) (fun c9 => ?_) (fun c9 => ?_)
    · skip
      refine jr_iconst (v := (-1)) d_C_op_21 (by decide) ?_
      exact jr_retX (v := some _) d_C_op_22 (by first | exact Nat.le_refl _ | exact Nat.zero_le _ | (dsimp only; omega)) (by first | exact Nat.le_refl _ | exact Nat.zero_le _ | (dsimp only; omega)) (by first | with_reducible rfl | (dsimp only; first | (rw [if_pos (by grind)]) | (rw [if_neg (by grind)]); done) | (exfalso; grind)) (by first | with_reducible rfl | (dsimp only; first | (rw [if_pos (by grind)]) | (rw [if_neg (by grind)]); done) | (exfalso; grind)) (by first | with_reducible rfl | (dsimp only; first | (rw [if_pos (by grind)]) | (rw [if_neg (by grind)]); done) | (exfalso; grind)) (by first | with_reducible rfl | (dsimp only; first | (rw [if_pos (by grind)]) | (rw [if_neg (by grind)]); done) | (exfalso; grind))
    · skip
      refine jr_aload_n d_C_op_12 rfl rfl ?_
      refine jr_getr d_C_op_13 f_C_15 rfl rfl ?_
      first | rw [h4] | skip
      refine jr_iload_n d_C_op_16 rfl rfl ?_
      refine jr_iald d_C_op_17 rfl rfl rfl (jin (m := 60) (by decide) (by grind) (by grind)) ?_
      refine jr_goto (tgt := 22) d_C_op_18 (by decide) ?_
      exact jr_retX (v := some _) d_C_op_22 (by first | exact Nat.le_refl _ | exact Nat.zero_le _ | (dsimp only; omega)) (by first | exact Nat.le_refl _ | exact Nat.zero_le _ | (dsimp only; omega)) (by first | with_reducible rfl | (dsimp only; first | (rw [if_pos (by grind)]) | (rw [if_neg (by grind)]); done) | (exfalso; grind)) (by first | with_reducible rfl | (dsimp only; first | (rw [if_pos (by grind)]) | (rw [if_neg (by grind)]); done) | (exfalso; grind)) (by first | with_reducible rfl | (dsimp only; first | (rw [if_pos (by grind)]) | (rw [if_neg (by grind)]); done) | (exfalso; grind)) (by first | with_reducible rfl | (dsimp only; first | (rw [if_pos (by grind)]) | (rw [if_neg (by grind)]); done) | (exfalso; grind))
theorem ct_C_operand {I : jc_I} {O : jc_O} {live : jc_L → Prop} {c : Nat} {i : Int32} (h5 : O (6, c, 0) 5 = some (22, c, 0)) (hn : I (6, c, 0) 8 ≤ 60) : jc_Ct y_C_operand [.inr (some (6, c, 0)), .inl i] I O live (some (.inl (if 0 ≤ i ∧ i < I (6, c, 0) 8 then I (22, c, 0) i.toNatClampNeg else 0)), I, O, live, 0, 0) := by
  refine jc_Ct.of (by decide +kernel) (Or.inl rfl) (Nat.le_of_ble_eq_true rfl) ?_
  refine jr_iload_n d_C_operand_0 rfl rfl ?_
  refine jr_if_lt (tgt := 21) d_C_operand_1 (by decide) (fun c1 => ?_) (fun c1 => ?_)
  · skip
    refine jr_iconst (v := 0) d_C_operand_21 (by decide) ?_
    exact jr_retX (v := some _) d_C_operand_22 (by first | exact Nat.le_refl _ | exact Nat.zero_le _ | (dsimp only; omega)) (by first | exact Nat.le_refl _ | exact Nat.zero_le _ | (dsimp only; omega)) (by first | with_reducible rfl | (dsimp only; first | (rw [if_pos (by grind)]) | (rw [if_neg (by grind)]); done) | (exfalso; grind)) (by first | with_reducible rfl | (dsimp only; first | (rw [if_pos (by grind)]) | (rw [if_neg (by grind)]); done) | (exfalso; grind)) (by first | with_reducible rfl | (dsimp only; first | (rw [if_pos (by grind)]) | (rw [if_neg (by grind)]); done) | (exfalso; grind)) (by first | with_reducible rfl | (dsimp only; first | (rw [if_pos (by grind)]) | (rw [if_neg (by grind)]); done) | (exfalso; grind))
  · skip
    refine jr_iload_n d_C_operand_4 rfl rfl ?_
    refine jr_aload_n d_C_operand_5 rfl rfl ?_
    refine jr_geti d_C_operand_6 f_C_40 rfl ?_
    refine jr_icmp_ge (tgt := 21) d_C_operand_9 (by decide) (fun c9 => ?_) (fun c9 => ?_)
    · skip
      refine jr_iconst (v := 0) d_C_operand_21 (by decide) ?_
      exact jr_retX (v := some _) d_C_operand_22 (by first | exact Nat.le_refl _ | exact Nat.zero_le _ | (dsimp only; omega)) (by first | exact Nat.le_refl _ | exact Nat.zero_le _ | (dsimp only; omega)) (by first | with_reducible rfl | (dsimp only; first | (rw [if_pos (by grind)]) | (rw [if_neg (by grind)]); done) | (exfalso; grind)) (by first | with_reducible rfl | (dsimp only; first | (rw [if_pos (by grind)]) | (rw [if_neg (by grind)]); done) | (exfalso; grind)) (by first | with_reducible rfl | (dsimp only; first | (rw [if_pos (by grind)]) | (rw [if_neg (by grind)]); done) | (exfalso; grind)) (by first | with_reducible rfl | (dsimp only; first | (rw [if_pos (by grind)]) | (rw [if_neg (by grind)]); done) | (exfalso; grind))
    · skip
      refine jr_aload_n d_C_operand_12 rfl rfl ?_
      refine jr_getr d_C_operand_13 f_C_18 rfl rfl ?_
      first | rw [h5] | skip
      refine jr_iload_n d_C_operand_16 rfl rfl ?_
      refine jr_iald d_C_operand_17 rfl rfl rfl (jin (m := 60) (by decide) (by grind) (by grind)) ?_
      refine jr_goto (tgt := 22) d_C_operand_18 (by decide) ?_
      exact jr_retX (v := some _) d_C_operand_22 (by first | exact Nat.le_refl _ | exact Nat.zero_le _ | (dsimp only; omega)) (by first | exact Nat.le_refl _ | exact Nat.zero_le _ | (dsimp only; omega)) (by first | with_reducible rfl | (dsimp only; first | (rw [if_pos (by grind)]) | (rw [if_neg (by grind)]); done) | (exfalso; grind)) (by first | with_reducible rfl | (dsimp only; first | (rw [if_pos (by grind)]) | (rw [if_neg (by grind)]); done) | (exfalso; grind)) (by first | with_reducible rfl | (dsimp only; first | (rw [if_pos (by grind)]) | (rw [if_neg (by grind)]); done) | (exfalso; grind)) (by first | with_reducible rfl | (dsimp only; first | (rw [if_pos (by grind)]) | (rw [if_neg (by grind)]); done) | (exfalso; grind))
theorem ct_C_rowAt {I : jc_I} {O : jc_O} {live : jc_L → Prop} {c : Nat} {i : Int32} (h6 : O (6, c, 0) 6 = some (23, c, 0)) (hn : I (6, c, 0) 9 ≤ 20) : jc_Ct y_C_rowAt [.inr (some (6, c, 0)), .inl i] I O live (some (.inr (if 0 ≤ i ∧ i < I (6, c, 0) 9 then O (23, c, 0) i.toNatClampNeg else none)), I, O, live, 0, 0) := by
  refine jc_Ct.of (by decide +kernel) (Or.inl ⟨_, rfl⟩) (Nat.le_of_ble_eq_true rfl) ?_
  refine jr_iload_n d_C_rowAt_0 rfl rfl ?_
  refine jr_if_lt (tgt := 21) d_C_rowAt_1 (by decide) (fun c1 => ?_) (fun c1 => ?_)
  · skip
    refine jr_null d_C_rowAt_21 ?_
    exact jr_retX (v := some _) d_C_rowAt_22 (by first | exact Nat.le_refl _ | exact Nat.zero_le _ | (dsimp only; omega)) (by first | exact Nat.le_refl _ | exact Nat.zero_le _ | (dsimp only; omega)) (by first | with_reducible rfl | (dsimp only; first | (rw [if_pos (by grind)]) | (rw [if_neg (by grind)]); done) | (exfalso; grind)) (by first | with_reducible rfl | (dsimp only; first | (rw [if_pos (by grind)]) | (rw [if_neg (by grind)]); done) | (exfalso; grind)) (by first | with_reducible rfl | (dsimp only; first | (rw [if_pos (by grind)]) | (rw [if_neg (by grind)]); done) | (exfalso; grind)) (by first | with_reducible rfl | (dsimp only; first | (rw [if_pos (by grind)]) | (rw [if_neg (by grind)]); done) | (exfalso; grind))
  · skip
    refine jr_iload_n d_C_rowAt_4 rfl rfl ?_
    refine jr_aload_n d_C_rowAt_5 rfl rfl ?_
    refine jr_geti d_C_rowAt_6 f_C_43 rfl ?_
    refine jr_icmp_ge (tgt := 21) d_C_rowAt_9 (by decide) (fun c9 => ?_) (fun c9 => ?_)
    · skip
      refine jr_null d_C_rowAt_21 ?_
      exact jr_retX (v := some _) d_C_rowAt_22 (by first | exact Nat.le_refl _ | exact Nat.zero_le _ | (dsimp only; omega)) (by first | exact Nat.le_refl _ | exact Nat.zero_le _ | (dsimp only; omega)) (by first | with_reducible rfl | (dsimp only; first | (rw [if_pos (by grind)]) | (rw [if_neg (by grind)]); done) | (exfalso; grind)) (by first | with_reducible rfl | (dsimp only; first | (rw [if_pos (by grind)]) | (rw [if_neg (by grind)]); done) | (exfalso; grind)) (by first | with_reducible rfl | (dsimp only; first | (rw [if_pos (by grind)]) | (rw [if_neg (by grind)]); done) | (exfalso; grind)) (by first | with_reducible rfl | (dsimp only; first | (rw [if_pos (by grind)]) | (rw [if_neg (by grind)]); done) | (exfalso; grind))
    · skip
      refine jr_aload_n d_C_rowAt_12 rfl rfl ?_
      refine jr_getr d_C_rowAt_13 f_C_23 rfl rfl ?_
      first | rw [h6] | skip
      refine jr_iload_n d_C_rowAt_16 rfl rfl ?_
      refine jr_aald d_C_rowAt_17 rfl rfl rfl (jin (m := 20) (by decide) (by grind) (by grind)) ?_
      first | rw [h6] | skip
      refine jr_goto (tgt := 22) d_C_rowAt_18 (by decide) ?_
      exact jr_retX (v := some _) d_C_rowAt_22 (by first | exact Nat.le_refl _ | exact Nat.zero_le _ | (dsimp only; omega)) (by first | exact Nat.le_refl _ | exact Nat.zero_le _ | (dsimp only; omega)) (by first | with_reducible rfl | (dsimp only; first | (rw [if_pos (by grind)]) | (rw [if_neg (by grind)]); done) | (exfalso; grind)) (by first | with_reducible rfl | (dsimp only; first | (rw [if_pos (by grind)]) | (rw [if_neg (by grind)]); done) | (exfalso; grind)) (by first | with_reducible rfl | (dsimp only; first | (rw [if_pos (by grind)]) | (rw [if_neg (by grind)]); done) | (exfalso; grind)) (by first | with_reducible rfl | (dsimp only; first | (rw [if_pos (by grind)]) | (rw [if_neg (by grind)]); done) | (exfalso; grind))
theorem ct_C_hasInstruction {I : jc_I} {O : jc_O} {live : jc_L → Prop} {c : Nat} {i : Int32}  : jc_Ct y_C_hasInstruction [.inr (some (6, c, 0)), .inl i] I O live (some (.inl (if 0 ≤ i ∧ i < I (6, c, 0) 8 then 1 else 0)), I, O, live, 0, 0) := by
  refine jc_Ct.of (by decide +kernel) (Or.inr ⟨rfl, by grind⟩) (Nat.le_of_ble_eq_true rfl) ?_
  refine jr_iload_n d_C_hasInstruction_0 rfl rfl ?_
  refine jr_if_lt (tgt := 16) d_C_hasInstruction_1 (by decide) (fun c1 => ?_) (fun c1 => ?_)
  · skip
    refine jr_iconst (v := 0) d_C_hasInstruction_16 (by decide) ?_
    exact jr_retX (v := some _) d_C_hasInstruction_17 (by first | exact Nat.le_refl _ | exact Nat.zero_le _ | (dsimp only; omega)) (by first | exact Nat.le_refl _ | exact Nat.zero_le _ | (dsimp only; omega)) (by first | with_reducible rfl | (dsimp only; first | (rw [if_pos (by grind)]) | (rw [if_neg (by grind)]); done) | (exfalso; grind)) (by first | with_reducible rfl | (dsimp only; first | (rw [if_pos (by grind)]) | (rw [if_neg (by grind)]); done) | (exfalso; grind)) (by first | with_reducible rfl | (dsimp only; first | (rw [if_pos (by grind)]) | (rw [if_neg (by grind)]); done) | (exfalso; grind)) (by first | with_reducible rfl | (dsimp only; first | (rw [if_pos (by grind)]) | (rw [if_neg (by grind)]); done) | (exfalso; grind))
  · skip
    refine jr_iload_n d_C_hasInstruction_4 rfl rfl ?_
    refine jr_aload_n d_C_hasInstruction_5 rfl rfl ?_
    refine jr_geti d_C_hasInstruction_6 f_C_40 rfl ?_
    refine jr_icmp_ge (tgt := 16) d_C_hasInstruction_9 (by decide) (fun c9 => ?_) (fun c9 => ?_)
    · skip
      refine jr_iconst (v := 0) d_C_hasInstruction_16 (by decide) ?_
      exact jr_retX (v := some _) d_C_hasInstruction_17 (by first | exact Nat.le_refl _ | exact Nat.zero_le _ | (dsimp only; omega)) (by first | exact Nat.le_refl _ | exact Nat.zero_le _ | (dsimp only; omega)) (by first | with_reducible rfl | (dsimp only; first | (rw [if_pos (by grind)]) | (rw [if_neg (by grind)]); done) | (exfalso; grind)) (by first | with_reducible rfl | (dsimp only; first | (rw [if_pos (by grind)]) | (rw [if_neg (by grind)]); done) | (exfalso; grind)) (by first | with_reducible rfl | (dsimp only; first | (rw [if_pos (by grind)]) | (rw [if_neg (by grind)]); done) | (exfalso; grind)) (by first | with_reducible rfl | (dsimp only; first | (rw [if_pos (by grind)]) | (rw [if_neg (by grind)]); done) | (exfalso; grind))
    · skip
      refine jr_iconst (v := 1) d_C_hasInstruction_12 (by decide) ?_
      refine jr_goto (tgt := 17) d_C_hasInstruction_13 (by decide) ?_
      exact jr_retX (v := some _) d_C_hasInstruction_17 (by first | exact Nat.le_refl _ | exact Nat.zero_le _ | (dsimp only; omega)) (by first | exact Nat.le_refl _ | exact Nat.zero_le _ | (dsimp only; omega)) (by first | with_reducible rfl | (dsimp only; first | (rw [if_pos (by grind)]) | (rw [if_neg (by grind)]); done) | (exfalso; grind)) (by first | with_reducible rfl | (dsimp only; first | (rw [if_pos (by grind)]) | (rw [if_neg (by grind)]); done) | (exfalso; grind)) (by first | with_reducible rfl | (dsimp only; first | (rw [if_pos (by grind)]) | (rw [if_neg (by grind)]); done) | (exfalso; grind)) (by first | with_reducible rfl | (dsimp only; first | (rw [if_pos (by grind)]) | (rw [if_neg (by grind)]); done) | (exfalso; grind))
theorem ct_C_tellLocal {I : jc_I} {O : jc_O} {live : jc_L → Prop} {c : Nat} {x : Int32} (h3 : O (6, c, 0) 3 = some (20, c, 0)) (h0 : 0 ≤ I (6, c, 0) 7) : jc_Ct y_C_tellLocal [.inr (some (6, c, 0)), .inl x] I O live (some (.inl (if 8 ≤ I (6, c, 0) 7 then -12 else I (6, c, 0) 7 + 1)), if 8 ≤ I (6, c, 0) 7 then I else jc_up (jc_up I (20, c, 0) (I (6, c, 0) 7).toNatClampNeg x) (6, c, 0) 7 (I (6, c, 0) 7 + 1), O, live, 0, 0) := by
  refine jc_Ct.of (by decide +kernel) (Or.inl rfl) (Nat.le_of_ble_eq_true rfl) ?_
  refine jr_aload_n d_C_tellLocal_0 rfl rfl ?_
  refine jr_geti d_C_tellLocal_1 f_C_37 rfl ?_
  refine jr_bipush (v := 8) d_C_tellLocal_4 (by decide) ?_
  refine jr_icmp_lt (tgt := 12) d_C_tellLocal_6 (by decide) (fun c6 => ?_) (fun c6 => ?_)
  · skip
    refine jr_aload_n d_C_tellLocal_12 rfl rfl ?_
    refine jr_getr d_C_tellLocal_13 f_C_9 rfl rfl ?_
    first | rw [h3] | skip
    refine jr_aload_n d_C_tellLocal_16 rfl rfl ?_
    refine jr_geti d_C_tellLocal_17 f_C_37 rfl ?_
    refine jr_iload_n d_C_tellLocal_20 rfl rfl ?_
    refine jr_iast d_C_tellLocal_21 rfl rfl rfl (jin (m := 8) (by decide) (by grind) (by grind)) ?_
    refine jr_aload_n d_C_tellLocal_22 rfl rfl ?_
    refine jr_dup d_C_tellLocal_23 ?_
    refine jr_geti d_C_tellLocal_24 f_C_37 rfl ?_
    try simp only [jc_up_s, jc_up_k, jc_up_t, jc_cl_s, jc_cl_t, ne_eq, Nat.reduceEqDiff, not_false_eq_true, Nat.reduceAdd]
    refine jr_iconst (v := 1) d_C_tellLocal_27 (by decide) ?_
    refine jr_iadd d_C_tellLocal_28 ?_
    refine jr_puti d_C_tellLocal_29 f_C_37 (Or.inl rfl) rfl ?_
    refine jr_aload_n d_C_tellLocal_32 rfl rfl ?_
    refine jr_geti d_C_tellLocal_33 f_C_37 rfl ?_
    try simp only [jc_up_s, jc_up_k, jc_up_t, jc_cl_s, jc_cl_t, ne_eq, Nat.reduceEqDiff, not_false_eq_true, Nat.reduceAdd]
    exact jr_retX (v := some _) d_C_tellLocal_36 (by first | exact Nat.le_refl _ | exact Nat.zero_le _ | (dsimp only; omega)) (by first | exact Nat.le_refl _ | exact Nat.zero_le _ | (dsimp only; omega)) (by first | with_reducible rfl | (dsimp only; first | (rw [if_pos (by grind)]) | (rw [if_neg (by grind)]); done) | (exfalso; grind)) (by first | with_reducible rfl | (dsimp only; first | (rw [if_pos (by grind)]) | (rw [if_neg (by grind)]); done) | (exfalso; grind)) (by first | with_reducible rfl | (dsimp only; first | (rw [if_pos (by grind)]) | (rw [if_neg (by grind)]); done) | (exfalso; grind)) (by first | with_reducible rfl | (dsimp only; first | (rw [if_pos (by grind)]) | (rw [if_neg (by grind)]); done) | (exfalso; grind))
  · skip
    refine jr_bipush (v := (-12)) d_C_tellLocal_9 (by decide) ?_
    exact jr_retX (v := some _) d_C_tellLocal_11 (by first | exact Nat.le_refl _ | exact Nat.zero_le _ | (dsimp only; omega)) (by first | exact Nat.le_refl _ | exact Nat.zero_le _ | (dsimp only; omega)) (by first | with_reducible rfl | (dsimp only; first | (rw [if_pos (by grind)]) | (rw [if_neg (by grind)]); done) | (exfalso; grind)) (by first | with_reducible rfl | (dsimp only; first | (rw [if_pos (by grind)]) | (rw [if_neg (by grind)]); done) | (exfalso; grind)) (by first | with_reducible rfl | (dsimp only; first | (rw [if_pos (by grind)]) | (rw [if_neg (by grind)]); done) | (exfalso; grind)) (by first | with_reducible rfl | (dsimp only; first | (rw [if_pos (by grind)]) | (rw [if_neg (by grind)]); done) | (exfalso; grind))
theorem ct_C_tellInstruction {I : jc_I} {O : jc_O} {live : jc_L → Prop} {c : Nat} {x z : Int32} (h4 : O (6, c, 0) 4 = some (21, c, 0)) (h5 : O (6, c, 0) 5 = some (22, c, 0)) (h0 : 0 ≤ I (6, c, 0) 8) : jc_Ct y_C_tellInstruction [.inr (some (6, c, 0)), .inl x, .inl z] I O live (some (.inl (if 60 ≤ I (6, c, 0) 8 then -12 else I (6, c, 0) 8 + 1 - 1)), if 60 ≤ I (6, c, 0) 8 then I else jc_up (jc_up (jc_up I (21, c, 0) (I (6, c, 0) 8).toNatClampNeg x) (22, c, 0) (I (6, c, 0) 8).toNatClampNeg z) (6, c, 0) 8 (I (6, c, 0) 8 + 1), O, live, 0, 0) := by
  refine jc_Ct.of (by decide +kernel) (Or.inl rfl) (Nat.le_of_ble_eq_true rfl) ?_
  refine jr_aload_n d_C_tellInstruction_0 rfl rfl ?_
  refine jr_geti d_C_tellInstruction_1 f_C_40 rfl ?_
  refine jr_bipush (v := 60) d_C_tellInstruction_4 (by decide) ?_
  refine jr_icmp_lt (tgt := 12) d_C_tellInstruction_6 (by decide) (fun c6 => ?_) (fun c6 => ?_)
  · skip
    refine jr_aload_n d_C_tellInstruction_12 rfl rfl ?_
    refine jr_getr d_C_tellInstruction_13 f_C_15 rfl rfl ?_
    first | rw [h4] | rw [h5] | skip
    refine jr_aload_n d_C_tellInstruction_16 rfl rfl ?_
    refine jr_geti d_C_tellInstruction_17 f_C_40 rfl ?_
    refine jr_iload_n d_C_tellInstruction_20 rfl rfl ?_
    refine jr_iast d_C_tellInstruction_21 rfl rfl rfl (jin (m := 60) (by decide) (by grind) (by grind)) ?_
    refine jr_aload_n d_C_tellInstruction_22 rfl rfl ?_
    refine jr_getr d_C_tellInstruction_23 f_C_18 rfl rfl ?_
    try simp only [jc_up_s, jc_up_k, jc_up_t, jc_cl_s, jc_cl_t, ne_eq, Nat.reduceEqDiff, not_false_eq_true, Nat.reduceAdd]
    first | rw [h4] | rw [h5] | skip
    refine jr_aload_n d_C_tellInstruction_26 rfl rfl ?_
    refine jr_geti d_C_tellInstruction_27 f_C_40 rfl ?_
    try simp only [jc_up_s, jc_up_k, jc_up_t, jc_cl_s, jc_cl_t, ne_eq, Nat.reduceEqDiff, not_false_eq_true, Nat.reduceAdd]
    refine jr_iload_n d_C_tellInstruction_30 rfl rfl ?_
    refine jr_iast d_C_tellInstruction_31 rfl rfl rfl (jin (m := 60) (by decide) (by grind) (by grind)) ?_
    refine jr_aload_n d_C_tellInstruction_32 rfl rfl ?_
    refine jr_dup d_C_tellInstruction_33 ?_
    refine jr_geti d_C_tellInstruction_34 f_C_40 rfl ?_
    try simp only [jc_up_s, jc_up_k, jc_up_t, jc_cl_s, jc_cl_t, ne_eq, Nat.reduceEqDiff, not_false_eq_true, Nat.reduceAdd]
    refine jr_iconst (v := 1) d_C_tellInstruction_37 (by decide) ?_
    refine jr_iadd d_C_tellInstruction_38 ?_
    refine jr_puti d_C_tellInstruction_39 f_C_40 (Or.inl rfl) rfl ?_
    refine jr_aload_n d_C_tellInstruction_42 rfl rfl ?_
    refine jr_geti d_C_tellInstruction_43 f_C_40 rfl ?_
    try simp only [jc_up_s, jc_up_k, jc_up_t, jc_cl_s, jc_cl_t, ne_eq, Nat.reduceEqDiff, not_false_eq_true, Nat.reduceAdd]
    refine jr_iconst (v := 1) d_C_tellInstruction_46 (by decide) ?_
    refine jr_isub d_C_tellInstruction_47 ?_
    exact jr_retX (v := some _) d_C_tellInstruction_48 (by first | exact Nat.le_refl _ | exact Nat.zero_le _ | (dsimp only; omega)) (by first | exact Nat.le_refl _ | exact Nat.zero_le _ | (dsimp only; omega)) (by first | with_reducible rfl | (dsimp only; first | (rw [if_pos (by grind)]) | (rw [if_neg (by grind)]); done) | (exfalso; grind)) (by first | with_reducible rfl | (dsimp only; first | (rw [if_pos (by grind)]) | (rw [if_neg (by grind)]); done) | (exfalso; grind)) (by first | with_reducible rfl | (dsimp only; first | (rw [if_pos (by grind)]) | (rw [if_neg (by grind)]); done) | (exfalso; grind)) (by first | with_reducible rfl | (dsimp only; first | (rw [if_pos (by grind)]) | (rw [if_neg (by grind)]); done) | (exfalso; grind))
  · skip
    refine jr_bipush (v := (-12)) d_C_tellInstruction_9 (by decide) ?_
    exact jr_retX (v := some _) d_C_tellInstruction_11 (by first | exact Nat.le_refl _ | exact Nat.zero_le _ | (dsimp only; omega)) (by first | exact Nat.le_refl _ | exact Nat.zero_le _ | (dsimp only; omega)) (by first | with_reducible rfl | (dsimp only; first | (rw [if_pos (by grind)]) | (rw [if_neg (by grind)]); done) | (exfalso; grind)) (by first | with_reducible rfl | (dsimp only; first | (rw [if_pos (by grind)]) | (rw [if_neg (by grind)]); done) | (exfalso; grind)) (by first | with_reducible rfl | (dsimp only; first | (rw [if_pos (by grind)]) | (rw [if_neg (by grind)]); done) | (exfalso; grind)) (by first | with_reducible rfl | (dsimp only; first | (rw [if_pos (by grind)]) | (rw [if_neg (by grind)]); done) | (exfalso; grind))
theorem ct_F_ownCode {I : jc_I} {O : jc_O} {live : jc_L → Prop} {t j : Nat}  : jc_Ct y_F_ownCode [.inr (some (8, t, j))] I O live (some (.inr (O (8, t, j) 2)), I, O, live, 0, 0) := by
  refine jc_Ct.of (by decide +kernel) (Or.inl ⟨_, rfl⟩) (Nat.le_of_ble_eq_true rfl) ?_
  refine jr_aload_n d_F_ownCode_0 rfl rfl ?_
  refine jr_getr d_F_ownCode_1 f_F_18 rfl rfl ?_
  exact jr_retX (v := some _) d_F_ownCode_4 (by first | exact Nat.le_refl _ | exact Nat.zero_le _ | (dsimp only; omega)) (by first | exact Nat.le_refl _ | exact Nat.zero_le _ | (dsimp only; omega)) (by first | with_reducible rfl | (dsimp only; rfl; done) | (exfalso; grind)) (by first | with_reducible rfl | (dsimp only; rfl; done) | (exfalso; grind)) (by first | with_reducible rfl | (dsimp only; rfl; done) | (exfalso; grind)) (by first | with_reducible rfl | (dsimp only; rfl; done) | (exfalso; grind))
theorem ct_F_at {I : jc_I} {O : jc_O} {live : jc_L → Prop} {t j : Nat}  : jc_Ct y_F_at [.inr (some (8, t, j))] I O live (some (.inl (I (8, t, j) 4)), I, O, live, 0, 0) := by
  refine jc_Ct.of (by decide +kernel) (Or.inl rfl) (Nat.le_of_ble_eq_true rfl) ?_
  refine jr_aload_n d_F_at_0 rfl rfl ?_
  refine jr_geti d_F_at_1 f_F_26 rfl ?_
  exact jr_retX (v := some _) d_F_at_4 (by first | exact Nat.le_refl _ | exact Nat.zero_le _ | (dsimp only; omega)) (by first | exact Nat.le_refl _ | exact Nat.zero_le _ | (dsimp only; omega)) (by first | with_reducible rfl | (dsimp only; rfl; done) | (exfalso; grind)) (by first | with_reducible rfl | (dsimp only; rfl; done) | (exfalso; grind)) (by first | with_reducible rfl | (dsimp only; rfl; done) | (exfalso; grind)) (by first | with_reducible rfl | (dsimp only; rfl; done) | (exfalso; grind))
theorem ct_F_depth {I : jc_I} {O : jc_O} {live : jc_L → Prop} {t j : Nat}  : jc_Ct y_F_depth [.inr (some (8, t, j))] I O live (some (.inl (I (8, t, j) 3)), I, O, live, 0, 0) := by
  refine jc_Ct.of (by decide +kernel) (Or.inl rfl) (Nat.le_of_ble_eq_true rfl) ?_
  refine jr_aload_n d_F_depth_0 rfl rfl ?_
  refine jr_geti d_F_depth_1 f_F_22 rfl ?_
  exact jr_retX (v := some _) d_F_depth_4 (by first | exact Nat.le_refl _ | exact Nat.zero_le _ | (dsimp only; omega)) (by first | exact Nat.le_refl _ | exact Nat.zero_le _ | (dsimp only; omega)) (by first | with_reducible rfl | (dsimp only; rfl; done) | (exfalso; grind)) (by first | with_reducible rfl | (dsimp only; rfl; done) | (exfalso; grind)) (by first | with_reducible rfl | (dsimp only; rfl; done) | (exfalso; grind)) (by first | with_reducible rfl | (dsimp only; rfl; done) | (exfalso; grind))
theorem ct_F_goOn {I : jc_I} {O : jc_O} {live : jc_L → Prop} {t j : Nat}  : jc_Ct y_F_goOn [.inr (some (8, t, j))] I O live (none, jc_up I (8, t, j) 4 (I (8, t, j) 4 + 1), O, live, 0, 0) := by
  refine jc_Ct.of (by decide +kernel) (rfl) (Nat.le_of_ble_eq_true rfl) ?_
  refine jr_aload_n d_F_goOn_0 rfl rfl ?_
  refine jr_dup d_F_goOn_1 ?_
  refine jr_geti d_F_goOn_2 f_F_26 rfl ?_
  refine jr_iconst (v := 1) d_F_goOn_5 (by decide) ?_
  refine jr_iadd d_F_goOn_6 ?_
  refine jr_puti d_F_goOn_7 f_F_26 (Or.inl rfl) rfl ?_
  exact jr_retX (v := none) d_F_goOn_10 (by first | exact Nat.le_refl _ | exact Nat.zero_le _ | (dsimp only; omega)) (by first | exact Nat.le_refl _ | exact Nat.zero_le _ | (dsimp only; omega)) (by first | with_reducible rfl | (dsimp only; rfl; done) | (exfalso; grind)) (by first | with_reducible rfl | (dsimp only; rfl; done) | (exfalso; grind)) (by first | with_reducible rfl | (dsimp only; rfl; done) | (exfalso; grind)) (by first | with_reducible rfl | (dsimp only; rfl; done) | (exfalso; grind))
theorem ct_F_goTo {I : jc_I} {O : jc_O} {live : jc_L → Prop} {t j : Nat} {x : Int32}  : jc_Ct y_F_goTo [.inr (some (8, t, j)), .inl x] I O live (none, jc_up I (8, t, j) 4 x, O, live, 0, 0) := by
  refine jc_Ct.of (by decide +kernel) (rfl) (Nat.le_of_ble_eq_true rfl) ?_
  refine jr_aload_n d_F_goTo_0 rfl rfl ?_
  refine jr_iload_n d_F_goTo_1 rfl rfl ?_
  refine jr_puti d_F_goTo_2 f_F_26 (Or.inl rfl) rfl ?_
  exact jr_retX (v := none) d_F_goTo_5 (by first | exact Nat.le_refl _ | exact Nat.zero_le _ | (dsimp only; omega)) (by first | exact Nat.le_refl _ | exact Nat.zero_le _ | (dsimp only; omega)) (by first | with_reducible rfl | (dsimp only; rfl; done) | (exfalso; grind)) (by first | with_reducible rfl | (dsimp only; rfl; done) | (exfalso; grind)) (by first | with_reducible rfl | (dsimp only; rfl; done) | (exfalso; grind)) (by first | with_reducible rfl | (dsimp only; rfl; done) | (exfalso; grind))
theorem ct_F_push {I : jc_I} {O : jc_O} {live : jc_L → Prop} {t j : Nat} {x : Int32} (h0 : O (8, t, j) 0 = some (32, t, j)) : jc_Ct y_F_push [.inr (some (8, t, j)), .inl x] I O live (none, if 0 ≤ I (8, t, j) 3 ∧ I (8, t, j) 3 < 12 then jc_up (jc_up I (32, t, j) (I (8, t, j) 3).toNatClampNeg x) (8, t, j) 3 (I (8, t, j) 3 + 1) else I, O, live, 0, 0) := by
  refine jc_Ct.of (by decide +kernel) (rfl) (Nat.le_of_ble_eq_true rfl) ?_
  refine jr_aload_n d_F_push_0 rfl rfl ?_
  refine jr_geti d_F_push_1 f_F_22 rfl ?_
  refine jr_if_lt (tgt := 36) d_F_push_4 (by decide) (fun c4 => ?_) (fun c4 => ?_)
  · skip
    exact jr_retX (v := none) d_F_push_36 (by first | exact Nat.le_refl _ | exact Nat.zero_le _ | (dsimp only; omega)) (by first | exact Nat.le_refl _ | exact Nat.zero_le _ | (dsimp only; omega)) (by first | with_reducible rfl | (dsimp only; first | (rw [if_pos (by grind)]) | (rw [if_neg (by grind)]); done) | (exfalso; grind)) (by first | with_reducible rfl | (dsimp only; first | (rw [if_pos (by grind)]) | (rw [if_neg (by grind)]); done) | (exfalso; grind)) (by first | with_reducible rfl | (dsimp only; first | (rw [if_pos (by grind)]) | (rw [if_neg (by grind)]); done) | (exfalso; grind)) (by first | with_reducible rfl | (dsimp only; first | (rw [if_pos (by grind)]) | (rw [if_neg (by grind)]); done) | (exfalso; grind))
  · skip
    refine jr_aload_n d_F_push_7 rfl rfl ?_
    refine jr_geti d_F_push_8 f_F_22 rfl ?_
    refine jr_bipush (v := 12) d_F_push_11 (by decide) ?_
    refine jr_icmp_ge (tgt := 36) d_F_push_13 (by decide) (fun c13 => ?_) (fun c13 => ?_)
    · skip
      exact jr_retX (v := none) d_F_push_36 (by first | exact Nat.le_refl _ | exact Nat.zero_le _ | (dsimp only; omega)) (by first | exact Nat.le_refl _ | exact Nat.zero_le _ | (dsimp only; omega)) (by first | with_reducible rfl | (dsimp only; first | (rw [if_pos (by grind)]) | (rw [if_neg (by grind)]); done) | (exfalso; grind)) (by first | with_reducible rfl | (dsimp only; first | (rw [if_pos (by grind)]) | (rw [if_neg (by grind)]); done) | (exfalso; grind)) (by first | with_reducible rfl | (dsimp only; first | (rw [if_pos (by grind)]) | (rw [if_neg (by grind)]); done) | (exfalso; grind)) (by first | with_reducible rfl | (dsimp only; first | (rw [if_pos (by grind)]) | (rw [if_neg (by grind)]); done) | (exfalso; grind))
    · skip
      refine jr_aload_n d_F_push_16 rfl rfl ?_
      refine jr_getr d_F_push_17 f_F_9 rfl rfl ?_
      first | rw [h0] | skip
      refine jr_aload_n d_F_push_20 rfl rfl ?_
      refine jr_geti d_F_push_21 f_F_22 rfl ?_
      refine jr_iload_n d_F_push_24 rfl rfl ?_
      refine jr_iast d_F_push_25 rfl rfl rfl (jin (m := 12) (by decide) (by grind) (by grind)) ?_
      refine jr_aload_n d_F_push_26 rfl rfl ?_
      refine jr_dup d_F_push_27 ?_
      refine jr_geti d_F_push_28 f_F_22 rfl ?_
      try simp only [jc_up_s, jc_up_k, jc_up_t, jc_cl_s, jc_cl_t, ne_eq, Nat.reduceEqDiff, not_false_eq_true, Nat.reduceAdd]
      refine jr_iconst (v := 1) d_F_push_31 (by decide) ?_
      refine jr_iadd d_F_push_32 ?_
      refine jr_puti d_F_push_33 f_F_22 (Or.inl rfl) rfl ?_
      exact jr_retX (v := none) d_F_push_36 (by first | exact Nat.le_refl _ | exact Nat.zero_le _ | (dsimp only; omega)) (by first | exact Nat.le_refl _ | exact Nat.zero_le _ | (dsimp only; omega)) (by first | with_reducible rfl | (dsimp only; first | (rw [if_pos (by grind)]) | (rw [if_neg (by grind)]); done) | (exfalso; grind)) (by first | with_reducible rfl | (dsimp only; first | (rw [if_pos (by grind)]) | (rw [if_neg (by grind)]); done) | (exfalso; grind)) (by first | with_reducible rfl | (dsimp only; first | (rw [if_pos (by grind)]) | (rw [if_neg (by grind)]); done) | (exfalso; grind)) (by first | with_reducible rfl | (dsimp only; first | (rw [if_pos (by grind)]) | (rw [if_neg (by grind)]); done) | (exfalso; grind))
theorem ct_F_peek {I : jc_I} {O : jc_O} {live : jc_L → Prop} {t j : Nat} {k : Int32} (h0 : O (8, t, j) 0 = some (32, t, j)) (h1 : I (8, t, j) 3 ≤ 12) : jc_Ct y_F_peek [.inr (some (8, t, j)), .inl k] I O live (some (.inl (if 0 ≤ k ∧ k < I (8, t, j) 3 then I (32, t, j) (I (8, t, j) 3 - 1 - k).toNatClampNeg else 0)), I, O, live, 0, 0) := by
  refine jc_Ct.of (by decide +kernel) (Or.inl rfl) (Nat.le_of_ble_eq_true rfl) ?_
  refine jr_iload_n d_F_peek_0 rfl rfl ?_
  refine jr_if_lt (tgt := 28) d_F_peek_1 (by decide) (fun c1 => ?_) (fun c1 => ?_)
  · skip
    refine jr_iconst (v := 0) d_F_peek_28 (by decide) ?_
    exact jr_retX (v := some _) d_F_peek_29 (by first | exact Nat.le_refl _ | exact Nat.zero_le _ | (dsimp only; omega)) (by first | exact Nat.le_refl _ | exact Nat.zero_le _ | (dsimp only; omega)) (by first | with_reducible rfl | (dsimp only; first | (rw [if_pos (by grind)]) | (rw [if_neg (by grind)]); done) | (exfalso; grind)) (by first | with_reducible rfl | (dsimp only; first | (rw [if_pos (by grind)]) | (rw [if_neg (by grind)]); done) | (exfalso; grind)) (by first | with_reducible rfl | (dsimp only; first | (rw [if_pos (by grind)]) | (rw [if_neg (by grind)]); done) | (exfalso; grind)) (by first | with_reducible rfl | (dsimp only; first | (rw [if_pos (by grind)]) | (rw [if_neg (by grind)]); done) | (exfalso; grind))
  · skip
    refine jr_iload_n d_F_peek_4 rfl rfl ?_
    refine jr_aload_n d_F_peek_5 rfl rfl ?_
    refine jr_geti d_F_peek_6 f_F_22 rfl ?_
    refine jr_icmp_ge (tgt := 28) d_F_peek_9 (by decide) (fun c9 => ?_) (fun c9 => ?_)
    · skip
      refine jr_iconst (v := 0) d_F_peek_28 (by decide) ?_
      exact jr_retX (v := some _) d_F_peek_29 (by first | exact Nat.le_refl _ | exact Nat.zero_le _ | (dsimp only; omega)) (by first | exact Nat.le_refl _ | exact Nat.zero_le _ | (dsimp only; omega)) (by first | with_reducible rfl | (dsimp only; first | (rw [if_pos (by grind)]) | (rw [if_neg (by grind)]); done) | (exfalso; grind)) (by first | with_reducible rfl | (dsimp only; first | (rw [if_pos (by grind)]) | (rw [if_neg (by grind)]); done) | (exfalso; grind)) (by first | with_reducible rfl | (dsimp only; first | (rw [if_pos (by grind)]) | (rw [if_neg (by grind)]); done) | (exfalso; grind)) (by first | with_reducible rfl | (dsimp only; first | (rw [if_pos (by grind)]) | (rw [if_neg (by grind)]); done) | (exfalso; grind))
    · skip
      refine jr_aload_n d_F_peek_12 rfl rfl ?_
      refine jr_getr d_F_peek_13 f_F_9 rfl rfl ?_
      first | rw [h0] | skip
      refine jr_aload_n d_F_peek_16 rfl rfl ?_
      refine jr_geti d_F_peek_17 f_F_22 rfl ?_
      refine jr_iconst (v := 1) d_F_peek_20 (by decide) ?_
      refine jr_isub d_F_peek_21 ?_
      refine jr_iload_n d_F_peek_22 rfl rfl ?_
      refine jr_isub d_F_peek_23 ?_
      refine jr_iald d_F_peek_24 rfl rfl rfl (jin (m := 12) (by decide) (by grind) (by grind)) ?_
      refine jr_goto (tgt := 29) d_F_peek_25 (by decide) ?_
      exact jr_retX (v := some _) d_F_peek_29 (by first | exact Nat.le_refl _ | exact Nat.zero_le _ | (dsimp only; omega)) (by first | exact Nat.le_refl _ | exact Nat.zero_le _ | (dsimp only; omega)) (by first | with_reducible rfl | (dsimp only; first | (rw [if_pos (by grind)]) | (rw [if_neg (by grind)]); done) | (exfalso; grind)) (by first | with_reducible rfl | (dsimp only; first | (rw [if_pos (by grind)]) | (rw [if_neg (by grind)]); done) | (exfalso; grind)) (by first | with_reducible rfl | (dsimp only; first | (rw [if_pos (by grind)]) | (rw [if_neg (by grind)]); done) | (exfalso; grind)) (by first | with_reducible rfl | (dsimp only; first | (rw [if_pos (by grind)]) | (rw [if_neg (by grind)]); done) | (exfalso; grind))
theorem ct_F_localAt {I : jc_I} {O : jc_O} {live : jc_L → Prop} {t j c : Nat} {i : Int32} (h1 : O (8, t, j) 1 = some (33, t, j)) (h2 : O (8, t, j) 2 = some (6, c, 0)) (hn : I (6, c, 0) 7 ≤ 8) : jc_Ct y_F_localAt [.inr (some (8, t, j)), .inl i] I O live (some (.inl (if 0 ≤ i ∧ i < I (6, c, 0) 7 then I (33, t, j) i.toNatClampNeg else 0)), I, O, live, 0, 0) := by
  refine jc_Ct.of (by decide +kernel) (Or.inl rfl) (Nat.le_of_ble_eq_true rfl) ?_
  refine jr_aload_n d_F_localAt_0 rfl rfl ?_
  refine jr_getr d_F_localAt_1 f_F_18 rfl rfl ?_
  first | rw [h1] | rw [h2] | skip
  refine jr_ifnull (tgt := 31) d_F_localAt_4 (by decide) (fun c4 => by cases c4) (fun q4 c4 => ?_)
  refine jr_iload_n d_F_localAt_7 rfl rfl ?_
  refine jr_if_lt (tgt := 31) d_F_localAt_8 (by decide) (fun c8 => ?_) (fun c8 => ?_)
  · skip
    refine jr_iconst (v := 0) d_F_localAt_31 (by decide) ?_
    exact jr_retX (v := some _) d_F_localAt_32 (by first | exact Nat.le_refl _ | exact Nat.zero_le _ | (dsimp only; omega)) (by first | exact Nat.le_refl _ | exact Nat.zero_le _ | (dsimp only; omega)) (by first | with_reducible rfl | (dsimp only; first | (rw [if_pos (by grind)]) | (rw [if_neg (by grind)]); done) | (exfalso; grind)) (by first | with_reducible rfl | (dsimp only; first | (rw [if_pos (by grind)]) | (rw [if_neg (by grind)]); done) | (exfalso; grind)) (by first | with_reducible rfl | (dsimp only; first | (rw [if_pos (by grind)]) | (rw [if_neg (by grind)]); done) | (exfalso; grind)) (by first | with_reducible rfl | (dsimp only; first | (rw [if_pos (by grind)]) | (rw [if_neg (by grind)]); done) | (exfalso; grind))
  · skip
    refine jr_iload_n d_F_localAt_11 rfl rfl ?_
    refine jr_aload_n d_F_localAt_12 rfl rfl ?_
    refine jr_getr d_F_localAt_13 f_F_18 rfl rfl ?_
    first | rw [h1] | rw [h2] | skip
    refine jv_V0r d_F_localAt_16 l_F_43 k_C_localCount ⟨Nat.le_of_ble_eq_true rfl, Nat.le_of_ble_eq_true rfl⟩ rfl rfl (Nat.le_of_ble_eq_true rfl) (ct_C_localCount) (by grind) (by grind) ?_
    refine jr_icmp_ge (tgt := 31) d_F_localAt_19 (by decide) (fun c19 => ?_) (fun c19 => ?_)
    · skip
      refine jr_iconst (v := 0) d_F_localAt_31 (by decide) ?_
      exact jr_retX (v := some _) d_F_localAt_32 (by first | exact Nat.le_refl _ | exact Nat.zero_le _ | (dsimp only; omega)) (by first | exact Nat.le_refl _ | exact Nat.zero_le _ | (dsimp only; omega)) (by first | with_reducible rfl | (dsimp only; first | (rw [if_pos (by grind)]) | (rw [if_neg (by grind)]); done) | (exfalso; grind)) (by first | with_reducible rfl | (dsimp only; first | (rw [if_pos (by grind)]) | (rw [if_neg (by grind)]); done) | (exfalso; grind)) (by first | with_reducible rfl | (dsimp only; first | (rw [if_pos (by grind)]) | (rw [if_neg (by grind)]); done) | (exfalso; grind)) (by first | with_reducible rfl | (dsimp only; first | (rw [if_pos (by grind)]) | (rw [if_neg (by grind)]); done) | (exfalso; grind))
    · skip
      refine jr_aload_n d_F_localAt_22 rfl rfl ?_
      refine jr_getr d_F_localAt_23 f_F_15 rfl rfl ?_
      first | rw [h1] | rw [h2] | skip
      refine jr_iload_n d_F_localAt_26 rfl rfl ?_
      refine jr_iald d_F_localAt_27 rfl rfl rfl (jin (m := 8) (by decide) (by grind) (by grind)) ?_
      refine jr_goto (tgt := 32) d_F_localAt_28 (by decide) ?_
      exact jr_retX (v := some _) d_F_localAt_32 (by first | exact Nat.le_refl _ | exact Nat.zero_le _ | (dsimp only; omega)) (by first | exact Nat.le_refl _ | exact Nat.zero_le _ | (dsimp only; omega)) (by first | with_reducible rfl | (dsimp only; first | (rw [if_pos (by grind)]) | (rw [if_neg (by grind)]); done) | (exfalso; grind)) (by first | with_reducible rfl | (dsimp only; first | (rw [if_pos (by grind)]) | (rw [if_neg (by grind)]); done) | (exfalso; grind)) (by first | with_reducible rfl | (dsimp only; first | (rw [if_pos (by grind)]) | (rw [if_neg (by grind)]); done) | (exfalso; grind)) (by first | with_reducible rfl | (dsimp only; first | (rw [if_pos (by grind)]) | (rw [if_neg (by grind)]); done) | (exfalso; grind))
theorem ct_F_setLocal {I : jc_I} {O : jc_O} {live : jc_L → Prop} {t j : Nat} {i x : Int32} (h1 : O (8, t, j) 1 = some (33, t, j)) : jc_Ct y_F_setLocal [.inr (some (8, t, j)), .inl i, .inl x] I O live (none, if 0 ≤ i ∧ i < 8 then jc_up I (33, t, j) i.toNatClampNeg x else I, O, live, 0, 0) := by
  refine jc_Ct.of (by decide +kernel) (rfl) (Nat.le_of_ble_eq_true rfl) ?_
  refine jr_iload_n d_F_setLocal_0 rfl rfl ?_
  refine jr_if_lt (tgt := 17) d_F_setLocal_1 (by decide) (fun c1 => ?_) (fun c1 => ?_)
  · skip
    exact jr_retX (v := none) d_F_setLocal_17 (by first | exact Nat.le_refl _ | exact Nat.zero_le _ | (dsimp only; omega)) (by first | exact Nat.le_refl _ | exact Nat.zero_le _ | (dsimp only; omega)) (by first | with_reducible rfl | (dsimp only; first | (rw [if_pos (by grind)]) | (rw [if_neg (by grind)]); done) | (exfalso; grind)) (by first | with_reducible rfl | (dsimp only; first | (rw [if_pos (by grind)]) | (rw [if_neg (by grind)]); done) | (exfalso; grind)) (by first | with_reducible rfl | (dsimp only; first | (rw [if_pos (by grind)]) | (rw [if_neg (by grind)]); done) | (exfalso; grind)) (by first | with_reducible rfl | (dsimp only; first | (rw [if_pos (by grind)]) | (rw [if_neg (by grind)]); done) | (exfalso; grind))
  · skip
    refine jr_iload_n d_F_setLocal_4 rfl rfl ?_
    refine jr_bipush (v := 8) d_F_setLocal_5 (by decide) ?_
    refine jr_icmp_ge (tgt := 17) d_F_setLocal_7 (by decide) (fun c7 => ?_) (fun c7 => ?_)
    · skip
      exact jr_retX (v := none) d_F_setLocal_17 (by first | exact Nat.le_refl _ | exact Nat.zero_le _ | (dsimp only; omega)) (by first | exact Nat.le_refl _ | exact Nat.zero_le _ | (dsimp only; omega)) (by first | with_reducible rfl | (dsimp only; first | (rw [if_pos (by grind)]) | (rw [if_neg (by grind)]); done) | (exfalso; grind)) (by first | with_reducible rfl | (dsimp only; first | (rw [if_pos (by grind)]) | (rw [if_neg (by grind)]); done) | (exfalso; grind)) (by first | with_reducible rfl | (dsimp only; first | (rw [if_pos (by grind)]) | (rw [if_neg (by grind)]); done) | (exfalso; grind)) (by first | with_reducible rfl | (dsimp only; first | (rw [if_pos (by grind)]) | (rw [if_neg (by grind)]); done) | (exfalso; grind))
    · skip
      refine jr_aload_n d_F_setLocal_10 rfl rfl ?_
      refine jr_getr d_F_setLocal_11 f_F_15 rfl rfl ?_
      first | rw [h1] | skip
      refine jr_iload_n d_F_setLocal_14 rfl rfl ?_
      refine jr_iload_n d_F_setLocal_15 rfl rfl ?_
      refine jr_iast d_F_setLocal_16 rfl rfl rfl (jin (m := 8) (by decide) (by grind) (by grind)) ?_
      exact jr_retX (v := none) d_F_setLocal_17 (by first | exact Nat.le_refl _ | exact Nat.zero_le _ | (dsimp only; omega)) (by first | exact Nat.le_refl _ | exact Nat.zero_le _ | (dsimp only; omega)) (by first | with_reducible rfl | (dsimp only; first | (rw [if_pos (by grind)]) | (rw [if_neg (by grind)]); done) | (exfalso; grind)) (by first | with_reducible rfl | (dsimp only; first | (rw [if_pos (by grind)]) | (rw [if_neg (by grind)]); done) | (exfalso; grind)) (by first | with_reducible rfl | (dsimp only; first | (rw [if_pos (by grind)]) | (rw [if_neg (by grind)]); done) | (exfalso; grind)) (by first | with_reducible rfl | (dsimp only; first | (rw [if_pos (by grind)]) | (rw [if_neg (by grind)]); done) | (exfalso; grind))
