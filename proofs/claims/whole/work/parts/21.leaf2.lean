theorem ct_J_isWithin {I : jc_I} {O : jc_O} {live : jc_L → Prop} {x a b : Int32}  : jc_Ct y_J_isWithin [.inl x, .inl a, .inl b] I O live (some (.inl (if a ≤ x ∧ x ≤ b then 1 else 0)), I, O, live, 0, 0) := by
  refine jc_Ct.of (by decide +kernel) (Or.inr ⟨rfl, by grind⟩) (Nat.le_of_ble_eq_true rfl) ?_
  refine jr_iload_n d_J_isWithin_0 rfl rfl ?_
  refine jr_iload_n d_J_isWithin_1 rfl rfl ?_
  refine jr_icmp_lt (tgt := 14) d_J_isWithin_2 (by decide) (fun c2 => ?_) (fun c2 => ?_)
  · skip
    refine jr_iconst (v := 0) d_J_isWithin_14 (by decide) ?_
    exact jr_retX (v := some _) d_J_isWithin_15 (by first | exact Nat.le_refl _ | exact Nat.zero_le _ | (dsimp only; omega)) (by first | exact Nat.le_refl _ | exact Nat.zero_le _ | (dsimp only; omega)) (by first | with_reducible rfl | (dsimp only; first | (rw [if_pos (by grind)]) | (rw [if_neg (by grind)]); done) | (exfalso; grind)) (by first | with_reducible rfl | (dsimp only; first | (rw [if_pos (by grind)]) | (rw [if_neg (by grind)]); done) | (exfalso; grind)) (by first | with_reducible rfl | (dsimp only; first | (rw [if_pos (by grind)]) | (rw [if_neg (by grind)]); done) | (exfalso; grind)) (by first | with_reducible rfl | (dsimp only; first | (rw [if_pos (by grind)]) | (rw [if_neg (by grind)]); done) | (exfalso; grind))
  · skip
    refine jr_iload_n d_J_isWithin_5 rfl rfl ?_
    refine jr_iload_n d_J_isWithin_6 rfl rfl ?_
    refine jr_icmp_gt (tgt := 14) d_J_isWithin_7 (by decide) (fun c7 => ?_) (fun c7 => ?_)
    · skip
      refine jr_iconst (v := 0) d_J_isWithin_14 (by decide) ?_
      exact jr_retX (v := some _) d_J_isWithin_15 (by first | exact Nat.le_refl _ | exact Nat.zero_le _ | (dsimp only; omega)) (by first | exact Nat.le_refl _ | exact Nat.zero_le _ | (dsimp only; omega)) (by first | with_reducible rfl | (dsimp only; first | (rw [if_pos (by grind)]) | (rw [if_neg (by grind)]); done) | (exfalso; grind)) (by first | with_reducible rfl | (dsimp only; first | (rw [if_pos (by grind)]) | (rw [if_neg (by grind)]); done) | (exfalso; grind)) (by first | with_reducible rfl | (dsimp only; first | (rw [if_pos (by grind)]) | (rw [if_neg (by grind)]); done) | (exfalso; grind)) (by first | with_reducible rfl | (dsimp only; first | (rw [if_pos (by grind)]) | (rw [if_neg (by grind)]); done) | (exfalso; grind))
    · skip
      refine jr_iconst (v := 1) d_J_isWithin_10 (by decide) ?_
      refine jr_goto (tgt := 15) d_J_isWithin_11 (by decide) ?_
      exact jr_retX (v := some _) d_J_isWithin_15 (by first | exact Nat.le_refl _ | exact Nat.zero_le _ | (dsimp only; omega)) (by first | exact Nat.le_refl _ | exact Nat.zero_le _ | (dsimp only; omega)) (by first | with_reducible rfl | (dsimp only; first | (rw [if_pos (by grind)]) | (rw [if_neg (by grind)]); done) | (exfalso; grind)) (by first | with_reducible rfl | (dsimp only; first | (rw [if_pos (by grind)]) | (rw [if_neg (by grind)]); done) | (exfalso; grind)) (by first | with_reducible rfl | (dsimp only; first | (rw [if_pos (by grind)]) | (rw [if_neg (by grind)]); done) | (exfalso; grind)) (by first | with_reducible rfl | (dsimp only; first | (rw [if_pos (by grind)]) | (rw [if_neg (by grind)]); done) | (exfalso; grind))
theorem ct_J_isJump {I : jc_I} {O : jc_O} {live : jc_L → Prop} {x : Int32}  : jc_Ct y_J_isJump [.inl x] I O live (some (.inl (if x = 11 ∨ x = 12 ∨ x = 13 then 1 else 0)), I, O, live, 0, 0) := by
  refine jc_Ct.of (by decide +kernel) (Or.inr ⟨rfl, by grind⟩) (Nat.le_of_ble_eq_true rfl) ?_
  refine jr_iload_n d_J_isJump_0 rfl rfl ?_
  refine jr_bipush (v := 11) d_J_isJump_1 (by decide) ?_
  refine jr_icmp_eq (tgt := 18) d_J_isJump_3 (by decide) (fun c3 => ?_) (fun c3 => ?_)
  · skip
    refine jr_iconst (v := 1) d_J_isJump_18 (by decide) ?_
    refine jr_goto (tgt := 23) d_J_isJump_19 (by decide) ?_
    exact jr_retX (v := some _) d_J_isJump_23 (by first | exact Nat.le_refl _ | exact Nat.zero_le _ | (dsimp only; omega)) (by first | exact Nat.le_refl _ | exact Nat.zero_le _ | (dsimp only; omega)) (by first | with_reducible rfl | (dsimp only; first | (rw [if_pos (by grind)]) | (rw [if_neg (by grind)]); done) | (exfalso; grind)) (by first | with_reducible rfl | (dsimp only; first | (rw [if_pos (by grind)]) | (rw [if_neg (by grind)]); done) | (exfalso; grind)) (by first | with_reducible rfl | (dsimp only; first | (rw [if_pos (by grind)]) | (rw [if_neg (by grind)]); done) | (exfalso; grind)) (by first | with_reducible rfl | (dsimp only; first | (rw [if_pos (by grind)]) | (rw [if_neg (by grind)]); done) | (exfalso; grind))
  · skip
    refine jr_iload_n d_J_isJump_6 rfl rfl ?_
    refine jr_bipush (v := 12) d_J_isJump_7 (by decide) ?_
    refine jr_icmp_eq (tgt := 18) d_J_isJump_9 (by decide) (fun c9 => ?_) (fun c9 => ?_)
    · skip
      refine jr_iconst (v := 1) d_J_isJump_18 (by decide) ?_
      refine jr_goto (tgt := 23) d_J_isJump_19 (by decide) ?_
      exact jr_retX (v := some _) d_J_isJump_23 (by first | exact Nat.le_refl _ | exact Nat.zero_le _ | (dsimp only; omega)) (by first | exact Nat.le_refl _ | exact Nat.zero_le _ | (dsimp only; omega)) (by first | with_reducible rfl | (dsimp only; first | (rw [if_pos (by grind)]) | (rw [if_neg (by grind)]); done) | (exfalso; grind)) (by first | with_reducible rfl | (dsimp only; first | (rw [if_pos (by grind)]) | (rw [if_neg (by grind)]); done) | (exfalso; grind)) (by first | with_reducible rfl | (dsimp only; first | (rw [if_pos (by grind)]) | (rw [if_neg (by grind)]); done) | (exfalso; grind)) (by first | with_reducible rfl | (dsimp only; first | (rw [if_pos (by grind)]) | (rw [if_neg (by grind)]); done) | (exfalso; grind))
    · skip
      refine jr_iload_n d_J_isJump_12 rfl rfl ?_
      refine jr_bipush (v := 13) d_J_isJump_13 (by decide) ?_
      refine jr_icmp_ne (tgt := 22) d_J_isJump_15 (by decide) (fun c15 => ?_) (fun c15 => ?_)
      · skip
        refine jr_iconst (v := 0) d_J_isJump_22 (by decide) ?_
        exact jr_retX (v := some _) d_J_isJump_23 (by first | exact Nat.le_refl _ | exact Nat.zero_le _ | (dsimp only; omega)) (by first | exact Nat.le_refl _ | exact Nat.zero_le _ | (dsimp only; omega)) (by first | with_reducible rfl | (dsimp only; first | (rw [if_pos (by grind)]) | (rw [if_neg (by grind)]); done) | (exfalso; grind)) (by first | with_reducible rfl | (dsimp only; first | (rw [if_pos (by grind)]) | (rw [if_neg (by grind)]); done) | (exfalso; grind)) (by first | with_reducible rfl | (dsimp only; first | (rw [if_pos (by grind)]) | (rw [if_neg (by grind)]); done) | (exfalso; grind)) (by first | with_reducible rfl | (dsimp only; first | (rw [if_pos (by grind)]) | (rw [if_neg (by grind)]); done) | (exfalso; grind))
      · skip
        refine jr_iconst (v := 1) d_J_isJump_18 (by decide) ?_
        refine jr_goto (tgt := 23) d_J_isJump_19 (by decide) ?_
        exact jr_retX (v := some _) d_J_isJump_23 (by first | exact Nat.le_refl _ | exact Nat.zero_le _ | (dsimp only; omega)) (by first | exact Nat.le_refl _ | exact Nat.zero_le _ | (dsimp only; omega)) (by first | with_reducible rfl | (dsimp only; first | (rw [if_pos (by grind)]) | (rw [if_neg (by grind)]); done) | (exfalso; grind)) (by first | with_reducible rfl | (dsimp only; first | (rw [if_pos (by grind)]) | (rw [if_neg (by grind)]); done) | (exfalso; grind)) (by first | with_reducible rfl | (dsimp only; first | (rw [if_pos (by grind)]) | (rw [if_neg (by grind)]); done) | (exfalso; grind)) (by first | with_reducible rfl | (dsimp only; first | (rw [if_pos (by grind)]) | (rw [if_neg (by grind)]); done) | (exfalso; grind))
theorem ct_J_isLast {I : jc_I} {O : jc_O} {live : jc_L → Prop} {x : Int32}  : jc_Ct y_J_isLast [.inl x] I O live (some (.inl (if x = 11 ∨ x = 19 ∨ x = 22 then 1 else 0)), I, O, live, 0, 0) := by
  refine jc_Ct.of (by decide +kernel) (Or.inr ⟨rfl, by grind⟩) (Nat.le_of_ble_eq_true rfl) ?_
  refine jr_iload_n d_J_isLast_0 rfl rfl ?_
  refine jr_bipush (v := 11) d_J_isLast_1 (by decide) ?_
  refine jr_icmp_eq (tgt := 18) d_J_isLast_3 (by decide) (fun c3 => ?_) (fun c3 => ?_)
  · skip
    refine jr_iconst (v := 1) d_J_isLast_18 (by decide) ?_
    refine jr_goto (tgt := 23) d_J_isLast_19 (by decide) ?_
    exact jr_retX (v := some _) d_J_isLast_23 (by first | exact Nat.le_refl _ | exact Nat.zero_le _ | (dsimp only; omega)) (by first | exact Nat.le_refl _ | exact Nat.zero_le _ | (dsimp only; omega)) (by first | with_reducible rfl | (dsimp only; first | (rw [if_pos (by grind)]) | (rw [if_neg (by grind)]); done) | (exfalso; grind)) (by first | with_reducible rfl | (dsimp only; first | (rw [if_pos (by grind)]) | (rw [if_neg (by grind)]); done) | (exfalso; grind)) (by first | with_reducible rfl | (dsimp only; first | (rw [if_pos (by grind)]) | (rw [if_neg (by grind)]); done) | (exfalso; grind)) (by first | with_reducible rfl | (dsimp only; first | (rw [if_pos (by grind)]) | (rw [if_neg (by grind)]); done) | (exfalso; grind))
  · skip
    refine jr_iload_n d_J_isLast_6 rfl rfl ?_
    refine jr_bipush (v := 19) d_J_isLast_7 (by decide) ?_
    refine jr_icmp_eq (tgt := 18) d_J_isLast_9 (by decide) (fun c9 => ?_) (fun c9 => ?_)
    · skip
      refine jr_iconst (v := 1) d_J_isLast_18 (by decide) ?_
      refine jr_goto (tgt := 23) d_J_isLast_19 (by decide) ?_
      exact jr_retX (v := some _) d_J_isLast_23 (by first | exact Nat.le_refl _ | exact Nat.zero_le _ | (dsimp only; omega)) (by first | exact Nat.le_refl _ | exact Nat.zero_le _ | (dsimp only; omega)) (by first | with_reducible rfl | (dsimp only; first | (rw [if_pos (by grind)]) | (rw [if_neg (by grind)]); done) | (exfalso; grind)) (by first | with_reducible rfl | (dsimp only; first | (rw [if_pos (by grind)]) | (rw [if_neg (by grind)]); done) | (exfalso; grind)) (by first | with_reducible rfl | (dsimp only; first | (rw [if_pos (by grind)]) | (rw [if_neg (by grind)]); done) | (exfalso; grind)) (by first | with_reducible rfl | (dsimp only; first | (rw [if_pos (by grind)]) | (rw [if_neg (by grind)]); done) | (exfalso; grind))
    · skip
      refine jr_iload_n d_J_isLast_12 rfl rfl ?_
      refine jr_bipush (v := 22) d_J_isLast_13 (by decide) ?_
      refine jr_icmp_ne (tgt := 22) d_J_isLast_15 (by decide) (fun c15 => ?_) (fun c15 => ?_)
      · skip
        refine jr_iconst (v := 0) d_J_isLast_22 (by decide) ?_
        exact jr_retX (v := some _) d_J_isLast_23 (by first | exact Nat.le_refl _ | exact Nat.zero_le _ | (dsimp only; omega)) (by first | exact Nat.le_refl _ | exact Nat.zero_le _ | (dsimp only; omega)) (by first | with_reducible rfl | (dsimp only; first | (rw [if_pos (by grind)]) | (rw [if_neg (by grind)]); done) | (exfalso; grind)) (by first | with_reducible rfl | (dsimp only; first | (rw [if_pos (by grind)]) | (rw [if_neg (by grind)]); done) | (exfalso; grind)) (by first | with_reducible rfl | (dsimp only; first | (rw [if_pos (by grind)]) | (rw [if_neg (by grind)]); done) | (exfalso; grind)) (by first | with_reducible rfl | (dsimp only; first | (rw [if_pos (by grind)]) | (rw [if_neg (by grind)]); done) | (exfalso; grind))
      · skip
        refine jr_iconst (v := 1) d_J_isLast_18 (by decide) ?_
        refine jr_goto (tgt := 23) d_J_isLast_19 (by decide) ?_
        exact jr_retX (v := some _) d_J_isLast_23 (by first | exact Nat.le_refl _ | exact Nat.zero_le _ | (dsimp only; omega)) (by first | exact Nat.le_refl _ | exact Nat.zero_le _ | (dsimp only; omega)) (by first | with_reducible rfl | (dsimp only; first | (rw [if_pos (by grind)]) | (rw [if_neg (by grind)]); done) | (exfalso; grind)) (by first | with_reducible rfl | (dsimp only; first | (rw [if_pos (by grind)]) | (rw [if_neg (by grind)]); done) | (exfalso; grind)) (by first | with_reducible rfl | (dsimp only; first | (rw [if_pos (by grind)]) | (rw [if_neg (by grind)]); done) | (exfalso; grind)) (by first | with_reducible rfl | (dsimp only; first | (rw [if_pos (by grind)]) | (rw [if_neg (by grind)]); done) | (exfalso; grind))
theorem ct_J_fits {I : jc_I} {O : jc_O} {live : jc_L → Prop} {x a : Int32}  : jc_Ct y_J_fits [.inl x, .inl a] I O live (some (.inl (if x = 14 ∨ x = 15 then (if 0 ≤ a ∧ a ≤ 9 then 1 else 0) else if x = 16 ∨ x = 17 then (if 0 ≤ a ∧ a ≤ 3 then 1 else 0) else if x = 23 ∨ x = 24 then (if 4 ≤ a ∧ a ≤ 7 then 1 else 0) else if x = 25 ∨ x = 26 then (if 0 ≤ a ∧ a ≤ 3 then 1 else 0) else (if 0 ≤ x ∧ x ≤ 26 then 1 else 0))), I, O, live, 0, 0) := by
  refine jc_Ct.of (by decide +kernel) (Or.inr ⟨rfl, by grind⟩) (Nat.le_of_ble_eq_true rfl) ?_
  refine jr_iload_n d_J_fits_0 rfl rfl ?_
  refine jr_name (fun x1 e1 => ?_)
  by_cases g1_14 : x1 = 14 ∨ x1 = 15
  · refine jr_tableIn (tgt := 68) d_J_fits_1 (by rcases g1_14 with rfl | rfl <;> decide) (by rcases g1_14 with rfl | rfl <;> decide) (by rcases g1_14 with rfl | rfl <;> rfl) (by decide) ?_
    refine jr_iload_n d_J_fits_68 rfl rfl ?_
    refine jr_iconst (v := 0) d_J_fits_69 (by decide) ?_
    refine jr_bipush (v := 9) d_J_fits_70 (by decide) ?_
    refine jv_S3r d_J_fits_72 l_J_41 k_J_isWithin ⟨Nat.le_of_ble_eq_true rfl, Nat.le_of_ble_eq_true rfl⟩ (Nat.le_of_ble_eq_true rfl) (ct_J_isWithin) (by grind) (by grind) ?_
    refine jr_goto (tgt := 113) d_J_fits_75 (by decide) ?_
    exact jr_retX (v := some _) d_J_fits_113 (by first | exact Nat.le_refl _ | exact Nat.zero_le _ | (dsimp only; omega)) (by first | exact Nat.le_refl _ | exact Nat.zero_le _ | (dsimp only; omega)) (by first | with_reducible rfl | (dsimp only; grind; done) | (exfalso; grind)) (by first | with_reducible rfl | (dsimp only; grind; done) | (exfalso; grind)) (by first | with_reducible rfl | (dsimp only; grind; done) | (exfalso; grind)) (by first | with_reducible rfl | (dsimp only; grind; done) | (exfalso; grind))
  · skip
    by_cases g1_16 : x1 = 16 ∨ x1 = 17
    · refine jr_tableIn (tgt := 78) d_J_fits_1 (by rcases g1_16 with rfl | rfl <;> decide) (by rcases g1_16 with rfl | rfl <;> decide) (by rcases g1_16 with rfl | rfl <;> rfl) (by decide) ?_
      refine jr_iload_n d_J_fits_78 rfl rfl ?_
      refine jr_iconst (v := 0) d_J_fits_79 (by decide) ?_
      refine jr_iconst (v := 3) d_J_fits_80 (by decide) ?_
      refine jv_S3r d_J_fits_81 l_J_41 k_J_isWithin ⟨Nat.le_of_ble_eq_true rfl, Nat.le_of_ble_eq_true rfl⟩ (Nat.le_of_ble_eq_true rfl) (ct_J_isWithin) (by grind) (by grind) ?_
      refine jr_goto (tgt := 113) d_J_fits_84 (by decide) ?_
      exact jr_retX (v := some _) d_J_fits_113 (by first | exact Nat.le_refl _ | exact Nat.zero_le _ | (dsimp only; omega)) (by first | exact Nat.le_refl _ | exact Nat.zero_le _ | (dsimp only; omega)) (by first | with_reducible rfl | (dsimp only; grind; done) | (exfalso; grind)) (by first | with_reducible rfl | (dsimp only; grind; done) | (exfalso; grind)) (by first | with_reducible rfl | (dsimp only; grind; done) | (exfalso; grind)) (by first | with_reducible rfl | (dsimp only; grind; done) | (exfalso; grind))
    · skip
      by_cases g1_23 : x1 = 23 ∨ x1 = 24
      · refine jr_tableIn (tgt := 87) d_J_fits_1 (by rcases g1_23 with rfl | rfl <;> decide) (by rcases g1_23 with rfl | rfl <;> decide) (by rcases g1_23 with rfl | rfl <;> rfl) (by decide) ?_
        refine jr_iload_n d_J_fits_87 rfl rfl ?_
        refine jr_iconst (v := 4) d_J_fits_88 (by decide) ?_
        refine jr_bipush (v := 7) d_J_fits_89 (by decide) ?_
        refine jv_S3r d_J_fits_91 l_J_41 k_J_isWithin ⟨Nat.le_of_ble_eq_true rfl, Nat.le_of_ble_eq_true rfl⟩ (Nat.le_of_ble_eq_true rfl) (ct_J_isWithin) (by grind) (by grind) ?_
        refine jr_goto (tgt := 113) d_J_fits_94 (by decide) ?_
        exact jr_retX (v := some _) d_J_fits_113 (by first | exact Nat.le_refl _ | exact Nat.zero_le _ | (dsimp only; omega)) (by first | exact Nat.le_refl _ | exact Nat.zero_le _ | (dsimp only; omega)) (by first | with_reducible rfl | (dsimp only; grind; done) | (exfalso; grind)) (by first | with_reducible rfl | (dsimp only; grind; done) | (exfalso; grind)) (by first | with_reducible rfl | (dsimp only; grind; done) | (exfalso; grind)) (by first | with_reducible rfl | (dsimp only; grind; done) | (exfalso; grind))
      · skip
        by_cases g1_25 : x1 = 25 ∨ x1 = 26
        · refine jr_tableIn (tgt := 97) d_J_fits_1 (by rcases g1_25 with rfl | rfl <;> decide) (by rcases g1_25 with rfl | rfl <;> decide) (by rcases g1_25 with rfl | rfl <;> rfl) (by decide) ?_
          refine jr_iload_n d_J_fits_97 rfl rfl ?_
          refine jr_iconst (v := 0) d_J_fits_98 (by decide) ?_
          refine jr_iconst (v := 3) d_J_fits_99 (by decide) ?_
          refine jv_S3r d_J_fits_100 l_J_41 k_J_isWithin ⟨Nat.le_of_ble_eq_true rfl, Nat.le_of_ble_eq_true rfl⟩ (Nat.le_of_ble_eq_true rfl) (ct_J_isWithin) (by grind) (by grind) ?_
          refine jr_goto (tgt := 113) d_J_fits_103 (by decide) ?_
          exact jr_retX (v := some _) d_J_fits_113 (by first | exact Nat.le_refl _ | exact Nat.zero_le _ | (dsimp only; omega)) (by first | exact Nat.le_refl _ | exact Nat.zero_le _ | (dsimp only; omega)) (by first | with_reducible rfl | (dsimp only; grind; done) | (exfalso; grind)) (by first | with_reducible rfl | (dsimp only; grind; done) | (exfalso; grind)) (by first | with_reducible rfl | (dsimp only; grind; done) | (exfalso; grind)) (by first | with_reducible rfl | (dsimp only; grind; done) | (exfalso; grind))
        · skip
          refine jr_tableE (tgt := 106) d_J_fits_1 (by rcases j_14_26 x1 with h | h | rfl | rfl | rfl | rfl | rfl | rfl | rfl | rfl | rfl | rfl | rfl | rfl | rfl <;> first | exact Or.inl ⟨Or.inl (Int32.lt_iff_toInt_lt.mp h), by decide⟩ | exact Or.inl ⟨Or.inr (Int32.lt_iff_toInt_lt.mp h), by decide⟩ | exact Or.inr ⟨by decide, by decide, _, rfl, by decide⟩ | (exfalso; grind)) ?_
          refine jr_iload_n d_J_fits_106 rfl rfl ?_
          refine jr_iconst (v := 0) d_J_fits_107 (by decide) ?_
          refine jr_bipush (v := 26) d_J_fits_108 (by decide) ?_
          refine jv_S3r d_J_fits_110 l_J_41 k_J_isWithin ⟨Nat.le_of_ble_eq_true rfl, Nat.le_of_ble_eq_true rfl⟩ (Nat.le_of_ble_eq_true rfl) (ct_J_isWithin) (by grind) (by grind) ?_
          exact jr_retX (v := some _) d_J_fits_113 (by first | exact Nat.le_refl _ | exact Nat.zero_le _ | (dsimp only; omega)) (by first | exact Nat.le_refl _ | exact Nat.zero_le _ | (dsimp only; omega)) (by first | with_reducible rfl | (dsimp only; grind; done) | (exfalso; grind)) (by first | with_reducible rfl | (dsimp only; grind; done) | (exfalso; grind)) (by first | with_reducible rfl | (dsimp only; grind; done) | (exfalso; grind)) (by first | with_reducible rfl | (dsimp only; grind; done) | (exfalso; grind))
theorem ct_F_pop {I : jc_I} {O : jc_O} {live : jc_L → Prop} {t j : Nat} (h0 : O (8, t, j) 0 = some (32, t, j)) (h1 : I (8, t, j) 3 ≤ 12) : jc_Ct y_F_pop [.inr (some (8, t, j))] I O live (some (.inl (if 0 < I (8, t, j) 3 then I (32, t, j) (I (8, t, j) 3 - 1).toNatClampNeg else 0)), jc_up I (8, t, j) 3 (if I (8, t, j) 3 - 1 < 0 then 0 else I (8, t, j) 3 - 1), O, live, 0, 0) := by
  refine jc_Ct.of (by decide +kernel) (Or.inl rfl) (Nat.le_of_ble_eq_true rfl) ?_
  refine jr_aload_n d_F_pop_0 rfl rfl ?_
  refine jr_iconst (v := 0) d_F_pop_1 (by decide) ?_
  refine jv_V1r d_F_pop_2 l_F_29 k_F_peek ⟨Nat.le_of_ble_eq_true rfl, Nat.le_of_ble_eq_true rfl⟩ rfl rfl (Nat.le_of_ble_eq_true rfl) (ct_F_peek h0 h1) (by grind) (by grind) ?_
  refine jr_istore_n d_F_pop_5 rfl (Nat.le_of_ble_eq_true rfl) ?_
  refine jr_aload_n d_F_pop_6 rfl rfl ?_
  refine jr_aload_n d_F_pop_7 rfl rfl ?_
  refine jr_geti d_F_pop_8 f_F_22 rfl ?_
  refine jr_iconst (v := 1) d_F_pop_11 (by decide) ?_
  refine jr_isub d_F_pop_12 ?_
  refine jr_iconst (v := 0) d_F_pop_13 (by decide) ?_
  refine jr_mmax d_F_pop_14 l_F_33 (Nat.le_of_ble_eq_true rfl) (Nat.le_of_ble_eq_true rfl) (by grind) (by grind) ?_
  refine jr_puti d_F_pop_17 f_F_22 (Or.inl rfl) rfl ?_
  refine jr_iload_n d_F_pop_20 rfl rfl ?_
  exact jr_retX (v := some _) d_F_pop_21 (by first | exact Nat.le_refl _ | exact Nat.zero_le _ | (dsimp only; omega)) (by first | exact Nat.le_refl _ | exact Nat.zero_le _ | (dsimp only; omega)) (by first | with_reducible rfl | (dsimp only; simp; done) | (exfalso; grind)) (by first | with_reducible rfl | (dsimp only; simp; done) | (exfalso; grind)) (by first | with_reducible rfl | (dsimp only; simp; done) | (exfalso; grind)) (by first | with_reducible rfl | (dsimp only; simp; done) | (exfalso; grind))
theorem ct_F_holdOnly {I : jc_I} {O : jc_O} {live : jc_L → Prop} {t j : Nat} {x : Int32} (h0 : O (8, t, j) 0 = some (32, t, j)) : jc_Ct y_F_holdOnly [.inr (some (8, t, j)), .inl x] I O live (none, jc_up (jc_up (jc_up I (8, t, j) 3 0) (32, t, j) 0 x) (8, t, j) 3 1, O, live, 0, 0) := by
  refine jc_Ct.of (by decide +kernel) (rfl) (Nat.le_of_ble_eq_true rfl) ?_
  refine jr_aload_n d_F_holdOnly_0 rfl rfl ?_
  refine jr_iconst (v := 0) d_F_holdOnly_1 (by decide) ?_
  refine jr_puti d_F_holdOnly_2 f_F_22 (Or.inl rfl) rfl ?_
  refine jr_aload_n d_F_holdOnly_5 rfl rfl ?_
  refine jr_iload_n d_F_holdOnly_6 rfl rfl ?_
  refine jv_V1v d_F_holdOnly_7 l_F_39 k_F_push ⟨Nat.le_of_ble_eq_true rfl, Nat.le_of_ble_eq_true rfl⟩ rfl rfl (Nat.le_of_ble_eq_true rfl) (ct_F_push h0) (by grind) (by grind) ?_
  exact jr_retX (v := none) d_F_holdOnly_10 (by first | exact Nat.le_refl _ | exact Nat.zero_le _ | (dsimp only; omega)) (by first | exact Nat.le_refl _ | exact Nat.zero_le _ | (dsimp only; omega)) (by first | with_reducible rfl | (dsimp only; simp only [jc_up_s]; rw [if_pos (by decide)]; rfl; done) | (exfalso; grind)) (by first | with_reducible rfl | (dsimp only; simp only [jc_up_s]; rw [if_pos (by decide)]; rfl; done) | (exfalso; grind)) (by first | with_reducible rfl | (dsimp only; simp only [jc_up_s]; rw [if_pos (by decide)]; rfl; done) | (exfalso; grind)) (by first | with_reducible rfl | (dsimp only; simp only [jc_up_s]; rw [if_pos (by decide)]; rfl; done) | (exfalso; grind))
theorem ct_S_number {I : jc_I} {O : jc_O} {live : jc_L → Prop} {t : Nat}  : jc_Ct y_S_number [.inr (some (9, t, 0))] I O live (some (.inl (I (9, t, 0) 0)), I, O, live, 0, 0) := by
  refine jc_Ct.of (by decide +kernel) (Or.inl rfl) (Nat.le_of_ble_eq_true rfl) ?_
  refine jr_aload_n d_S_number_0 rfl rfl ?_
  refine jr_geti d_S_number_1 f_S_17 rfl ?_
  exact jr_retX (v := some _) d_S_number_4 (by first | exact Nat.le_refl _ | exact Nat.zero_le _ | (dsimp only; omega)) (by first | exact Nat.le_refl _ | exact Nat.zero_le _ | (dsimp only; omega)) (by first | with_reducible rfl | (dsimp only; rfl; done) | (exfalso; grind)) (by first | with_reducible rfl | (dsimp only; rfl; done) | (exfalso; grind)) (by first | with_reducible rfl | (dsimp only; rfl; done) | (exfalso; grind)) (by first | with_reducible rfl | (dsimp only; rfl; done) | (exfalso; grind))
theorem ct_S_frameCount {I : jc_I} {O : jc_O} {live : jc_L → Prop} {t : Nat}  : jc_Ct y_S_frameCount [.inr (some (9, t, 0))] I O live (some (.inl (I (9, t, 0) 2)), I, O, live, 0, 0) := by
  refine jc_Ct.of (by decide +kernel) (Or.inl rfl) (Nat.le_of_ble_eq_true rfl) ?_
  refine jr_aload_n d_S_frameCount_0 rfl rfl ?_
  refine jr_geti d_S_frameCount_1 f_S_22 rfl ?_
  exact jr_retX (v := some _) d_S_frameCount_4 (by first | exact Nat.le_refl _ | exact Nat.zero_le _ | (dsimp only; omega)) (by first | exact Nat.le_refl _ | exact Nat.zero_le _ | (dsimp only; omega)) (by first | with_reducible rfl | (dsimp only; rfl; done) | (exfalso; grind)) (by first | with_reducible rfl | (dsimp only; rfl; done) | (exfalso; grind)) (by first | with_reducible rfl | (dsimp only; rfl; done) | (exfalso; grind)) (by first | with_reducible rfl | (dsimp only; rfl; done) | (exfalso; grind))
theorem ct_S_state {I : jc_I} {O : jc_O} {live : jc_L → Prop} {t : Nat}  : jc_Ct y_S_state [.inr (some (9, t, 0))] I O live (some (.inl (I (9, t, 0) 4)), I, O, live, 0, 0) := by
  refine jc_Ct.of (by decide +kernel) (Or.inl rfl) (Nat.le_of_ble_eq_true rfl) ?_
  refine jr_aload_n d_S_state_0 rfl rfl ?_
  refine jr_geti d_S_state_1 f_S_28 rfl ?_
  exact jr_retX (v := some _) d_S_state_4 (by first | exact Nat.le_refl _ | exact Nat.zero_le _ | (dsimp only; omega)) (by first | exact Nat.le_refl _ | exact Nat.zero_le _ | (dsimp only; omega)) (by first | with_reducible rfl | (dsimp only; rfl; done) | (exfalso; grind)) (by first | with_reducible rfl | (dsimp only; rfl; done) | (exfalso; grind)) (by first | with_reducible rfl | (dsimp only; rfl; done) | (exfalso; grind)) (by first | with_reducible rfl | (dsimp only; rfl; done) | (exfalso; grind))
theorem ct_S_isStopped {I : jc_I} {O : jc_O} {live : jc_L → Prop} {t : Nat} (hb : I (9, t, 0) 6 = 0 ∨ I (9, t, 0) 6 = 1) : jc_Ct y_S_isStopped [.inr (some (9, t, 0))] I O live (some (.inl (I (9, t, 0) 6)), I, O, live, 0, 0) := by
  refine jc_Ct.of (by decide +kernel) (Or.inr ⟨rfl, hb⟩) (Nat.le_of_ble_eq_true rfl) ?_
  refine jr_aload_n d_S_isStopped_0 rfl rfl ?_
  refine jr_getz d_S_isStopped_1 f_S_34 rfl ?_
  exact jr_retX (v := some _) d_S_isStopped_4 (by first | exact Nat.le_refl _ | exact Nat.zero_le _ | (dsimp only; omega)) (by first | exact Nat.le_refl _ | exact Nat.zero_le _ | (dsimp only; omega)) (by first | with_reducible rfl | (dsimp only; rfl; done) | (exfalso; grind)) (by first | with_reducible rfl | (dsimp only; rfl; done) | (exfalso; grind)) (by first | with_reducible rfl | (dsimp only; rfl; done) | (exfalso; grind)) (by first | with_reducible rfl | (dsimp only; rfl; done) | (exfalso; grind))
theorem ct_S_hasAllFrames {I : jc_I} {O : jc_O} {live : jc_L → Prop} {t : Nat}  : jc_Ct y_S_hasAllFrames [.inr (some (9, t, 0))] I O live (some (.inl (if 30 ≤ I (9, t, 0) 2 then 1 else 0)), I, O, live, 0, 0) := by
  refine jc_Ct.of (by decide +kernel) (Or.inr ⟨rfl, by grind⟩) (Nat.le_of_ble_eq_true rfl) ?_
  refine jr_aload_n d_S_hasAllFrames_0 rfl rfl ?_
  refine jr_geti d_S_hasAllFrames_1 f_S_22 rfl ?_
  refine jr_bipush (v := 30) d_S_hasAllFrames_4 (by decide) ?_
  refine jr_icmp_lt (tgt := 13) d_S_hasAllFrames_6 (by decide) (fun c6 => ?_) (fun c6 => ?_)
  · skip
    refine jr_iconst (v := 0) d_S_hasAllFrames_13 (by decide) ?_
    exact jr_retX (v := some _) d_S_hasAllFrames_14 (by first | exact Nat.le_refl _ | exact Nat.zero_le _ | (dsimp only; omega)) (by first | exact Nat.le_refl _ | exact Nat.zero_le _ | (dsimp only; omega)) (by first | with_reducible rfl | (dsimp only; first | (rw [if_pos (by grind)]) | (rw [if_neg (by grind)]); done) | (exfalso; grind)) (by first | with_reducible rfl | (dsimp only; first | (rw [if_pos (by grind)]) | (rw [if_neg (by grind)]); done) | (exfalso; grind)) (by first | with_reducible rfl | (dsimp only; first | (rw [if_pos (by grind)]) | (rw [if_neg (by grind)]); done) | (exfalso; grind)) (by first | with_reducible rfl | (dsimp only; first | (rw [if_pos (by grind)]) | (rw [if_neg (by grind)]); done) | (exfalso; grind))
  · skip
    refine jr_iconst (v := 1) d_S_hasAllFrames_9 (by decide) ?_
    refine jr_goto (tgt := 14) d_S_hasAllFrames_10 (by decide) ?_
    exact jr_retX (v := some _) d_S_hasAllFrames_14 (by first | exact Nat.le_refl _ | exact Nat.zero_le _ | (dsimp only; omega)) (by first | exact Nat.le_refl _ | exact Nat.zero_le _ | (dsimp only; omega)) (by first | with_reducible rfl | (dsimp only; first | (rw [if_pos (by grind)]) | (rw [if_neg (by grind)]); done) | (exfalso; grind)) (by first | with_reducible rfl | (dsimp only; first | (rw [if_pos (by grind)]) | (rw [if_neg (by grind)]); done) | (exfalso; grind)) (by first | with_reducible rfl | (dsimp only; first | (rw [if_pos (by grind)]) | (rw [if_neg (by grind)]); done) | (exfalso; grind)) (by first | with_reducible rfl | (dsimp only; first | (rw [if_pos (by grind)]) | (rw [if_neg (by grind)]); done) | (exfalso; grind))
theorem ct_S_endFrame {I : jc_I} {O : jc_O} {live : jc_L → Prop} {t : Nat}  : jc_Ct y_S_endFrame [.inr (some (9, t, 0))] I O live (none, jc_up I (9, t, 0) 2 (if I (9, t, 0) 2 - 1 < 0 then 0 else I (9, t, 0) 2 - 1), O, live, 0, 0) := by
  refine jc_Ct.of (by decide +kernel) (rfl) (Nat.le_of_ble_eq_true rfl) ?_
  refine jr_aload_n d_S_endFrame_0 rfl rfl ?_
  refine jr_aload_n d_S_endFrame_1 rfl rfl ?_
  refine jr_geti d_S_endFrame_2 f_S_22 rfl ?_
  refine jr_iconst (v := 1) d_S_endFrame_5 (by decide) ?_
  refine jr_isub d_S_endFrame_6 ?_
  refine jr_iconst (v := 0) d_S_endFrame_7 (by decide) ?_
  refine jr_mmax d_S_endFrame_8 l_S_46 (Nat.le_of_ble_eq_true rfl) (Nat.le_of_ble_eq_true rfl) (by grind) (by grind) ?_
  refine jr_puti d_S_endFrame_11 f_S_22 (Or.inl rfl) rfl ?_
  exact jr_retX (v := none) d_S_endFrame_14 (by first | exact Nat.le_refl _ | exact Nat.zero_le _ | (dsimp only; omega)) (by first | exact Nat.le_refl _ | exact Nat.zero_le _ | (dsimp only; omega)) (by first | with_reducible rfl | (dsimp only; rfl; done) | (exfalso; grind)) (by first | with_reducible rfl | (dsimp only; rfl; done) | (exfalso; grind)) (by first | with_reducible rfl | (dsimp only; rfl; done) | (exfalso; grind)) (by first | with_reducible rfl | (dsimp only; rfl; done) | (exfalso; grind))
theorem ct_S_top {I : jc_I} {O : jc_O} {live : jc_L → Prop} {t : Nat} (h1 : O (9, t, 0) 1 = some (34, t, 0)) : jc_Ct y_S_top [.inr (some (9, t, 0))] I O live (some (.inr (if 1 ≤ I (9, t, 0) 2 ∧ I (9, t, 0) 2 ≤ 30 then O (34, t, 0) (I (9, t, 0) 2 - 1).toNatClampNeg else none)), I, O, live, 0, 0) := by
  refine jc_Ct.of (by decide +kernel) (Or.inl ⟨_, rfl⟩) (Nat.le_of_ble_eq_true rfl) ?_
  refine jr_aload_n d_S_top_0 rfl rfl ?_
  refine jr_geti d_S_top_1 f_S_22 rfl ?_
  refine jr_iconst (v := 1) d_S_top_4 (by decide) ?_
  refine jr_icmp_lt (tgt := 31) d_S_top_5 (by decide) (fun c5 => ?_) (fun c5 => ?_)
  · skip
    refine jr_null d_S_top_31 ?_
    exact jr_retX (v := some _) d_S_top_32 (by first | exact Nat.le_refl _ | exact Nat.zero_le _ | (dsimp only; omega)) (by first | exact Nat.le_refl _ | exact Nat.zero_le _ | (dsimp only; omega)) (by first | with_reducible rfl | (dsimp only; first | (rw [if_pos (by grind)]) | (rw [if_neg (by grind)]); done) | (exfalso; grind)) (by first | with_reducible rfl | (dsimp only; first | (rw [if_pos (by grind)]) | (rw [if_neg (by grind)]); done) | (exfalso; grind)) (by first | with_reducible rfl | (dsimp only; first | (rw [if_pos (by grind)]) | (rw [if_neg (by grind)]); done) | (exfalso; grind)) (by first | with_reducible rfl | (dsimp only; first | (rw [if_pos (by grind)]) | (rw [if_neg (by grind)]); done) | (exfalso; grind))
  · skip
    refine jr_aload_n d_S_top_8 rfl rfl ?_
    refine jr_geti d_S_top_9 f_S_22 rfl ?_
    refine jr_bipush (v := 30) d_S_top_12 (by decide) ?_
    refine jr_icmp_gt (tgt := 31) d_S_top_14 (by decide) (fun c14 => ?_) (fun c14 => ?_)
    · skip
      refine jr_null d_S_top_31 ?_
      exact jr_retX (v := some _) d_S_top_32 (by first | exact Nat.le_refl _ | exact Nat.zero_le _ | (dsimp only; omega)) (by first | exact Nat.le_refl _ | exact Nat.zero_le _ | (dsimp only; omega)) (by first | with_reducible rfl | (dsimp only; first | (rw [if_pos (by grind)]) | (rw [if_neg (by grind)]); done) | (exfalso; grind)) (by first | with_reducible rfl | (dsimp only; first | (rw [if_pos (by grind)]) | (rw [if_neg (by grind)]); done) | (exfalso; grind)) (by first | with_reducible rfl | (dsimp only; first | (rw [if_pos (by grind)]) | (rw [if_neg (by grind)]); done) | (exfalso; grind)) (by first | with_reducible rfl | (dsimp only; first | (rw [if_pos (by grind)]) | (rw [if_neg (by grind)]); done) | (exfalso; grind))
    · skip
      refine jr_aload_n d_S_top_17 rfl rfl ?_
      refine jr_getr d_S_top_18 f_S_11 rfl rfl ?_
      first | rw [h1] | skip
      refine jr_aload_n d_S_top_21 rfl rfl ?_
      refine jr_geti d_S_top_22 f_S_22 rfl ?_
      refine jr_iconst (v := 1) d_S_top_25 (by decide) ?_
      refine jr_isub d_S_top_26 ?_
      refine jr_aald d_S_top_27 rfl rfl rfl (jin (m := 30) (by decide) (by grind) (by grind)) ?_
      first | rw [h1] | skip
      refine jr_goto (tgt := 32) d_S_top_28 (by decide) ?_
      exact jr_retX (v := some _) d_S_top_32 (by first | exact Nat.le_refl _ | exact Nat.zero_le _ | (dsimp only; omega)) (by first | exact Nat.le_refl _ | exact Nat.zero_le _ | (dsimp only; omega)) (by first | with_reducible rfl | (dsimp only; first | (rw [if_pos (by grind)]) | (rw [if_neg (by grind)]); done) | (exfalso; grind)) (by first | with_reducible rfl | (dsimp only; first | (rw [if_pos (by grind)]) | (rw [if_neg (by grind)]); done) | (exfalso; grind)) (by first | with_reducible rfl | (dsimp only; first | (rw [if_pos (by grind)]) | (rw [if_neg (by grind)]); done) | (exfalso; grind)) (by first | with_reducible rfl | (dsimp only; first | (rw [if_pos (by grind)]) | (rw [if_neg (by grind)]); done) | (exfalso; grind))
theorem ct_S_hasEnded {I : jc_I} {O : jc_O} {live : jc_L → Prop} {t : Nat}  : jc_Ct y_S_hasEnded [.inr (some (9, t, 0))] I O live (some (.inl (if I (9, t, 0) 4 = 1 ∨ I (9, t, 0) 4 = 2 then 1 else 0)), I, O, live, 0, 0) := by
  refine jc_Ct.of (by decide +kernel) (Or.inr ⟨rfl, by grind⟩) (Nat.le_of_ble_eq_true rfl) ?_
  refine jr_aload_n d_S_hasEnded_0 rfl rfl ?_
  refine jr_geti d_S_hasEnded_1 f_S_28 rfl ?_
  refine jr_iconst (v := 1) d_S_hasEnded_4 (by decide) ?_
  refine jr_icmp_eq (tgt := 16) d_S_hasEnded_5 (by decide) (fun c5 => ?_) (fun c5 => ?_)
  · skip
    refine jr_iconst (v := 1) d_S_hasEnded_16 (by decide) ?_
    refine jr_goto (tgt := 21) d_S_hasEnded_17 (by decide) ?_
    exact jr_retX (v := some _) d_S_hasEnded_21 (by first | exact Nat.le_refl _ | exact Nat.zero_le _ | (dsimp only; omega)) (by first | exact Nat.le_refl _ | exact Nat.zero_le _ | (dsimp only; omega)) (by first | with_reducible rfl | (dsimp only; first | (rw [if_pos (by grind)]) | (rw [if_neg (by grind)]); done) | (exfalso; grind)) (by first | with_reducible rfl | (dsimp only; first | (rw [if_pos (by grind)]) | (rw [if_neg (by grind)]); done) | (exfalso; grind)) (by first | with_reducible rfl | (dsimp only; first | (rw [if_pos (by grind)]) | (rw [if_neg (by grind)]); done) | (exfalso; grind)) (by first | with_reducible rfl | (dsimp only; first | (rw [if_pos (by grind)]) | (rw [if_neg (by grind)]); done) | (exfalso; grind))
  · skip
    refine jr_aload_n d_S_hasEnded_8 rfl rfl ?_
    refine jr_geti d_S_hasEnded_9 f_S_28 rfl ?_
    refine jr_iconst (v := 2) d_S_hasEnded_12 (by decide) ?_
    refine jr_icmp_ne (tgt := 20) d_S_hasEnded_13 (by decide) (fun c13 => ?_) (fun c13 => ?_)
    · skip
      refine jr_iconst (v := 0) d_S_hasEnded_20 (by decide) ?_
      exact jr_retX (v := some _) d_S_hasEnded_21 (by first | exact Nat.le_refl _ | exact Nat.zero_le _ | (dsimp only; omega)) (by first | exact Nat.le_refl _ | exact Nat.zero_le _ | (dsimp only; omega)) (by first | with_reducible rfl | (dsimp only; first | (rw [if_pos (by grind)]) | (rw [if_neg (by grind)]); done) | (exfalso; grind)) (by first | with_reducible rfl | (dsimp only; first | (rw [if_pos (by grind)]) | (rw [if_neg (by grind)]); done) | (exfalso; grind)) (by first | with_reducible rfl | (dsimp only; first | (rw [if_pos (by grind)]) | (rw [if_neg (by grind)]); done) | (exfalso; grind)) (by first | with_reducible rfl | (dsimp only; first | (rw [if_pos (by grind)]) | (rw [if_neg (by grind)]); done) | (exfalso; grind))
    · skip
      refine jr_iconst (v := 1) d_S_hasEnded_16 (by decide) ?_
      refine jr_goto (tgt := 21) d_S_hasEnded_17 (by decide) ?_
      exact jr_retX (v := some _) d_S_hasEnded_21 (by first | exact Nat.le_refl _ | exact Nat.zero_le _ | (dsimp only; omega)) (by first | exact Nat.le_refl _ | exact Nat.zero_le _ | (dsimp only; omega)) (by first | with_reducible rfl | (dsimp only; first | (rw [if_pos (by grind)]) | (rw [if_neg (by grind)]); done) | (exfalso; grind)) (by first | with_reducible rfl | (dsimp only; first | (rw [if_pos (by grind)]) | (rw [if_neg (by grind)]); done) | (exfalso; grind)) (by first | with_reducible rfl | (dsimp only; first | (rw [if_pos (by grind)]) | (rw [if_neg (by grind)]); done) | (exfalso; grind)) (by first | with_reducible rfl | (dsimp only; first | (rw [if_pos (by grind)]) | (rw [if_neg (by grind)]); done) | (exfalso; grind))
theorem ct_S_end {I : jc_I} {O : jc_O} {live : jc_L → Prop} {t : Nat} {x z : Int32}  : jc_Ct y_S_end [.inr (some (9, t, 0)), .inl x, .inl z] I O live (none, jc_up (jc_up I (9, t, 0) 4 x) (9, t, 0) 5 z, O, live, 0, 0) := by
  refine jc_Ct.of (by decide +kernel) (rfl) (Nat.le_of_ble_eq_true rfl) ?_
  refine jr_aload_n d_S_end_0 rfl rfl ?_
  refine jr_iload_n d_S_end_1 rfl rfl ?_
  refine jr_puti d_S_end_2 f_S_28 (Or.inl rfl) rfl ?_
  refine jr_aload_n d_S_end_5 rfl rfl ?_
  refine jr_iload_n d_S_end_6 rfl rfl ?_
  refine jr_puti d_S_end_7 f_S_31 (Or.inl rfl) rfl ?_
  exact jr_retX (v := none) d_S_end_10 (by first | exact Nat.le_refl _ | exact Nat.zero_le _ | (dsimp only; omega)) (by first | exact Nat.le_refl _ | exact Nat.zero_le _ | (dsimp only; omega)) (by first | with_reducible rfl | (dsimp only; rfl; done) | (exfalso; grind)) (by first | with_reducible rfl | (dsimp only; rfl; done) | (exfalso; grind)) (by first | with_reducible rfl | (dsimp only; rfl; done) | (exfalso; grind)) (by first | with_reducible rfl | (dsimp only; rfl; done) | (exfalso; grind))
theorem ct_S_countStep {I : jc_I} {O : jc_O} {live : jc_L → Prop} {t : Nat}  : jc_Ct y_S_countStep [.inr (some (9, t, 0))] I O live (none, jc_up (jc_up I (9, t, 0) 3 (I (9, t, 0) 3 + 1)) (9, t, 0) 6 0, O, live, 0, 0) := by
  refine jc_Ct.of (by decide +kernel) (rfl) (Nat.le_of_ble_eq_true rfl) ?_
  refine jr_aload_n d_S_countStep_0 rfl rfl ?_
  refine jr_dup d_S_countStep_1 ?_
  refine jr_geti d_S_countStep_2 f_S_25 rfl ?_
  refine jr_iconst (v := 1) d_S_countStep_5 (by decide) ?_
  refine jr_iadd d_S_countStep_6 ?_
  refine jr_puti d_S_countStep_7 f_S_25 (Or.inl rfl) rfl ?_
  refine jr_aload_n d_S_countStep_10 rfl rfl ?_
  refine jr_iconst (v := 0) d_S_countStep_11 (by decide) ?_
  refine jr_putz d_S_countStep_12 f_S_34 (Or.inl rfl) rfl (by grind) ?_
  exact jr_retX (v := none) d_S_countStep_15 (by first | exact Nat.le_refl _ | exact Nat.zero_le _ | (dsimp only; omega)) (by first | exact Nat.le_refl _ | exact Nat.zero_le _ | (dsimp only; omega)) (by first | with_reducible rfl | (dsimp only; rfl; done) | (exfalso; grind)) (by first | with_reducible rfl | (dsimp only; rfl; done) | (exfalso; grind)) (by first | with_reducible rfl | (dsimp only; rfl; done) | (exfalso; grind)) (by first | with_reducible rfl | (dsimp only; rfl; done) | (exfalso; grind))
theorem ct_S_stop {I : jc_I} {O : jc_O} {live : jc_L → Prop} {t : Nat}  : jc_Ct y_S_stop [.inr (some (9, t, 0))] I O live (none, jc_up I (9, t, 0) 6 1, O, live, 0, 0) := by
  refine jc_Ct.of (by decide +kernel) (rfl) (Nat.le_of_ble_eq_true rfl) ?_
  refine jr_aload_n d_S_stop_0 rfl rfl ?_
  refine jr_iconst (v := 1) d_S_stop_1 (by decide) ?_
  refine jr_putz d_S_stop_2 f_S_34 (Or.inl rfl) rfl (by grind) ?_
  exact jr_retX (v := none) d_S_stop_5 (by first | exact Nat.le_refl _ | exact Nat.zero_le _ | (dsimp only; omega)) (by first | exact Nat.le_refl _ | exact Nat.zero_le _ | (dsimp only; omega)) (by first | with_reducible rfl | (dsimp only; rfl; done) | (exfalso; grind)) (by first | with_reducible rfl | (dsimp only; rfl; done) | (exfalso; grind)) (by first | with_reducible rfl | (dsimp only; rfl; done) | (exfalso; grind)) (by first | with_reducible rfl | (dsimp only; rfl; done) | (exfalso; grind))
theorem ct_H_isFull {I : jc_I} {O : jc_O} {live : jc_L → Prop}   : jc_Ct y_H_isFull [.inr (some (3, 0, 0))] I O live (some (.inl (if 2000 ≤ I (3, 0, 0) 2 ∨ 40000 ≤ I (3, 0, 0) 3 then 1 else 0)), I, O, live, 0, 0) := by
  refine jc_Ct.of (by decide +kernel) (Or.inr ⟨rfl, by grind⟩) (Nat.le_of_ble_eq_true rfl) ?_
  refine jr_aload_n d_H_isFull_0 rfl rfl ?_
  refine jr_geti d_H_isFull_1 f_H_21 rfl ?_
  refine jr_sipush (v := 2000) d_H_isFull_4 (by decide) ?_
  refine jr_icmp_ge (tgt := 19) d_H_isFull_7 (by decide) (fun c7 => ?_) (fun c7 => ?_)
  · skip
    refine jr_iconst (v := 1) d_H_isFull_19 (by decide) ?_
    refine jr_goto (tgt := 24) d_H_isFull_20 (by decide) ?_
    exact jr_retX (v := some _) d_H_isFull_24 (by first | exact Nat.le_refl _ | exact Nat.zero_le _ | (dsimp only; omega)) (by first | exact Nat.le_refl _ | exact Nat.zero_le _ | (dsimp only; omega)) (by first | with_reducible rfl | (dsimp only; first | (rw [if_pos (by grind)]) | (rw [if_neg (by grind)]); done) | (exfalso; grind)) (by first | with_reducible rfl | (dsimp only; first | (rw [if_pos (by grind)]) | (rw [if_neg (by grind)]); done) | (exfalso; grind)) (by first | with_reducible rfl | (dsimp only; first | (rw [if_pos (by grind)]) | (rw [if_neg (by grind)]); done) | (exfalso; grind)) (by first | with_reducible rfl | (dsimp only; first | (rw [if_pos (by grind)]) | (rw [if_neg (by grind)]); done) | (exfalso; grind))
  · skip
    refine jr_aload_n d_H_isFull_10 rfl rfl ?_
    refine jr_geti d_H_isFull_11 f_H_25 rfl ?_
    refine jr_ldc d_H_isFull_14 c_H_28 ?_
    refine jr_icmp_lt (tgt := 23) d_H_isFull_16 (by decide) (fun c16 => ?_) (fun c16 => ?_)
    · skip
      refine jr_iconst (v := 0) d_H_isFull_23 (by decide) ?_
      exact jr_retX (v := some _) d_H_isFull_24 (by first | exact Nat.le_refl _ | exact Nat.zero_le _ | (dsimp only; omega)) (by first | exact Nat.le_refl _ | exact Nat.zero_le _ | (dsimp only; omega)) (by first | with_reducible rfl | (dsimp only; first | (rw [if_pos (by grind)]) | (rw [if_neg (by grind)]); done) | (exfalso; grind)) (by first | with_reducible rfl | (dsimp only; first | (rw [if_pos (by grind)]) | (rw [if_neg (by grind)]); done) | (exfalso; grind)) (by first | with_reducible rfl | (dsimp only; first | (rw [if_pos (by grind)]) | (rw [if_neg (by grind)]); done) | (exfalso; grind)) (by first | with_reducible rfl | (dsimp only; first | (rw [if_pos (by grind)]) | (rw [if_neg (by grind)]); done) | (exfalso; grind))
    · skip
      refine jr_iconst (v := 1) d_H_isFull_19 (by decide) ?_
      refine jr_goto (tgt := 24) d_H_isFull_20 (by decide) ?_
      exact jr_retX (v := some _) d_H_isFull_24 (by first | exact Nat.le_refl _ | exact Nat.zero_le _ | (dsimp only; omega)) (by first | exact Nat.le_refl _ | exact Nat.zero_le _ | (dsimp only; omega)) (by first | with_reducible rfl | (dsimp only; first | (rw [if_pos (by grind)]) | (rw [if_neg (by grind)]); done) | (exfalso; grind)) (by first | with_reducible rfl | (dsimp only; first | (rw [if_pos (by grind)]) | (rw [if_neg (by grind)]); done) | (exfalso; grind)) (by first | with_reducible rfl | (dsimp only; first | (rw [if_pos (by grind)]) | (rw [if_neg (by grind)]); done) | (exfalso; grind)) (by first | with_reducible rfl | (dsimp only; first | (rw [if_pos (by grind)]) | (rw [if_neg (by grind)]); done) | (exfalso; grind))
theorem ct_H_find {I : jc_I} {O : jc_O} {live : jc_L → Prop} {x : Int32} (h0 : O (3, 0, 0) 0 = some (30, 0, 0)) (hn : I (3, 0, 0) 2 ≤ 2000) : jc_Ct y_H_find [.inr (some (3, 0, 0)), .inl x] I O live (some (.inr (if 1 ≤ x ∧ x ≤ I (3, 0, 0) 2 then O (30, 0, 0) (x - 1).toNatClampNeg else none)), I, O, live, 0, 0) := by
  refine jc_Ct.of (by decide +kernel) (Or.inl ⟨_, rfl⟩) (Nat.le_of_ble_eq_true rfl) ?_
  refine jr_iload_n d_H_find_0 rfl rfl ?_
  refine jr_iconst (v := 1) d_H_find_1 (by decide) ?_
  refine jr_icmp_lt (tgt := 24) d_H_find_2 (by decide) (fun c2 => ?_) (fun c2 => ?_)
  · skip
    refine jr_null d_H_find_24 ?_
    exact jr_retX (v := some _) d_H_find_25 (by first | exact Nat.le_refl _ | exact Nat.zero_le _ | (dsimp only; omega)) (by first | exact Nat.le_refl _ | exact Nat.zero_le _ | (dsimp only; omega)) (by first | with_reducible rfl | (dsimp only; first | (rw [if_pos (by grind)]) | (rw [if_neg (by grind)]); done) | (exfalso; grind)) (by first | with_reducible rfl | (dsimp only; first | (rw [if_pos (by grind)]) | (rw [if_neg (by grind)]); done) | (exfalso; grind)) (by first | with_reducible rfl | (dsimp only; first | (rw [if_pos (by grind)]) | (rw [if_neg (by grind)]); done) | (exfalso; grind)) (by first | with_reducible rfl | (dsimp only; first | (rw [if_pos (by grind)]) | (rw [if_neg (by grind)]); done) | (exfalso; grind))
  · skip
    refine jr_iload_n d_H_find_5 rfl rfl ?_
    refine jr_aload_n d_H_find_6 rfl rfl ?_
    refine jr_geti d_H_find_7 f_H_21 rfl ?_
    refine jr_icmp_gt (tgt := 24) d_H_find_10 (by decide) (fun c10 => ?_) (fun c10 => ?_)
    · skip
      refine jr_null d_H_find_24 ?_
      exact jr_retX (v := some _) d_H_find_25 (by first | exact Nat.le_refl _ | exact Nat.zero_le _ | (dsimp only; omega)) (by first | exact Nat.le_refl _ | exact Nat.zero_le _ | (dsimp only; omega)) (by first | with_reducible rfl | (dsimp only; first | (rw [if_pos (by grind)]) | (rw [if_neg (by grind)]); done) | (exfalso; grind)) (by first | with_reducible rfl | (dsimp only; first | (rw [if_pos (by grind)]) | (rw [if_neg (by grind)]); done) | (exfalso; grind)) (by first | with_reducible rfl | (dsimp only; first | (rw [if_pos (by grind)]) | (rw [if_neg (by grind)]); done) | (exfalso; grind)) (by first | with_reducible rfl | (dsimp only; first | (rw [if_pos (by grind)]) | (rw [if_neg (by grind)]); done) | (exfalso; grind))
    · skip
      refine jr_aload_n d_H_find_13 rfl rfl ?_
      refine jr_getr d_H_find_14 f_H_11 rfl rfl ?_
      first | rw [h0] | skip
      refine jr_iload_n d_H_find_17 rfl rfl ?_
      refine jr_iconst (v := 1) d_H_find_18 (by decide) ?_
      refine jr_isub d_H_find_19 ?_
      refine jr_aald d_H_find_20 rfl rfl rfl (jin (m := 2000) (by decide) (by grind) (by grind)) ?_
      first | rw [h0] | skip
      refine jr_goto (tgt := 25) d_H_find_21 (by decide) ?_
      exact jr_retX (v := some _) d_H_find_25 (by first | exact Nat.le_refl _ | exact Nat.zero_le _ | (dsimp only; omega)) (by first | exact Nat.le_refl _ | exact Nat.zero_le _ | (dsimp only; omega)) (by first | with_reducible rfl | (dsimp only; first | (rw [if_pos (by grind)]) | (rw [if_neg (by grind)]); done) | (exfalso; grind)) (by first | with_reducible rfl | (dsimp only; first | (rw [if_pos (by grind)]) | (rw [if_neg (by grind)]); done) | (exfalso; grind)) (by first | with_reducible rfl | (dsimp only; first | (rw [if_pos (by grind)]) | (rw [if_neg (by grind)]); done) | (exfalso; grind)) (by first | with_reducible rfl | (dsimp only; first | (rw [if_pos (by grind)]) | (rw [if_neg (by grind)]); done) | (exfalso; grind))
theorem ct_H_globalAt {I : jc_I} {O : jc_O} {live : jc_L → Prop} {i : Int32} (h1 : O (3, 0, 0) 1 = some (31, 0, 0)) : jc_Ct y_H_globalAt [.inr (some (3, 0, 0)), .inl i] I O live (some (.inl (if 0 ≤ i ∧ i < 4 then I (31, 0, 0) i.toNatClampNeg else 0)), I, O, live, 0, 0) := by
  refine jc_Ct.of (by decide +kernel) (Or.inl rfl) (Nat.le_of_ble_eq_true rfl) ?_
  refine jr_iload_n d_H_globalAt_0 rfl rfl ?_
  refine jr_if_lt (tgt := 18) d_H_globalAt_1 (by decide) (fun c1 => ?_) (fun c1 => ?_)
  · skip
    refine jr_iconst (v := 0) d_H_globalAt_18 (by decide) ?_
    exact jr_retX (v := some _) d_H_globalAt_19 (by first | exact Nat.le_refl _ | exact Nat.zero_le _ | (dsimp only; omega)) (by first | exact Nat.le_refl _ | exact Nat.zero_le _ | (dsimp only; omega)) (by first | with_reducible rfl | (dsimp only; first | (rw [if_pos (by grind)]) | (rw [if_neg (by grind)]); done) | (exfalso; grind)) (by first | with_reducible rfl | (dsimp only; first | (rw [if_pos (by grind)]) | (rw [if_neg (by grind)]); done) | (exfalso; grind)) (by first | with_reducible rfl | (dsimp only; first | (rw [if_pos (by grind)]) | (rw [if_neg (by grind)]); done) | (exfalso; grind)) (by first | with_reducible rfl | (dsimp only; first | (rw [if_pos (by grind)]) | (rw [if_neg (by grind)]); done) | (exfalso; grind))
  · skip
    refine jr_iload_n d_H_globalAt_4 rfl rfl ?_
    refine jr_iconst (v := 4) d_H_globalAt_5 (by decide) ?_
    refine jr_icmp_ge (tgt := 18) d_H_globalAt_6 (by decide) (fun c6 => ?_) (fun c6 => ?_)
    · skip
      refine jr_iconst (v := 0) d_H_globalAt_18 (by decide) ?_
      exact jr_retX (v := some _) d_H_globalAt_19 (by first | exact Nat.le_refl _ | exact Nat.zero_le _ | (dsimp only; omega)) (by first | exact Nat.le_refl _ | exact Nat.zero_le _ | (dsimp only; omega)) (by first | with_reducible rfl | (dsimp only; first | (rw [if_pos (by grind)]) | (rw [if_neg (by grind)]); done) | (exfalso; grind)) (by first | with_reducible rfl | (dsimp only; first | (rw [if_pos (by grind)]) | (rw [if_neg (by grind)]); done) | (exfalso; grind)) (by first | with_reducible rfl | (dsimp only; first | (rw [if_pos (by grind)]) | (rw [if_neg (by grind)]); done) | (exfalso; grind)) (by first | with_reducible rfl | (dsimp only; first | (rw [if_pos (by grind)]) | (rw [if_neg (by grind)]); done) | (exfalso; grind))
    · skip
      refine jr_aload_n d_H_globalAt_9 rfl rfl ?_
      refine jr_getr d_H_globalAt_10 f_H_17 rfl rfl ?_
      first | rw [h1] | skip
      refine jr_iload_n d_H_globalAt_13 rfl rfl ?_
      refine jr_iald d_H_globalAt_14 rfl rfl rfl (jin (m := 4) (by decide) (by grind) (by grind)) ?_
      refine jr_goto (tgt := 19) d_H_globalAt_15 (by decide) ?_
      exact jr_retX (v := some _) d_H_globalAt_19 (by first | exact Nat.le_refl _ | exact Nat.zero_le _ | (dsimp only; omega)) (by first | exact Nat.le_refl _ | exact Nat.zero_le _ | (dsimp only; omega)) (by first | with_reducible rfl | (dsimp only; first | (rw [if_pos (by grind)]) | (rw [if_neg (by grind)]); done) | (exfalso; grind)) (by first | with_reducible rfl | (dsimp only; first | (rw [if_pos (by grind)]) | (rw [if_neg (by grind)]); done) | (exfalso; grind)) (by first | with_reducible rfl | (dsimp only; first | (rw [if_pos (by grind)]) | (rw [if_neg (by grind)]); done) | (exfalso; grind)) (by first | with_reducible rfl | (dsimp only; first | (rw [if_pos (by grind)]) | (rw [if_neg (by grind)]); done) | (exfalso; grind))
theorem ct_H_setGlobal {I : jc_I} {O : jc_O} {live : jc_L → Prop} {i x : Int32} (h1 : O (3, 0, 0) 1 = some (31, 0, 0)) : jc_Ct y_H_setGlobal [.inr (some (3, 0, 0)), .inl i, .inl x] I O live (none, if 0 ≤ i ∧ i < 4 then jc_up I (31, 0, 0) i.toNatClampNeg x else I, O, live, 0, 0) := by
  refine jc_Ct.of (by decide +kernel) (rfl) (Nat.le_of_ble_eq_true rfl) ?_
  refine jr_iload_n d_H_setGlobal_0 rfl rfl ?_
  refine jr_if_lt (tgt := 16) d_H_setGlobal_1 (by decide) (fun c1 => ?_) (fun c1 => ?_)
  · skip
    exact jr_retX (v := none) d_H_setGlobal_16 (by first | exact Nat.le_refl _ | exact Nat.zero_le _ | (dsimp only; omega)) (by first | exact Nat.le_refl _ | exact Nat.zero_le _ | (dsimp only; omega)) (by first | with_reducible rfl | (dsimp only; first | (rw [if_pos (by grind)]) | (rw [if_neg (by grind)]); done) | (exfalso; grind)) (by first | with_reducible rfl | (dsimp only; first | (rw [if_pos (by grind)]) | (rw [if_neg (by grind)]); done) | (exfalso; grind)) (by first | with_reducible rfl | (dsimp only; first | (rw [if_pos (by grind)]) | (rw [if_neg (by grind)]); done) | (exfalso; grind)) (by first | with_reducible rfl | (dsimp only; first | (rw [if_pos (by grind)]) | (rw [if_neg (by grind)]); done) | (exfalso; grind))
  · skip
    refine jr_iload_n d_H_setGlobal_4 rfl rfl ?_
    refine jr_iconst (v := 4) d_H_setGlobal_5 (by decide) ?_
    refine jr_icmp_ge (tgt := 16) d_H_setGlobal_6 (by decide) (fun c6 => ?_) (fun c6 => ?_)
    · skip
      exact jr_retX (v := none) d_H_setGlobal_16 (by first | exact Nat.le_refl _ | exact Nat.zero_le _ | (dsimp only; omega)) (by first | exact Nat.le_refl _ | exact Nat.zero_le _ | (dsimp only; omega)) (by first | with_reducible rfl | (dsimp only; first | (rw [if_pos (by grind)]) | (rw [if_neg (by grind)]); done) | (exfalso; grind)) (by first | with_reducible rfl | (dsimp only; first | (rw [if_pos (by grind)]) | (rw [if_neg (by grind)]); done) | (exfalso; grind)) (by first | with_reducible rfl | (dsimp only; first | (rw [if_pos (by grind)]) | (rw [if_neg (by grind)]); done) | (exfalso; grind)) (by first | with_reducible rfl | (dsimp only; first | (rw [if_pos (by grind)]) | (rw [if_neg (by grind)]); done) | (exfalso; grind))
    · skip
      refine jr_aload_n d_H_setGlobal_9 rfl rfl ?_
      refine jr_getr d_H_setGlobal_10 f_H_17 rfl rfl ?_
      first | rw [h1] | skip
      refine jr_iload_n d_H_setGlobal_13 rfl rfl ?_
      refine jr_iload_n d_H_setGlobal_14 rfl rfl ?_
      refine jr_iast d_H_setGlobal_15 rfl rfl rfl (jin (m := 4) (by decide) (by grind) (by grind)) ?_
      exact jr_retX (v := none) d_H_setGlobal_16 (by first | exact Nat.le_refl _ | exact Nat.zero_le _ | (dsimp only; omega)) (by first | exact Nat.le_refl _ | exact Nat.zero_le _ | (dsimp only; omega)) (by first | with_reducible rfl | (dsimp only; first | (rw [if_pos (by grind)]) | (rw [if_neg (by grind)]); done) | (exfalso; grind)) (by first | with_reducible rfl | (dsimp only; first | (rw [if_pos (by grind)]) | (rw [if_neg (by grind)]); done) | (exfalso; grind)) (by first | with_reducible rfl | (dsimp only; first | (rw [if_pos (by grind)]) | (rw [if_neg (by grind)]); done) | (exfalso; grind)) (by first | with_reducible rfl | (dsimp only; first | (rw [if_pos (by grind)]) | (rw [if_neg (by grind)]); done) | (exfalso; grind))
theorem ct_Cs_open {I : jc_I} {O : jc_O} {live : jc_L → Prop}   : jc_Ct y_Cs_open [.inr (some (1, 0, 0))] I O live (some (.inr (O (1, 0, 0) 2)), I, O, live, 0, 0) := by
  refine jc_Ct.of (by decide +kernel) (Or.inl ⟨_, rfl⟩) (Nat.le_of_ble_eq_true rfl) ?_
  refine jr_aload_n d_Cs_open_0 rfl rfl ?_
  refine jr_getr d_Cs_open_1 f_Cs_24 rfl rfl ?_
  exact jr_retX (v := some _) d_Cs_open_4 (by first | exact Nat.le_refl _ | exact Nat.zero_le _ | (dsimp only; omega)) (by first | exact Nat.le_refl _ | exact Nat.zero_le _ | (dsimp only; omega)) (by first | with_reducible rfl | (dsimp only; rfl; done) | (exfalso; grind)) (by first | with_reducible rfl | (dsimp only; rfl; done) | (exfalso; grind)) (by first | with_reducible rfl | (dsimp only; rfl; done) | (exfalso; grind)) (by first | with_reducible rfl | (dsimp only; rfl; done) | (exfalso; grind))
theorem ct_Cs_close {I : jc_I} {O : jc_O} {live : jc_L → Prop}   : jc_Ct y_Cs_close [.inr (some (1, 0, 0))] I O live (none, I, jc_up O (1, 0, 0) 2 none, live, 0, 0) := by
  refine jc_Ct.of (by decide +kernel) (rfl) (Nat.le_of_ble_eq_true rfl) ?_
  refine jr_aload_n d_Cs_close_0 rfl rfl ?_
  refine jr_null d_Cs_close_1 ?_
  refine jr_putr d_Cs_close_2 f_Cs_24 (Or.inl rfl) rfl rfl ?_
  exact jr_retX (v := none) d_Cs_close_5 (by first | exact Nat.le_refl _ | exact Nat.zero_le _ | (dsimp only; omega)) (by first | exact Nat.le_refl _ | exact Nat.zero_le _ | (dsimp only; omega)) (by first | with_reducible rfl | (dsimp only; rfl; done) | (exfalso; grind)) (by first | with_reducible rfl | (dsimp only; rfl; done) | (exfalso; grind)) (by first | with_reducible rfl | (dsimp only; rfl; done) | (exfalso; grind)) (by first | with_reducible rfl | (dsimp only; rfl; done) | (exfalso; grind))
theorem ct_Cs_find {I : jc_I} {O : jc_O} {live : jc_L → Prop} {x : Int32} (h0 : O (1, 0, 0) 0 = some (24, 0, 0)) (hn : I (1, 0, 0) 1 ≤ 40) : jc_Ct y_Cs_find [.inr (some (1, 0, 0)), .inl x] I O live (some (.inr (if 0 ≤ x ∧ x < I (1, 0, 0) 1 then O (24, 0, 0) x.toNatClampNeg else none)), I, O, live, 0, 0) := by
  refine jc_Ct.of (by decide +kernel) (Or.inl ⟨_, rfl⟩) (Nat.le_of_ble_eq_true rfl) ?_
  refine jr_iload_n d_Cs_find_0 rfl rfl ?_
  refine jr_if_lt (tgt := 21) d_Cs_find_1 (by decide) (fun c1 => ?_) (fun c1 => ?_)
  · skip
    refine jr_null d_Cs_find_21 ?_
    exact jr_retX (v := some _) d_Cs_find_22 (by first | exact Nat.le_refl _ | exact Nat.zero_le _ | (dsimp only; omega)) (by first | exact Nat.le_refl _ | exact Nat.zero_le _ | (dsimp only; omega)) (by first | with_reducible rfl | (dsimp only; first | (rw [if_pos (by grind)]) | (rw [if_neg (by grind)]); done) | (exfalso; grind)) (by first | with_reducible rfl | (dsimp only; first | (rw [if_pos (by grind)]) | (rw [if_neg (by grind)]); done) | (exfalso; grind)) (by first | with_reducible rfl | (dsimp only; first | (rw [if_pos (by grind)]) | (rw [if_neg (by grind)]); done) | (exfalso; grind)) (by first | with_reducible rfl | (dsimp only; first | (rw [if_pos (by grind)]) | (rw [if_neg (by grind)]); done) | (exfalso; grind))
  · skip
    refine jr_iload_n d_Cs_find_4 rfl rfl ?_
    refine jr_aload_n d_Cs_find_5 rfl rfl ?_
    refine jr_geti d_Cs_find_6 f_Cs_17 rfl ?_
    refine jr_icmp_ge (tgt := 21) d_Cs_find_9 (by decide) (fun c9 => ?_) (fun c9 => ?_)
    · skip
      refine jr_null d_Cs_find_21 ?_
      exact jr_retX (v := some _) d_Cs_find_22 (by first | exact Nat.le_refl _ | exact Nat.zero_le _ | (dsimp only; omega)) (by first | exact Nat.le_refl _ | exact Nat.zero_le _ | (dsimp only; omega)) (by first | with_reducible rfl | (dsimp only; first | (rw [if_pos (by grind)]) | (rw [if_neg (by grind)]); done) | (exfalso; grind)) (by first | with_reducible rfl | (dsimp only; first | (rw [if_pos (by grind)]) | (rw [if_neg (by grind)]); done) | (exfalso; grind)) (by first | with_reducible rfl | (dsimp only; first | (rw [if_pos (by grind)]) | (rw [if_neg (by grind)]); done) | (exfalso; grind)) (by first | with_reducible rfl | (dsimp only; first | (rw [if_pos (by grind)]) | (rw [if_neg (by grind)]); done) | (exfalso; grind))
    · skip
      refine jr_aload_n d_Cs_find_12 rfl rfl ?_
      refine jr_getr d_Cs_find_13 f_Cs_11 rfl rfl ?_
      first | rw [h0] | skip
      refine jr_iload_n d_Cs_find_16 rfl rfl ?_
      refine jr_aald d_Cs_find_17 rfl rfl rfl (jin (m := 40) (by decide) (by grind) (by grind)) ?_
      first | rw [h0] | skip
      refine jr_goto (tgt := 22) d_Cs_find_18 (by decide) ?_
      exact jr_retX (v := some _) d_Cs_find_22 (by first | exact Nat.le_refl _ | exact Nat.zero_le _ | (dsimp only; omega)) (by first | exact Nat.le_refl _ | exact Nat.zero_le _ | (dsimp only; omega)) (by first | with_reducible rfl | (dsimp only; first | (rw [if_pos (by grind)]) | (rw [if_neg (by grind)]); done) | (exfalso; grind)) (by first | with_reducible rfl | (dsimp only; first | (rw [if_pos (by grind)]) | (rw [if_neg (by grind)]); done) | (exfalso; grind)) (by first | with_reducible rfl | (dsimp only; first | (rw [if_pos (by grind)]) | (rw [if_neg (by grind)]); done) | (exfalso; grind)) (by first | with_reducible rfl | (dsimp only; first | (rw [if_pos (by grind)]) | (rw [if_neg (by grind)]); done) | (exfalso; grind))
theorem ct_M_hasStrands {I : jc_I} {O : jc_O} {live : jc_L → Prop}   : jc_Ct y_M_hasStrands [.inr (some (4, 0, 0))] I O live (some (.inl (if 0 < I (4, 0, 0) 4 then 1 else 0)), I, O, live, 0, 0) := by
  refine jc_Ct.of (by decide +kernel) (Or.inr ⟨rfl, by grind⟩) (Nat.le_of_ble_eq_true rfl) ?_
  refine jr_aload_n d_M_hasStrands_0 rfl rfl ?_
  refine jr_geti d_M_hasStrands_1 f_M_29 rfl ?_
  refine jr_if_le (tgt := 11) d_M_hasStrands_4 (by decide) (fun c4 => ?_) (fun c4 => ?_)
  · skip
    refine jr_iconst (v := 0) d_M_hasStrands_11 (by decide) ?_
    exact jr_retX (v := some _) d_M_hasStrands_12 (by first | exact Nat.le_refl _ | exact Nat.zero_le _ | (dsimp only; omega)) (by first | exact Nat.le_refl _ | exact Nat.zero_le _ | (dsimp only; omega)) (by first | with_reducible rfl | (dsimp only; first | (rw [if_pos (by grind)]) | (rw [if_neg (by grind)]); done) | (exfalso; grind)) (by first | with_reducible rfl | (dsimp only; first | (rw [if_pos (by grind)]) | (rw [if_neg (by grind)]); done) | (exfalso; grind)) (by first | with_reducible rfl | (dsimp only; first | (rw [if_pos (by grind)]) | (rw [if_neg (by grind)]); done) | (exfalso; grind)) (by first | with_reducible rfl | (dsimp only; first | (rw [if_pos (by grind)]) | (rw [if_neg (by grind)]); done) | (exfalso; grind))
  · skip
    refine jr_iconst (v := 1) d_M_hasStrands_7 (by decide) ?_
    refine jr_goto (tgt := 12) d_M_hasStrands_8 (by decide) ?_
    exact jr_retX (v := some _) d_M_hasStrands_12 (by first | exact Nat.le_refl _ | exact Nat.zero_le _ | (dsimp only; omega)) (by first | exact Nat.le_refl _ | exact Nat.zero_le _ | (dsimp only; omega)) (by first | with_reducible rfl | (dsimp only; first | (rw [if_pos (by grind)]) | (rw [if_neg (by grind)]); done) | (exfalso; grind)) (by first | with_reducible rfl | (dsimp only; first | (rw [if_pos (by grind)]) | (rw [if_neg (by grind)]); done) | (exfalso; grind)) (by first | with_reducible rfl | (dsimp only; first | (rw [if_pos (by grind)]) | (rw [if_neg (by grind)]); done) | (exfalso; grind)) (by first | with_reducible rfl | (dsimp only; first | (rw [if_pos (by grind)]) | (rw [if_neg (by grind)]); done) | (exfalso; grind))
theorem ct_M_find {I : jc_I} {O : jc_O} {live : jc_L → Prop} {x : Int32} (h3 : O (4, 0, 0) 3 = some (35, 0, 0)) (hn : I (4, 0, 0) 4 ≤ 8) : jc_Ct y_M_find [.inr (some (4, 0, 0)), .inl x] I O live (some (.inr (if 0 ≤ x ∧ x < I (4, 0, 0) 4 then O (35, 0, 0) x.toNatClampNeg else none)), I, O, live, 0, 0) := by
  refine jc_Ct.of (by decide +kernel) (Or.inl ⟨_, rfl⟩) (Nat.le_of_ble_eq_true rfl) ?_
  refine jr_iload_n d_M_find_0 rfl rfl ?_
  refine jr_if_lt (tgt := 21) d_M_find_1 (by decide) (fun c1 => ?_) (fun c1 => ?_)
  · skip
    refine jr_null d_M_find_21 ?_
    exact jr_retX (v := some _) d_M_find_22 (by first | exact Nat.le_refl _ | exact Nat.zero_le _ | (dsimp only; omega)) (by first | exact Nat.le_refl _ | exact Nat.zero_le _ | (dsimp only; omega)) (by first | with_reducible rfl | (dsimp only; first | (rw [if_pos (by grind)]) | (rw [if_neg (by grind)]); done) | (exfalso; grind)) (by first | with_reducible rfl | (dsimp only; first | (rw [if_pos (by grind)]) | (rw [if_neg (by grind)]); done) | (exfalso; grind)) (by first | with_reducible rfl | (dsimp only; first | (rw [if_pos (by grind)]) | (rw [if_neg (by grind)]); done) | (exfalso; grind)) (by first | with_reducible rfl | (dsimp only; first | (rw [if_pos (by grind)]) | (rw [if_neg (by grind)]); done) | (exfalso; grind))
  · skip
    refine jr_iload_n d_M_find_4 rfl rfl ?_
    refine jr_aload_n d_M_find_5 rfl rfl ?_
    refine jr_geti d_M_find_6 f_M_29 rfl ?_
    refine jr_icmp_ge (tgt := 21) d_M_find_9 (by decide) (fun c9 => ?_) (fun c9 => ?_)
    · skip
      refine jr_null d_M_find_21 ?_
      exact jr_retX (v := some _) d_M_find_22 (by first | exact Nat.le_refl _ | exact Nat.zero_le _ | (dsimp only; omega)) (by first | exact Nat.le_refl _ | exact Nat.zero_le _ | (dsimp only; omega)) (by first | with_reducible rfl | (dsimp only; first | (rw [if_pos (by grind)]) | (rw [if_neg (by grind)]); done) | (exfalso; grind)) (by first | with_reducible rfl | (dsimp only; first | (rw [if_pos (by grind)]) | (rw [if_neg (by grind)]); done) | (exfalso; grind)) (by first | with_reducible rfl | (dsimp only; first | (rw [if_pos (by grind)]) | (rw [if_neg (by grind)]); done) | (exfalso; grind)) (by first | with_reducible rfl | (dsimp only; first | (rw [if_pos (by grind)]) | (rw [if_neg (by grind)]); done) | (exfalso; grind))
    · skip
      refine jr_aload_n d_M_find_12 rfl rfl ?_
      refine jr_getr d_M_find_13 f_M_11 rfl rfl ?_
      first | rw [h3] | skip
      refine jr_iload_n d_M_find_16 rfl rfl ?_
      refine jr_aald d_M_find_17 rfl rfl rfl (jin (m := 8) (by decide) (by grind) (by grind)) ?_
      first | rw [h3] | skip
      refine jr_goto (tgt := 22) d_M_find_18 (by decide) ?_
      exact jr_retX (v := some _) d_M_find_22 (by first | exact Nat.le_refl _ | exact Nat.zero_le _ | (dsimp only; omega)) (by first | exact Nat.le_refl _ | exact Nat.zero_le _ | (dsimp only; omega)) (by first | with_reducible rfl | (dsimp only; first | (rw [if_pos (by grind)]) | (rw [if_neg (by grind)]); done) | (exfalso; grind)) (by first | with_reducible rfl | (dsimp only; first | (rw [if_pos (by grind)]) | (rw [if_neg (by grind)]); done) | (exfalso; grind)) (by first | with_reducible rfl | (dsimp only; first | (rw [if_pos (by grind)]) | (rw [if_neg (by grind)]); done) | (exfalso; grind)) (by first | with_reducible rfl | (dsimp only; first | (rw [if_pos (by grind)]) | (rw [if_neg (by grind)]); done) | (exfalso; grind))
theorem ct_M_clear {I : jc_I} {O : jc_O} {live : jc_L → Prop}   : jc_Ct y_M_clear [.inr (some (4, 0, 0))] I O live (none, jc_up I (4, 0, 0) 4 0, O, live, 0, 0) := by
  refine jc_Ct.of (by decide +kernel) (rfl) (Nat.le_of_ble_eq_true rfl) ?_
  refine jr_aload_n d_M_clear_0 rfl rfl ?_
  refine jr_iconst (v := 0) d_M_clear_1 (by decide) ?_
  refine jr_puti d_M_clear_2 f_M_29 (Or.inl rfl) rfl ?_
  exact jr_retX (v := none) d_M_clear_5 (by first | exact Nat.le_refl _ | exact Nat.zero_le _ | (dsimp only; omega)) (by first | exact Nat.le_refl _ | exact Nat.zero_le _ | (dsimp only; omega)) (by first | with_reducible rfl | (dsimp only; rfl; done) | (exfalso; grind)) (by first | with_reducible rfl | (dsimp only; rfl; done) | (exfalso; grind)) (by first | with_reducible rfl | (dsimp only; rfl; done) | (exfalso; grind)) (by first | with_reducible rfl | (dsimp only; rfl; done) | (exfalso; grind))
theorem ct_M_compute {I : jc_I} {O : jc_O} {live : jc_L → Prop} {op x z : Int32}  : jc_Ct y_M_compute [.inl op, .inl x, .inl z] I O live (some (.inl (if op = 4 then x + z else if op = 5 then x - z else if op = 6 then x * z else if op = 7 then (if z = 0 then 0 else x / z) else if op = 8 then (if x < z then 1 else 0) else 0)), I, O, live, 0, 0) := by
  refine jc_Ct.of (by decide +kernel) (Or.inl rfl) (Nat.le_of_ble_eq_true rfl) ?_
  refine jr_iload_n d_M_compute_0 rfl rfl ?_
  refine jr_name (fun x1 e1 => ?_)
  by_cases g1_4 : x1 = 4
  · refine jr_tableIn (tgt := 36) d_M_compute_1 (by rcases g1_4 with rfl <;> decide) (by rcases g1_4 with rfl <;> decide) (by rcases g1_4 with rfl <;> rfl) (by decide) ?_
    refine jr_iload_n d_M_compute_36 rfl rfl ?_
    refine jr_iload_n d_M_compute_37 rfl rfl ?_
    refine jr_iadd d_M_compute_38 ?_
    refine jr_goto (tgt := 82) d_M_compute_39 (by decide) ?_
    exact jr_retX (v := some _) d_M_compute_82 (by first | exact Nat.le_refl _ | exact Nat.zero_le _ | (dsimp only; omega)) (by first | exact Nat.le_refl _ | exact Nat.zero_le _ | (dsimp only; omega)) (by first | with_reducible rfl | (dsimp only; first | grind | (subst_vars; simp_all); done) | (exfalso; grind)) (by first | with_reducible rfl | (dsimp only; first | grind | (subst_vars; simp_all); done) | (exfalso; grind)) (by first | with_reducible rfl | (dsimp only; first | grind | (subst_vars; simp_all); done) | (exfalso; grind)) (by first | with_reducible rfl | (dsimp only; first | grind | (subst_vars; simp_all); done) | (exfalso; grind))
  · skip
    by_cases g1_5 : x1 = 5
    · refine jr_tableIn (tgt := 42) d_M_compute_1 (by rcases g1_5 with rfl <;> decide) (by rcases g1_5 with rfl <;> decide) (by rcases g1_5 with rfl <;> rfl) (by decide) ?_
      refine jr_iload_n d_M_compute_42 rfl rfl ?_
      refine jr_iload_n d_M_compute_43 rfl rfl ?_
      refine jr_isub d_M_compute_44 ?_
      refine jr_goto (tgt := 82) d_M_compute_45 (by decide) ?_
      exact jr_retX (v := some _) d_M_compute_82 (by first | exact Nat.le_refl _ | exact Nat.zero_le _ | (dsimp only; omega)) (by first | exact Nat.le_refl _ | exact Nat.zero_le _ | (dsimp only; omega)) (by first | with_reducible rfl | (dsimp only; first | grind | (subst_vars; simp_all); done) | (exfalso; grind)) (by first | with_reducible rfl | (dsimp only; first | grind | (subst_vars; simp_all); done) | (exfalso; grind)) (by first | with_reducible rfl | (dsimp only; first | grind | (subst_vars; simp_all); done) | (exfalso; grind)) (by first | with_reducible rfl | (dsimp only; first | grind | (subst_vars; simp_all); done) | (exfalso; grind))
    · skip
      by_cases g1_6 : x1 = 6
      · refine jr_tableIn (tgt := 48) d_M_compute_1 (by rcases g1_6 with rfl <;> decide) (by rcases g1_6 with rfl <;> decide) (by rcases g1_6 with rfl <;> rfl) (by decide) ?_
        refine jr_iload_n d_M_compute_48 rfl rfl ?_
        refine jr_iload_n d_M_compute_49 rfl rfl ?_
        refine jr_imul d_M_compute_50 ?_
        refine jr_goto (tgt := 82) d_M_compute_51 (by decide) ?_
        exact jr_retX (v := some _) d_M_compute_82 (by first | exact Nat.le_refl _ | exact Nat.zero_le _ | (dsimp only; omega)) (by first | exact Nat.le_refl _ | exact Nat.zero_le _ | (dsimp only; omega)) (by first | with_reducible rfl | (dsimp only; first | grind | (subst_vars; simp_all); done) | (exfalso; grind)) (by first | with_reducible rfl | (dsimp only; first | grind | (subst_vars; simp_all); done) | (exfalso; grind)) (by first | with_reducible rfl | (dsimp only; first | grind | (subst_vars; simp_all); done) | (exfalso; grind)) (by first | with_reducible rfl | (dsimp only; first | grind | (subst_vars; simp_all); done) | (exfalso; grind))
      · skip
        by_cases g1_7 : x1 = 7
        · refine jr_tableIn (tgt := 54) d_M_compute_1 (by rcases g1_7 with rfl <;> decide) (by rcases g1_7 with rfl <;> decide) (by rcases g1_7 with rfl <;> rfl) (by decide) ?_
          refine jr_iload_n d_M_compute_54 rfl rfl ?_
          refine jr_if_ne (tgt := 62) d_M_compute_55 (by decide) (fun c55 => ?_) (fun c55 => ?_)
          · skip
            refine jr_iload_n d_M_compute_62 rfl rfl ?_
            refine jr_iload_n d_M_compute_63 rfl rfl ?_
            refine jr_idiv d_M_compute_64 (by grind) ?_
            refine jr_goto (tgt := 82) d_M_compute_65 (by decide) ?_
            exact jr_retX (v := some _) d_M_compute_82 (by first | exact Nat.le_refl _ | exact Nat.zero_le _ | (dsimp only; omega)) (by first | exact Nat.le_refl _ | exact Nat.zero_le _ | (dsimp only; omega)) (by first | with_reducible rfl | (dsimp only; first | grind | (subst_vars; simp_all); done) | (exfalso; grind)) (by first | with_reducible rfl | (dsimp only; first | grind | (subst_vars; simp_all); done) | (exfalso; grind)) (by first | with_reducible rfl | (dsimp only; first | grind | (subst_vars; simp_all); done) | (exfalso; grind)) (by first | with_reducible rfl | (dsimp only; first | grind | (subst_vars; simp_all); done) | (exfalso; grind))
          · skip
            refine jr_iconst (v := 0) d_M_compute_58 (by decide) ?_
            refine jr_goto (tgt := 82) d_M_compute_59 (by decide) ?_
            exact jr_retX (v := some _) d_M_compute_82 (by first | exact Nat.le_refl _ | exact Nat.zero_le _ | (dsimp only; omega)) (by first | exact Nat.le_refl _ | exact Nat.zero_le _ | (dsimp only; omega)) (by first | with_reducible rfl | (dsimp only; first | grind | (subst_vars; simp_all); done) | (exfalso; grind)) (by first | with_reducible rfl | (dsimp only; first | grind | (subst_vars; simp_all); done) | (exfalso; grind)) (by first | with_reducible rfl | (dsimp only; first | grind | (subst_vars; simp_all); done) | (exfalso; grind)) (by first | with_reducible rfl | (dsimp only; first | grind | (subst_vars; simp_all); done) | (exfalso; grind))
        · skip
          by_cases g1_8 : x1 = 8
          · refine jr_tableIn (tgt := 68) d_M_compute_1 (by rcases g1_8 with rfl <;> decide) (by rcases g1_8 with rfl <;> decide) (by rcases g1_8 with rfl <;> rfl) (by decide) ?_
            refine jr_iload_n d_M_compute_68 rfl rfl ?_
            refine jr_iload_n d_M_compute_69 rfl rfl ?_
            refine jr_icmp_ge (tgt := 77) d_M_compute_70 (by decide) (fun c70 => ?_) (fun c70 => ?_)
            · skip
              refine jr_iconst (v := 0) d_M_compute_77 (by decide) ?_
              refine jr_goto (tgt := 82) d_M_compute_78 (by decide) ?_
              exact jr_retX (v := some _) d_M_compute_82 (by first | exact Nat.le_refl _ | exact Nat.zero_le _ | (dsimp only; omega)) (by first | exact Nat.le_refl _ | exact Nat.zero_le _ | (dsimp only; omega)) (by first | with_reducible rfl | (dsimp only; first | grind | (subst_vars; simp_all); done) | (exfalso; grind)) (by first | with_reducible rfl | (dsimp only; first | grind | (subst_vars; simp_all); done) | (exfalso; grind)) (by first | with_reducible rfl | (dsimp only; first | grind | (subst_vars; simp_all); done) | (exfalso; grind)) (by first | with_reducible rfl | (dsimp only; first | grind | (subst_vars; simp_all); done) | (exfalso; grind))
            · skip
              refine jr_iconst (v := 1) d_M_compute_73 (by decide) ?_
              refine jr_goto (tgt := 82) d_M_compute_74 (by decide) ?_
              exact jr_retX (v := some _) d_M_compute_82 (by first | exact Nat.le_refl _ | exact Nat.zero_le _ | (dsimp only; omega)) (by first | exact Nat.le_refl _ | exact Nat.zero_le _ | (dsimp only; omega)) (by first | with_reducible rfl | (dsimp only; first | grind | (subst_vars; simp_all); done) | (exfalso; grind)) (by first | with_reducible rfl | (dsimp only; first | grind | (subst_vars; simp_all); done) | (exfalso; grind)) (by first | with_reducible rfl | (dsimp only; first | grind | (subst_vars; simp_all); done) | (exfalso; grind)) (by first | with_reducible rfl | (dsimp only; first | grind | (subst_vars; simp_all); done) | (exfalso; grind))
          · skip
            refine jr_tableE (tgt := 81) d_M_compute_1 (by rcases j_4_8 x1 with h | h | rfl | rfl | rfl | rfl | rfl <;> first | exact Or.inl ⟨Or.inl (Int32.lt_iff_toInt_lt.mp h), by decide⟩ | exact Or.inl ⟨Or.inr (Int32.lt_iff_toInt_lt.mp h), by decide⟩ | exact Or.inr ⟨by decide, by decide, _, rfl, by decide⟩ | (exfalso; grind)) ?_
            refine jr_iconst (v := 0) d_M_compute_81 (by decide) ?_
            exact jr_retX (v := some _) d_M_compute_82 (by first | exact Nat.le_refl _ | exact Nat.zero_le _ | (dsimp only; omega)) (by first | exact Nat.le_refl _ | exact Nat.zero_le _ | (dsimp only; omega)) (by first | with_reducible rfl | (dsimp only; first | grind | (subst_vars; simp_all); done) | (exfalso; grind)) (by first | with_reducible rfl | (dsimp only; first | grind | (subst_vars; simp_all); done) | (exfalso; grind)) (by first | with_reducible rfl | (dsimp only; first | grind | (subst_vars; simp_all); done) | (exfalso; grind)) (by first | with_reducible rfl | (dsimp only; first | grind | (subst_vars; simp_all); done) | (exfalso; grind))
theorem ct_T_tell {I : jc_I} {O : jc_O} {live : jc_L → Prop} {k : Nat} {w : Int32} (h0 : O (7, k, 0) 0 = some (29, k, 0)) : jc_Ct y_T_tell [.inr (some (7, k, 0)), .inl w] I O live (some (.inl (if 10 ≤ w ∧ w < 18 then I (29, k, 0) (w - 10).toNatClampNeg else if w = 0 then I (7, k, 0) 1 else if w = 1 then I (7, k, 0) 2 else if w = 2 then I (7, k, 0) 3 else -14)), I, O, live, 0, 0) := by
  refine jc_Ct.of (by decide +kernel) (Or.inl rfl) (Nat.le_of_ble_eq_true rfl) ?_
  refine jr_iload_n d_T_tell_0 rfl rfl ?_
  refine jr_bipush (v := 10) d_T_tell_1 (by decide) ?_
  refine jr_icmp_lt (tgt := 21) d_T_tell_3 (by decide) (fun c3 => ?_) (fun c3 => ?_)
  · skip
    refine jr_iload_n d_T_tell_21 rfl rfl ?_
    refine jr_name (fun x22 e22 => ?_)
    by_cases g22_0 : x22 = 0
    · refine jr_tableIn (tgt := 48) d_T_tell_22 (by rcases g22_0 with rfl <;> decide) (by rcases g22_0 with rfl <;> decide) (by rcases g22_0 with rfl <;> rfl) (by decide) ?_
      refine jr_aload_n d_T_tell_48 rfl rfl ?_
      refine jr_geti d_T_tell_49 f_T_15 rfl ?_
      refine jr_goto (tgt := 71) d_T_tell_52 (by decide) ?_
      exact jr_retX (v := some _) d_T_tell_71 (by first | exact Nat.le_refl _ | exact Nat.zero_le _ | (dsimp only; omega)) (by first | exact Nat.le_refl _ | exact Nat.zero_le _ | (dsimp only; omega)) (by first | with_reducible rfl | (dsimp only; first | grind | (rw [if_pos (by grind)]); done) | (exfalso; grind)) (by first | with_reducible rfl | (dsimp only; first | grind | (rw [if_pos (by grind)]); done) | (exfalso; grind)) (by first | with_reducible rfl | (dsimp only; first | grind | (rw [if_pos (by grind)]); done) | (exfalso; grind)) (by first | with_reducible rfl | (dsimp only; first | grind | (rw [if_pos (by grind)]); done) | (exfalso; grind))
    · skip
      by_cases g22_1 : x22 = 1
      · refine jr_tableIn (tgt := 55) d_T_tell_22 (by rcases g22_1 with rfl <;> decide) (by rcases g22_1 with rfl <;> decide) (by rcases g22_1 with rfl <;> rfl) (by decide) ?_
        refine jr_aload_n d_T_tell_55 rfl rfl ?_
        refine jr_geti d_T_tell_56 f_T_22 rfl ?_
        refine jr_goto (tgt := 71) d_T_tell_59 (by decide) ?_
        exact jr_retX (v := some _) d_T_tell_71 (by first | exact Nat.le_refl _ | exact Nat.zero_le _ | (dsimp only; omega)) (by first | exact Nat.le_refl _ | exact Nat.zero_le _ | (dsimp only; omega)) (by first | with_reducible rfl | (dsimp only; first | grind | (rw [if_pos (by grind)]); done) | (exfalso; grind)) (by first | with_reducible rfl | (dsimp only; first | grind | (rw [if_pos (by grind)]); done) | (exfalso; grind)) (by first | with_reducible rfl | (dsimp only; first | grind | (rw [if_pos (by grind)]); done) | (exfalso; grind)) (by first | with_reducible rfl | (dsimp only; first | grind | (rw [if_pos (by grind)]); done) | (exfalso; grind))
      · skip
        by_cases g22_2 : x22 = 2
        · refine jr_tableIn (tgt := 62) d_T_tell_22 (by rcases g22_2 with rfl <;> decide) (by rcases g22_2 with rfl <;> decide) (by rcases g22_2 with rfl <;> rfl) (by decide) ?_
          refine jr_aload_n d_T_tell_62 rfl rfl ?_
          refine jr_geti d_T_tell_63 f_T_25 rfl ?_
          refine jr_goto (tgt := 71) d_T_tell_66 (by decide) ?_
          exact jr_retX (v := some _) d_T_tell_71 (by first | exact Nat.le_refl _ | exact Nat.zero_le _ | (dsimp only; omega)) (by first | exact Nat.le_refl _ | exact Nat.zero_le _ | (dsimp only; omega)) (by first | with_reducible rfl | (dsimp only; first | grind | (rw [if_pos (by grind)]); done) | (exfalso; grind)) (by first | with_reducible rfl | (dsimp only; first | grind | (rw [if_pos (by grind)]); done) | (exfalso; grind)) (by first | with_reducible rfl | (dsimp only; first | grind | (rw [if_pos (by grind)]); done) | (exfalso; grind)) (by first | with_reducible rfl | (dsimp only; first | grind | (rw [if_pos (by grind)]); done) | (exfalso; grind))
        · skip
          refine jr_tableE (tgt := 69) d_T_tell_22 (by rcases j_0_2 x22 with h | h | rfl | rfl | rfl <;> first | exact Or.inl ⟨Or.inl (Int32.lt_iff_toInt_lt.mp h), by decide⟩ | exact Or.inl ⟨Or.inr (Int32.lt_iff_toInt_lt.mp h), by decide⟩ | exact Or.inr ⟨by decide, by decide, _, rfl, by decide⟩ | (exfalso; grind)) ?_
          refine jr_bipush (v := (-14)) d_T_tell_69 (by decide) ?_
          exact jr_retX (v := some _) d_T_tell_71 (by first | exact Nat.le_refl _ | exact Nat.zero_le _ | (dsimp only; omega)) (by first | exact Nat.le_refl _ | exact Nat.zero_le _ | (dsimp only; omega)) (by first | with_reducible rfl | (dsimp only; first | grind | (rw [if_pos (by grind)]); done) | (exfalso; grind)) (by first | with_reducible rfl | (dsimp only; first | grind | (rw [if_pos (by grind)]); done) | (exfalso; grind)) (by first | with_reducible rfl | (dsimp only; first | grind | (rw [if_pos (by grind)]); done) | (exfalso; grind)) (by first | with_reducible rfl | (dsimp only; first | grind | (rw [if_pos (by grind)]); done) | (exfalso; grind))
  · skip
    refine jr_iload_n d_T_tell_6 rfl rfl ?_
    refine jr_bipush (v := 18) d_T_tell_7 (by decide) ?_
    refine jr_icmp_ge (tgt := 21) d_T_tell_9 (by decide) (fun c9 => ?_) (fun c9 => ?_)
    · skip
      refine jr_iload_n d_T_tell_21 rfl rfl ?_
      refine jr_name (fun x22 e22 => ?_)
      by_cases g22_0 : x22 = 0
      · refine jr_tableIn (tgt := 48) d_T_tell_22 (by rcases g22_0 with rfl <;> decide) (by rcases g22_0 with rfl <;> decide) (by rcases g22_0 with rfl <;> rfl) (by decide) ?_
        refine jr_aload_n d_T_tell_48 rfl rfl ?_
        refine jr_geti d_T_tell_49 f_T_15 rfl ?_
        refine jr_goto (tgt := 71) d_T_tell_52 (by decide) ?_
        exact jr_retX (v := some _) d_T_tell_71 (by first | exact Nat.le_refl _ | exact Nat.zero_le _ | (dsimp only; omega)) (by first | exact Nat.le_refl _ | exact Nat.zero_le _ | (dsimp only; omega)) (by first | with_reducible rfl | (dsimp only; first | grind | (rw [if_pos (by grind)]); done) | (exfalso; grind)) (by first | with_reducible rfl | (dsimp only; first | grind | (rw [if_pos (by grind)]); done) | (exfalso; grind)) (by first | with_reducible rfl | (dsimp only; first | grind | (rw [if_pos (by grind)]); done) | (exfalso; grind)) (by first | with_reducible rfl | (dsimp only; first | grind | (rw [if_pos (by grind)]); done) | (exfalso; grind))
      · skip
        by_cases g22_1 : x22 = 1
        · refine jr_tableIn (tgt := 55) d_T_tell_22 (by rcases g22_1 with rfl <;> decide) (by rcases g22_1 with rfl <;> decide) (by rcases g22_1 with rfl <;> rfl) (by decide) ?_
          refine jr_aload_n d_T_tell_55 rfl rfl ?_
          refine jr_geti d_T_tell_56 f_T_22 rfl ?_
          refine jr_goto (tgt := 71) d_T_tell_59 (by decide) ?_
          exact jr_retX (v := some _) d_T_tell_71 (by first | exact Nat.le_refl _ | exact Nat.zero_le _ | (dsimp only; omega)) (by first | exact Nat.le_refl _ | exact Nat.zero_le _ | (dsimp only; omega)) (by first | with_reducible rfl | (dsimp only; first | grind | (rw [if_pos (by grind)]); done) | (exfalso; grind)) (by first | with_reducible rfl | (dsimp only; first | grind | (rw [if_pos (by grind)]); done) | (exfalso; grind)) (by first | with_reducible rfl | (dsimp only; first | grind | (rw [if_pos (by grind)]); done) | (exfalso; grind)) (by first | with_reducible rfl | (dsimp only; first | grind | (rw [if_pos (by grind)]); done) | (exfalso; grind))
        · skip
          by_cases g22_2 : x22 = 2
          · refine jr_tableIn (tgt := 62) d_T_tell_22 (by rcases g22_2 with rfl <;> decide) (by rcases g22_2 with rfl <;> decide) (by rcases g22_2 with rfl <;> rfl) (by decide) ?_
            refine jr_aload_n d_T_tell_62 rfl rfl ?_
            refine jr_geti d_T_tell_63 f_T_25 rfl ?_
            refine jr_goto (tgt := 71) d_T_tell_66 (by decide) ?_
            exact jr_retX (v := some _) d_T_tell_71 (by first | exact Nat.le_refl _ | exact Nat.zero_le _ | (dsimp only; omega)) (by first | exact Nat.le_refl _ | exact Nat.zero_le _ | (dsimp only; omega)) (by first | with_reducible rfl | (dsimp only; first | grind | (rw [if_pos (by grind)]); done) | (exfalso; grind)) (by first | with_reducible rfl | (dsimp only; first | grind | (rw [if_pos (by grind)]); done) | (exfalso; grind)) (by first | with_reducible rfl | (dsimp only; first | grind | (rw [if_pos (by grind)]); done) | (exfalso; grind)) (by first | with_reducible rfl | (dsimp only; first | grind | (rw [if_pos (by grind)]); done) | (exfalso; grind))
          · skip
            refine jr_tableE (tgt := 69) d_T_tell_22 (by rcases j_0_2 x22 with h | h | rfl | rfl | rfl <;> first | exact Or.inl ⟨Or.inl (Int32.lt_iff_toInt_lt.mp h), by decide⟩ | exact Or.inl ⟨Or.inr (Int32.lt_iff_toInt_lt.mp h), by decide⟩ | exact Or.inr ⟨by decide, by decide, _, rfl, by decide⟩ | (exfalso; grind)) ?_
            refine jr_bipush (v := (-14)) d_T_tell_69 (by decide) ?_
            exact jr_retX (v := some _) d_T_tell_71 (by first | exact Nat.le_refl _ | exact Nat.zero_le _ | (dsimp only; omega)) (by first | exact Nat.le_refl _ | exact Nat.zero_le _ | (dsimp only; omega)) (by first | with_reducible rfl | (dsimp only; first | grind | (rw [if_pos (by grind)]); done) | (exfalso; grind)) (by first | with_reducible rfl | (dsimp only; first | grind | (rw [if_pos (by grind)]); done) | (exfalso; grind)) (by first | with_reducible rfl | (dsimp only; first | grind | (rw [if_pos (by grind)]); done) | (exfalso; grind)) (by first | with_reducible rfl | (dsimp only; first | grind | (rw [if_pos (by grind)]); done) | (exfalso; grind))
    · skip
      refine jr_aload_n d_T_tell_12 rfl rfl ?_
      refine jr_iload_n d_T_tell_13 rfl rfl ?_
      refine jr_bipush (v := 10) d_T_tell_14 (by decide) ?_
      refine jr_isub d_T_tell_16 ?_
      refine jv_V1r d_T_tell_17 l_T_28 k_T_field ⟨Nat.le_of_ble_eq_true rfl, Nat.le_of_ble_eq_true rfl⟩ rfl rfl (Nat.le_of_ble_eq_true rfl) (ct_T_field h0) (by grind) (by grind) ?_
      exact jr_retX (v := some _) d_T_tell_20 (by first | exact Nat.le_refl _ | exact Nat.zero_le _ | (dsimp only; omega)) (by first | exact Nat.le_refl _ | exact Nat.zero_le _ | (dsimp only; omega)) (by first | with_reducible rfl | (dsimp only; first | grind | (rw [if_pos (by grind)]); done) | (exfalso; grind)) (by first | with_reducible rfl | (dsimp only; first | grind | (rw [if_pos (by grind)]); done) | (exfalso; grind)) (by first | with_reducible rfl | (dsimp only; first | grind | (rw [if_pos (by grind)]); done) | (exfalso; grind)) (by first | with_reducible rfl | (dsimp only; first | grind | (rw [if_pos (by grind)]); done) | (exfalso; grind))
