theorem ct_J_code_r {I : jc_I} {O : jc_O} {live : jc_L → Prop} {p r : Int32} (hJ : jw_J O) (hx : ¬ ((0 ≤ p ∧ p ≤ 8) ∧ (0 ≤ r ∧ r ≤ 2) ∧ ¬ 0 < I (4, 0, 0) 4)) : jc_Ct y_J_code [.inr (some (0, 0, 0)), .inl p, .inl r] I O live (some (.inl (-1)), I, O, live, 0, 0) := by
  obtain ⟨j0, j1, j2, j3⟩ := id hJ
  refine jc_Ct.of (by decide +kernel) (Or.inl rfl) (Nat.le_of_ble_eq_true rfl) ?_
  refine jr_iload_n d_J_code_0 rfl rfl ?_
  refine jr_iconst (v := 0) d_J_code_1 (by decide) ?_
  refine jr_bipush (v := 8) d_J_code_2 (by decide) ?_
  refine jv_S3r d_J_code_4 l_J_41 k_J_isWithin ⟨Nat.le_of_ble_eq_true rfl, Nat.le_of_ble_eq_true rfl⟩ (Nat.le_of_ble_eq_true rfl) (ct_J_isWithin) (by first | decide | exact Nat.zero_le _ | (dsimp only; omega) | (dsimp only; grind)) (by first | decide | exact Nat.zero_le _ | (dsimp only; omega) | (dsimp only; grind)) ?_
  refine jr_if_eq (tgt := 29) d_J_code_7 (by decide) (fun c7 => ?_) (fun c7 => ?_)
  · skip
    refine jr_iconst (v := (-1)) d_J_code_29 (by decide) ?_
    exact jr_retX (v := some _) d_J_code_30 (by first | exact Nat.le_refl _ | exact Nat.zero_le _ | (dsimp only; omega)) (by first | exact Nat.le_refl _ | exact Nat.zero_le _ | (dsimp only; omega)) (by first | with_reducible rfl | (dsimp only; rfl; done) | (rfl; done) | (exfalso; grind)) (by first | with_reducible rfl | (dsimp only; rfl; done) | (rfl; done) | (exfalso; grind)) (by first | with_reducible rfl | (dsimp only; rfl; done) | (rfl; done) | (exfalso; grind)) (by first | with_reducible rfl | (dsimp only; rfl; done) | (rfl; done) | (exfalso; grind))
  · skip
    refine jr_iload_n d_J_code_10 rfl rfl ?_
    refine jr_iconst (v := 0) d_J_code_11 (by decide) ?_
    refine jr_iconst (v := 2) d_J_code_12 (by decide) ?_
    refine jv_S3r d_J_code_13 l_J_41 k_J_isWithin ⟨Nat.le_of_ble_eq_true rfl, Nat.le_of_ble_eq_true rfl⟩ (Nat.le_of_ble_eq_true rfl) (ct_J_isWithin) (by first | decide | exact Nat.zero_le _ | (dsimp only; omega) | (dsimp only; grind)) (by first | decide | exact Nat.zero_le _ | (dsimp only; omega) | (dsimp only; grind)) ?_
    refine jr_if_eq (tgt := 29) d_J_code_16 (by decide) (fun c16 => ?_) (fun c16 => ?_)
    · skip
      refine jr_iconst (v := (-1)) d_J_code_29 (by decide) ?_
      exact jr_retX (v := some _) d_J_code_30 (by first | exact Nat.le_refl _ | exact Nat.zero_le _ | (dsimp only; omega)) (by first | exact Nat.le_refl _ | exact Nat.zero_le _ | (dsimp only; omega)) (by first | with_reducible rfl | (dsimp only; rfl; done) | (rfl; done) | (exfalso; grind)) (by first | with_reducible rfl | (dsimp only; rfl; done) | (rfl; done) | (exfalso; grind)) (by first | with_reducible rfl | (dsimp only; rfl; done) | (rfl; done) | (exfalso; grind)) (by first | with_reducible rfl | (dsimp only; rfl; done) | (rfl; done) | (exfalso; grind))
    · skip
      refine jr_aload_n d_J_code_19 rfl rfl ?_
      refine jr_getr d_J_code_20 f_J_37 rfl rfl ?_
      first | rw [j0] | rw [j1] | rw [j2] | rw [j3] | skip
      refine jv_V0r d_J_code_23 l_J_45 k_M_hasStrands ⟨Nat.le_of_ble_eq_true rfl, Nat.le_of_ble_eq_true rfl⟩ rfl rfl (Nat.le_of_ble_eq_true rfl) (ct_M_hasStrands) (by first | decide | exact Nat.zero_le _ | (dsimp only; omega) | (dsimp only; grind)) (by first | decide | exact Nat.zero_le _ | (dsimp only; omega) | (dsimp only; grind)) ?_
      refine jr_if_eq (tgt := 31) d_J_code_26 (by decide) (fun c26 => ?_) (fun c26 => ?_)
      · skip
        exfalso; clear hJ; grind
      · skip
        refine jr_iconst (v := (-1)) d_J_code_29 (by decide) ?_
        exact jr_retX (v := some _) d_J_code_30 (by first | exact Nat.le_refl _ | exact Nat.zero_le _ | (dsimp only; omega)) (by first | exact Nat.le_refl _ | exact Nat.zero_le _ | (dsimp only; omega)) (by first | with_reducible rfl | (dsimp only; rfl; done) | (rfl; done) | (exfalso; grind)) (by first | with_reducible rfl | (dsimp only; rfl; done) | (rfl; done) | (exfalso; grind)) (by first | with_reducible rfl | (dsimp only; rfl; done) | (rfl; done) | (exfalso; grind)) (by first | with_reducible rfl | (dsimp only; rfl; done) | (rfl; done) | (exfalso; grind))
theorem ct_J_code_y {I : jc_I} {O : jc_O} {live : jc_L → Prop} {p r : Int32} {I1 : jc_I} {O1 : jc_O} {live1 : jc_L → Prop} {mc1 ms1 : Nat} {v1 : Int32} (hJ : jw_J O) (hx : ((0 ≤ p ∧ p ≤ 8) ∧ (0 ≤ r ∧ r ≤ 2) ∧ ¬ 0 < I (4, 0, 0) 4)) (hlv : ∀ q, live q → live1 q) (hC : jc_Ct y_Cs_begin [.inr (some (1, 0, 0)), .inl p, .inl r] I O live (some (.inl v1), I1, O1, live1, mc1, ms1)) : jc_Ct y_J_code [.inr (some (0, 0, 0)), .inl p, .inl r] I O live (some (.inl v1), I1, O1, live1, mc1, ms1) := by
  obtain ⟨j0, j1, j2, j3⟩ := id hJ
  refine jc_Ct.of (by decide +kernel) (Or.inl rfl) (Nat.le_of_ble_eq_true rfl) ?_
  refine jr_iload_n d_J_code_0 rfl rfl ?_
  refine jr_iconst (v := 0) d_J_code_1 (by decide) ?_
  refine jr_bipush (v := 8) d_J_code_2 (by decide) ?_
  refine jv_S3r d_J_code_4 l_J_41 k_J_isWithin ⟨Nat.le_of_ble_eq_true rfl, Nat.le_of_ble_eq_true rfl⟩ (Nat.le_of_ble_eq_true rfl) (ct_J_isWithin) (by first | decide | exact Nat.zero_le _ | (dsimp only; omega) | (dsimp only; grind) | (omega)) (by first | decide | exact Nat.zero_le _ | (dsimp only; omega) | (dsimp only; grind) | (omega)) ?_
  refine jr_if_eq (tgt := 29) d_J_code_7 (by decide) (fun c7 => ?_) (fun c7 => ?_)
  · skip
    exfalso; clear hC; clear hJ; grind
  · skip
    refine jr_iload_n d_J_code_10 rfl rfl ?_
    refine jr_iconst (v := 0) d_J_code_11 (by decide) ?_
    refine jr_iconst (v := 2) d_J_code_12 (by decide) ?_
    refine jv_S3r d_J_code_13 l_J_41 k_J_isWithin ⟨Nat.le_of_ble_eq_true rfl, Nat.le_of_ble_eq_true rfl⟩ (Nat.le_of_ble_eq_true rfl) (ct_J_isWithin) (by first | decide | exact Nat.zero_le _ | (dsimp only; omega) | (dsimp only; grind) | (omega)) (by first | decide | exact Nat.zero_le _ | (dsimp only; omega) | (dsimp only; grind) | (omega)) ?_
    refine jr_if_eq (tgt := 29) d_J_code_16 (by decide) (fun c16 => ?_) (fun c16 => ?_)
    · skip
      exfalso; clear hC; clear hJ; grind
    · skip
      refine jr_aload_n d_J_code_19 rfl rfl ?_
      refine jr_getr d_J_code_20 f_J_37 rfl rfl ?_
      first | rw [j0] | rw [j1] | rw [j2] | rw [j3] | skip
      refine jv_V0r d_J_code_23 l_J_45 k_M_hasStrands ⟨Nat.le_of_ble_eq_true rfl, Nat.le_of_ble_eq_true rfl⟩ rfl rfl (Nat.le_of_ble_eq_true rfl) (ct_M_hasStrands) (by first | decide | exact Nat.zero_le _ | (dsimp only; omega) | (dsimp only; grind) | (omega)) (by first | decide | exact Nat.zero_le _ | (dsimp only; omega) | (dsimp only; grind) | (omega)) ?_
      refine jr_if_eq (tgt := 31) d_J_code_26 (by decide) (fun c26 => ?_) (fun c26 => ?_)
      · skip
        refine jr_aload_n d_J_code_31 rfl rfl ?_
        refine jr_getr d_J_code_32 f_J_10 rfl rfl ?_
        first | rw [j0] | rw [j1] | rw [j2] | rw [j3] | skip
        refine jr_iload_n d_J_code_35 rfl rfl ?_
        refine jr_iload_n d_J_code_36 rfl rfl ?_
        refine jv_V2rA d_J_code_37 l_J_49 k_Cs_begin ⟨Nat.le_of_ble_eq_true rfl, Nat.le_of_ble_eq_true rfl⟩ rfl rfl (Nat.le_of_ble_eq_true rfl) (hC) hlv (by first | decide | exact Nat.zero_le _ | (dsimp only; omega) | (dsimp only; grind) | (omega)) (by first | decide | exact Nat.zero_le _ | (dsimp only; omega) | (dsimp only; grind) | (omega)) ?_
        exact jr_retX (v := some _) d_J_code_40 (by first | exact Nat.le_refl _ | exact Nat.zero_le _ | (dsimp only; omega) | (omega)) (by first | exact Nat.le_refl _ | exact Nat.zero_le _ | (dsimp only; omega) | (omega)) (by first | with_reducible rfl | (dsimp only; rfl; done) | (rfl; done) | (exfalso; grind)) (by first | with_reducible rfl | (dsimp only; rfl; done) | (rfl; done) | (exfalso; grind)) (by first | with_reducible rfl | (dsimp only; rfl; done) | (rfl; done) | (exfalso; grind)) (by first | with_reducible rfl | (dsimp only; rfl; done) | (rfl; done) | (exfalso; grind))
      · skip
        exfalso; clear hC; clear hJ; grind
theorem ct_J_local_n {I : jc_I} {O : jc_O} {live : jc_L → Prop} {x : Int32} (hJ : jw_J O) (ho : O (1, 0, 0) 2 = none) : jc_Ct y_J_local [.inr (some (0, 0, 0)), .inl x] I O live (some (.inl (-14)), I, O, live, 0, 0) := by
  obtain ⟨j0, j1, j2, j3⟩ := id hJ
  refine jc_Ct.of (by decide +kernel) (Or.inl rfl) (Nat.le_of_ble_eq_true rfl) ?_
  refine jr_aload_n d_J_local_0 rfl rfl ?_
  refine jr_getr d_J_local_1 f_J_10 rfl rfl ?_
  first | rw [j0] | rw [j1] | rw [j2] | rw [j3] | rw [ho] | skip
  refine jv_V0r d_J_local_4 l_J_53 k_Cs_open ⟨Nat.le_of_ble_eq_true rfl, Nat.le_of_ble_eq_true rfl⟩ rfl rfl (Nat.le_of_ble_eq_true rfl) (ct_Cs_open) (by first | decide | exact Nat.zero_le _ | (dsimp only; omega) | (dsimp only; grind)) (by first | decide | exact Nat.zero_le _ | (dsimp only; omega) | (dsimp only; grind)) ?_
  first | rw [j0] | rw [j1] | rw [j2] | rw [j3] | rw [ho] | skip
  refine jr_astore_n d_J_local_7 rfl (Nat.le_of_ble_eq_true rfl) ?_
  refine jr_aload_n d_J_local_8 rfl rfl ?_
  refine jr_ifnonnull (tgt := 15) d_J_local_9 (by decide) (fun q9 c9 => by cases c9) (fun c9 => ?_)
  refine jr_bipush (v := (-14)) d_J_local_12 (by decide) ?_
  exact jr_retX (v := some _) d_J_local_14 (by first | exact Nat.le_refl _ | exact Nat.zero_le _ | (dsimp only; omega)) (by first | exact Nat.le_refl _ | exact Nat.zero_le _ | (dsimp only; omega)) (by first | with_reducible rfl | (dsimp only; rfl; done) | (rfl; done) | (exfalso; grind)) (by first | with_reducible rfl | (dsimp only; rfl; done) | (rfl; done) | (exfalso; grind)) (by first | with_reducible rfl | (dsimp only; rfl; done) | (rfl; done) | (exfalso; grind)) (by first | with_reducible rfl | (dsimp only; rfl; done) | (rfl; done) | (exfalso; grind))
theorem ct_J_local_y {I : jc_I} {O : jc_O} {live : jc_L → Prop} {x : Int32} {c : Nat} (hJ : jw_J O) (ho : O (1, 0, 0) 2 = some (6, c, 0)) (h3 : O (6, c, 0) 3 = some (20, c, 0)) (h0 : 0 ≤ I (6, c, 0) 7) : jc_Ct y_J_local [.inr (some (0, 0, 0)), .inl x] I O live (some (.inl (if 1 ≤ x ∧ x ≤ 2 then (if 8 ≤ I (6, c, 0) 7 then -12 else I (6, c, 0) 7 + 1) else -1)), if 1 ≤ x ∧ x ≤ 2 then (if 8 ≤ I (6, c, 0) 7 then I else jc_up (jc_up I (20, c, 0) (I (6, c, 0) 7).toNatClampNeg x) (6, c, 0) 7 (I (6, c, 0) 7 + 1)) else I, O, live, 0, 0) := by
  obtain ⟨j0, j1, j2, j3⟩ := id hJ
  refine jc_Ct.of (by decide +kernel) (Or.inl rfl) (Nat.le_of_ble_eq_true rfl) ?_
  refine jr_aload_n d_J_local_0 rfl rfl ?_
  refine jr_getr d_J_local_1 f_J_10 rfl rfl ?_
  first | rw [j0] | rw [j1] | rw [j2] | rw [j3] | rw [ho] | skip
  refine jv_V0r d_J_local_4 l_J_53 k_Cs_open ⟨Nat.le_of_ble_eq_true rfl, Nat.le_of_ble_eq_true rfl⟩ rfl rfl (Nat.le_of_ble_eq_true rfl) (ct_Cs_open) (by first | decide | exact Nat.zero_le _ | (dsimp only; omega) | (dsimp only; clear hJ; grind)) (by first | decide | exact Nat.zero_le _ | (dsimp only; omega) | (dsimp only; clear hJ; grind)) ?_
  first | rw [j0] | rw [j1] | rw [j2] | rw [j3] | rw [ho] | skip
  refine jr_astore_n d_J_local_7 rfl (Nat.le_of_ble_eq_true rfl) ?_
  refine jr_aload_n d_J_local_8 rfl rfl ?_
  refine jr_ifnonnull (tgt := 15) d_J_local_9 (by decide) (fun q9 c9 => ?_) (fun c9 => by cases c9)
  refine jr_iload_n d_J_local_15 rfl rfl ?_
  refine jr_iconst (v := 1) d_J_local_16 (by decide) ?_
  refine jr_iconst (v := 2) d_J_local_17 (by decide) ?_
  refine jv_S3r d_J_local_18 l_J_41 k_J_isWithin ⟨Nat.le_of_ble_eq_true rfl, Nat.le_of_ble_eq_true rfl⟩ (Nat.le_of_ble_eq_true rfl) (ct_J_isWithin) (by first | decide | exact Nat.zero_le _ | (dsimp only; omega) | (dsimp only; clear hJ; grind)) (by first | decide | exact Nat.zero_le _ | (dsimp only; omega) | (dsimp only; clear hJ; grind)) ?_
  refine jr_if_eq (tgt := 32) d_J_local_21 (by decide) (fun c21 => ?_) (fun c21 => ?_)
  · skip
    refine jr_iconst (v := (-1)) d_J_local_32 (by decide) ?_
    exact jr_retX (v := some _) d_J_local_33 (by first | exact Nat.le_refl _ | exact Nat.zero_le _ | (dsimp only; omega)) (by first | exact Nat.le_refl _ | exact Nat.zero_le _ | (dsimp only; omega)) (by first | with_reducible rfl | (dsimp only; (clear hJ; first | (rw [if_pos (show 1 ≤ x ∧ x ≤ 2 by grind)]; done) | (rw [if_neg (show ¬ (1 ≤ x ∧ x ≤ 2) by grind)]; done)); done) | ((clear hJ; first | (rw [if_pos (show 1 ≤ x ∧ x ≤ 2 by grind)]; done) | (rw [if_neg (show ¬ (1 ≤ x ∧ x ≤ 2) by grind)]; done)); done) | (exfalso; clear hJ; grind)) (by first | with_reducible rfl | (dsimp only; (clear hJ; first | (rw [if_pos (show 1 ≤ x ∧ x ≤ 2 by grind)]; done) | (rw [if_neg (show ¬ (1 ≤ x ∧ x ≤ 2) by grind)]; done)); done) | ((clear hJ; first | (rw [if_pos (show 1 ≤ x ∧ x ≤ 2 by grind)]; done) | (rw [if_neg (show ¬ (1 ≤ x ∧ x ≤ 2) by grind)]; done)); done) | (exfalso; clear hJ; grind)) (by first | with_reducible rfl | (dsimp only; (clear hJ; first | (rw [if_pos (show 1 ≤ x ∧ x ≤ 2 by grind)]; done) | (rw [if_neg (show ¬ (1 ≤ x ∧ x ≤ 2) by grind)]; done)); done) | ((clear hJ; first | (rw [if_pos (show 1 ≤ x ∧ x ≤ 2 by grind)]; done) | (rw [if_neg (show ¬ (1 ≤ x ∧ x ≤ 2) by grind)]; done)); done) | (exfalso; clear hJ; grind)) (by first | with_reducible rfl | (dsimp only; (clear hJ; first | (rw [if_pos (show 1 ≤ x ∧ x ≤ 2 by grind)]; done) | (rw [if_neg (show ¬ (1 ≤ x ∧ x ≤ 2) by grind)]; done)); done) | ((clear hJ; first | (rw [if_pos (show 1 ≤ x ∧ x ≤ 2 by grind)]; done) | (rw [if_neg (show ¬ (1 ≤ x ∧ x ≤ 2) by grind)]; done)); done) | (exfalso; clear hJ; grind))
  · skip
    refine jr_aload_n d_J_local_24 rfl rfl ?_
    refine jr_iload_n d_J_local_25 rfl rfl ?_
    refine jv_V1r d_J_local_26 l_J_57 k_C_tellLocal ⟨Nat.le_of_ble_eq_true rfl, Nat.le_of_ble_eq_true rfl⟩ rfl rfl (Nat.le_of_ble_eq_true rfl) (ct_C_tellLocal h3 h0) (by first | decide | exact Nat.zero_le _ | (dsimp only; omega) | (dsimp only; clear hJ; grind)) (by first | decide | exact Nat.zero_le _ | (dsimp only; omega) | (dsimp only; clear hJ; grind)) ?_
    refine jr_goto (tgt := 33) d_J_local_29 (by decide) ?_
    exact jr_retX (v := some _) d_J_local_33 (by first | exact Nat.le_refl _ | exact Nat.zero_le _ | (dsimp only; omega)) (by first | exact Nat.le_refl _ | exact Nat.zero_le _ | (dsimp only; omega)) (by first | with_reducible rfl | (dsimp only; (clear hJ; first | (rw [if_pos (show 1 ≤ x ∧ x ≤ 2 by grind)]; done) | (rw [if_neg (show ¬ (1 ≤ x ∧ x ≤ 2) by grind)]; done)); done) | ((clear hJ; first | (rw [if_pos (show 1 ≤ x ∧ x ≤ 2 by grind)]; done) | (rw [if_neg (show ¬ (1 ≤ x ∧ x ≤ 2) by grind)]; done)); done) | (exfalso; clear hJ; grind)) (by first | with_reducible rfl | (dsimp only; (clear hJ; first | (rw [if_pos (show 1 ≤ x ∧ x ≤ 2 by grind)]; done) | (rw [if_neg (show ¬ (1 ≤ x ∧ x ≤ 2) by grind)]; done)); done) | ((clear hJ; first | (rw [if_pos (show 1 ≤ x ∧ x ≤ 2 by grind)]; done) | (rw [if_neg (show ¬ (1 ≤ x ∧ x ≤ 2) by grind)]; done)); done) | (exfalso; clear hJ; grind)) (by first | with_reducible rfl | (dsimp only; (clear hJ; first | (rw [if_pos (show 1 ≤ x ∧ x ≤ 2 by grind)]; done) | (rw [if_neg (show ¬ (1 ≤ x ∧ x ≤ 2) by grind)]; done)); done) | ((clear hJ; first | (rw [if_pos (show 1 ≤ x ∧ x ≤ 2 by grind)]; done) | (rw [if_neg (show ¬ (1 ≤ x ∧ x ≤ 2) by grind)]; done)); done) | (exfalso; clear hJ; grind)) (by first | with_reducible rfl | (dsimp only; (clear hJ; first | (rw [if_pos (show 1 ≤ x ∧ x ≤ 2 by grind)]; done) | (rw [if_neg (show ¬ (1 ≤ x ∧ x ≤ 2) by grind)]; done)); done) | ((clear hJ; first | (rw [if_pos (show 1 ≤ x ∧ x ≤ 2 by grind)]; done) | (rw [if_neg (show ¬ (1 ≤ x ∧ x ≤ 2) by grind)]; done)); done) | (exfalso; clear hJ; grind))
theorem ct_J_add_n {I : jc_I} {O : jc_O} {live : jc_L → Prop} {x a : Int32} (hJ : jw_J O) (ho : O (1, 0, 0) 2 = none) : jc_Ct y_J_add [.inr (some (0, 0, 0)), .inl x, .inl a] I O live (some (.inl (-14)), I, O, live, 0, 0) := by
  obtain ⟨j0, j1, j2, j3⟩ := id hJ
  refine jc_Ct.of (by decide +kernel) (Or.inl rfl) (Nat.le_of_ble_eq_true rfl) ?_
  refine jr_aload_n d_J_add_0 rfl rfl ?_
  refine jr_getr d_J_add_1 f_J_10 rfl rfl ?_
  first | rw [j0] | rw [j1] | rw [j2] | rw [j3] | rw [ho] | skip
  refine jv_V0r d_J_add_4 l_J_53 k_Cs_open ⟨Nat.le_of_ble_eq_true rfl, Nat.le_of_ble_eq_true rfl⟩ rfl rfl (Nat.le_of_ble_eq_true rfl) (ct_Cs_open) (by first | decide | exact Nat.zero_le _ | (dsimp only; omega) | (dsimp only; grind)) (by first | decide | exact Nat.zero_le _ | (dsimp only; omega) | (dsimp only; grind)) ?_
  first | rw [j0] | rw [j1] | rw [j2] | rw [j3] | rw [ho] | skip
  refine jr_astore_n d_J_add_7 rfl (Nat.le_of_ble_eq_true rfl) ?_
  refine jr_aload_n d_J_add_8 rfl rfl ?_
  refine jr_ifnonnull (tgt := 15) d_J_add_9 (by decide) (fun q9 c9 => by cases c9) (fun c9 => ?_)
  refine jr_bipush (v := (-14)) d_J_add_12 (by decide) ?_
  exact jr_retX (v := some _) d_J_add_14 (by first | exact Nat.le_refl _ | exact Nat.zero_le _ | (dsimp only; omega)) (by first | exact Nat.le_refl _ | exact Nat.zero_le _ | (dsimp only; omega)) (by first | with_reducible rfl | (dsimp only; rfl; done) | (rfl; done) | (exfalso; grind)) (by first | with_reducible rfl | (dsimp only; rfl; done) | (rfl; done) | (exfalso; grind)) (by first | with_reducible rfl | (dsimp only; rfl; done) | (rfl; done) | (exfalso; grind)) (by first | with_reducible rfl | (dsimp only; rfl; done) | (rfl; done) | (exfalso; grind))
theorem ct_J_add_y {I : jc_I} {O : jc_O} {live : jc_L → Prop} {x a : Int32} {c : Nat} (hJ : jw_J O) (ho : O (1, 0, 0) 2 = some (6, c, 0)) (h4 : O (6, c, 0) 4 = some (21, c, 0)) (h5 : O (6, c, 0) 5 = some (22, c, 0)) (h0 : 0 ≤ I (6, c, 0) 8) : jc_Ct y_J_add [.inr (some (0, 0, 0)), .inl x, .inl a] I O live (some (.inl (if q_fit x a ≠ 0 then (if 60 ≤ I (6, c, 0) 8 then -12 else I (6, c, 0) 8 + 1 - 1) else -1)), if q_fit x a ≠ 0 then (if 60 ≤ I (6, c, 0) 8 then I else jc_up (jc_up (jc_up I (21, c, 0) (I (6, c, 0) 8).toNatClampNeg x) (22, c, 0) (I (6, c, 0) 8).toNatClampNeg a) (6, c, 0) 8 (I (6, c, 0) 8 + 1)) else I, O, live, 0, 0) := by
  obtain ⟨j0, j1, j2, j3⟩ := id hJ
  refine jc_Ct.of (by decide +kernel) (Or.inl rfl) (Nat.le_of_ble_eq_true rfl) ?_
  refine jr_aload_n d_J_add_0 rfl rfl ?_
  refine jr_getr d_J_add_1 f_J_10 rfl rfl ?_
  first | rw [j0] | rw [j1] | rw [j2] | rw [j3] | rw [ho] | skip
  refine jv_V0r d_J_add_4 l_J_53 k_Cs_open ⟨Nat.le_of_ble_eq_true rfl, Nat.le_of_ble_eq_true rfl⟩ rfl rfl (Nat.le_of_ble_eq_true rfl) (ct_Cs_open) (by first | decide | exact Nat.zero_le _ | (dsimp only; omega) | (dsimp only; clear hJ; grind)) (by first | decide | exact Nat.zero_le _ | (dsimp only; omega) | (dsimp only; clear hJ; grind)) ?_
  first | rw [j0] | rw [j1] | rw [j2] | rw [j3] | rw [ho] | skip
  refine jr_astore_n d_J_add_7 rfl (Nat.le_of_ble_eq_true rfl) ?_
  refine jr_aload_n d_J_add_8 rfl rfl ?_
  refine jr_ifnonnull (tgt := 15) d_J_add_9 (by decide) (fun q9 c9 => ?_) (fun c9 => by cases c9)
  refine jr_iload_n d_J_add_15 rfl rfl ?_
  refine jr_iload_n d_J_add_16 rfl rfl ?_
  refine jv_S2r d_J_add_17 l_J_63 k_J_fits ⟨Nat.le_of_ble_eq_true rfl, Nat.le_of_ble_eq_true rfl⟩ (Nat.le_of_ble_eq_true rfl) (show jc_Ct y_J_fits _ _ _ _ (some (.inl (q_fit x a)), _, _, _, 0, 0) from ct_J_fits) (by first | decide | exact Nat.zero_le _ | (dsimp only; omega) | (dsimp only; clear hJ; grind)) (by first | decide | exact Nat.zero_le _ | (dsimp only; omega) | (dsimp only; clear hJ; grind)) ?_
  refine jr_if_eq (tgt := 32) d_J_add_20 (by decide) (fun c20 => ?_) (fun c20 => ?_)
  · skip
    refine jr_iconst (v := (-1)) d_J_add_32 (by decide) ?_
    exact jr_retX (v := some _) d_J_add_33 (by first | exact Nat.le_refl _ | exact Nat.zero_le _ | (dsimp only; omega)) (by first | exact Nat.le_refl _ | exact Nat.zero_le _ | (dsimp only; omega)) (by first | with_reducible rfl | (dsimp only; (first | (rw [if_pos (show q_fit x a ≠ 0 by assumption)]; done) | (rw [if_neg (by intro h9; exact h9 (by assumption))]; done)); done) | ((first | (rw [if_pos (show q_fit x a ≠ 0 by assumption)]; done) | (rw [if_neg (by intro h9; exact h9 (by assumption))]; done)); done) | (exfalso; clear hJ; grind)) (by first | with_reducible rfl | (dsimp only; (first | (rw [if_pos (show q_fit x a ≠ 0 by assumption)]; done) | (rw [if_neg (by intro h9; exact h9 (by assumption))]; done)); done) | ((first | (rw [if_pos (show q_fit x a ≠ 0 by assumption)]; done) | (rw [if_neg (by intro h9; exact h9 (by assumption))]; done)); done) | (exfalso; clear hJ; grind)) (by first | with_reducible rfl | (dsimp only; (first | (rw [if_pos (show q_fit x a ≠ 0 by assumption)]; done) | (rw [if_neg (by intro h9; exact h9 (by assumption))]; done)); done) | ((first | (rw [if_pos (show q_fit x a ≠ 0 by assumption)]; done) | (rw [if_neg (by intro h9; exact h9 (by assumption))]; done)); done) | (exfalso; clear hJ; grind)) (by first | with_reducible rfl | (dsimp only; (first | (rw [if_pos (show q_fit x a ≠ 0 by assumption)]; done) | (rw [if_neg (by intro h9; exact h9 (by assumption))]; done)); done) | ((first | (rw [if_pos (show q_fit x a ≠ 0 by assumption)]; done) | (rw [if_neg (by intro h9; exact h9 (by assumption))]; done)); done) | (exfalso; clear hJ; grind))
  · skip
    refine jr_aload_n d_J_add_23 rfl rfl ?_
    refine jr_iload_n d_J_add_24 rfl rfl ?_
    refine jr_iload_n d_J_add_25 rfl rfl ?_
    refine jv_V2r d_J_add_26 l_J_67 k_C_tellInstruction ⟨Nat.le_of_ble_eq_true rfl, Nat.le_of_ble_eq_true rfl⟩ rfl rfl (Nat.le_of_ble_eq_true rfl) (ct_C_tellInstruction h4 h5 h0) (by first | decide | exact Nat.zero_le _ | (dsimp only; omega) | (dsimp only; clear hJ; grind)) (by first | decide | exact Nat.zero_le _ | (dsimp only; omega) | (dsimp only; clear hJ; grind)) ?_
    refine jr_goto (tgt := 33) d_J_add_29 (by decide) ?_
    exact jr_retX (v := some _) d_J_add_33 (by first | exact Nat.le_refl _ | exact Nat.zero_le _ | (dsimp only; omega)) (by first | exact Nat.le_refl _ | exact Nat.zero_le _ | (dsimp only; omega)) (by first | with_reducible rfl | (dsimp only; (first | (rw [if_pos (show q_fit x a ≠ 0 by assumption)]; done) | (rw [if_neg (by intro h9; exact h9 (by assumption))]; done)); done) | ((first | (rw [if_pos (show q_fit x a ≠ 0 by assumption)]; done) | (rw [if_neg (by intro h9; exact h9 (by assumption))]; done)); done) | (exfalso; clear hJ; grind)) (by first | with_reducible rfl | (dsimp only; (first | (rw [if_pos (show q_fit x a ≠ 0 by assumption)]; done) | (rw [if_neg (by intro h9; exact h9 (by assumption))]; done)); done) | ((first | (rw [if_pos (show q_fit x a ≠ 0 by assumption)]; done) | (rw [if_neg (by intro h9; exact h9 (by assumption))]; done)); done) | (exfalso; clear hJ; grind)) (by first | with_reducible rfl | (dsimp only; (first | (rw [if_pos (show q_fit x a ≠ 0 by assumption)]; done) | (rw [if_neg (by intro h9; exact h9 (by assumption))]; done)); done) | ((first | (rw [if_pos (show q_fit x a ≠ 0 by assumption)]; done) | (rw [if_neg (by intro h9; exact h9 (by assumption))]; done)); done) | (exfalso; clear hJ; grind)) (by first | with_reducible rfl | (dsimp only; (first | (rw [if_pos (show q_fit x a ≠ 0 by assumption)]; done) | (rw [if_neg (by intro h9; exact h9 (by assumption))]; done)); done) | ((first | (rw [if_pos (show q_fit x a ≠ 0 by assumption)]; done) | (rw [if_neg (by intro h9; exact h9 (by assumption))]; done)); done) | (exfalso; clear hJ; grind))
theorem ct_J_row_n {I : jc_I} {O : jc_O} {live : jc_L → Prop} {x z a k : Int32} (hJ : jw_J O) (ho : O (1, 0, 0) 2 = none) : jc_Ct y_J_row [.inr (some (0, 0, 0)), .inl x, .inl z, .inl a, .inl k] I O live (some (.inl (-14)), I, O, live, 0, 0) := by
  obtain ⟨j0, j1, j2, j3⟩ := id hJ
  refine jc_Ct.of (by decide +kernel) (Or.inl rfl) (Nat.le_of_ble_eq_true rfl) ?_
  refine jr_aload_n d_J_row_0 rfl rfl ?_
  refine jr_getr d_J_row_1 f_J_10 rfl rfl ?_
  first | rw [j0] | rw [j1] | rw [j2] | rw [j3] | rw [ho] | skip
  refine jv_V0r d_J_row_4 l_J_53 k_Cs_open ⟨Nat.le_of_ble_eq_true rfl, Nat.le_of_ble_eq_true rfl⟩ rfl rfl (Nat.le_of_ble_eq_true rfl) (ct_Cs_open) (by first | decide | exact Nat.zero_le _ | (dsimp only; omega) | (dsimp only; grind)) (by first | decide | exact Nat.zero_le _ | (dsimp only; omega) | (dsimp only; grind)) ?_
  first | rw [j0] | rw [j1] | rw [j2] | rw [j3] | rw [ho] | skip
  refine jr_astore d_J_row_7 (Nat.le_of_ble_eq_true rfl) ?_
  refine jr_aload d_J_row_9 rfl ?_
  refine jr_ifnonnull (tgt := 17) d_J_row_11 (by decide) (fun q11 c11 => by cases c11) (fun c11 => ?_)
  refine jr_bipush (v := (-14)) d_J_row_14 (by decide) ?_
  exact jr_retX (v := some _) d_J_row_16 (by first | exact Nat.le_refl _ | exact Nat.zero_le _ | (dsimp only; omega)) (by first | exact Nat.le_refl _ | exact Nat.zero_le _ | (dsimp only; omega)) (by first | with_reducible rfl | (dsimp only; rfl; done) | (rfl; done) | (exfalso; grind)) (by first | with_reducible rfl | (dsimp only; rfl; done) | (rfl; done) | (exfalso; grind)) (by first | with_reducible rfl | (dsimp only; rfl; done) | (rfl; done) | (exfalso; grind)) (by first | with_reducible rfl | (dsimp only; rfl; done) | (rfl; done) | (exfalso; grind))
theorem ct_J_row_r {I : jc_I} {O : jc_O} {live : jc_L → Prop} {x z a k : Int32} {c : Nat} (hJ : jw_J O) (ho : O (1, 0, 0) 2 = some (6, c, 0)) (hx : ¬ ((0 ≤ x ∧ x ≤ 60) ∧ (0 ≤ z ∧ z ≤ 60) ∧ (0 ≤ a ∧ a ≤ 60) ∧ (0 ≤ k ∧ k ≤ 10))) : jc_Ct y_J_row [.inr (some (0, 0, 0)), .inl x, .inl z, .inl a, .inl k] I O live (some (.inl (-1)), I, O, live, 0, 0) := by
  obtain ⟨j0, j1, j2, j3⟩ := id hJ
  refine jc_Ct.of (by decide +kernel) (Or.inl rfl) (Nat.le_of_ble_eq_true rfl) ?_
  refine jr_aload_n d_J_row_0 rfl rfl ?_
  refine jr_getr d_J_row_1 f_J_10 rfl rfl ?_
  first | rw [j0] | rw [j1] | rw [j2] | rw [j3] | rw [ho] | skip
  refine jv_V0r d_J_row_4 l_J_53 k_Cs_open ⟨Nat.le_of_ble_eq_true rfl, Nat.le_of_ble_eq_true rfl⟩ rfl rfl (Nat.le_of_ble_eq_true rfl) (ct_Cs_open) (by first | decide | exact Nat.zero_le _ | (dsimp only; omega) | (dsimp only; clear hJ; grind)) (by first | decide | exact Nat.zero_le _ | (dsimp only; omega) | (dsimp only; clear hJ; grind)) ?_
  first | rw [j0] | rw [j1] | rw [j2] | rw [j3] | rw [ho] | skip
  refine jr_astore d_J_row_7 (Nat.le_of_ble_eq_true rfl) ?_
  refine jr_aload d_J_row_9 rfl ?_
  refine jr_ifnonnull (tgt := 17) d_J_row_11 (by decide) (fun q11 c11 => ?_) (fun c11 => by cases c11)
  refine jr_iload_n d_J_row_17 rfl rfl ?_
  refine jr_iconst (v := 0) d_J_row_18 (by decide) ?_
  refine jr_bipush (v := 60) d_J_row_19 (by decide) ?_
  refine jv_S3r d_J_row_21 l_J_41 k_J_isWithin ⟨Nat.le_of_ble_eq_true rfl, Nat.le_of_ble_eq_true rfl⟩ (Nat.le_of_ble_eq_true rfl) (ct_J_isWithin) (by first | decide | exact Nat.zero_le _ | (dsimp only; omega) | (dsimp only; clear hJ; grind)) (by first | decide | exact Nat.zero_le _ | (dsimp only; omega) | (dsimp only; clear hJ; grind)) ?_
  refine jr_if_eq (tgt := 62) d_J_row_24 (by decide) (fun c24 => ?_) (fun c24 => ?_)
  · skip
    refine jr_iconst (v := 0) d_J_row_62 (by decide) ?_
    refine jr_istore d_J_row_63 (Nat.le_of_ble_eq_true rfl) ?_
    refine jr_iload d_J_row_65 rfl ?_
    refine jr_if_eq (tgt := 83) d_J_row_67 (by decide) (fun c67 => ?_) (fun c67 => ?_)
    · skip
      refine jr_iconst (v := (-1)) d_J_row_83 (by decide) ?_
      exact jr_retX (v := some _) d_J_row_84 (by first | exact Nat.le_refl _ | exact Nat.zero_le _ | (dsimp only; omega)) (by first | exact Nat.le_refl _ | exact Nat.zero_le _ | (dsimp only; omega)) (by first | with_reducible rfl | (dsimp only; rfl; done) | (rfl; done) | (exfalso; clear hJ; grind)) (by first | with_reducible rfl | (dsimp only; rfl; done) | (rfl; done) | (exfalso; clear hJ; grind)) (by first | with_reducible rfl | (dsimp only; rfl; done) | (rfl; done) | (exfalso; clear hJ; grind)) (by first | with_reducible rfl | (dsimp only; rfl; done) | (rfl; done) | (exfalso; clear hJ; grind))
    · skip
      exfalso; first | exact c67 rfl | (clear hJ; grind)
  · skip
    refine jr_iload_n d_J_row_27 rfl rfl ?_
    refine jr_iconst (v := 0) d_J_row_28 (by decide) ?_
    refine jr_bipush (v := 60) d_J_row_29 (by decide) ?_
    refine jv_S3r d_J_row_31 l_J_41 k_J_isWithin ⟨Nat.le_of_ble_eq_true rfl, Nat.le_of_ble_eq_true rfl⟩ (Nat.le_of_ble_eq_true rfl) (ct_J_isWithin) (by first | decide | exact Nat.zero_le _ | (dsimp only; omega) | (dsimp only; clear hJ; grind)) (by first | decide | exact Nat.zero_le _ | (dsimp only; omega) | (dsimp only; clear hJ; grind)) ?_
    refine jr_if_eq (tgt := 62) d_J_row_34 (by decide) (fun c34 => ?_) (fun c34 => ?_)
    · skip
      refine jr_iconst (v := 0) d_J_row_62 (by decide) ?_
      refine jr_istore d_J_row_63 (Nat.le_of_ble_eq_true rfl) ?_
      refine jr_iload d_J_row_65 rfl ?_
      refine jr_if_eq (tgt := 83) d_J_row_67 (by decide) (fun c67 => ?_) (fun c67 => ?_)
      · skip
        refine jr_iconst (v := (-1)) d_J_row_83 (by decide) ?_
        exact jr_retX (v := some _) d_J_row_84 (by first | exact Nat.le_refl _ | exact Nat.zero_le _ | (dsimp only; omega)) (by first | exact Nat.le_refl _ | exact Nat.zero_le _ | (dsimp only; omega)) (by first | with_reducible rfl | (dsimp only; rfl; done) | (rfl; done) | (exfalso; clear hJ; grind)) (by first | with_reducible rfl | (dsimp only; rfl; done) | (rfl; done) | (exfalso; clear hJ; grind)) (by first | with_reducible rfl | (dsimp only; rfl; done) | (rfl; done) | (exfalso; clear hJ; grind)) (by first | with_reducible rfl | (dsimp only; rfl; done) | (rfl; done) | (exfalso; clear hJ; grind))
      · skip
        exfalso; first | exact c67 rfl | (clear hJ; grind)
    · skip
      refine jr_iload_n d_J_row_37 rfl rfl ?_
      refine jr_iconst (v := 0) d_J_row_38 (by decide) ?_
      refine jr_bipush (v := 60) d_J_row_39 (by decide) ?_
      refine jv_S3r d_J_row_41 l_J_41 k_J_isWithin ⟨Nat.le_of_ble_eq_true rfl, Nat.le_of_ble_eq_true rfl⟩ (Nat.le_of_ble_eq_true rfl) (ct_J_isWithin) (by first | decide | exact Nat.zero_le _ | (dsimp only; omega) | (dsimp only; clear hJ; grind)) (by first | decide | exact Nat.zero_le _ | (dsimp only; omega) | (dsimp only; clear hJ; grind)) ?_
      refine jr_if_eq (tgt := 62) d_J_row_44 (by decide) (fun c44 => ?_) (fun c44 => ?_)
      · skip
        refine jr_iconst (v := 0) d_J_row_62 (by decide) ?_
        refine jr_istore d_J_row_63 (Nat.le_of_ble_eq_true rfl) ?_
        refine jr_iload d_J_row_65 rfl ?_
        refine jr_if_eq (tgt := 83) d_J_row_67 (by decide) (fun c67 => ?_) (fun c67 => ?_)
        · skip
          refine jr_iconst (v := (-1)) d_J_row_83 (by decide) ?_
          exact jr_retX (v := some _) d_J_row_84 (by first | exact Nat.le_refl _ | exact Nat.zero_le _ | (dsimp only; omega)) (by first | exact Nat.le_refl _ | exact Nat.zero_le _ | (dsimp only; omega)) (by first | with_reducible rfl | (dsimp only; rfl; done) | (rfl; done) | (exfalso; clear hJ; grind)) (by first | with_reducible rfl | (dsimp only; rfl; done) | (rfl; done) | (exfalso; clear hJ; grind)) (by first | with_reducible rfl | (dsimp only; rfl; done) | (rfl; done) | (exfalso; clear hJ; grind)) (by first | with_reducible rfl | (dsimp only; rfl; done) | (rfl; done) | (exfalso; clear hJ; grind))
        · skip
          exfalso; first | exact c67 rfl | (clear hJ; grind)
      · skip
        refine jr_iload d_J_row_47 rfl ?_
        refine jr_iconst (v := 0) d_J_row_49 (by decide) ?_
        refine jr_bipush (v := 10) d_J_row_50 (by decide) ?_
        refine jv_S3r d_J_row_52 l_J_41 k_J_isWithin ⟨Nat.le_of_ble_eq_true rfl, Nat.le_of_ble_eq_true rfl⟩ (Nat.le_of_ble_eq_true rfl) (ct_J_isWithin) (by first | decide | exact Nat.zero_le _ | (dsimp only; omega) | (dsimp only; clear hJ; grind)) (by first | decide | exact Nat.zero_le _ | (dsimp only; omega) | (dsimp only; clear hJ; grind)) ?_
        refine jr_if_eq (tgt := 62) d_J_row_55 (by decide) (fun c55 => ?_) (fun c55 => ?_)
        · skip
          refine jr_iconst (v := 0) d_J_row_62 (by decide) ?_
          refine jr_istore d_J_row_63 (Nat.le_of_ble_eq_true rfl) ?_
          refine jr_iload d_J_row_65 rfl ?_
          refine jr_if_eq (tgt := 83) d_J_row_67 (by decide) (fun c67 => ?_) (fun c67 => ?_)
          · skip
            refine jr_iconst (v := (-1)) d_J_row_83 (by decide) ?_
            exact jr_retX (v := some _) d_J_row_84 (by first | exact Nat.le_refl _ | exact Nat.zero_le _ | (dsimp only; omega)) (by first | exact Nat.le_refl _ | exact Nat.zero_le _ | (dsimp only; omega)) (by first | with_reducible rfl | (dsimp only; rfl; done) | (rfl; done) | (exfalso; clear hJ; grind)) (by first | with_reducible rfl | (dsimp only; rfl; done) | (rfl; done) | (exfalso; clear hJ; grind)) (by first | with_reducible rfl | (dsimp only; rfl; done) | (rfl; done) | (exfalso; clear hJ; grind)) (by first | with_reducible rfl | (dsimp only; rfl; done) | (rfl; done) | (exfalso; clear hJ; grind))
          · skip
            exfalso; first | exact c67 rfl | (clear hJ; grind)
        · skip
          refine jr_iconst (v := 1) d_J_row_58 (by decide) ?_
          refine jr_goto (tgt := 63) d_J_row_59 (by decide) ?_
          refine jr_istore d_J_row_63 (Nat.le_of_ble_eq_true rfl) ?_
          refine jr_iload d_J_row_65 rfl ?_
          refine jr_if_eq (tgt := 83) d_J_row_67 (by decide) (fun c67 => ?_) (fun c67 => ?_)
          · skip
            refine jr_iconst (v := (-1)) d_J_row_83 (by decide) ?_
            exact jr_retX (v := some _) d_J_row_84 (by first | exact Nat.le_refl _ | exact Nat.zero_le _ | (dsimp only; omega)) (by first | exact Nat.le_refl _ | exact Nat.zero_le _ | (dsimp only; omega)) (by first | with_reducible rfl | (dsimp only; rfl; done) | (rfl; done) | (exfalso; clear hJ; grind)) (by first | with_reducible rfl | (dsimp only; rfl; done) | (rfl; done) | (exfalso; clear hJ; grind)) (by first | with_reducible rfl | (dsimp only; rfl; done) | (rfl; done) | (exfalso; clear hJ; grind)) (by first | with_reducible rfl | (dsimp only; rfl; done) | (rfl; done) | (exfalso; clear hJ; grind))
          · skip
            exfalso; first | exact c67 rfl | (clear hJ; grind)
theorem ct_J_row_y {I : jc_I} {O : jc_O} {live : jc_L → Prop} {x z a k : Int32} {c : Nat} {I1 : jc_I} {O1 : jc_O} {live1 : jc_L → Prop} {mc1 ms1 : Nat} {v1 : Int32} (hJ : jw_J O) (ho : O (1, 0, 0) 2 = some (6, c, 0)) (hx : ((0 ≤ x ∧ x ≤ 60) ∧ (0 ≤ z ∧ z ≤ 60) ∧ (0 ≤ a ∧ a ≤ 60) ∧ (0 ≤ k ∧ k ≤ 10))) (hlv : ∀ q, live q → live1 q) (hC : jc_Ct y_C_tellRow [.inr (some (6, c, 0)), .inl x, .inl z, .inl a, .inl k] I O live (some (.inl v1), I1, O1, live1, mc1, ms1)) : jc_Ct y_J_row [.inr (some (0, 0, 0)), .inl x, .inl z, .inl a, .inl k] I O live (some (.inl v1), I1, O1, live1, mc1, ms1) := by
  obtain ⟨j0, j1, j2, j3⟩ := id hJ
  refine jc_Ct.of (by decide +kernel) (Or.inl rfl) (Nat.le_of_ble_eq_true rfl) ?_
  refine jr_aload_n d_J_row_0 rfl rfl ?_
  refine jr_getr d_J_row_1 f_J_10 rfl rfl ?_
  first | rw [j0] | rw [j1] | rw [j2] | rw [j3] | rw [ho] | skip
  refine jv_V0r d_J_row_4 l_J_53 k_Cs_open ⟨Nat.le_of_ble_eq_true rfl, Nat.le_of_ble_eq_true rfl⟩ rfl rfl (Nat.le_of_ble_eq_true rfl) (ct_Cs_open) (by first | decide | exact Nat.zero_le _ | (dsimp only; omega) | (dsimp only; clear hC; clear hJ; grind) | (omega)) (by first | decide | exact Nat.zero_le _ | (dsimp only; omega) | (dsimp only; clear hC; clear hJ; grind) | (omega)) ?_
  first | rw [j0] | rw [j1] | rw [j2] | rw [j3] | rw [ho] | skip
  refine jr_astore d_J_row_7 (Nat.le_of_ble_eq_true rfl) ?_
  refine jr_aload d_J_row_9 rfl ?_
  refine jr_ifnonnull (tgt := 17) d_J_row_11 (by decide) (fun q11 c11 => ?_) (fun c11 => by cases c11)
  refine jr_iload_n d_J_row_17 rfl rfl ?_
  refine jr_iconst (v := 0) d_J_row_18 (by decide) ?_
  refine jr_bipush (v := 60) d_J_row_19 (by decide) ?_
  refine jv_S3r d_J_row_21 l_J_41 k_J_isWithin ⟨Nat.le_of_ble_eq_true rfl, Nat.le_of_ble_eq_true rfl⟩ (Nat.le_of_ble_eq_true rfl) (ct_J_isWithin) (by first | decide | exact Nat.zero_le _ | (dsimp only; omega) | (dsimp only; clear hC; clear hJ; grind) | (omega)) (by first | decide | exact Nat.zero_le _ | (dsimp only; omega) | (dsimp only; clear hC; clear hJ; grind) | (omega)) ?_
  refine jr_if_eq (tgt := 62) d_J_row_24 (by decide) (fun c24 => ?_) (fun c24 => ?_)
  · skip
    refine jr_iconst (v := 0) d_J_row_62 (by decide) ?_
    refine jr_istore d_J_row_63 (Nat.le_of_ble_eq_true rfl) ?_
    refine jr_iload d_J_row_65 rfl ?_
    refine jr_if_eq (tgt := 83) d_J_row_67 (by decide) (fun c67 => ?_) (fun c67 => ?_)
    · skip
      refine jr_iconst (v := (-1)) d_J_row_83 (by decide) ?_
      exact jr_retX (v := some _) d_J_row_84 (by first | exact Nat.le_refl _ | exact Nat.zero_le _ | (dsimp only; omega) | (omega)) (by first | exact Nat.le_refl _ | exact Nat.zero_le _ | (dsimp only; omega) | (omega)) (by first | with_reducible rfl | (dsimp only; rfl; done) | (rfl; done) | (exfalso; clear hC; clear hJ; grind)) (by first | with_reducible rfl | (dsimp only; rfl; done) | (rfl; done) | (exfalso; clear hC; clear hJ; grind)) (by first | with_reducible rfl | (dsimp only; rfl; done) | (rfl; done) | (exfalso; clear hC; clear hJ; grind)) (by first | with_reducible rfl | (dsimp only; rfl; done) | (rfl; done) | (exfalso; clear hC; clear hJ; grind))
    · skip
      refine jr_aload d_J_row_70 rfl ?_
      refine jr_iload_n d_J_row_72 rfl rfl ?_
      refine jr_iload_n d_J_row_73 rfl rfl ?_
      refine jr_iload_n d_J_row_74 rfl rfl ?_
      refine jr_iload d_J_row_75 rfl ?_
      refine jv_V4rA d_J_row_77 l_J_70 k_C_tellRow ⟨Nat.le_of_ble_eq_true rfl, Nat.le_of_ble_eq_true rfl⟩ rfl rfl (Nat.le_of_ble_eq_true rfl) (hC) hlv (by first | decide | exact Nat.zero_le _ | (dsimp only; omega) | (dsimp only; clear hC; clear hJ; grind) | (omega)) (by first | decide | exact Nat.zero_le _ | (dsimp only; omega) | (dsimp only; clear hC; clear hJ; grind) | (omega)) ?_
      refine jr_goto (tgt := 84) d_J_row_80 (by decide) ?_
      exact jr_retX (v := some _) d_J_row_84 (by first | exact Nat.le_refl _ | exact Nat.zero_le _ | (dsimp only; omega) | (omega)) (by first | exact Nat.le_refl _ | exact Nat.zero_le _ | (dsimp only; omega) | (omega)) (by first | with_reducible rfl | (dsimp only; rfl; done) | (rfl; done) | (exfalso; clear hC; clear hJ; grind)) (by first | with_reducible rfl | (dsimp only; rfl; done) | (rfl; done) | (exfalso; clear hC; clear hJ; grind)) (by first | with_reducible rfl | (dsimp only; rfl; done) | (rfl; done) | (exfalso; clear hC; clear hJ; grind)) (by first | with_reducible rfl | (dsimp only; rfl; done) | (rfl; done) | (exfalso; clear hC; clear hJ; grind))
  · skip
    refine jr_iload_n d_J_row_27 rfl rfl ?_
    refine jr_iconst (v := 0) d_J_row_28 (by decide) ?_
    refine jr_bipush (v := 60) d_J_row_29 (by decide) ?_
    refine jv_S3r d_J_row_31 l_J_41 k_J_isWithin ⟨Nat.le_of_ble_eq_true rfl, Nat.le_of_ble_eq_true rfl⟩ (Nat.le_of_ble_eq_true rfl) (ct_J_isWithin) (by first | decide | exact Nat.zero_le _ | (dsimp only; omega) | (dsimp only; clear hC; clear hJ; grind) | (omega)) (by first | decide | exact Nat.zero_le _ | (dsimp only; omega) | (dsimp only; clear hC; clear hJ; grind) | (omega)) ?_
    refine jr_if_eq (tgt := 62) d_J_row_34 (by decide) (fun c34 => ?_) (fun c34 => ?_)
    · skip
      refine jr_iconst (v := 0) d_J_row_62 (by decide) ?_
      refine jr_istore d_J_row_63 (Nat.le_of_ble_eq_true rfl) ?_
      refine jr_iload d_J_row_65 rfl ?_
      refine jr_if_eq (tgt := 83) d_J_row_67 (by decide) (fun c67 => ?_) (fun c67 => ?_)
      · skip
        refine jr_iconst (v := (-1)) d_J_row_83 (by decide) ?_
        exact jr_retX (v := some _) d_J_row_84 (by first | exact Nat.le_refl _ | exact Nat.zero_le _ | (dsimp only; omega) | (omega)) (by first | exact Nat.le_refl _ | exact Nat.zero_le _ | (dsimp only; omega) | (omega)) (by first | with_reducible rfl | (dsimp only; rfl; done) | (rfl; done) | (exfalso; clear hC; clear hJ; grind)) (by first | with_reducible rfl | (dsimp only; rfl; done) | (rfl; done) | (exfalso; clear hC; clear hJ; grind)) (by first | with_reducible rfl | (dsimp only; rfl; done) | (rfl; done) | (exfalso; clear hC; clear hJ; grind)) (by first | with_reducible rfl | (dsimp only; rfl; done) | (rfl; done) | (exfalso; clear hC; clear hJ; grind))
      · skip
        refine jr_aload d_J_row_70 rfl ?_
        refine jr_iload_n d_J_row_72 rfl rfl ?_
        refine jr_iload_n d_J_row_73 rfl rfl ?_
        refine jr_iload_n d_J_row_74 rfl rfl ?_
        refine jr_iload d_J_row_75 rfl ?_
        refine jv_V4rA d_J_row_77 l_J_70 k_C_tellRow ⟨Nat.le_of_ble_eq_true rfl, Nat.le_of_ble_eq_true rfl⟩ rfl rfl (Nat.le_of_ble_eq_true rfl) (hC) hlv (by first | decide | exact Nat.zero_le _ | (dsimp only; omega) | (dsimp only; clear hC; clear hJ; grind) | (omega)) (by first | decide | exact Nat.zero_le _ | (dsimp only; omega) | (dsimp only; clear hC; clear hJ; grind) | (omega)) ?_
        refine jr_goto (tgt := 84) d_J_row_80 (by decide) ?_
        exact jr_retX (v := some _) d_J_row_84 (by first | exact Nat.le_refl _ | exact Nat.zero_le _ | (dsimp only; omega) | (omega)) (by first | exact Nat.le_refl _ | exact Nat.zero_le _ | (dsimp only; omega) | (omega)) (by first | with_reducible rfl | (dsimp only; rfl; done) | (rfl; done) | (exfalso; clear hC; clear hJ; grind)) (by first | with_reducible rfl | (dsimp only; rfl; done) | (rfl; done) | (exfalso; clear hC; clear hJ; grind)) (by first | with_reducible rfl | (dsimp only; rfl; done) | (rfl; done) | (exfalso; clear hC; clear hJ; grind)) (by first | with_reducible rfl | (dsimp only; rfl; done) | (rfl; done) | (exfalso; clear hC; clear hJ; grind))
    · skip
      refine jr_iload_n d_J_row_37 rfl rfl ?_
      refine jr_iconst (v := 0) d_J_row_38 (by decide) ?_
      refine jr_bipush (v := 60) d_J_row_39 (by decide) ?_
      refine jv_S3r d_J_row_41 l_J_41 k_J_isWithin ⟨Nat.le_of_ble_eq_true rfl, Nat.le_of_ble_eq_true rfl⟩ (Nat.le_of_ble_eq_true rfl) (ct_J_isWithin) (by first | decide | exact Nat.zero_le _ | (dsimp only; omega) | (dsimp only; clear hC; clear hJ; grind) | (omega)) (by first | decide | exact Nat.zero_le _ | (dsimp only; omega) | (dsimp only; clear hC; clear hJ; grind) | (omega)) ?_
      refine jr_if_eq (tgt := 62) d_J_row_44 (by decide) (fun c44 => ?_) (fun c44 => ?_)
      · skip
        refine jr_iconst (v := 0) d_J_row_62 (by decide) ?_
        refine jr_istore d_J_row_63 (Nat.le_of_ble_eq_true rfl) ?_
        refine jr_iload d_J_row_65 rfl ?_
        refine jr_if_eq (tgt := 83) d_J_row_67 (by decide) (fun c67 => ?_) (fun c67 => ?_)
        · skip
          refine jr_iconst (v := (-1)) d_J_row_83 (by decide) ?_
          exact jr_retX (v := some _) d_J_row_84 (by first | exact Nat.le_refl _ | exact Nat.zero_le _ | (dsimp only; omega) | (omega)) (by first | exact Nat.le_refl _ | exact Nat.zero_le _ | (dsimp only; omega) | (omega)) (by first | with_reducible rfl | (dsimp only; rfl; done) | (rfl; done) | (exfalso; clear hC; clear hJ; grind)) (by first | with_reducible rfl | (dsimp only; rfl; done) | (rfl; done) | (exfalso; clear hC; clear hJ; grind)) (by first | with_reducible rfl | (dsimp only; rfl; done) | (rfl; done) | (exfalso; clear hC; clear hJ; grind)) (by first | with_reducible rfl | (dsimp only; rfl; done) | (rfl; done) | (exfalso; clear hC; clear hJ; grind))
        · skip
          refine jr_aload d_J_row_70 rfl ?_
          refine jr_iload_n d_J_row_72 rfl rfl ?_
          refine jr_iload_n d_J_row_73 rfl rfl ?_
          refine jr_iload_n d_J_row_74 rfl rfl ?_
          refine jr_iload d_J_row_75 rfl ?_
          refine jv_V4rA d_J_row_77 l_J_70 k_C_tellRow ⟨Nat.le_of_ble_eq_true rfl, Nat.le_of_ble_eq_true rfl⟩ rfl rfl (Nat.le_of_ble_eq_true rfl) (hC) hlv (by first | decide | exact Nat.zero_le _ | (dsimp only; omega) | (dsimp only; clear hC; clear hJ; grind) | (omega)) (by first | decide | exact Nat.zero_le _ | (dsimp only; omega) | (dsimp only; clear hC; clear hJ; grind) | (omega)) ?_
          refine jr_goto (tgt := 84) d_J_row_80 (by decide) ?_
          exact jr_retX (v := some _) d_J_row_84 (by first | exact Nat.le_refl _ | exact Nat.zero_le _ | (dsimp only; omega) | (omega)) (by first | exact Nat.le_refl _ | exact Nat.zero_le _ | (dsimp only; omega) | (omega)) (by first | with_reducible rfl | (dsimp only; rfl; done) | (rfl; done) | (exfalso; clear hC; clear hJ; grind)) (by first | with_reducible rfl | (dsimp only; rfl; done) | (rfl; done) | (exfalso; clear hC; clear hJ; grind)) (by first | with_reducible rfl | (dsimp only; rfl; done) | (rfl; done) | (exfalso; clear hC; clear hJ; grind)) (by first | with_reducible rfl | (dsimp only; rfl; done) | (rfl; done) | (exfalso; clear hC; clear hJ; grind))
      · skip
        refine jr_iload d_J_row_47 rfl ?_
        refine jr_iconst (v := 0) d_J_row_49 (by decide) ?_
        refine jr_bipush (v := 10) d_J_row_50 (by decide) ?_
        refine jv_S3r d_J_row_52 l_J_41 k_J_isWithin ⟨Nat.le_of_ble_eq_true rfl, Nat.le_of_ble_eq_true rfl⟩ (Nat.le_of_ble_eq_true rfl) (ct_J_isWithin) (by first | decide | exact Nat.zero_le _ | (dsimp only; omega) | (dsimp only; clear hC; clear hJ; grind) | (omega)) (by first | decide | exact Nat.zero_le _ | (dsimp only; omega) | (dsimp only; clear hC; clear hJ; grind) | (omega)) ?_
        refine jr_if_eq (tgt := 62) d_J_row_55 (by decide) (fun c55 => ?_) (fun c55 => ?_)
        · skip
          refine jr_iconst (v := 0) d_J_row_62 (by decide) ?_
          refine jr_istore d_J_row_63 (Nat.le_of_ble_eq_true rfl) ?_
          refine jr_iload d_J_row_65 rfl ?_
          refine jr_if_eq (tgt := 83) d_J_row_67 (by decide) (fun c67 => ?_) (fun c67 => ?_)
          · skip
            refine jr_iconst (v := (-1)) d_J_row_83 (by decide) ?_
            exact jr_retX (v := some _) d_J_row_84 (by first | exact Nat.le_refl _ | exact Nat.zero_le _ | (dsimp only; omega) | (omega)) (by first | exact Nat.le_refl _ | exact Nat.zero_le _ | (dsimp only; omega) | (omega)) (by first | with_reducible rfl | (dsimp only; rfl; done) | (rfl; done) | (exfalso; clear hC; clear hJ; grind)) (by first | with_reducible rfl | (dsimp only; rfl; done) | (rfl; done) | (exfalso; clear hC; clear hJ; grind)) (by first | with_reducible rfl | (dsimp only; rfl; done) | (rfl; done) | (exfalso; clear hC; clear hJ; grind)) (by first | with_reducible rfl | (dsimp only; rfl; done) | (rfl; done) | (exfalso; clear hC; clear hJ; grind))
          · skip
            refine jr_aload d_J_row_70 rfl ?_
            refine jr_iload_n d_J_row_72 rfl rfl ?_
            refine jr_iload_n d_J_row_73 rfl rfl ?_
            refine jr_iload_n d_J_row_74 rfl rfl ?_
            refine jr_iload d_J_row_75 rfl ?_
            refine jv_V4rA d_J_row_77 l_J_70 k_C_tellRow ⟨Nat.le_of_ble_eq_true rfl, Nat.le_of_ble_eq_true rfl⟩ rfl rfl (Nat.le_of_ble_eq_true rfl) (hC) hlv (by first | decide | exact Nat.zero_le _ | (dsimp only; omega) | (dsimp only; clear hC; clear hJ; grind) | (omega)) (by first | decide | exact Nat.zero_le _ | (dsimp only; omega) | (dsimp only; clear hC; clear hJ; grind) | (omega)) ?_
            refine jr_goto (tgt := 84) d_J_row_80 (by decide) ?_
            exact jr_retX (v := some _) d_J_row_84 (by first | exact Nat.le_refl _ | exact Nat.zero_le _ | (dsimp only; omega) | (omega)) (by first | exact Nat.le_refl _ | exact Nat.zero_le _ | (dsimp only; omega) | (omega)) (by first | with_reducible rfl | (dsimp only; rfl; done) | (rfl; done) | (exfalso; clear hC; clear hJ; grind)) (by first | with_reducible rfl | (dsimp only; rfl; done) | (rfl; done) | (exfalso; clear hC; clear hJ; grind)) (by first | with_reducible rfl | (dsimp only; rfl; done) | (rfl; done) | (exfalso; clear hC; clear hJ; grind)) (by first | with_reducible rfl | (dsimp only; rfl; done) | (rfl; done) | (exfalso; clear hC; clear hJ; grind))
        · skip
          refine jr_iconst (v := 1) d_J_row_58 (by decide) ?_
          refine jr_goto (tgt := 63) d_J_row_59 (by decide) ?_
          refine jr_istore d_J_row_63 (Nat.le_of_ble_eq_true rfl) ?_
          refine jr_iload d_J_row_65 rfl ?_
          refine jr_if_eq (tgt := 83) d_J_row_67 (by decide) (fun c67 => ?_) (fun c67 => ?_)
          · skip
            refine jr_iconst (v := (-1)) d_J_row_83 (by decide) ?_
            exact jr_retX (v := some _) d_J_row_84 (by first | exact Nat.le_refl _ | exact Nat.zero_le _ | (dsimp only; omega) | (omega)) (by first | exact Nat.le_refl _ | exact Nat.zero_le _ | (dsimp only; omega) | (omega)) (by first | with_reducible rfl | (dsimp only; rfl; done) | (rfl; done) | (exfalso; clear hC; clear hJ; grind)) (by first | with_reducible rfl | (dsimp only; rfl; done) | (rfl; done) | (exfalso; clear hC; clear hJ; grind)) (by first | with_reducible rfl | (dsimp only; rfl; done) | (rfl; done) | (exfalso; clear hC; clear hJ; grind)) (by first | with_reducible rfl | (dsimp only; rfl; done) | (rfl; done) | (exfalso; clear hC; clear hJ; grind))
          · skip
            refine jr_aload d_J_row_70 rfl ?_
            refine jr_iload_n d_J_row_72 rfl rfl ?_
            refine jr_iload_n d_J_row_73 rfl rfl ?_
            refine jr_iload_n d_J_row_74 rfl rfl ?_
            refine jr_iload d_J_row_75 rfl ?_
            refine jv_V4rA d_J_row_77 l_J_70 k_C_tellRow ⟨Nat.le_of_ble_eq_true rfl, Nat.le_of_ble_eq_true rfl⟩ rfl rfl (Nat.le_of_ble_eq_true rfl) (hC) hlv (by first | decide | exact Nat.zero_le _ | (dsimp only; omega) | (dsimp only; clear hC; clear hJ; grind) | (omega)) (by first | decide | exact Nat.zero_le _ | (dsimp only; omega) | (dsimp only; clear hC; clear hJ; grind) | (omega)) ?_
            refine jr_goto (tgt := 84) d_J_row_80 (by decide) ?_
            exact jr_retX (v := some _) d_J_row_84 (by first | exact Nat.le_refl _ | exact Nat.zero_le _ | (dsimp only; omega) | (omega)) (by first | exact Nat.le_refl _ | exact Nat.zero_le _ | (dsimp only; omega) | (omega)) (by first | with_reducible rfl | (dsimp only; rfl; done) | (rfl; done) | (exfalso; clear hC; clear hJ; grind)) (by first | with_reducible rfl | (dsimp only; rfl; done) | (rfl; done) | (exfalso; clear hC; clear hJ; grind)) (by first | with_reducible rfl | (dsimp only; rfl; done) | (rfl; done) | (exfalso; clear hC; clear hJ; grind)) (by first | with_reducible rfl | (dsimp only; rfl; done) | (rfl; done) | (exfalso; clear hC; clear hJ; grind))
theorem ct_J_run_n {I : jc_I} {O : jc_O} {live : jc_L → Prop} {x w : Int32} (hJ : jw_J O) (hM : jw_M O) (h8 : I (4, 0, 0) 4 ≤ 8) (hx : ¬ ((0 ≤ x ∧ x < I (4, 0, 0) 4) ∧ (0 ≤ w ∧ w ≤ 10000))) (hs : ∀ t : Nat, (t : Int) < (I (4, 0, 0) 4).toInt → O (35, 0, 0) t = some (9, t, 0)) : jc_Ct y_J_run [.inr (some (0, 0, 0)), .inl x, .inl w] I O live (some (.inl (-14)), I, O, live, 0, 0) := by
  obtain ⟨j0, j1, j2, j3⟩ := id hJ
  refine jc_Ct.of (by decide +kernel) (Or.inl rfl) (Nat.le_of_ble_eq_true rfl) ?_
  refine jr_aload_n d_J_run_0 rfl rfl ?_
  refine jr_getr d_J_run_1 f_J_37 rfl rfl ?_
  first | rw [j0] | rw [j1] | rw [j2] | rw [j3] | skip
  refine jr_iload_n d_J_run_4 rfl rfl ?_
  refine jv_V1r d_J_run_5 l_J_84 k_M_find ⟨Nat.le_of_ble_eq_true rfl, Nat.le_of_ble_eq_true rfl⟩ rfl rfl (Nat.le_of_ble_eq_true rfl) (ct_M_find hM.2.2.2 h8) (by first | decide | exact Nat.zero_le _ | (dsimp only; omega) | (dsimp only; grind)) (by first | decide | exact Nat.zero_le _ | (dsimp only; omega) | (dsimp only; grind)) ?_
  first | rw [j0] | rw [j1] | rw [j2] | rw [j3] | skip
  refine jr_astore_n d_J_run_8 rfl (Nat.le_of_ble_eq_true rfl) ?_
  refine jr_aload_n d_J_run_9 rfl rfl ?_
  refine jr_ifnull (tgt := 24) d_J_run_10 (by decide) (fun c10 => ?_) (fun q10 c10 => ?_)
  · skip
    refine jr_bipush (v := (-14)) d_J_run_24 (by decide) ?_
    exact jr_retX (v := some _) d_J_run_26 (by first | exact Nat.le_refl _ | exact Nat.zero_le _ | (dsimp only; omega)) (by first | exact Nat.le_refl _ | exact Nat.zero_le _ | (dsimp only; omega)) (by first | with_reducible rfl | (dsimp only; rfl; done) | (rfl; done) | (exfalso; grind)) (by first | with_reducible rfl | (dsimp only; rfl; done) | (rfl; done) | (exfalso; grind)) (by first | with_reducible rfl | (dsimp only; rfl; done) | (rfl; done) | (exfalso; grind)) (by first | with_reducible rfl | (dsimp only; rfl; done) | (rfl; done) | (exfalso; grind))
  · skip
    refine jr_iload_n d_J_run_13 rfl rfl ?_
    refine jr_iconst (v := 0) d_J_run_14 (by decide) ?_
    refine jr_sipush (v := 10000) d_J_run_15 (by decide) ?_
    refine jv_S3r d_J_run_18 l_J_41 k_J_isWithin ⟨Nat.le_of_ble_eq_true rfl, Nat.le_of_ble_eq_true rfl⟩ (Nat.le_of_ble_eq_true rfl) (ct_J_isWithin) (by first | decide | exact Nat.zero_le _ | (dsimp only; omega) | (dsimp only; grind)) (by first | decide | exact Nat.zero_le _ | (dsimp only; omega) | (dsimp only; grind)) ?_
    refine jr_if_ne (tgt := 27) d_J_run_21 (by decide) (fun c21 => ?_) (fun c21 => ?_)
    · skip
      exfalso; (have h9 : ¬ (0 ≤ x ∧ x < I (4, 0, 0) 4) := by clear hJ hM hs; grind); rw [if_neg h9] at c10; cases c10
    · skip
      refine jr_bipush (v := (-14)) d_J_run_24 (by decide) ?_
      exact jr_retX (v := some _) d_J_run_26 (by first | exact Nat.le_refl _ | exact Nat.zero_le _ | (dsimp only; omega)) (by first | exact Nat.le_refl _ | exact Nat.zero_le _ | (dsimp only; omega)) (by first | with_reducible rfl | (dsimp only; rfl; done) | (rfl; done) | (exfalso; grind)) (by first | with_reducible rfl | (dsimp only; rfl; done) | (rfl; done) | (exfalso; grind)) (by first | with_reducible rfl | (dsimp only; rfl; done) | (rfl; done) | (exfalso; grind)) (by first | with_reducible rfl | (dsimp only; rfl; done) | (rfl; done) | (exfalso; grind))
theorem ct_J_run_y {I : jc_I} {O : jc_O} {live : jc_L → Prop} {x w v1 : Int32} {t : Nat} {I1 : jc_I} {O1 : jc_O} {live1 : jc_L → Prop} {mc1 ms1 : Nat} (hJ : jw_J O) (hM : jw_M O) (h8 : I (4, 0, 0) 4 ≤ 8) (hx : 0 ≤ x ∧ x < I (4, 0, 0) 4) (hxt : x.toNatClampNeg = t) (hs : O (35, 0, 0) t = some (9, t, 0)) (hw : 0 ≤ w ∧ w ≤ 10000) (hlv : ∀ q, live q → live1 q) (hC : jc_Ct y_M_advance [.inr (some (4, 0, 0)), .inr (some (9, t, 0)), .inl w] I O live (some (.inl v1), I1, O1, live1, mc1, ms1)) : jc_Ct y_J_run [.inr (some (0, 0, 0)), .inl x, .inl w] I O live (some (.inl v1), I1, O1, live1, mc1, ms1) := by
  obtain ⟨j0, j1, j2, j3⟩ := id hJ
  refine jc_Ct.of (by decide +kernel) (Or.inl rfl) (Nat.le_of_ble_eq_true rfl) ?_
  refine jr_aload_n d_J_run_0 rfl rfl ?_
  refine jr_getr d_J_run_1 f_J_37 rfl rfl ?_
  first | rw [j0] | rw [j1] | rw [j2] | rw [j3] | skip
  refine jr_iload_n d_J_run_4 rfl rfl ?_
  refine jv_V1r d_J_run_5 l_J_84 k_M_find ⟨Nat.le_of_ble_eq_true rfl, Nat.le_of_ble_eq_true rfl⟩ rfl rfl (Nat.le_of_ble_eq_true rfl) (ct_M_find hM.2.2.2 h8) (by first | decide | exact Nat.zero_le _ | (dsimp only; omega) | (dsimp only; grind) | (omega)) (by first | decide | exact Nat.zero_le _ | (dsimp only; omega) | (dsimp only; grind) | (omega)) ?_
  first | rw [j0] | rw [j1] | rw [j2] | rw [j3] | skip
  rw [if_pos hx, hxt, hs]
  refine jr_astore_n d_J_run_8 rfl (Nat.le_of_ble_eq_true rfl) ?_
  refine jr_aload_n d_J_run_9 rfl rfl ?_
  refine jr_ifnull (tgt := 24) d_J_run_10 (by decide) (fun c10 => by cases c10) (fun q10 c10 => ?_)
  refine jr_iload_n d_J_run_13 rfl rfl ?_
  refine jr_iconst (v := 0) d_J_run_14 (by decide) ?_
  refine jr_sipush (v := 10000) d_J_run_15 (by decide) ?_
  refine jv_S3r d_J_run_18 l_J_41 k_J_isWithin ⟨Nat.le_of_ble_eq_true rfl, Nat.le_of_ble_eq_true rfl⟩ (Nat.le_of_ble_eq_true rfl) (ct_J_isWithin) (by first | decide | exact Nat.zero_le _ | (dsimp only; omega) | (dsimp only; grind) | (omega)) (by first | decide | exact Nat.zero_le _ | (dsimp only; omega) | (dsimp only; grind) | (omega)) ?_
  refine jr_if_ne (tgt := 27) d_J_run_21 (by decide) (fun c21 => ?_) (fun c21 => ?_)
  · skip
    refine jr_aload_n d_J_run_27 rfl rfl ?_
    refine jr_getr d_J_run_28 f_J_37 rfl rfl ?_
    first | rw [j0] | rw [j1] | rw [j2] | rw [j3] | skip
    refine jr_aload_n d_J_run_31 rfl rfl ?_
    refine jr_iload_n d_J_run_32 rfl rfl ?_
    refine jv_V2rA d_J_run_33 l_J_87 k_M_advance ⟨Nat.le_of_ble_eq_true rfl, Nat.le_of_ble_eq_true rfl⟩ rfl rfl (Nat.le_of_ble_eq_true rfl) (hC) hlv (by first | decide | exact Nat.zero_le _ | (dsimp only; omega) | (dsimp only; grind) | (omega)) (by first | decide | exact Nat.zero_le _ | (dsimp only; omega) | (dsimp only; grind) | (omega)) ?_
    exact jr_retX (v := some _) d_J_run_36 (by first | exact Nat.le_refl _ | exact Nat.zero_le _ | (dsimp only; omega) | (omega)) (by first | exact Nat.le_refl _ | exact Nat.zero_le _ | (dsimp only; omega) | (omega)) (by first | with_reducible rfl | (dsimp only; rfl; done) | (rfl; done) | (exfalso; grind)) (by first | with_reducible rfl | (dsimp only; rfl; done) | (rfl; done) | (exfalso; grind)) (by first | with_reducible rfl | (dsimp only; rfl; done) | (rfl; done) | (exfalso; grind)) (by first | with_reducible rfl | (dsimp only; rfl; done) | (rfl; done) | (exfalso; grind))
  · skip
    exfalso; clear hJ hM hs hC; grind
theorem ct_J_stuck {I : jc_I} {O : jc_O} {live : jc_L → Prop} {I1 : jc_I} {O1 : jc_O} {live1 : jc_L → Prop} {mc1 ms1 : Nat} {v1 : Int32} (hJ : jw_J O) (hC : jc_Ct y_M_countStuck [.inr (some (4, 0, 0))] I O live (some (.inl v1), I, O, live, 0, 0)) : jc_Ct y_J_stuck [.inr (some (0, 0, 0))] I O live (some (.inl v1), I, O, live, 0, 0) := by
  obtain ⟨j0, j1, j2, j3⟩ := id hJ
  refine jc_Ct.of (by decide +kernel) (Or.inl rfl) (Nat.le_of_ble_eq_true rfl) ?_
  refine jr_aload_n d_J_stuck_0 rfl rfl ?_
  refine jr_getr d_J_stuck_1 f_J_37 rfl rfl ?_
  first | rw [j0] | rw [j1] | rw [j2] | rw [j3] | skip
  refine jv_V0r d_J_stuck_4 l_J_121 k_M_countStuck ⟨Nat.le_of_ble_eq_true rfl, Nat.le_of_ble_eq_true rfl⟩ rfl rfl (Nat.le_of_ble_eq_true rfl) (hC) (by first | decide | exact Nat.zero_le _ | (dsimp only; omega) | (dsimp only; grind)) (by first | decide | exact Nat.zero_le _ | (dsimp only; omega) | (dsimp only; grind)) ?_
  exact jr_retX (v := some _) d_J_stuck_7 (by first | exact Nat.le_refl _ | exact Nat.zero_le _ | (dsimp only; omega)) (by first | exact Nat.le_refl _ | exact Nat.zero_le _ | (dsimp only; omega)) (by first | with_reducible rfl | (dsimp only; rfl; done) | (rfl; done) | (exfalso; grind)) (by first | with_reducible rfl | (dsimp only; rfl; done) | (rfl; done) | (exfalso; grind)) (by first | with_reducible rfl | (dsimp only; rfl; done) | (rfl; done) | (exfalso; grind)) (by first | with_reducible rfl | (dsimp only; rfl; done) | (rfl; done) | (exfalso; grind))
