/-- the object whose monitor the frame on top is to enter while another thread holds it, or 0 -/
def m_op (I : jc_I) (t j c : Nat) : Int32 := if 0 ≤ I (8, t, j) 4 ∧ I (8, t, j) 4 < I (6, c, 0) 8 then I (21, c, 0) (I (8, t, j) 4).toNatClampNeg else -1
def m_an (I : jc_I) (t j c : Nat) : Int32 := if 0 ≤ I (8, t, j) 4 ∧ I (8, t, j) 4 < I (6, c, 0) 8 then I (22, c, 0) (I (8, t, j) 4).toNatClampNeg else 0
def m_oha (I : jc_I) (t j c : Nat) : Int32 := if m_op I t j c = 20 ∧ (1 ≤ f_pk I t j 0 ∧ f_pk I t j 0 ≤ I (3, 0, 0) 2) ∧ I (7, (f_pk I t j 0 - 1).toNatClampNeg, 0) 2 ≠ -1 ∧ I (7, (f_pk I t j 0 - 1).toNatClampNeg, 0) 2 ≠ I (9, t, 0) 0 then f_pk I t j 0 else 0
def m_nf (I : jc_I) (x : Int32) : Int32 := if 1 ≤ x ∧ x ≤ I (3, 0, 0) 2 then 0 else 6
def m_fl (I : jc_I) (t : Nat) (x : Int32) : Int32 := if 1 ≤ x ∧ x ≤ I (3, 0, 0) 2 then (if I (7, (x - 1).toNatClampNeg, 0) 2 = I (9, t, 0) 0 then 0 else 8) else 6
def m_fo (I : jc_I) (t j : Nat) (op : Int32) : Int32 := if op = 7 then (if f_pk I t j 0 = 0 then 7 else 0) else if op = 16 ∨ op = 19 ∨ op = 20 ∨ op = 23 then m_nf I (f_pk I t j 0) else if op = 17 ∨ op = 24 then m_nf I (f_pk I t j 1) else if op = 18 then (if 30 ≤ I (9, t, 0) 2 then 9 else 0) else if op = 21 then m_fl I t (f_pk I t j 0) else 0
theorem ct_M_nullFailureOf {I : jc_I} {O : jc_O} {live : jc_L → Prop} {x : Int32} (hM : jw_M O) (hH : jw_H I O) : jc_Ct y_M_nullFailureOf [.inr (some (4, 0, 0)), .inl x] I O live (some (.inl (m_nf I x)), I, O, live, 0, 0) := by
  obtain ⟨m0, m1, m2, m3⟩ := id hM
  refine jc_Ct.of (by decide +kernel) (Or.inl rfl) (Nat.le_of_ble_eq_true rfl) ?_
  refine jr_aload_n d_M_nullFailureOf_0 rfl rfl ?_
  refine jr_getr d_M_nullFailureOf_1 f_M_25 rfl rfl ?_
  first | rw [m0] | rw [m1] | rw [m2] | rw [m3] | skip
  refine jr_iload_n d_M_nullFailureOf_4 rfl rfl ?_
  refine jv_V1r d_M_nullFailureOf_5 l_M_110 k_H_find ⟨Nat.le_of_ble_eq_true rfl, Nat.le_of_ble_eq_true rfl⟩ rfl rfl (Nat.le_of_ble_eq_true rfl) (ct_H_findT hH) (by first | decide | (dsimp only; omega) | (dsimp only; grind)) (by first | decide | (dsimp only; omega) | (dsimp only; grind)) ?_
  first | rw [m0] | rw [m1] | rw [m2] | rw [m3] | skip
  refine jr_ifnonnull (tgt := 16) d_M_nullFailureOf_8 (by decide) (fun q8 c8 => ?_) (fun c8 => ?_)
  · skip
    have hx := (h_fd_some c8).1
    refine jr_iconst (v := 0) d_M_nullFailureOf_16 (by decide) ?_
    exact jr_retX (v := some _) d_M_nullFailureOf_17 (by first | exact Nat.le_refl _ | exact Nat.zero_le _ | (dsimp only; omega)) (by first | exact Nat.le_refl _ | exact Nat.zero_le _ | (dsimp only; omega)) (by first | with_reducible rfl | (dsimp only; (unfold m_nf; (repeat (first | rw [if_pos (by grind)] | rw [if_neg (by grind)]))); done) | (exfalso; grind)) (by first | with_reducible rfl | (dsimp only; (unfold m_nf; (repeat (first | rw [if_pos (by grind)] | rw [if_neg (by grind)]))); done) | (exfalso; grind)) (by first | with_reducible rfl | (dsimp only; (unfold m_nf; (repeat (first | rw [if_pos (by grind)] | rw [if_neg (by grind)]))); done) | (exfalso; grind)) (by first | with_reducible rfl | (dsimp only; (unfold m_nf; (repeat (first | rw [if_pos (by grind)] | rw [if_neg (by grind)]))); done) | (exfalso; grind))
  · skip
    have hx := h_fd_none c8
    refine jr_bipush (v := 6) d_M_nullFailureOf_11 (by decide) ?_
    refine jr_goto (tgt := 17) d_M_nullFailureOf_13 (by decide) ?_
    exact jr_retX (v := some _) d_M_nullFailureOf_17 (by first | exact Nat.le_refl _ | exact Nat.zero_le _ | (dsimp only; omega)) (by first | exact Nat.le_refl _ | exact Nat.zero_le _ | (dsimp only; omega)) (by first | with_reducible rfl | (dsimp only; (unfold m_nf; (repeat (first | rw [if_pos (by grind)] | rw [if_neg (by grind)]))); done) | (exfalso; grind)) (by first | with_reducible rfl | (dsimp only; (unfold m_nf; (repeat (first | rw [if_pos (by grind)] | rw [if_neg (by grind)]))); done) | (exfalso; grind)) (by first | with_reducible rfl | (dsimp only; (unfold m_nf; (repeat (first | rw [if_pos (by grind)] | rw [if_neg (by grind)]))); done) | (exfalso; grind)) (by first | with_reducible rfl | (dsimp only; (unfold m_nf; (repeat (first | rw [if_pos (by grind)] | rw [if_neg (by grind)]))); done) | (exfalso; grind))
theorem ct_M_failureOfLeave {I : jc_I} {O : jc_O} {live : jc_L → Prop} {t : Nat} {x : Int32} (hM : jw_M O) (hH : jw_H I O) : jc_Ct y_M_failureOfLeave [.inr (some (4, 0, 0)), .inr (some (9, t, 0)), .inl x] I O live (some (.inl (m_fl I t x)), I, O, live, 0, 0) := by
  obtain ⟨m0, m1, m2, m3⟩ := id hM
  refine jc_Ct.of (by decide +kernel) (Or.inl rfl) (Nat.le_of_ble_eq_true rfl) ?_
  refine jr_aload_n d_M_failureOfLeave_0 rfl rfl ?_
  refine jr_getr d_M_failureOfLeave_1 f_M_25 rfl rfl ?_
  first | rw [m0] | rw [m1] | rw [m2] | rw [m3] | skip
  refine jr_iload_n d_M_failureOfLeave_4 rfl rfl ?_
  refine jv_V1r d_M_failureOfLeave_5 l_M_110 k_H_find ⟨Nat.le_of_ble_eq_true rfl, Nat.le_of_ble_eq_true rfl⟩ rfl rfl (Nat.le_of_ble_eq_true rfl) (ct_H_findT hH) (by first | decide | (dsimp only; omega) | (dsimp only; grind)) (by first | decide | (dsimp only; omega) | (dsimp only; grind)) ?_
  first | rw [m0] | rw [m1] | rw [m2] | rw [m3] | skip
  refine jr_astore_n d_M_failureOfLeave_8 rfl (Nat.le_of_ble_eq_true rfl) ?_
  refine jr_aload_n d_M_failureOfLeave_9 rfl rfl ?_
  refine jr_ifnonnull (tgt := 16) d_M_failureOfLeave_10 (by decide) (fun q10 c10 => ?_) (fun c10 => ?_)
  · skip
    obtain ⟨hx, hq⟩ := h_fd_some c10; rw [c10, hq]
    refine jr_aload_n d_M_failureOfLeave_16 rfl rfl ?_
    refine jr_aload_n d_M_failureOfLeave_17 rfl rfl ?_
    refine jv_V0r d_M_failureOfLeave_18 l_M_113 k_S_number ⟨Nat.le_of_ble_eq_true rfl, Nat.le_of_ble_eq_true rfl⟩ rfl rfl (Nat.le_of_ble_eq_true rfl) (ct_S_number) (by first | decide | (dsimp only; omega) | (dsimp only; grind)) (by first | decide | (dsimp only; omega) | (dsimp only; grind)) ?_
    refine jv_V1r d_M_failureOfLeave_21 l_M_156 k_T_isHeldBy ⟨Nat.le_of_ble_eq_true rfl, Nat.le_of_ble_eq_true rfl⟩ rfl rfl (Nat.le_of_ble_eq_true rfl) (ct_T_isHeldBy) (by first | decide | (dsimp only; omega) | (dsimp only; grind)) (by first | decide | (dsimp only; omega) | (dsimp only; grind)) ?_
    refine jr_if_eq (tgt := 31) d_M_failureOfLeave_24 (by decide) (fun c24 => ?_) (fun c24 => ?_)
    · skip
      refine jr_bipush (v := 8) d_M_failureOfLeave_31 (by decide) ?_
      exact jr_retX (v := some _) d_M_failureOfLeave_33 (by first | exact Nat.le_refl _ | exact Nat.zero_le _ | (dsimp only; omega)) (by first | exact Nat.le_refl _ | exact Nat.zero_le _ | (dsimp only; omega)) (by first | with_reducible rfl | (dsimp only; (unfold m_fl; (repeat (first | rw [if_pos (by grind)] | rw [if_neg (by grind)]))); done) | (exfalso; grind)) (by first | with_reducible rfl | (dsimp only; (unfold m_fl; (repeat (first | rw [if_pos (by grind)] | rw [if_neg (by grind)]))); done) | (exfalso; grind)) (by first | with_reducible rfl | (dsimp only; (unfold m_fl; (repeat (first | rw [if_pos (by grind)] | rw [if_neg (by grind)]))); done) | (exfalso; grind)) (by first | with_reducible rfl | (dsimp only; (unfold m_fl; (repeat (first | rw [if_pos (by grind)] | rw [if_neg (by grind)]))); done) | (exfalso; grind))
    · skip
      refine jr_iconst (v := 0) d_M_failureOfLeave_27 (by decide) ?_
      refine jr_goto (tgt := 33) d_M_failureOfLeave_28 (by decide) ?_
      exact jr_retX (v := some _) d_M_failureOfLeave_33 (by first | exact Nat.le_refl _ | exact Nat.zero_le _ | (dsimp only; omega)) (by first | exact Nat.le_refl _ | exact Nat.zero_le _ | (dsimp only; omega)) (by first | with_reducible rfl | (dsimp only; (unfold m_fl; (repeat (first | rw [if_pos (by grind)] | rw [if_neg (by grind)]))); done) | (exfalso; grind)) (by first | with_reducible rfl | (dsimp only; (unfold m_fl; (repeat (first | rw [if_pos (by grind)] | rw [if_neg (by grind)]))); done) | (exfalso; grind)) (by first | with_reducible rfl | (dsimp only; (unfold m_fl; (repeat (first | rw [if_pos (by grind)] | rw [if_neg (by grind)]))); done) | (exfalso; grind)) (by first | with_reducible rfl | (dsimp only; (unfold m_fl; (repeat (first | rw [if_pos (by grind)] | rw [if_neg (by grind)]))); done) | (exfalso; grind))
  · skip
    have hx := h_fd_none c10
    refine jr_bipush (v := 6) d_M_failureOfLeave_13 (by decide) ?_
    exact jr_retX (v := some _) d_M_failureOfLeave_15 (by first | exact Nat.le_refl _ | exact Nat.zero_le _ | (dsimp only; omega)) (by first | exact Nat.le_refl _ | exact Nat.zero_le _ | (dsimp only; omega)) (by first | with_reducible rfl | (dsimp only; (unfold m_fl; (repeat (first | rw [if_pos (by grind)] | rw [if_neg (by grind)]))); done) | (exfalso; grind)) (by first | with_reducible rfl | (dsimp only; (unfold m_fl; (repeat (first | rw [if_pos (by grind)] | rw [if_neg (by grind)]))); done) | (exfalso; grind)) (by first | with_reducible rfl | (dsimp only; (unfold m_fl; (repeat (first | rw [if_pos (by grind)] | rw [if_neg (by grind)]))); done) | (exfalso; grind)) (by first | with_reducible rfl | (dsimp only; (unfold m_fl; (repeat (first | rw [if_pos (by grind)] | rw [if_neg (by grind)]))); done) | (exfalso; grind))
theorem ct_M_failureOf {I : jc_I} {O : jc_O} {live : jc_L → Prop} {t j : Nat} {op : Int32} (hM : jw_M O) (hH : jw_H I O) (hf : jw_f O t j) (hd : jw_d I t j) : jc_Ct y_M_failureOf [.inr (some (4, 0, 0)), .inr (some (9, t, 0)), .inr (some (8, t, j)), .inl op] I O live (some (.inl (m_fo I t j op)), I, O, live, 0, 0) := by
  obtain ⟨m0, m1, m2, m3⟩ := id hM
  refine jc_Ct.of (by decide +kernel) (Or.inl rfl) (Nat.le_of_ble_eq_true rfl) ?_
  refine jr_iload_n d_M_failureOf_0 rfl rfl ?_
  refine jr_name (fun x1 e1 => ?_)
  by_cases g1_7 : x1 = 7
  · refine jr_tableIn (tgt := 88) d_M_failureOf_1 (by rcases g1_7 with rfl <;> decide) (by rcases g1_7 with rfl <;> decide) (by rcases g1_7 with rfl <;> rfl) (by decide) ?_
    refine jr_aload_n d_M_failureOf_88 rfl rfl ?_
    refine jr_iconst (v := 0) d_M_failureOf_89 (by decide) ?_
    refine jv_V1r d_M_failureOf_90 l_M_107 k_F_peek ⟨Nat.le_of_ble_eq_true rfl, Nat.le_of_ble_eq_true rfl⟩ rfl rfl (Nat.le_of_ble_eq_true rfl) (show jc_Ct y_F_peek _ _ _ _ (some (.inl (f_pk _ _ _ _)), _, _, _, 0, 0) from ct_F_peek hf.1 hd.2) (by first | decide | (dsimp only; omega) | (dsimp only; grind)) (by first | decide | (dsimp only; omega) | (dsimp only; grind)) ?_
    refine jr_if_ne (tgt := 101) d_M_failureOf_93 (by decide) (fun c93 => ?_) (fun c93 => ?_)
    · skip
      refine jr_iconst (v := 0) d_M_failureOf_101 (by decide) ?_
      refine jr_goto (tgt := 159) d_M_failureOf_102 (by decide) ?_
      exact jr_retX (v := some _) d_M_failureOf_159 (by first | exact Nat.le_refl _ | exact Nat.zero_le _ | (dsimp only; omega)) (by first | exact Nat.le_refl _ | exact Nat.zero_le _ | (dsimp only; omega)) (by first | with_reducible rfl | (dsimp only; (subst e1; unfold m_fo; (repeat (first | rw [if_pos (by grind)] | rw [if_neg (by grind)]))); done) | (exfalso; grind)) (by first | with_reducible rfl | (dsimp only; (subst e1; unfold m_fo; (repeat (first | rw [if_pos (by grind)] | rw [if_neg (by grind)]))); done) | (exfalso; grind)) (by first | with_reducible rfl | (dsimp only; (subst e1; unfold m_fo; (repeat (first | rw [if_pos (by grind)] | rw [if_neg (by grind)]))); done) | (exfalso; grind)) (by first | with_reducible rfl | (dsimp only; (subst e1; unfold m_fo; (repeat (first | rw [if_pos (by grind)] | rw [if_neg (by grind)]))); done) | (exfalso; grind))
    · skip
      refine jr_bipush (v := 7) d_M_failureOf_96 (by decide) ?_
      refine jr_goto (tgt := 159) d_M_failureOf_98 (by decide) ?_
      exact jr_retX (v := some _) d_M_failureOf_159 (by first | exact Nat.le_refl _ | exact Nat.zero_le _ | (dsimp only; omega)) (by first | exact Nat.le_refl _ | exact Nat.zero_le _ | (dsimp only; omega)) (by first | with_reducible rfl | (dsimp only; (subst e1; unfold m_fo; (repeat (first | rw [if_pos (by grind)] | rw [if_neg (by grind)]))); done) | (exfalso; grind)) (by first | with_reducible rfl | (dsimp only; (subst e1; unfold m_fo; (repeat (first | rw [if_pos (by grind)] | rw [if_neg (by grind)]))); done) | (exfalso; grind)) (by first | with_reducible rfl | (dsimp only; (subst e1; unfold m_fo; (repeat (first | rw [if_pos (by grind)] | rw [if_neg (by grind)]))); done) | (exfalso; grind)) (by first | with_reducible rfl | (dsimp only; (subst e1; unfold m_fo; (repeat (first | rw [if_pos (by grind)] | rw [if_neg (by grind)]))); done) | (exfalso; grind))
  · skip
    by_cases g1_16 : x1 = 16 ∨ x1 = 19 ∨ x1 = 20 ∨ x1 = 23
    · refine jr_tableIn (tgt := 105) d_M_failureOf_1 (by rcases g1_16 with rfl | rfl | rfl | rfl <;> decide) (by rcases g1_16 with rfl | rfl | rfl | rfl <;> decide) (by rcases g1_16 with rfl | rfl | rfl | rfl <;> rfl) (by decide) ?_
      refine jr_aload_n d_M_failureOf_105 rfl rfl ?_
      refine jr_aload_n d_M_failureOf_106 rfl rfl ?_
      refine jr_iconst (v := 0) d_M_failureOf_107 (by decide) ?_
      refine jv_V1r d_M_failureOf_108 l_M_107 k_F_peek ⟨Nat.le_of_ble_eq_true rfl, Nat.le_of_ble_eq_true rfl⟩ rfl rfl (Nat.le_of_ble_eq_true rfl) (show jc_Ct y_F_peek _ _ _ _ (some (.inl (f_pk _ _ _ _)), _, _, _, 0, 0) from ct_F_peek hf.1 hd.2) (by first | decide | (dsimp only; omega) | (dsimp only; grind)) (by first | decide | (dsimp only; omega) | (dsimp only; grind)) ?_
      refine jv_V1r d_M_failureOf_111 l_M_146 k_M_nullFailureOf ⟨Nat.le_of_ble_eq_true rfl, Nat.le_of_ble_eq_true rfl⟩ rfl rfl (Nat.le_of_ble_eq_true rfl) (ct_M_nullFailureOf hM hH) (by first | decide | (dsimp only; omega) | (dsimp only; grind)) (by first | decide | (dsimp only; omega) | (dsimp only; grind)) ?_
      refine jr_goto (tgt := 159) d_M_failureOf_114 (by decide) ?_
      exact jr_retX (v := some _) d_M_failureOf_159 (by first | exact Nat.le_refl _ | exact Nat.zero_le _ | (dsimp only; omega)) (by first | exact Nat.le_refl _ | exact Nat.zero_le _ | (dsimp only; omega)) (by first | with_reducible rfl | (dsimp only; (subst e1; unfold m_fo; (repeat (first | rw [if_pos (by grind)] | rw [if_neg (by grind)]))); done) | (exfalso; grind)) (by first | with_reducible rfl | (dsimp only; (subst e1; unfold m_fo; (repeat (first | rw [if_pos (by grind)] | rw [if_neg (by grind)]))); done) | (exfalso; grind)) (by first | with_reducible rfl | (dsimp only; (subst e1; unfold m_fo; (repeat (first | rw [if_pos (by grind)] | rw [if_neg (by grind)]))); done) | (exfalso; grind)) (by first | with_reducible rfl | (dsimp only; (subst e1; unfold m_fo; (repeat (first | rw [if_pos (by grind)] | rw [if_neg (by grind)]))); done) | (exfalso; grind))
    · skip
      by_cases g1_17 : x1 = 17 ∨ x1 = 24
      · refine jr_tableIn (tgt := 117) d_M_failureOf_1 (by rcases g1_17 with rfl | rfl <;> decide) (by rcases g1_17 with rfl | rfl <;> decide) (by rcases g1_17 with rfl | rfl <;> rfl) (by decide) ?_
        refine jr_aload_n d_M_failureOf_117 rfl rfl ?_
        refine jr_aload_n d_M_failureOf_118 rfl rfl ?_
        refine jr_iconst (v := 1) d_M_failureOf_119 (by decide) ?_
        refine jv_V1r d_M_failureOf_120 l_M_107 k_F_peek ⟨Nat.le_of_ble_eq_true rfl, Nat.le_of_ble_eq_true rfl⟩ rfl rfl (Nat.le_of_ble_eq_true rfl) (show jc_Ct y_F_peek _ _ _ _ (some (.inl (f_pk _ _ _ _)), _, _, _, 0, 0) from ct_F_peek hf.1 hd.2) (by first | decide | (dsimp only; omega) | (dsimp only; grind)) (by first | decide | (dsimp only; omega) | (dsimp only; grind)) ?_
        refine jv_V1r d_M_failureOf_123 l_M_146 k_M_nullFailureOf ⟨Nat.le_of_ble_eq_true rfl, Nat.le_of_ble_eq_true rfl⟩ rfl rfl (Nat.le_of_ble_eq_true rfl) (ct_M_nullFailureOf hM hH) (by first | decide | (dsimp only; omega) | (dsimp only; grind)) (by first | decide | (dsimp only; omega) | (dsimp only; grind)) ?_
        refine jr_goto (tgt := 159) d_M_failureOf_126 (by decide) ?_
        exact jr_retX (v := some _) d_M_failureOf_159 (by first | exact Nat.le_refl _ | exact Nat.zero_le _ | (dsimp only; omega)) (by first | exact Nat.le_refl _ | exact Nat.zero_le _ | (dsimp only; omega)) (by first | with_reducible rfl | (dsimp only; (subst e1; unfold m_fo; (repeat (first | rw [if_pos (by grind)] | rw [if_neg (by grind)]))); done) | (exfalso; grind)) (by first | with_reducible rfl | (dsimp only; (subst e1; unfold m_fo; (repeat (first | rw [if_pos (by grind)] | rw [if_neg (by grind)]))); done) | (exfalso; grind)) (by first | with_reducible rfl | (dsimp only; (subst e1; unfold m_fo; (repeat (first | rw [if_pos (by grind)] | rw [if_neg (by grind)]))); done) | (exfalso; grind)) (by first | with_reducible rfl | (dsimp only; (subst e1; unfold m_fo; (repeat (first | rw [if_pos (by grind)] | rw [if_neg (by grind)]))); done) | (exfalso; grind))
      · skip
        by_cases g1_18 : x1 = 18
        · refine jr_tableIn (tgt := 142) d_M_failureOf_1 (by rcases g1_18 with rfl <;> decide) (by rcases g1_18 with rfl <;> decide) (by rcases g1_18 with rfl <;> rfl) (by decide) ?_
          refine jr_aload_n d_M_failureOf_142 rfl rfl ?_
          refine jv_V0r d_M_failureOf_143 l_M_153 k_S_hasAllFrames ⟨Nat.le_of_ble_eq_true rfl, Nat.le_of_ble_eq_true rfl⟩ rfl rfl (Nat.le_of_ble_eq_true rfl) (ct_S_hasAllFrames) (by first | decide | (dsimp only; omega) | (dsimp only; grind)) (by first | decide | (dsimp only; omega) | (dsimp only; grind)) ?_
          refine jr_if_eq (tgt := 154) d_M_failureOf_146 (by decide) (fun c146 => ?_) (fun c146 => ?_)
          · skip
            refine jr_iconst (v := 0) d_M_failureOf_154 (by decide) ?_
            refine jr_goto (tgt := 159) d_M_failureOf_155 (by decide) ?_
            exact jr_retX (v := some _) d_M_failureOf_159 (by first | exact Nat.le_refl _ | exact Nat.zero_le _ | (dsimp only; omega)) (by first | exact Nat.le_refl _ | exact Nat.zero_le _ | (dsimp only; omega)) (by first | with_reducible rfl | (dsimp only; (subst e1; unfold m_fo; (repeat (first | rw [if_pos (by grind)] | rw [if_neg (by grind)]))); done) | (exfalso; grind)) (by first | with_reducible rfl | (dsimp only; (subst e1; unfold m_fo; (repeat (first | rw [if_pos (by grind)] | rw [if_neg (by grind)]))); done) | (exfalso; grind)) (by first | with_reducible rfl | (dsimp only; (subst e1; unfold m_fo; (repeat (first | rw [if_pos (by grind)] | rw [if_neg (by grind)]))); done) | (exfalso; grind)) (by first | with_reducible rfl | (dsimp only; (subst e1; unfold m_fo; (repeat (first | rw [if_pos (by grind)] | rw [if_neg (by grind)]))); done) | (exfalso; grind))
          · skip
            refine jr_bipush (v := 9) d_M_failureOf_149 (by decide) ?_
            refine jr_goto (tgt := 159) d_M_failureOf_151 (by decide) ?_
            exact jr_retX (v := some _) d_M_failureOf_159 (by first | exact Nat.le_refl _ | exact Nat.zero_le _ | (dsimp only; omega)) (by first | exact Nat.le_refl _ | exact Nat.zero_le _ | (dsimp only; omega)) (by first | with_reducible rfl | (dsimp only; (subst e1; unfold m_fo; (repeat (first | rw [if_pos (by grind)] | rw [if_neg (by grind)]))); done) | (exfalso; grind)) (by first | with_reducible rfl | (dsimp only; (subst e1; unfold m_fo; (repeat (first | rw [if_pos (by grind)] | rw [if_neg (by grind)]))); done) | (exfalso; grind)) (by first | with_reducible rfl | (dsimp only; (subst e1; unfold m_fo; (repeat (first | rw [if_pos (by grind)] | rw [if_neg (by grind)]))); done) | (exfalso; grind)) (by first | with_reducible rfl | (dsimp only; (subst e1; unfold m_fo; (repeat (first | rw [if_pos (by grind)] | rw [if_neg (by grind)]))); done) | (exfalso; grind))
        · skip
          by_cases g1_21 : x1 = 21
          · refine jr_tableIn (tgt := 129) d_M_failureOf_1 (by rcases g1_21 with rfl <;> decide) (by rcases g1_21 with rfl <;> decide) (by rcases g1_21 with rfl <;> rfl) (by decide) ?_
            refine jr_aload_n d_M_failureOf_129 rfl rfl ?_
            refine jr_aload_n d_M_failureOf_130 rfl rfl ?_
            refine jr_aload_n d_M_failureOf_131 rfl rfl ?_
            refine jr_iconst (v := 0) d_M_failureOf_132 (by decide) ?_
            refine jv_V1r d_M_failureOf_133 l_M_107 k_F_peek ⟨Nat.le_of_ble_eq_true rfl, Nat.le_of_ble_eq_true rfl⟩ rfl rfl (Nat.le_of_ble_eq_true rfl) (show jc_Ct y_F_peek _ _ _ _ (some (.inl (f_pk _ _ _ _)), _, _, _, 0, 0) from ct_F_peek hf.1 hd.2) (by first | decide | (dsimp only; omega) | (dsimp only; grind)) (by first | decide | (dsimp only; omega) | (dsimp only; grind)) ?_
            refine jv_V2r d_M_failureOf_136 l_M_149 k_M_failureOfLeave ⟨Nat.le_of_ble_eq_true rfl, Nat.le_of_ble_eq_true rfl⟩ rfl rfl (Nat.le_of_ble_eq_true rfl) (ct_M_failureOfLeave hM hH) (by first | decide | (dsimp only; omega) | (dsimp only; grind)) (by first | decide | (dsimp only; omega) | (dsimp only; grind)) ?_
            refine jr_goto (tgt := 159) d_M_failureOf_139 (by decide) ?_
            exact jr_retX (v := some _) d_M_failureOf_159 (by first | exact Nat.le_refl _ | exact Nat.zero_le _ | (dsimp only; omega)) (by first | exact Nat.le_refl _ | exact Nat.zero_le _ | (dsimp only; omega)) (by first | with_reducible rfl | (dsimp only; (subst e1; unfold m_fo; (repeat (first | rw [if_pos (by grind)] | rw [if_neg (by grind)]))); done) | (exfalso; grind)) (by first | with_reducible rfl | (dsimp only; (subst e1; unfold m_fo; (repeat (first | rw [if_pos (by grind)] | rw [if_neg (by grind)]))); done) | (exfalso; grind)) (by first | with_reducible rfl | (dsimp only; (subst e1; unfold m_fo; (repeat (first | rw [if_pos (by grind)] | rw [if_neg (by grind)]))); done) | (exfalso; grind)) (by first | with_reducible rfl | (dsimp only; (subst e1; unfold m_fo; (repeat (first | rw [if_pos (by grind)] | rw [if_neg (by grind)]))); done) | (exfalso; grind))
          · skip
            refine jr_tableE (tgt := 158) d_M_failureOf_1 (by rcases j_7_24 x1 with h | h | rfl | rfl | rfl | rfl | rfl | rfl | rfl | rfl | rfl | rfl | rfl | rfl | rfl | rfl | rfl | rfl | rfl | rfl <;> first | exact Or.inl ⟨Or.inl (Int32.lt_iff_toInt_lt.mp h), by decide⟩ | exact Or.inl ⟨Or.inr (Int32.lt_iff_toInt_lt.mp h), by decide⟩ | exact Or.inr ⟨by decide, by decide, _, rfl, by decide⟩ | (exfalso; grind)) ?_
            refine jr_iconst (v := 0) d_M_failureOf_158 (by decide) ?_
            exact jr_retX (v := some _) d_M_failureOf_159 (by first | exact Nat.le_refl _ | exact Nat.zero_le _ | (dsimp only; omega)) (by first | exact Nat.le_refl _ | exact Nat.zero_le _ | (dsimp only; omega)) (by first | with_reducible rfl | (dsimp only; (subst e1; unfold m_fo; (repeat (first | rw [if_pos (by grind)] | rw [if_neg (by grind)]))); done) | (exfalso; grind)) (by first | with_reducible rfl | (dsimp only; (subst e1; unfold m_fo; (repeat (first | rw [if_pos (by grind)] | rw [if_neg (by grind)]))); done) | (exfalso; grind)) (by first | with_reducible rfl | (dsimp only; (subst e1; unfold m_fo; (repeat (first | rw [if_pos (by grind)] | rw [if_neg (by grind)]))); done) | (exfalso; grind)) (by first | with_reducible rfl | (dsimp only; (subst e1; unfold m_fo; (repeat (first | rw [if_pos (by grind)] | rw [if_neg (by grind)]))); done) | (exfalso; grind))
theorem ct_M_objectHeldAgainst {I : jc_I} {O : jc_O} {live : jc_L → Prop} {t j c : Nat} (hM : jw_M O) (hH : jw_H I O) (hT : jw_top I O t j) (hf : jw_f O t j) (hd : jw_d I t j) (hc : O (8, t, j) 2 = some (6, c, 0)) (hC : jw_C O c) (hn : jw_n I c) : jc_Ct y_M_objectHeldAgainst [.inr (some (4, 0, 0)), .inr (some (9, t, 0))] I O live (some (.inl (m_oha I t j c)), I, O, live, 0, 0) := by
  obtain ⟨m0, m1, m2, m3⟩ := id hM
  refine jc_Ct.of (by decide +kernel) (Or.inl rfl) (Nat.le_of_ble_eq_true rfl) ?_
  refine jr_aload_n d_M_objectHeldAgainst_0 rfl rfl ?_
  refine jv_V0r d_M_objectHeldAgainst_1 l_M_90 k_S_top ⟨Nat.le_of_ble_eq_true rfl, Nat.le_of_ble_eq_true rfl⟩ rfl rfl (Nat.le_of_ble_eq_true rfl) (ct_S_topF hT) (by first | decide | (dsimp only; omega) | (dsimp only; grind)) (by first | decide | (dsimp only; omega) | (dsimp only; grind)) ?_
  first | rw [m0] | rw [m1] | rw [m2] | rw [m3] | rw [hc] | skip
  refine jr_astore_n d_M_objectHeldAgainst_4 rfl (Nat.le_of_ble_eq_true rfl) ?_
  refine jr_aload_n d_M_objectHeldAgainst_5 rfl rfl ?_
  refine jr_ifnonnull (tgt := 13) d_M_objectHeldAgainst_6 (by decide) (fun q6 c6 => ?_) (fun c6 => by cases c6)
  refine jr_aload_n d_M_objectHeldAgainst_13 rfl rfl ?_
  refine jv_V0r d_M_objectHeldAgainst_14 l_M_94 k_F_ownCode ⟨Nat.le_of_ble_eq_true rfl, Nat.le_of_ble_eq_true rfl⟩ rfl rfl (Nat.le_of_ble_eq_true rfl) (ct_F_ownCode) (by first | decide | (dsimp only; omega) | (dsimp only; grind)) (by first | decide | (dsimp only; omega) | (dsimp only; grind)) ?_
  first | rw [m0] | rw [m1] | rw [m2] | rw [m3] | rw [hc] | skip
  refine jr_astore_n d_M_objectHeldAgainst_17 rfl (Nat.le_of_ble_eq_true rfl) ?_
  refine jr_aload_n d_M_objectHeldAgainst_18 rfl rfl ?_
  refine jr_ifnull (tgt := 35) d_M_objectHeldAgainst_19 (by decide) (fun c19 => by cases c19) (fun q19 c19 => ?_)
  refine jr_aload_n d_M_objectHeldAgainst_22 rfl rfl ?_
  refine jr_aload_n d_M_objectHeldAgainst_23 rfl rfl ?_
  refine jv_V0r d_M_objectHeldAgainst_24 l_M_100 k_F_at ⟨Nat.le_of_ble_eq_true rfl, Nat.le_of_ble_eq_true rfl⟩ rfl rfl (Nat.le_of_ble_eq_true rfl) (ct_F_at) (by first | decide | (dsimp only; omega) | (dsimp only; grind)) (by first | decide | (dsimp only; omega) | (dsimp only; grind)) ?_
  refine jv_V1r d_M_objectHeldAgainst_27 l_M_103 k_C_op ⟨Nat.le_of_ble_eq_true rfl, Nat.le_of_ble_eq_true rfl⟩ rfl rfl (Nat.le_of_ble_eq_true rfl) (show jc_Ct y_C_op _ _ _ _ (some (.inl (m_op _ _ _ _)), _, _, _, 0, 0) from ct_C_op hC.2.1 hn.2.2.2.1) (by first | decide | (dsimp only; omega) | (dsimp only; grind)) (by first | decide | (dsimp only; omega) | (dsimp only; grind)) ?_
  refine jr_bipush (v := 20) d_M_objectHeldAgainst_30 (by decide) ?_
  refine jr_icmp_eq (tgt := 37) d_M_objectHeldAgainst_32 (by decide) (fun c32 => ?_) (fun c32 => ?_)
  · skip
    refine jr_aload_n d_M_objectHeldAgainst_37 rfl rfl ?_
    refine jr_getr d_M_objectHeldAgainst_38 f_M_25 rfl rfl ?_
    first | rw [m0] | rw [m1] | rw [m2] | rw [m3] | rw [hc] | skip
    refine jr_aload_n d_M_objectHeldAgainst_41 rfl rfl ?_
    refine jr_iconst (v := 0) d_M_objectHeldAgainst_42 (by decide) ?_
    refine jv_V1r d_M_objectHeldAgainst_43 l_M_107 k_F_peek ⟨Nat.le_of_ble_eq_true rfl, Nat.le_of_ble_eq_true rfl⟩ rfl rfl (Nat.le_of_ble_eq_true rfl) (show jc_Ct y_F_peek _ _ _ _ (some (.inl (f_pk _ _ _ _)), _, _, _, 0, 0) from ct_F_peek hf.1 hd.2) (by first | decide | (dsimp only; omega) | (dsimp only; grind)) (by first | decide | (dsimp only; omega) | (dsimp only; grind)) ?_
    refine jv_V1r d_M_objectHeldAgainst_46 l_M_110 k_H_find ⟨Nat.le_of_ble_eq_true rfl, Nat.le_of_ble_eq_true rfl⟩ rfl rfl (Nat.le_of_ble_eq_true rfl) (ct_H_findT hH) (by first | decide | (dsimp only; omega) | (dsimp only; grind)) (by first | decide | (dsimp only; omega) | (dsimp only; grind)) ?_
    first | rw [m0] | rw [m1] | rw [m2] | rw [m3] | rw [hc] | skip
    refine jr_astore d_M_objectHeldAgainst_49 (Nat.le_of_ble_eq_true rfl) ?_
    refine jr_aload d_M_objectHeldAgainst_51 rfl ?_
    refine jr_ifnull (tgt := 76) d_M_objectHeldAgainst_53 (by decide) (fun c53 => ?_) (fun q53 c53 => ?_)
    · skip
      have hx := h_fd_none c53
      refine jr_iconst (v := 0) d_M_objectHeldAgainst_76 (by decide) ?_
      exact jr_retX (v := some _) d_M_objectHeldAgainst_77 (by first | exact Nat.le_refl _ | exact Nat.zero_le _ | (dsimp only; omega)) (by first | exact Nat.le_refl _ | exact Nat.zero_le _ | (dsimp only; omega)) (by first | with_reducible rfl | (dsimp only; (unfold m_oha; (repeat (first | rw [if_pos (by grind)] | rw [if_neg (by grind)]))); done) | (exfalso; grind)) (by first | with_reducible rfl | (dsimp only; (unfold m_oha; (repeat (first | rw [if_pos (by grind)] | rw [if_neg (by grind)]))); done) | (exfalso; grind)) (by first | with_reducible rfl | (dsimp only; (unfold m_oha; (repeat (first | rw [if_pos (by grind)] | rw [if_neg (by grind)]))); done) | (exfalso; grind)) (by first | with_reducible rfl | (dsimp only; (unfold m_oha; (repeat (first | rw [if_pos (by grind)] | rw [if_neg (by grind)]))); done) | (exfalso; grind))
    · skip
      obtain ⟨hx, hq⟩ := h_fd_some c53; rw [c53, hq]
      refine jr_aload d_M_objectHeldAgainst_56 rfl ?_
      refine jr_aload_n d_M_objectHeldAgainst_58 rfl rfl ?_
      refine jv_V0r d_M_objectHeldAgainst_59 l_M_113 k_S_number ⟨Nat.le_of_ble_eq_true rfl, Nat.le_of_ble_eq_true rfl⟩ rfl rfl (Nat.le_of_ble_eq_true rfl) (ct_S_number) (by first | decide | (dsimp only; omega) | (dsimp only; grind)) (by first | decide | (dsimp only; omega) | (dsimp only; grind)) ?_
      refine jv_V1r d_M_objectHeldAgainst_62 l_M_116 k_T_isHeldByAnotherThan ⟨Nat.le_of_ble_eq_true rfl, Nat.le_of_ble_eq_true rfl⟩ rfl rfl (Nat.le_of_ble_eq_true rfl) (ct_T_isHeldByAnotherThan) (by first | decide | (dsimp only; omega) | (dsimp only; grind)) (by first | decide | (dsimp only; omega) | (dsimp only; grind)) ?_
      refine jr_if_eq (tgt := 76) d_M_objectHeldAgainst_65 (by decide) (fun c65 => ?_) (fun c65 => ?_)
      · skip
        refine jr_iconst (v := 0) d_M_objectHeldAgainst_76 (by decide) ?_
        exact jr_retX (v := some _) d_M_objectHeldAgainst_77 (by first | exact Nat.le_refl _ | exact Nat.zero_le _ | (dsimp only; omega)) (by first | exact Nat.le_refl _ | exact Nat.zero_le _ | (dsimp only; omega)) (by first | with_reducible rfl | (dsimp only; (unfold m_oha; (repeat (first | rw [if_pos (by grind)] | rw [if_neg (by grind)]))); done) | (exfalso; grind)) (by first | with_reducible rfl | (dsimp only; (unfold m_oha; (repeat (first | rw [if_pos (by grind)] | rw [if_neg (by grind)]))); done) | (exfalso; grind)) (by first | with_reducible rfl | (dsimp only; (unfold m_oha; (repeat (first | rw [if_pos (by grind)] | rw [if_neg (by grind)]))); done) | (exfalso; grind)) (by first | with_reducible rfl | (dsimp only; (unfold m_oha; (repeat (first | rw [if_pos (by grind)] | rw [if_neg (by grind)]))); done) | (exfalso; grind))
      · skip
        refine jr_aload_n d_M_objectHeldAgainst_68 rfl rfl ?_
        refine jr_iconst (v := 0) d_M_objectHeldAgainst_69 (by decide) ?_
        refine jv_V1r d_M_objectHeldAgainst_70 l_M_107 k_F_peek ⟨Nat.le_of_ble_eq_true rfl, Nat.le_of_ble_eq_true rfl⟩ rfl rfl (Nat.le_of_ble_eq_true rfl) (show jc_Ct y_F_peek _ _ _ _ (some (.inl (f_pk _ _ _ _)), _, _, _, 0, 0) from ct_F_peek hf.1 hd.2) (by first | decide | (dsimp only; omega) | (dsimp only; grind)) (by first | decide | (dsimp only; omega) | (dsimp only; grind)) ?_
        refine jr_goto (tgt := 77) d_M_objectHeldAgainst_73 (by decide) ?_
        exact jr_retX (v := some _) d_M_objectHeldAgainst_77 (by first | exact Nat.le_refl _ | exact Nat.zero_le _ | (dsimp only; omega)) (by first | exact Nat.le_refl _ | exact Nat.zero_le _ | (dsimp only; omega)) (by first | with_reducible rfl | (dsimp only; (unfold m_oha; (repeat (first | rw [if_pos (by grind)] | rw [if_neg (by grind)]))); done) | (exfalso; grind)) (by first | with_reducible rfl | (dsimp only; (unfold m_oha; (repeat (first | rw [if_pos (by grind)] | rw [if_neg (by grind)]))); done) | (exfalso; grind)) (by first | with_reducible rfl | (dsimp only; (unfold m_oha; (repeat (first | rw [if_pos (by grind)] | rw [if_neg (by grind)]))); done) | (exfalso; grind)) (by first | with_reducible rfl | (dsimp only; (unfold m_oha; (repeat (first | rw [if_pos (by grind)] | rw [if_neg (by grind)]))); done) | (exfalso; grind))
  · skip
    refine jr_iconst (v := 0) d_M_objectHeldAgainst_35 (by decide) ?_
    exact jr_retX (v := some _) d_M_objectHeldAgainst_36 (by first | exact Nat.le_refl _ | exact Nat.zero_le _ | (dsimp only; omega)) (by first | exact Nat.le_refl _ | exact Nat.zero_le _ | (dsimp only; omega)) (by first | with_reducible rfl | (dsimp only; (unfold m_oha; (repeat (first | rw [if_pos (by grind)] | rw [if_neg (by grind)]))); done) | (exfalso; grind)) (by first | with_reducible rfl | (dsimp only; (unfold m_oha; (repeat (first | rw [if_pos (by grind)] | rw [if_neg (by grind)]))); done) | (exfalso; grind)) (by first | with_reducible rfl | (dsimp only; (unfold m_oha; (repeat (first | rw [if_pos (by grind)] | rw [if_neg (by grind)]))); done) | (exfalso; grind)) (by first | with_reducible rfl | (dsimp only; (unfold m_oha; (repeat (first | rw [if_pos (by grind)] | rw [if_neg (by grind)]))); done) | (exfalso; grind))
theorem ct_M_objectHeldAgainstN {I : jc_I} {O : jc_O} {live : jc_L → Prop} {t : Nat} (h1 : O (9, t, 0) 1 = some (34, t, 0)) (h0 : I (9, t, 0) 2 = 0) : jc_Ct y_M_objectHeldAgainst [.inr (some (4, 0, 0)), .inr (some (9, t, 0))] I O live (some (.inl 0), I, O, live, 0, 0) := by
  refine jc_Ct.of (by decide +kernel) (Or.inl rfl) (Nat.le_of_ble_eq_true rfl) ?_
  refine jr_aload_n d_M_objectHeldAgainst_0 rfl rfl ?_
  refine jv_V0r d_M_objectHeldAgainst_1 l_M_90 k_S_top ⟨Nat.le_of_ble_eq_true rfl, Nat.le_of_ble_eq_true rfl⟩ rfl rfl (Nat.le_of_ble_eq_true rfl) (ct_S_topN h1 h0) (by first | decide | (dsimp only; omega) | (dsimp only; grind)) (by first | decide | (dsimp only; omega) | (dsimp only; grind)) ?_
  refine jr_astore_n d_M_objectHeldAgainst_4 rfl (Nat.le_of_ble_eq_true rfl) ?_
  refine jr_aload_n d_M_objectHeldAgainst_5 rfl rfl ?_
  refine jr_ifnonnull (tgt := 13) d_M_objectHeldAgainst_6 (by decide) (fun q6 c6 => by cases c6) (fun c6 => ?_)
  refine jr_null d_M_objectHeldAgainst_9 ?_
  refine jr_goto (tgt := 17) d_M_objectHeldAgainst_10 (by decide) ?_
  refine jr_astore_n d_M_objectHeldAgainst_17 rfl (Nat.le_of_ble_eq_true rfl) ?_
  refine jr_aload_n d_M_objectHeldAgainst_18 rfl rfl ?_
  refine jr_ifnull (tgt := 35) d_M_objectHeldAgainst_19 (by decide) (fun c19 => ?_) (fun q19 c19 => by cases c19)
  refine jr_iconst (v := 0) d_M_objectHeldAgainst_35 (by decide) ?_
  exact jr_retX (v := some _) d_M_objectHeldAgainst_36 (by first | exact Nat.le_refl _ | exact Nat.zero_le _ | (dsimp only; omega)) (by first | exact Nat.le_refl _ | exact Nat.zero_le _ | (dsimp only; omega)) (by first | with_reducible rfl | (dsimp only; rfl; done) | (exfalso; grind)) (by first | with_reducible rfl | (dsimp only; rfl; done) | (exfalso; grind)) (by first | with_reducible rfl | (dsimp only; rfl; done) | (exfalso; grind)) (by first | with_reducible rfl | (dsimp only; rfl; done) | (exfalso; grind))
theorem ct_M_awaitedBy {I : jc_I} {O : jc_O} {live : jc_L → Prop} {t j c : Nat} (hM : jw_M O) (hH : jw_H I O) (hT : jw_top I O t j) (hf : jw_f O t j) (hd : jw_d I t j) (hc : O (8, t, j) 2 = some (6, c, 0)) (hC : jw_C O c) (hn : jw_n I c) (hb : I (9, t, 0) 6 = 0 ∨ I (9, t, 0) 6 = 1) : jc_Ct y_M_awaitedBy [.inr (some (4, 0, 0)), .inr (some (9, t, 0))] I O live (some (.inl (if I (9, t, 0) 6 = 0 then 0 else m_oha I t j c)), I, O, live, 0, 0) := by
  refine jc_Ct.of (by decide +kernel) (Or.inl rfl) (Nat.le_of_ble_eq_true rfl) ?_
  refine jr_aload_n d_M_awaitedBy_0 rfl rfl ?_
  refine jv_V0r d_M_awaitedBy_1 l_M_87 k_S_isStopped ⟨Nat.le_of_ble_eq_true rfl, Nat.le_of_ble_eq_true rfl⟩ rfl rfl (Nat.le_of_ble_eq_true rfl) (ct_S_isStopped hb) (by first | decide | (dsimp only; omega) | (dsimp only; grind)) (by first | decide | (dsimp only; omega) | (dsimp only; grind)) ?_
  refine jr_if_eq (tgt := 15) d_M_awaitedBy_4 (by decide) (fun c4 => ?_) (fun c4 => ?_)
  · skip
    refine jr_iconst (v := 0) d_M_awaitedBy_15 (by decide) ?_
    exact jr_retX (v := some _) d_M_awaitedBy_16 (by first | exact Nat.le_refl _ | exact Nat.zero_le _ | (dsimp only; omega)) (by first | exact Nat.le_refl _ | exact Nat.zero_le _ | (dsimp only; omega)) (by first | with_reducible rfl | (dsimp only; (repeat (first | rw [if_pos (by grind)] | rw [if_neg (by grind)])); done) | (exfalso; grind)) (by first | with_reducible rfl | (dsimp only; (repeat (first | rw [if_pos (by grind)] | rw [if_neg (by grind)])); done) | (exfalso; grind)) (by first | with_reducible rfl | (dsimp only; (repeat (first | rw [if_pos (by grind)] | rw [if_neg (by grind)])); done) | (exfalso; grind)) (by first | with_reducible rfl | (dsimp only; (repeat (first | rw [if_pos (by grind)] | rw [if_neg (by grind)])); done) | (exfalso; grind))
  · skip
    refine jr_aload_n d_M_awaitedBy_7 rfl rfl ?_
    refine jr_aload_n d_M_awaitedBy_8 rfl rfl ?_
    refine jv_V1r d_M_awaitedBy_9 l_M_73 k_M_objectHeldAgainst ⟨Nat.le_of_ble_eq_true rfl, Nat.le_of_ble_eq_true rfl⟩ rfl rfl (Nat.le_of_ble_eq_true rfl) (ct_M_objectHeldAgainst hM hH hT hf hd hc hC hn) (by first | decide | (dsimp only; omega) | (dsimp only; grind)) (by first | decide | (dsimp only; omega) | (dsimp only; grind)) ?_
    refine jr_goto (tgt := 16) d_M_awaitedBy_12 (by decide) ?_
    exact jr_retX (v := some _) d_M_awaitedBy_16 (by first | exact Nat.le_refl _ | exact Nat.zero_le _ | (dsimp only; omega)) (by first | exact Nat.le_refl _ | exact Nat.zero_le _ | (dsimp only; omega)) (by first | with_reducible rfl | (dsimp only; (repeat (first | rw [if_pos (by grind)] | rw [if_neg (by grind)])); done) | (exfalso; grind)) (by first | with_reducible rfl | (dsimp only; (repeat (first | rw [if_pos (by grind)] | rw [if_neg (by grind)])); done) | (exfalso; grind)) (by first | with_reducible rfl | (dsimp only; (repeat (first | rw [if_pos (by grind)] | rw [if_neg (by grind)])); done) | (exfalso; grind)) (by first | with_reducible rfl | (dsimp only; (repeat (first | rw [if_pos (by grind)] | rw [if_neg (by grind)])); done) | (exfalso; grind))
theorem ct_M_awaitedByN {I : jc_I} {O : jc_O} {live : jc_L → Prop} {t : Nat} (h1 : O (9, t, 0) 1 = some (34, t, 0)) (h0 : I (9, t, 0) 2 = 0) (hb : I (9, t, 0) 6 = 0 ∨ I (9, t, 0) 6 = 1) : jc_Ct y_M_awaitedBy [.inr (some (4, 0, 0)), .inr (some (9, t, 0))] I O live (some (.inl 0), I, O, live, 0, 0) := by
  refine jc_Ct.of (by decide +kernel) (Or.inl rfl) (Nat.le_of_ble_eq_true rfl) ?_
  refine jr_aload_n d_M_awaitedBy_0 rfl rfl ?_
  refine jv_V0r d_M_awaitedBy_1 l_M_87 k_S_isStopped ⟨Nat.le_of_ble_eq_true rfl, Nat.le_of_ble_eq_true rfl⟩ rfl rfl (Nat.le_of_ble_eq_true rfl) (ct_S_isStopped hb) (by first | decide | (dsimp only; omega) | (dsimp only; grind)) (by first | decide | (dsimp only; omega) | (dsimp only; grind)) ?_
  refine jr_if_eq (tgt := 15) d_M_awaitedBy_4 (by decide) (fun c4 => ?_) (fun c4 => ?_)
  · skip
    refine jr_iconst (v := 0) d_M_awaitedBy_15 (by decide) ?_
    exact jr_retX (v := some _) d_M_awaitedBy_16 (by first | exact Nat.le_refl _ | exact Nat.zero_le _ | (dsimp only; omega)) (by first | exact Nat.le_refl _ | exact Nat.zero_le _ | (dsimp only; omega)) (by first | with_reducible rfl | (dsimp only; rfl; done) | (exfalso; grind)) (by first | with_reducible rfl | (dsimp only; rfl; done) | (exfalso; grind)) (by first | with_reducible rfl | (dsimp only; rfl; done) | (exfalso; grind)) (by first | with_reducible rfl | (dsimp only; rfl; done) | (exfalso; grind))
  · skip
    refine jr_aload_n d_M_awaitedBy_7 rfl rfl ?_
    refine jr_aload_n d_M_awaitedBy_8 rfl rfl ?_
    refine jv_V1r d_M_awaitedBy_9 l_M_73 k_M_objectHeldAgainst ⟨Nat.le_of_ble_eq_true rfl, Nat.le_of_ble_eq_true rfl⟩ rfl rfl (Nat.le_of_ble_eq_true rfl) (ct_M_objectHeldAgainstN h1 h0) (by first | decide | (dsimp only; omega) | (dsimp only; grind)) (by first | decide | (dsimp only; omega) | (dsimp only; grind)) ?_
    refine jr_goto (tgt := 16) d_M_awaitedBy_12 (by decide) ?_
    exact jr_retX (v := some _) d_M_awaitedBy_16 (by first | exact Nat.le_refl _ | exact Nat.zero_le _ | (dsimp only; omega)) (by first | exact Nat.le_refl _ | exact Nat.zero_le _ | (dsimp only; omega)) (by first | with_reducible rfl | (dsimp only; rfl; done) | (exfalso; grind)) (by first | with_reducible rfl | (dsimp only; rfl; done) | (exfalso; grind)) (by first | with_reducible rfl | (dsimp only; rfl; done) | (exfalso; grind)) (by first | with_reducible rfl | (dsimp only; rfl; done) | (exfalso; grind))
def u_th (I : jc_I) (t j : Nat) (op a : Int32) : jc_I :=
  (fun (I1 : jc_I) (v : Int32) => (fun (x : Int32) (I2 : jc_I) =>
    if op = 15 then f_psh I2 t j (if (1 ≤ x ∧ x ≤ I2 (3, 0, 0) 2) ∧ I2 (7, (x - 1).toNatClampNeg, 0) 1 = a then 1 else 0)
    else if 1 ≤ x ∧ x ≤ I2 (3, 0, 0) 2 then (if op = 16 ∨ op = 23 then f_psh I2 t j (t_fd I2 (x - 1).toNatClampNeg a) else if op = 17 ∨ op = 24 then t_sf I2 (x - 1).toNatClampNeg a v else if op = 20 then t_en I2 (x - 1).toNatClampNeg (I2 (9, t, 0) 0) else if op = 21 then t_lv I2 (x - 1).toNatClampNeg else I2) else I2)
    (f_tp I1 t j) (f_pop I1 t j)) (if op = 17 ∨ op = 24 then f_pop I t j else I) (if op = 17 ∨ op = 24 then f_tp I t j else 0)
theorem ct_M_useThing {I : jc_I} {O : jc_O} {live : jc_L → Prop} {t j : Nat} {op a : Int32} (hM : jw_M O) (hH : jw_H I O) (hf : jw_f O t j) (hd : jw_d I t j) : jc_Ct y_M_useThing [.inr (some (4, 0, 0)), .inr (some (9, t, 0)), .inr (some (8, t, j)), .inl op, .inl a] I O live (none, u_th I t j op a, O, live, 0, 0) := by
  obtain ⟨m0, m1, m2, m3⟩ := id hM
  refine jc_Ct.of (by decide +kernel) (rfl) (Nat.le_of_ble_eq_true rfl) ?_
  refine jr_iload_n d_M_useThing_0 rfl rfl ?_
  refine jr_bipush (v := 17) d_M_useThing_1 (by decide) ?_
  refine jr_icmp_eq (tgt := 12) d_M_useThing_3 (by decide) (fun c3 => ?_) (fun c3 => ?_)
  · skip
    refine jr_iconst (v := 1) d_M_useThing_12 (by decide) ?_
    refine jr_goto (tgt := 17) d_M_useThing_13 (by decide) ?_
    refine jr_istore d_M_useThing_17 (Nat.le_of_ble_eq_true rfl) ?_
    refine jr_iload d_M_useThing_19 rfl ?_
    refine jr_if_eq (tgt := 31) d_M_useThing_21 (by decide) (fun c21 => ?_) (fun c21 => ?_)
    · skip
      refine jr_iconst (v := 0) d_M_useThing_31 (by decide) ?_
      refine jr_istore d_M_useThing_32 (Nat.le_of_ble_eq_true rfl) ?_
      refine jr_aload_n d_M_useThing_34 rfl rfl ?_
      refine jr_getr d_M_useThing_35 f_M_25 rfl rfl ?_
      first | rw [m0] | rw [m1] | rw [m2] | rw [m3] | skip
      refine jr_aload_n d_M_useThing_38 rfl rfl ?_
      refine jv_V0r d_M_useThing_39 l_M_162 k_F_pop ⟨Nat.le_of_ble_eq_true rfl, Nat.le_of_ble_eq_true rfl⟩ rfl rfl (Nat.le_of_ble_eq_true rfl) (show jc_Ct y_F_pop _ _ _ _ (some (.inl (f_tp _ _ _)), f_pop _ _ _, _, _, 0, 0) from ct_F_pop hf.1 (by first | exact hd.pop.2 | exact hd.2)) (by first | decide | (dsimp only; omega) | (dsimp only; grind)) (by first | decide | (dsimp only; omega) | (dsimp only; grind)) ?_
      refine jv_V1r d_M_useThing_42 l_M_110 k_H_find ⟨Nat.le_of_ble_eq_true rfl, Nat.le_of_ble_eq_true rfl⟩ rfl rfl (Nat.le_of_ble_eq_true rfl) (ct_H_findT (by first | exact (hH.to (by rw [f_pop_t (by decide), f_pop_t (by decide)])) | exact (hH.to (by rw [f_pop_t (by decide)])))) (by first | decide | (dsimp only; omega) | (dsimp only; grind)) (by first | decide | (dsimp only; omega) | (dsimp only; grind)) ?_
      first | rw [m0] | rw [m1] | rw [m2] | rw [m3] | skip
      refine jr_astore d_M_useThing_45 (Nat.le_of_ble_eq_true rfl) ?_
      refine jr_iload_n d_M_useThing_47 rfl rfl ?_
      refine jr_bipush (v := 15) d_M_useThing_48 (by decide) ?_
      refine jr_icmp_ne (tgt := 80) d_M_useThing_50 (by decide) (fun c50 => ?_) (fun c50 => ?_)
      · skip
        refine jr_aload d_M_useThing_80 rfl ?_
        refine jr_ifnull (tgt := 182) d_M_useThing_82 (by decide) (fun c82 => ?_) (fun q82 c82 => ?_)
        · skip
          have hx := h_fd_none c82
          exact jr_retX (v := none) d_M_useThing_182 (by first | exact Nat.le_refl _ | exact Nat.zero_le _ | (dsimp only; omega)) (by first | exact Nat.le_refl _ | exact Nat.zero_le _ | (dsimp only; omega)) (by first | with_reducible rfl | (dsimp only; (unfold u_th; dsimp only; (repeat (first | rw [if_pos (by grind)] | rw [if_neg (by grind)]))); done) | (exfalso; grind)) (by first | with_reducible rfl | (dsimp only; (unfold u_th; dsimp only; (repeat (first | rw [if_pos (by grind)] | rw [if_neg (by grind)]))); done) | (exfalso; grind)) (by first | with_reducible rfl | (dsimp only; (unfold u_th; dsimp only; (repeat (first | rw [if_pos (by grind)] | rw [if_neg (by grind)]))); done) | (exfalso; grind)) (by first | with_reducible rfl | (dsimp only; (unfold u_th; dsimp only; (repeat (first | rw [if_pos (by grind)] | rw [if_neg (by grind)]))); done) | (exfalso; grind))
        · skip
          obtain ⟨hx, hq⟩ := h_fd_some c82; rw [c82, hq]; have hk := (jw_H.at (O := O) (by first | exact (hH.to (by rw [f_pop_t (by decide), f_pop_t (by decide)])) | exact (hH.to (by rw [f_pop_t (by decide)]))) hx).2
          refine jr_iload_n d_M_useThing_85 rfl rfl ?_
          refine jr_name (fun x86 e86 => ?_)
          by_cases g86_16 : x86 = 16 ∨ x86 = 23
          · refine jr_tableIn (tgt := 136) d_M_useThing_86 (by rcases g86_16 with rfl | rfl <;> decide) (by rcases g86_16 with rfl | rfl <;> decide) (by rcases g86_16 with rfl | rfl <;> rfl) (by decide) ?_
            refine jr_aload_n d_M_useThing_136 rfl rfl ?_
            refine jr_aload d_M_useThing_137 rfl ?_
            refine jr_iload d_M_useThing_139 rfl ?_
            refine jv_V1r d_M_useThing_141 l_M_206 k_T_field ⟨Nat.le_of_ble_eq_true rfl, Nat.le_of_ble_eq_true rfl⟩ rfl rfl (Nat.le_of_ble_eq_true rfl) (show jc_Ct y_T_field _ _ _ _ (some (.inl (t_fd _ _ _)), _, _, _, 0, 0) from ct_T_field hk) (by first | decide | (dsimp only; omega) | (dsimp only; grind)) (by first | decide | (dsimp only; omega) | (dsimp only; grind)) ?_
            refine jv_V1v d_M_useThing_144 l_M_177 k_F_push ⟨Nat.le_of_ble_eq_true rfl, Nat.le_of_ble_eq_true rfl⟩ rfl rfl (Nat.le_of_ble_eq_true rfl) (show jc_Ct y_F_push _ _ _ _ (none, f_psh _ _ _ _, _, _, 0, 0) from ct_F_push hf.1) (by first | decide | (dsimp only; omega) | (dsimp only; grind)) (by first | decide | (dsimp only; omega) | (dsimp only; grind)) ?_
            refine jr_goto (tgt := 182) d_M_useThing_147 (by decide) ?_
            exact jr_retX (v := none) d_M_useThing_182 (by first | exact Nat.le_refl _ | exact Nat.zero_le _ | (dsimp only; omega)) (by first | exact Nat.le_refl _ | exact Nat.zero_le _ | (dsimp only; omega)) (by first | with_reducible rfl | (dsimp only; (unfold u_th; dsimp only; (repeat (first | rw [if_pos (by grind)] | rw [if_neg (by grind)]))); done) | (exfalso; grind)) (by first | with_reducible rfl | (dsimp only; (unfold u_th; dsimp only; (repeat (first | rw [if_pos (by grind)] | rw [if_neg (by grind)]))); done) | (exfalso; grind)) (by first | with_reducible rfl | (dsimp only; (unfold u_th; dsimp only; (repeat (first | rw [if_pos (by grind)] | rw [if_neg (by grind)]))); done) | (exfalso; grind)) (by first | with_reducible rfl | (dsimp only; (unfold u_th; dsimp only; (repeat (first | rw [if_pos (by grind)] | rw [if_neg (by grind)]))); done) | (exfalso; grind))
          · skip
            by_cases g86_17 : x86 = 17 ∨ x86 = 24
            · refine jr_tableIn (tgt := 150) d_M_useThing_86 (by rcases g86_17 with rfl | rfl <;> decide) (by rcases g86_17 with rfl | rfl <;> decide) (by rcases g86_17 with rfl | rfl <;> rfl) (by decide) ?_
              refine jr_aload d_M_useThing_150 rfl ?_
              refine jr_iload d_M_useThing_152 rfl ?_
              refine jr_iload d_M_useThing_154 rfl ?_
              refine jv_V2v d_M_useThing_156 l_M_209 k_T_setField ⟨Nat.le_of_ble_eq_true rfl, Nat.le_of_ble_eq_true rfl⟩ rfl rfl (Nat.le_of_ble_eq_true rfl) (show jc_Ct y_T_setField _ _ _ _ (none, t_sf _ _ _ _, _, _, 0, 0) from ct_T_setField hk) (by first | decide | (dsimp only; omega) | (dsimp only; grind)) (by first | decide | (dsimp only; omega) | (dsimp only; grind)) ?_
              refine jr_goto (tgt := 182) d_M_useThing_159 (by decide) ?_
              exact jr_retX (v := none) d_M_useThing_182 (by first | exact Nat.le_refl _ | exact Nat.zero_le _ | (dsimp only; omega)) (by first | exact Nat.le_refl _ | exact Nat.zero_le _ | (dsimp only; omega)) (by first | with_reducible rfl | (dsimp only; (unfold u_th; dsimp only; (repeat (first | rw [if_pos (by grind)] | rw [if_neg (by grind)]))); done) | (exfalso; grind)) (by first | with_reducible rfl | (dsimp only; (unfold u_th; dsimp only; (repeat (first | rw [if_pos (by grind)] | rw [if_neg (by grind)]))); done) | (exfalso; grind)) (by first | with_reducible rfl | (dsimp only; (unfold u_th; dsimp only; (repeat (first | rw [if_pos (by grind)] | rw [if_neg (by grind)]))); done) | (exfalso; grind)) (by first | with_reducible rfl | (dsimp only; (unfold u_th; dsimp only; (repeat (first | rw [if_pos (by grind)] | rw [if_neg (by grind)]))); done) | (exfalso; grind))
            · skip
              by_cases g86_20 : x86 = 20
              · refine jr_tableIn (tgt := 162) d_M_useThing_86 (by rcases g86_20 with rfl <;> decide) (by rcases g86_20 with rfl <;> decide) (by rcases g86_20 with rfl <;> rfl) (by decide) ?_
                refine jr_aload d_M_useThing_162 rfl ?_
                refine jr_aload_n d_M_useThing_164 rfl rfl ?_
                refine jv_V0r d_M_useThing_165 l_M_113 k_S_number ⟨Nat.le_of_ble_eq_true rfl, Nat.le_of_ble_eq_true rfl⟩ rfl rfl (Nat.le_of_ble_eq_true rfl) (ct_S_number) (by first | decide | (dsimp only; omega) | (dsimp only; grind)) (by first | decide | (dsimp only; omega) | (dsimp only; grind)) ?_
                refine jv_V1v d_M_useThing_168 l_M_212 k_T_enter ⟨Nat.le_of_ble_eq_true rfl, Nat.le_of_ble_eq_true rfl⟩ rfl rfl (Nat.le_of_ble_eq_true rfl) (show jc_Ct y_T_enter _ _ _ _ (none, t_en _ _ _, _, _, 0, 0) from ct_T_enter) (by first | decide | (dsimp only; omega) | (dsimp only; grind)) (by first | decide | (dsimp only; omega) | (dsimp only; grind)) ?_
                refine jr_goto (tgt := 182) d_M_useThing_171 (by decide) ?_
                exact jr_retX (v := none) d_M_useThing_182 (by first | exact Nat.le_refl _ | exact Nat.zero_le _ | (dsimp only; omega)) (by first | exact Nat.le_refl _ | exact Nat.zero_le _ | (dsimp only; omega)) (by first | with_reducible rfl | (dsimp only; (unfold u_th; dsimp only; (repeat (first | rw [if_pos (by grind)] | rw [if_neg (by grind)]))); done) | (exfalso; grind)) (by first | with_reducible rfl | (dsimp only; (unfold u_th; dsimp only; (repeat (first | rw [if_pos (by grind)] | rw [if_neg (by grind)]))); done) | (exfalso; grind)) (by first | with_reducible rfl | (dsimp only; (unfold u_th; dsimp only; (repeat (first | rw [if_pos (by grind)] | rw [if_neg (by grind)]))); done) | (exfalso; grind)) (by first | with_reducible rfl | (dsimp only; (unfold u_th; dsimp only; (repeat (first | rw [if_pos (by grind)] | rw [if_neg (by grind)]))); done) | (exfalso; grind))
              · skip
                by_cases g86_21 : x86 = 21
                · refine jr_tableIn (tgt := 174) d_M_useThing_86 (by rcases g86_21 with rfl <;> decide) (by rcases g86_21 with rfl <;> decide) (by rcases g86_21 with rfl <;> rfl) (by decide) ?_
                  refine jr_aload d_M_useThing_174 rfl ?_
                  refine jv_V0v d_M_useThing_176 l_M_215 k_T_leave ⟨Nat.le_of_ble_eq_true rfl, Nat.le_of_ble_eq_true rfl⟩ rfl rfl (Nat.le_of_ble_eq_true rfl) (show jc_Ct y_T_leave _ _ _ _ (none, t_lv _ _, _, _, 0, 0) from ct_T_leave) (by first | decide | (dsimp only; omega) | (dsimp only; grind)) (by first | decide | (dsimp only; omega) | (dsimp only; grind)) ?_
                  refine jr_goto (tgt := 182) d_M_useThing_179 (by decide) ?_
                  exact jr_retX (v := none) d_M_useThing_182 (by first | exact Nat.le_refl _ | exact Nat.zero_le _ | (dsimp only; omega)) (by first | exact Nat.le_refl _ | exact Nat.zero_le _ | (dsimp only; omega)) (by first | with_reducible rfl | (dsimp only; (unfold u_th; dsimp only; (repeat (first | rw [if_pos (by grind)] | rw [if_neg (by grind)]))); done) | (exfalso; grind)) (by first | with_reducible rfl | (dsimp only; (unfold u_th; dsimp only; (repeat (first | rw [if_pos (by grind)] | rw [if_neg (by grind)]))); done) | (exfalso; grind)) (by first | with_reducible rfl | (dsimp only; (unfold u_th; dsimp only; (repeat (first | rw [if_pos (by grind)] | rw [if_neg (by grind)]))); done) | (exfalso; grind)) (by first | with_reducible rfl | (dsimp only; (unfold u_th; dsimp only; (repeat (first | rw [if_pos (by grind)] | rw [if_neg (by grind)]))); done) | (exfalso; grind))
                · skip
                  refine jr_tableE (tgt := 182) d_M_useThing_86 (by rcases j_16_24 x86 with h | h | rfl | rfl | rfl | rfl | rfl | rfl | rfl | rfl | rfl <;> first | exact Or.inl ⟨Or.inl (Int32.lt_iff_toInt_lt.mp h), by decide⟩ | exact Or.inl ⟨Or.inr (Int32.lt_iff_toInt_lt.mp h), by decide⟩ | exact Or.inr ⟨by decide, by decide, _, rfl, by decide⟩ | (exfalso; grind)) ?_
                  exact jr_retX (v := none) d_M_useThing_182 (by first | exact Nat.le_refl _ | exact Nat.zero_le _ | (dsimp only; omega)) (by first | exact Nat.le_refl _ | exact Nat.zero_le _ | (dsimp only; omega)) (by first | with_reducible rfl | (dsimp only; (unfold u_th; dsimp only; (repeat (first | rw [if_pos (by grind)] | rw [if_neg (by grind)]))); done) | (exfalso; grind)) (by first | with_reducible rfl | (dsimp only; (unfold u_th; dsimp only; (repeat (first | rw [if_pos (by grind)] | rw [if_neg (by grind)]))); done) | (exfalso; grind)) (by first | with_reducible rfl | (dsimp only; (unfold u_th; dsimp only; (repeat (first | rw [if_pos (by grind)] | rw [if_neg (by grind)]))); done) | (exfalso; grind)) (by first | with_reducible rfl | (dsimp only; (unfold u_th; dsimp only; (repeat (first | rw [if_pos (by grind)] | rw [if_neg (by grind)]))); done) | (exfalso; grind))
      · skip
        refine jr_aload_n d_M_useThing_53 rfl rfl ?_
        refine jr_aload d_M_useThing_54 rfl ?_
        refine jr_ifnull (tgt := 73) d_M_useThing_56 (by decide) (fun c56 => ?_) (fun q56 c56 => ?_)
        · skip
          have hx := h_fd_none c56
          refine jr_iconst (v := 0) d_M_useThing_73 (by decide) ?_
          refine jv_V1v d_M_useThing_74 l_M_177 k_F_push ⟨Nat.le_of_ble_eq_true rfl, Nat.le_of_ble_eq_true rfl⟩ rfl rfl (Nat.le_of_ble_eq_true rfl) (show jc_Ct y_F_push _ _ _ _ (none, f_psh _ _ _ _, _, _, 0, 0) from ct_F_push hf.1) (by first | decide | (dsimp only; omega) | (dsimp only; grind)) (by first | decide | (dsimp only; omega) | (dsimp only; grind)) ?_
          refine jr_goto (tgt := 182) d_M_useThing_77 (by decide) ?_
          exact jr_retX (v := none) d_M_useThing_182 (by first | exact Nat.le_refl _ | exact Nat.zero_le _ | (dsimp only; omega)) (by first | exact Nat.le_refl _ | exact Nat.zero_le _ | (dsimp only; omega)) (by first | with_reducible rfl | (dsimp only; (unfold u_th; dsimp only; (repeat (first | rw [if_pos (by grind)] | rw [if_neg (by grind)]))); done) | (exfalso; grind)) (by first | with_reducible rfl | (dsimp only; (unfold u_th; dsimp only; (repeat (first | rw [if_pos (by grind)] | rw [if_neg (by grind)]))); done) | (exfalso; grind)) (by first | with_reducible rfl | (dsimp only; (unfold u_th; dsimp only; (repeat (first | rw [if_pos (by grind)] | rw [if_neg (by grind)]))); done) | (exfalso; grind)) (by first | with_reducible rfl | (dsimp only; (unfold u_th; dsimp only; (repeat (first | rw [if_pos (by grind)] | rw [if_neg (by grind)]))); done) | (exfalso; grind))
        · skip
          obtain ⟨hx, hq⟩ := h_fd_some c56; rw [c56, hq]
          refine jr_aload d_M_useThing_59 rfl ?_
          refine jv_V0r d_M_useThing_61 l_M_203 k_T_kind ⟨Nat.le_of_ble_eq_true rfl, Nat.le_of_ble_eq_true rfl⟩ rfl rfl (Nat.le_of_ble_eq_true rfl) (ct_T_kind) (by first | decide | (dsimp only; omega) | (dsimp only; grind)) (by first | decide | (dsimp only; omega) | (dsimp only; grind)) ?_
          refine jr_iload d_M_useThing_64 rfl ?_
          refine jr_icmp_ne (tgt := 73) d_M_useThing_66 (by decide) (fun c66 => ?_) (fun c66 => ?_)
          · skip
            refine jr_iconst (v := 0) d_M_useThing_73 (by decide) ?_
            refine jv_V1v d_M_useThing_74 l_M_177 k_F_push ⟨Nat.le_of_ble_eq_true rfl, Nat.le_of_ble_eq_true rfl⟩ rfl rfl (Nat.le_of_ble_eq_true rfl) (show jc_Ct y_F_push _ _ _ _ (none, f_psh _ _ _ _, _, _, 0, 0) from ct_F_push hf.1) (by first | decide | (dsimp only; omega) | (dsimp only; grind)) (by first | decide | (dsimp only; omega) | (dsimp only; grind)) ?_
            refine jr_goto (tgt := 182) d_M_useThing_77 (by decide) ?_
            exact jr_retX (v := none) d_M_useThing_182 (by first | exact Nat.le_refl _ | exact Nat.zero_le _ | (dsimp only; omega)) (by first | exact Nat.le_refl _ | exact Nat.zero_le _ | (dsimp only; omega)) (by first | with_reducible rfl | (dsimp only; (unfold u_th; dsimp only; (repeat (first | rw [if_pos (by grind)] | rw [if_neg (by grind)]))); done) | (exfalso; grind)) (by first | with_reducible rfl | (dsimp only; (unfold u_th; dsimp only; (repeat (first | rw [if_pos (by grind)] | rw [if_neg (by grind)]))); done) | (exfalso; grind)) (by first | with_reducible rfl | (dsimp only; (unfold u_th; dsimp only; (repeat (first | rw [if_pos (by grind)] | rw [if_neg (by grind)]))); done) | (exfalso; grind)) (by first | with_reducible rfl | (dsimp only; (unfold u_th; dsimp only; (repeat (first | rw [if_pos (by grind)] | rw [if_neg (by grind)]))); done) | (exfalso; grind))
          · skip
            refine jr_iconst (v := 1) d_M_useThing_69 (by decide) ?_
            refine jr_goto (tgt := 74) d_M_useThing_70 (by decide) ?_
            refine jv_V1v d_M_useThing_74 l_M_177 k_F_push ⟨Nat.le_of_ble_eq_true rfl, Nat.le_of_ble_eq_true rfl⟩ rfl rfl (Nat.le_of_ble_eq_true rfl) (show jc_Ct y_F_push _ _ _ _ (none, f_psh _ _ _ _, _, _, 0, 0) from ct_F_push hf.1) (by first | decide | (dsimp only; omega) | (dsimp only; grind)) (by first | decide | (dsimp only; omega) | (dsimp only; grind)) ?_
            refine jr_goto (tgt := 182) d_M_useThing_77 (by decide) ?_
            exact jr_retX (v := none) d_M_useThing_182 (by first | exact Nat.le_refl _ | exact Nat.zero_le _ | (dsimp only; omega)) (by first | exact Nat.le_refl _ | exact Nat.zero_le _ | (dsimp only; omega)) (by first | with_reducible rfl | (dsimp only; (unfold u_th; dsimp only; (repeat (first | rw [if_pos (by grind)] | rw [if_neg (by grind)]))); done) | (exfalso; grind)) (by first | with_reducible rfl | (dsimp only; (unfold u_th; dsimp only; (repeat (first | rw [if_pos (by grind)] | rw [if_neg (by grind)]))); done) | (exfalso; grind)) (by first | with_reducible rfl | (dsimp only; (unfold u_th; dsimp only; (repeat (first | rw [if_pos (by grind)] | rw [if_neg (by grind)]))); done) | (exfalso; grind)) (by first | with_reducible rfl | (dsimp only; (unfold u_th; dsimp only; (repeat (first | rw [if_pos (by grind)] | rw [if_neg (by grind)]))); done) | (exfalso; grind))
    · skip
      refine jr_aload_n d_M_useThing_24 rfl rfl ?_
      refine jv_V0r d_M_useThing_25 l_M_162 k_F_pop ⟨Nat.le_of_ble_eq_true rfl, Nat.le_of_ble_eq_true rfl⟩ rfl rfl (Nat.le_of_ble_eq_true rfl) (show jc_Ct y_F_pop _ _ _ _ (some (.inl (f_tp _ _ _)), f_pop _ _ _, _, _, 0, 0) from ct_F_pop hf.1 hd.2) (by first | decide | (dsimp only; omega) | (dsimp only; grind)) (by first | decide | (dsimp only; omega) | (dsimp only; grind)) ?_
      refine jr_goto (tgt := 32) d_M_useThing_28 (by decide) ?_
      refine jr_istore d_M_useThing_32 (Nat.le_of_ble_eq_true rfl) ?_
      refine jr_aload_n d_M_useThing_34 rfl rfl ?_
      refine jr_getr d_M_useThing_35 f_M_25 rfl rfl ?_
      first | rw [m0] | rw [m1] | rw [m2] | rw [m3] | skip
      refine jr_aload_n d_M_useThing_38 rfl rfl ?_
      refine jv_V0r d_M_useThing_39 l_M_162 k_F_pop ⟨Nat.le_of_ble_eq_true rfl, Nat.le_of_ble_eq_true rfl⟩ rfl rfl (Nat.le_of_ble_eq_true rfl) (show jc_Ct y_F_pop _ _ _ _ (some (.inl (f_tp _ _ _)), f_pop _ _ _, _, _, 0, 0) from ct_F_pop hf.1 (by first | exact hd.pop.2 | exact hd.2)) (by first | decide | (dsimp only; omega) | (dsimp only; grind)) (by first | decide | (dsimp only; omega) | (dsimp only; grind)) ?_
      refine jv_V1r d_M_useThing_42 l_M_110 k_H_find ⟨Nat.le_of_ble_eq_true rfl, Nat.le_of_ble_eq_true rfl⟩ rfl rfl (Nat.le_of_ble_eq_true rfl) (ct_H_findT (by first | exact (hH.to (by rw [f_pop_t (by decide), f_pop_t (by decide)])) | exact (hH.to (by rw [f_pop_t (by decide)])))) (by first | decide | (dsimp only; omega) | (dsimp only; grind)) (by first | decide | (dsimp only; omega) | (dsimp only; grind)) ?_
      first | rw [m0] | rw [m1] | rw [m2] | rw [m3] | skip
      refine jr_astore d_M_useThing_45 (Nat.le_of_ble_eq_true rfl) ?_
      refine jr_iload_n d_M_useThing_47 rfl rfl ?_
      refine jr_bipush (v := 15) d_M_useThing_48 (by decide) ?_
      refine jr_icmp_ne (tgt := 80) d_M_useThing_50 (by decide) (fun c50 => ?_) (fun c50 => ?_)
      · skip
        refine jr_aload d_M_useThing_80 rfl ?_
        refine jr_ifnull (tgt := 182) d_M_useThing_82 (by decide) (fun c82 => ?_) (fun q82 c82 => ?_)
        · skip
          have hx := h_fd_none c82
          exact jr_retX (v := none) d_M_useThing_182 (by first | exact Nat.le_refl _ | exact Nat.zero_le _ | (dsimp only; omega)) (by first | exact Nat.le_refl _ | exact Nat.zero_le _ | (dsimp only; omega)) (by first | with_reducible rfl | (dsimp only; (unfold u_th; dsimp only; (repeat (first | rw [if_pos (by grind)] | rw [if_neg (by grind)]))); done) | (exfalso; grind)) (by first | with_reducible rfl | (dsimp only; (unfold u_th; dsimp only; (repeat (first | rw [if_pos (by grind)] | rw [if_neg (by grind)]))); done) | (exfalso; grind)) (by first | with_reducible rfl | (dsimp only; (unfold u_th; dsimp only; (repeat (first | rw [if_pos (by grind)] | rw [if_neg (by grind)]))); done) | (exfalso; grind)) (by first | with_reducible rfl | (dsimp only; (unfold u_th; dsimp only; (repeat (first | rw [if_pos (by grind)] | rw [if_neg (by grind)]))); done) | (exfalso; grind))
        · skip
          obtain ⟨hx, hq⟩ := h_fd_some c82; rw [c82, hq]; have hk := (jw_H.at (O := O) (by first | exact (hH.to (by rw [f_pop_t (by decide), f_pop_t (by decide)])) | exact (hH.to (by rw [f_pop_t (by decide)]))) hx).2
          refine jr_iload_n d_M_useThing_85 rfl rfl ?_
          refine jr_name (fun x86 e86 => ?_)
          by_cases g86_16 : x86 = 16 ∨ x86 = 23
          · refine jr_tableIn (tgt := 136) d_M_useThing_86 (by rcases g86_16 with rfl | rfl <;> decide) (by rcases g86_16 with rfl | rfl <;> decide) (by rcases g86_16 with rfl | rfl <;> rfl) (by decide) ?_
            refine jr_aload_n d_M_useThing_136 rfl rfl ?_
            refine jr_aload d_M_useThing_137 rfl ?_
            refine jr_iload d_M_useThing_139 rfl ?_
            refine jv_V1r d_M_useThing_141 l_M_206 k_T_field ⟨Nat.le_of_ble_eq_true rfl, Nat.le_of_ble_eq_true rfl⟩ rfl rfl (Nat.le_of_ble_eq_true rfl) (show jc_Ct y_T_field _ _ _ _ (some (.inl (t_fd _ _ _)), _, _, _, 0, 0) from ct_T_field hk) (by first | decide | (dsimp only; omega) | (dsimp only; grind)) (by first | decide | (dsimp only; omega) | (dsimp only; grind)) ?_
            refine jv_V1v d_M_useThing_144 l_M_177 k_F_push ⟨Nat.le_of_ble_eq_true rfl, Nat.le_of_ble_eq_true rfl⟩ rfl rfl (Nat.le_of_ble_eq_true rfl) (show jc_Ct y_F_push _ _ _ _ (none, f_psh _ _ _ _, _, _, 0, 0) from ct_F_push hf.1) (by first | decide | (dsimp only; omega) | (dsimp only; grind)) (by first | decide | (dsimp only; omega) | (dsimp only; grind)) ?_
            refine jr_goto (tgt := 182) d_M_useThing_147 (by decide) ?_
            exact jr_retX (v := none) d_M_useThing_182 (by first | exact Nat.le_refl _ | exact Nat.zero_le _ | (dsimp only; omega)) (by first | exact Nat.le_refl _ | exact Nat.zero_le _ | (dsimp only; omega)) (by first | with_reducible rfl | (dsimp only; (unfold u_th; dsimp only; (repeat (first | rw [if_pos (by grind)] | rw [if_neg (by grind)]))); done) | (exfalso; grind)) (by first | with_reducible rfl | (dsimp only; (unfold u_th; dsimp only; (repeat (first | rw [if_pos (by grind)] | rw [if_neg (by grind)]))); done) | (exfalso; grind)) (by first | with_reducible rfl | (dsimp only; (unfold u_th; dsimp only; (repeat (first | rw [if_pos (by grind)] | rw [if_neg (by grind)]))); done) | (exfalso; grind)) (by first | with_reducible rfl | (dsimp only; (unfold u_th; dsimp only; (repeat (first | rw [if_pos (by grind)] | rw [if_neg (by grind)]))); done) | (exfalso; grind))
          · skip
            by_cases g86_17 : x86 = 17 ∨ x86 = 24
            · refine jr_tableIn (tgt := 150) d_M_useThing_86 (by rcases g86_17 with rfl | rfl <;> decide) (by rcases g86_17 with rfl | rfl <;> decide) (by rcases g86_17 with rfl | rfl <;> rfl) (by decide) ?_
              refine jr_aload d_M_useThing_150 rfl ?_
              refine jr_iload d_M_useThing_152 rfl ?_
              refine jr_iload d_M_useThing_154 rfl ?_
              refine jv_V2v d_M_useThing_156 l_M_209 k_T_setField ⟨Nat.le_of_ble_eq_true rfl, Nat.le_of_ble_eq_true rfl⟩ rfl rfl (Nat.le_of_ble_eq_true rfl) (show jc_Ct y_T_setField _ _ _ _ (none, t_sf _ _ _ _, _, _, 0, 0) from ct_T_setField hk) (by first | decide | (dsimp only; omega) | (dsimp only; grind)) (by first | decide | (dsimp only; omega) | (dsimp only; grind)) ?_
              refine jr_goto (tgt := 182) d_M_useThing_159 (by decide) ?_
              exact jr_retX (v := none) d_M_useThing_182 (by first | exact Nat.le_refl _ | exact Nat.zero_le _ | (dsimp only; omega)) (by first | exact Nat.le_refl _ | exact Nat.zero_le _ | (dsimp only; omega)) (by first | with_reducible rfl | (dsimp only; (unfold u_th; dsimp only; (repeat (first | rw [if_pos (by grind)] | rw [if_neg (by grind)]))); done) | (exfalso; grind)) (by first | with_reducible rfl | (dsimp only; (unfold u_th; dsimp only; (repeat (first | rw [if_pos (by grind)] | rw [if_neg (by grind)]))); done) | (exfalso; grind)) (by first | with_reducible rfl | (dsimp only; (unfold u_th; dsimp only; (repeat (first | rw [if_pos (by grind)] | rw [if_neg (by grind)]))); done) | (exfalso; grind)) (by first | with_reducible rfl | (dsimp only; (unfold u_th; dsimp only; (repeat (first | rw [if_pos (by grind)] | rw [if_neg (by grind)]))); done) | (exfalso; grind))
            · skip
              by_cases g86_20 : x86 = 20
              · refine jr_tableIn (tgt := 162) d_M_useThing_86 (by rcases g86_20 with rfl <;> decide) (by rcases g86_20 with rfl <;> decide) (by rcases g86_20 with rfl <;> rfl) (by decide) ?_
                refine jr_aload d_M_useThing_162 rfl ?_
                refine jr_aload_n d_M_useThing_164 rfl rfl ?_
                refine jv_V0r d_M_useThing_165 l_M_113 k_S_number ⟨Nat.le_of_ble_eq_true rfl, Nat.le_of_ble_eq_true rfl⟩ rfl rfl (Nat.le_of_ble_eq_true rfl) (ct_S_number) (by first | decide | (dsimp only; omega) | (dsimp only; grind)) (by first | decide | (dsimp only; omega) | (dsimp only; grind)) ?_
                refine jv_V1v d_M_useThing_168 l_M_212 k_T_enter ⟨Nat.le_of_ble_eq_true rfl, Nat.le_of_ble_eq_true rfl⟩ rfl rfl (Nat.le_of_ble_eq_true rfl) (show jc_Ct y_T_enter _ _ _ _ (none, t_en _ _ _, _, _, 0, 0) from ct_T_enter) (by first | decide | (dsimp only; omega) | (dsimp only; grind)) (by first | decide | (dsimp only; omega) | (dsimp only; grind)) ?_
                refine jr_goto (tgt := 182) d_M_useThing_171 (by decide) ?_
                exact jr_retX (v := none) d_M_useThing_182 (by first | exact Nat.le_refl _ | exact Nat.zero_le _ | (dsimp only; omega)) (by first | exact Nat.le_refl _ | exact Nat.zero_le _ | (dsimp only; omega)) (by first | with_reducible rfl | (dsimp only; (unfold u_th; dsimp only; (repeat (first | rw [if_pos (by grind)] | rw [if_neg (by grind)]))); done) | (exfalso; grind)) (by first | with_reducible rfl | (dsimp only; (unfold u_th; dsimp only; (repeat (first | rw [if_pos (by grind)] | rw [if_neg (by grind)]))); done) | (exfalso; grind)) (by first | with_reducible rfl | (dsimp only; (unfold u_th; dsimp only; (repeat (first | rw [if_pos (by grind)] | rw [if_neg (by grind)]))); done) | (exfalso; grind)) (by first | with_reducible rfl | (dsimp only; (unfold u_th; dsimp only; (repeat (first | rw [if_pos (by grind)] | rw [if_neg (by grind)]))); done) | (exfalso; grind))
              · skip
                by_cases g86_21 : x86 = 21
                · refine jr_tableIn (tgt := 174) d_M_useThing_86 (by rcases g86_21 with rfl <;> decide) (by rcases g86_21 with rfl <;> decide) (by rcases g86_21 with rfl <;> rfl) (by decide) ?_
                  refine jr_aload d_M_useThing_174 rfl ?_
                  refine jv_V0v d_M_useThing_176 l_M_215 k_T_leave ⟨Nat.le_of_ble_eq_true rfl, Nat.le_of_ble_eq_true rfl⟩ rfl rfl (Nat.le_of_ble_eq_true rfl) (show jc_Ct y_T_leave _ _ _ _ (none, t_lv _ _, _, _, 0, 0) from ct_T_leave) (by first | decide | (dsimp only; omega) | (dsimp only; grind)) (by first | decide | (dsimp only; omega) | (dsimp only; grind)) ?_
                  refine jr_goto (tgt := 182) d_M_useThing_179 (by decide) ?_
                  exact jr_retX (v := none) d_M_useThing_182 (by first | exact Nat.le_refl _ | exact Nat.zero_le _ | (dsimp only; omega)) (by first | exact Nat.le_refl _ | exact Nat.zero_le _ | (dsimp only; omega)) (by first | with_reducible rfl | (dsimp only; (unfold u_th; dsimp only; (repeat (first | rw [if_pos (by grind)] | rw [if_neg (by grind)]))); done) | (exfalso; grind)) (by first | with_reducible rfl | (dsimp only; (unfold u_th; dsimp only; (repeat (first | rw [if_pos (by grind)] | rw [if_neg (by grind)]))); done) | (exfalso; grind)) (by first | with_reducible rfl | (dsimp only; (unfold u_th; dsimp only; (repeat (first | rw [if_pos (by grind)] | rw [if_neg (by grind)]))); done) | (exfalso; grind)) (by first | with_reducible rfl | (dsimp only; (unfold u_th; dsimp only; (repeat (first | rw [if_pos (by grind)] | rw [if_neg (by grind)]))); done) | (exfalso; grind))
                · skip
                  refine jr_tableE (tgt := 182) d_M_useThing_86 (by rcases j_16_24 x86 with h | h | rfl | rfl | rfl | rfl | rfl | rfl | rfl | rfl | rfl <;> first | exact Or.inl ⟨Or.inl (Int32.lt_iff_toInt_lt.mp h), by decide⟩ | exact Or.inl ⟨Or.inr (Int32.lt_iff_toInt_lt.mp h), by decide⟩ | exact Or.inr ⟨by decide, by decide, _, rfl, by decide⟩ | (exfalso; grind)) ?_
                  exact jr_retX (v := none) d_M_useThing_182 (by first | exact Nat.le_refl _ | exact Nat.zero_le _ | (dsimp only; omega)) (by first | exact Nat.le_refl _ | exact Nat.zero_le _ | (dsimp only; omega)) (by first | with_reducible rfl | (dsimp only; (unfold u_th; dsimp only; (repeat (first | rw [if_pos (by grind)] | rw [if_neg (by grind)]))); done) | (exfalso; grind)) (by first | with_reducible rfl | (dsimp only; (unfold u_th; dsimp only; (repeat (first | rw [if_pos (by grind)] | rw [if_neg (by grind)]))); done) | (exfalso; grind)) (by first | with_reducible rfl | (dsimp only; (unfold u_th; dsimp only; (repeat (first | rw [if_pos (by grind)] | rw [if_neg (by grind)]))); done) | (exfalso; grind)) (by first | with_reducible rfl | (dsimp only; (unfold u_th; dsimp only; (repeat (first | rw [if_pos (by grind)] | rw [if_neg (by grind)]))); done) | (exfalso; grind))
      · skip
        refine jr_aload_n d_M_useThing_53 rfl rfl ?_
        refine jr_aload d_M_useThing_54 rfl ?_
        refine jr_ifnull (tgt := 73) d_M_useThing_56 (by decide) (fun c56 => ?_) (fun q56 c56 => ?_)
        · skip
          have hx := h_fd_none c56
          refine jr_iconst (v := 0) d_M_useThing_73 (by decide) ?_
          refine jv_V1v d_M_useThing_74 l_M_177 k_F_push ⟨Nat.le_of_ble_eq_true rfl, Nat.le_of_ble_eq_true rfl⟩ rfl rfl (Nat.le_of_ble_eq_true rfl) (show jc_Ct y_F_push _ _ _ _ (none, f_psh _ _ _ _, _, _, 0, 0) from ct_F_push hf.1) (by first | decide | (dsimp only; omega) | (dsimp only; grind)) (by first | decide | (dsimp only; omega) | (dsimp only; grind)) ?_
          refine jr_goto (tgt := 182) d_M_useThing_77 (by decide) ?_
          exact jr_retX (v := none) d_M_useThing_182 (by first | exact Nat.le_refl _ | exact Nat.zero_le _ | (dsimp only; omega)) (by first | exact Nat.le_refl _ | exact Nat.zero_le _ | (dsimp only; omega)) (by first | with_reducible rfl | (dsimp only; (unfold u_th; dsimp only; (repeat (first | rw [if_pos (by grind)] | rw [if_neg (by grind)]))); done) | (exfalso; grind)) (by first | with_reducible rfl | (dsimp only; (unfold u_th; dsimp only; (repeat (first | rw [if_pos (by grind)] | rw [if_neg (by grind)]))); done) | (exfalso; grind)) (by first | with_reducible rfl | (dsimp only; (unfold u_th; dsimp only; (repeat (first | rw [if_pos (by grind)] | rw [if_neg (by grind)]))); done) | (exfalso; grind)) (by first | with_reducible rfl | (dsimp only; (unfold u_th; dsimp only; (repeat (first | rw [if_pos (by grind)] | rw [if_neg (by grind)]))); done) | (exfalso; grind))
        · skip
          obtain ⟨hx, hq⟩ := h_fd_some c56; rw [c56, hq]
          refine jr_aload d_M_useThing_59 rfl ?_
          refine jv_V0r d_M_useThing_61 l_M_203 k_T_kind ⟨Nat.le_of_ble_eq_true rfl, Nat.le_of_ble_eq_true rfl⟩ rfl rfl (Nat.le_of_ble_eq_true rfl) (ct_T_kind) (by first | decide | (dsimp only; omega) | (dsimp only; grind)) (by first | decide | (dsimp only; omega) | (dsimp only; grind)) ?_
          refine jr_iload d_M_useThing_64 rfl ?_
          refine jr_icmp_ne (tgt := 73) d_M_useThing_66 (by decide) (fun c66 => ?_) (fun c66 => ?_)
          · skip
            refine jr_iconst (v := 0) d_M_useThing_73 (by decide) ?_
            refine jv_V1v d_M_useThing_74 l_M_177 k_F_push ⟨Nat.le_of_ble_eq_true rfl, Nat.le_of_ble_eq_true rfl⟩ rfl rfl (Nat.le_of_ble_eq_true rfl) (show jc_Ct y_F_push _ _ _ _ (none, f_psh _ _ _ _, _, _, 0, 0) from ct_F_push hf.1) (by first | decide | (dsimp only; omega) | (dsimp only; grind)) (by first | decide | (dsimp only; omega) | (dsimp only; grind)) ?_
            refine jr_goto (tgt := 182) d_M_useThing_77 (by decide) ?_
            exact jr_retX (v := none) d_M_useThing_182 (by first | exact Nat.le_refl _ | exact Nat.zero_le _ | (dsimp only; omega)) (by first | exact Nat.le_refl _ | exact Nat.zero_le _ | (dsimp only; omega)) (by first | with_reducible rfl | (dsimp only; (unfold u_th; dsimp only; (repeat (first | rw [if_pos (by grind)] | rw [if_neg (by grind)]))); done) | (exfalso; grind)) (by first | with_reducible rfl | (dsimp only; (unfold u_th; dsimp only; (repeat (first | rw [if_pos (by grind)] | rw [if_neg (by grind)]))); done) | (exfalso; grind)) (by first | with_reducible rfl | (dsimp only; (unfold u_th; dsimp only; (repeat (first | rw [if_pos (by grind)] | rw [if_neg (by grind)]))); done) | (exfalso; grind)) (by first | with_reducible rfl | (dsimp only; (unfold u_th; dsimp only; (repeat (first | rw [if_pos (by grind)] | rw [if_neg (by grind)]))); done) | (exfalso; grind))
          · skip
            refine jr_iconst (v := 1) d_M_useThing_69 (by decide) ?_
            refine jr_goto (tgt := 74) d_M_useThing_70 (by decide) ?_
            refine jv_V1v d_M_useThing_74 l_M_177 k_F_push ⟨Nat.le_of_ble_eq_true rfl, Nat.le_of_ble_eq_true rfl⟩ rfl rfl (Nat.le_of_ble_eq_true rfl) (show jc_Ct y_F_push _ _ _ _ (none, f_psh _ _ _ _, _, _, 0, 0) from ct_F_push hf.1) (by first | decide | (dsimp only; omega) | (dsimp only; grind)) (by first | decide | (dsimp only; omega) | (dsimp only; grind)) ?_
            refine jr_goto (tgt := 182) d_M_useThing_77 (by decide) ?_
            exact jr_retX (v := none) d_M_useThing_182 (by first | exact Nat.le_refl _ | exact Nat.zero_le _ | (dsimp only; omega)) (by first | exact Nat.le_refl _ | exact Nat.zero_le _ | (dsimp only; omega)) (by first | with_reducible rfl | (dsimp only; (unfold u_th; dsimp only; (repeat (first | rw [if_pos (by grind)] | rw [if_neg (by grind)]))); done) | (exfalso; grind)) (by first | with_reducible rfl | (dsimp only; (unfold u_th; dsimp only; (repeat (first | rw [if_pos (by grind)] | rw [if_neg (by grind)]))); done) | (exfalso; grind)) (by first | with_reducible rfl | (dsimp only; (unfold u_th; dsimp only; (repeat (first | rw [if_pos (by grind)] | rw [if_neg (by grind)]))); done) | (exfalso; grind)) (by first | with_reducible rfl | (dsimp only; (unfold u_th; dsimp only; (repeat (first | rw [if_pos (by grind)] | rw [if_neg (by grind)]))); done) | (exfalso; grind))
  · skip
    refine jr_iload_n d_M_useThing_6 rfl rfl ?_
    refine jr_bipush (v := 24) d_M_useThing_7 (by decide) ?_
    refine jr_icmp_ne (tgt := 16) d_M_useThing_9 (by decide) (fun c9 => ?_) (fun c9 => ?_)
    · skip
      refine jr_iconst (v := 0) d_M_useThing_16 (by decide) ?_
      refine jr_istore d_M_useThing_17 (Nat.le_of_ble_eq_true rfl) ?_
      refine jr_iload d_M_useThing_19 rfl ?_
      refine jr_if_eq (tgt := 31) d_M_useThing_21 (by decide) (fun c21 => ?_) (fun c21 => ?_)
      · skip
        refine jr_iconst (v := 0) d_M_useThing_31 (by decide) ?_
        refine jr_istore d_M_useThing_32 (Nat.le_of_ble_eq_true rfl) ?_
        refine jr_aload_n d_M_useThing_34 rfl rfl ?_
        refine jr_getr d_M_useThing_35 f_M_25 rfl rfl ?_
        first | rw [m0] | rw [m1] | rw [m2] | rw [m3] | skip
        refine jr_aload_n d_M_useThing_38 rfl rfl ?_
        refine jv_V0r d_M_useThing_39 l_M_162 k_F_pop ⟨Nat.le_of_ble_eq_true rfl, Nat.le_of_ble_eq_true rfl⟩ rfl rfl (Nat.le_of_ble_eq_true rfl) (show jc_Ct y_F_pop _ _ _ _ (some (.inl (f_tp _ _ _)), f_pop _ _ _, _, _, 0, 0) from ct_F_pop hf.1 (by first | exact hd.pop.2 | exact hd.2)) (by first | decide | (dsimp only; omega) | (dsimp only; grind)) (by first | decide | (dsimp only; omega) | (dsimp only; grind)) ?_
        refine jv_V1r d_M_useThing_42 l_M_110 k_H_find ⟨Nat.le_of_ble_eq_true rfl, Nat.le_of_ble_eq_true rfl⟩ rfl rfl (Nat.le_of_ble_eq_true rfl) (ct_H_findT (by first | exact (hH.to (by rw [f_pop_t (by decide), f_pop_t (by decide)])) | exact (hH.to (by rw [f_pop_t (by decide)])))) (by first | decide | (dsimp only; omega) | (dsimp only; grind)) (by first | decide | (dsimp only; omega) | (dsimp only; grind)) ?_
        first | rw [m0] | rw [m1] | rw [m2] | rw [m3] | skip
        refine jr_astore d_M_useThing_45 (Nat.le_of_ble_eq_true rfl) ?_
        refine jr_iload_n d_M_useThing_47 rfl rfl ?_
        refine jr_bipush (v := 15) d_M_useThing_48 (by decide) ?_
        refine jr_icmp_ne (tgt := 80) d_M_useThing_50 (by decide) (fun c50 => ?_) (fun c50 => ?_)
        · skip
          refine jr_aload d_M_useThing_80 rfl ?_
          refine jr_ifnull (tgt := 182) d_M_useThing_82 (by decide) (fun c82 => ?_) (fun q82 c82 => ?_)
          · skip
            have hx := h_fd_none c82
            exact jr_retX (v := none) d_M_useThing_182 (by first | exact Nat.le_refl _ | exact Nat.zero_le _ | (dsimp only; omega)) (by first | exact Nat.le_refl _ | exact Nat.zero_le _ | (dsimp only; omega)) (by first | with_reducible rfl | (dsimp only; (unfold u_th; dsimp only; (repeat (first | rw [if_pos (by grind)] | rw [if_neg (by grind)]))); done) | (exfalso; grind)) (by first | with_reducible rfl | (dsimp only; (unfold u_th; dsimp only; (repeat (first | rw [if_pos (by grind)] | rw [if_neg (by grind)]))); done) | (exfalso; grind)) (by first | with_reducible rfl | (dsimp only; (unfold u_th; dsimp only; (repeat (first | rw [if_pos (by grind)] | rw [if_neg (by grind)]))); done) | (exfalso; grind)) (by first | with_reducible rfl | (dsimp only; (unfold u_th; dsimp only; (repeat (first | rw [if_pos (by grind)] | rw [if_neg (by grind)]))); done) | (exfalso; grind))
          · skip
            obtain ⟨hx, hq⟩ := h_fd_some c82; rw [c82, hq]; have hk := (jw_H.at (O := O) (by first | exact (hH.to (by rw [f_pop_t (by decide), f_pop_t (by decide)])) | exact (hH.to (by rw [f_pop_t (by decide)]))) hx).2
            refine jr_iload_n d_M_useThing_85 rfl rfl ?_
            refine jr_name (fun x86 e86 => ?_)
            by_cases g86_16 : x86 = 16 ∨ x86 = 23
            · refine jr_tableIn (tgt := 136) d_M_useThing_86 (by rcases g86_16 with rfl | rfl <;> decide) (by rcases g86_16 with rfl | rfl <;> decide) (by rcases g86_16 with rfl | rfl <;> rfl) (by decide) ?_
              refine jr_aload_n d_M_useThing_136 rfl rfl ?_
              refine jr_aload d_M_useThing_137 rfl ?_
              refine jr_iload d_M_useThing_139 rfl ?_
              refine jv_V1r d_M_useThing_141 l_M_206 k_T_field ⟨Nat.le_of_ble_eq_true rfl, Nat.le_of_ble_eq_true rfl⟩ rfl rfl (Nat.le_of_ble_eq_true rfl) (show jc_Ct y_T_field _ _ _ _ (some (.inl (t_fd _ _ _)), _, _, _, 0, 0) from ct_T_field hk) (by first | decide | (dsimp only; omega) | (dsimp only; grind)) (by first | decide | (dsimp only; omega) | (dsimp only; grind)) ?_
              refine jv_V1v d_M_useThing_144 l_M_177 k_F_push ⟨Nat.le_of_ble_eq_true rfl, Nat.le_of_ble_eq_true rfl⟩ rfl rfl (Nat.le_of_ble_eq_true rfl) (show jc_Ct y_F_push _ _ _ _ (none, f_psh _ _ _ _, _, _, 0, 0) from ct_F_push hf.1) (by first | decide | (dsimp only; omega) | (dsimp only; grind)) (by first | decide | (dsimp only; omega) | (dsimp only; grind)) ?_
              refine jr_goto (tgt := 182) d_M_useThing_147 (by decide) ?_
              exact jr_retX (v := none) d_M_useThing_182 (by first | exact Nat.le_refl _ | exact Nat.zero_le _ | (dsimp only; omega)) (by first | exact Nat.le_refl _ | exact Nat.zero_le _ | (dsimp only; omega)) (by first | with_reducible rfl | (dsimp only; (unfold u_th; dsimp only; (repeat (first | rw [if_pos (by grind)] | rw [if_neg (by grind)]))); done) | (exfalso; grind)) (by first | with_reducible rfl | (dsimp only; (unfold u_th; dsimp only; (repeat (first | rw [if_pos (by grind)] | rw [if_neg (by grind)]))); done) | (exfalso; grind)) (by first | with_reducible rfl | (dsimp only; (unfold u_th; dsimp only; (repeat (first | rw [if_pos (by grind)] | rw [if_neg (by grind)]))); done) | (exfalso; grind)) (by first | with_reducible rfl | (dsimp only; (unfold u_th; dsimp only; (repeat (first | rw [if_pos (by grind)] | rw [if_neg (by grind)]))); done) | (exfalso; grind))
            · skip
              by_cases g86_17 : x86 = 17 ∨ x86 = 24
              · refine jr_tableIn (tgt := 150) d_M_useThing_86 (by rcases g86_17 with rfl | rfl <;> decide) (by rcases g86_17 with rfl | rfl <;> decide) (by rcases g86_17 with rfl | rfl <;> rfl) (by decide) ?_
                refine jr_aload d_M_useThing_150 rfl ?_
                refine jr_iload d_M_useThing_152 rfl ?_
                refine jr_iload d_M_useThing_154 rfl ?_
                refine jv_V2v d_M_useThing_156 l_M_209 k_T_setField ⟨Nat.le_of_ble_eq_true rfl, Nat.le_of_ble_eq_true rfl⟩ rfl rfl (Nat.le_of_ble_eq_true rfl) (show jc_Ct y_T_setField _ _ _ _ (none, t_sf _ _ _ _, _, _, 0, 0) from ct_T_setField hk) (by first | decide | (dsimp only; omega) | (dsimp only; grind)) (by first | decide | (dsimp only; omega) | (dsimp only; grind)) ?_
                refine jr_goto (tgt := 182) d_M_useThing_159 (by decide) ?_
                exact jr_retX (v := none) d_M_useThing_182 (by first | exact Nat.le_refl _ | exact Nat.zero_le _ | (dsimp only; omega)) (by first | exact Nat.le_refl _ | exact Nat.zero_le _ | (dsimp only; omega)) (by first | with_reducible rfl | (dsimp only; (unfold u_th; dsimp only; (repeat (first | rw [if_pos (by grind)] | rw [if_neg (by grind)]))); done) | (exfalso; grind)) (by first | with_reducible rfl | (dsimp only; (unfold u_th; dsimp only; (repeat (first | rw [if_pos (by grind)] | rw [if_neg (by grind)]))); done) | (exfalso; grind)) (by first | with_reducible rfl | (dsimp only; (unfold u_th; dsimp only; (repeat (first | rw [if_pos (by grind)] | rw [if_neg (by grind)]))); done) | (exfalso; grind)) (by first | with_reducible rfl | (dsimp only; (unfold u_th; dsimp only; (repeat (first | rw [if_pos (by grind)] | rw [if_neg (by grind)]))); done) | (exfalso; grind))
              · skip
                by_cases g86_20 : x86 = 20
                · refine jr_tableIn (tgt := 162) d_M_useThing_86 (by rcases g86_20 with rfl <;> decide) (by rcases g86_20 with rfl <;> decide) (by rcases g86_20 with rfl <;> rfl) (by decide) ?_
                  refine jr_aload d_M_useThing_162 rfl ?_
                  refine jr_aload_n d_M_useThing_164 rfl rfl ?_
                  refine jv_V0r d_M_useThing_165 l_M_113 k_S_number ⟨Nat.le_of_ble_eq_true rfl, Nat.le_of_ble_eq_true rfl⟩ rfl rfl (Nat.le_of_ble_eq_true rfl) (ct_S_number) (by first | decide | (dsimp only; omega) | (dsimp only; grind)) (by first | decide | (dsimp only; omega) | (dsimp only; grind)) ?_
                  refine jv_V1v d_M_useThing_168 l_M_212 k_T_enter ⟨Nat.le_of_ble_eq_true rfl, Nat.le_of_ble_eq_true rfl⟩ rfl rfl (Nat.le_of_ble_eq_true rfl) (show jc_Ct y_T_enter _ _ _ _ (none, t_en _ _ _, _, _, 0, 0) from ct_T_enter) (by first | decide | (dsimp only; omega) | (dsimp only; grind)) (by first | decide | (dsimp only; omega) | (dsimp only; grind)) ?_
                  refine jr_goto (tgt := 182) d_M_useThing_171 (by decide) ?_
                  exact jr_retX (v := none) d_M_useThing_182 (by first | exact Nat.le_refl _ | exact Nat.zero_le _ | (dsimp only; omega)) (by first | exact Nat.le_refl _ | exact Nat.zero_le _ | (dsimp only; omega)) (by first | with_reducible rfl | (dsimp only; (unfold u_th; dsimp only; (repeat (first | rw [if_pos (by grind)] | rw [if_neg (by grind)]))); done) | (exfalso; grind)) (by first | with_reducible rfl | (dsimp only; (unfold u_th; dsimp only; (repeat (first | rw [if_pos (by grind)] | rw [if_neg (by grind)]))); done) | (exfalso; grind)) (by first | with_reducible rfl | (dsimp only; (unfold u_th; dsimp only; (repeat (first | rw [if_pos (by grind)] | rw [if_neg (by grind)]))); done) | (exfalso; grind)) (by first | with_reducible rfl | (dsimp only; (unfold u_th; dsimp only; (repeat (first | rw [if_pos (by grind)] | rw [if_neg (by grind)]))); done) | (exfalso; grind))
                · skip
                  by_cases g86_21 : x86 = 21
                  · refine jr_tableIn (tgt := 174) d_M_useThing_86 (by rcases g86_21 with rfl <;> decide) (by rcases g86_21 with rfl <;> decide) (by rcases g86_21 with rfl <;> rfl) (by decide) ?_
                    refine jr_aload d_M_useThing_174 rfl ?_
                    refine jv_V0v d_M_useThing_176 l_M_215 k_T_leave ⟨Nat.le_of_ble_eq_true rfl, Nat.le_of_ble_eq_true rfl⟩ rfl rfl (Nat.le_of_ble_eq_true rfl) (show jc_Ct y_T_leave _ _ _ _ (none, t_lv _ _, _, _, 0, 0) from ct_T_leave) (by first | decide | (dsimp only; omega) | (dsimp only; grind)) (by first | decide | (dsimp only; omega) | (dsimp only; grind)) ?_
                    refine jr_goto (tgt := 182) d_M_useThing_179 (by decide) ?_
                    exact jr_retX (v := none) d_M_useThing_182 (by first | exact Nat.le_refl _ | exact Nat.zero_le _ | (dsimp only; omega)) (by first | exact Nat.le_refl _ | exact Nat.zero_le _ | (dsimp only; omega)) (by first | with_reducible rfl | (dsimp only; (unfold u_th; dsimp only; (repeat (first | rw [if_pos (by grind)] | rw [if_neg (by grind)]))); done) | (exfalso; grind)) (by first | with_reducible rfl | (dsimp only; (unfold u_th; dsimp only; (repeat (first | rw [if_pos (by grind)] | rw [if_neg (by grind)]))); done) | (exfalso; grind)) (by first | with_reducible rfl | (dsimp only; (unfold u_th; dsimp only; (repeat (first | rw [if_pos (by grind)] | rw [if_neg (by grind)]))); done) | (exfalso; grind)) (by first | with_reducible rfl | (dsimp only; (unfold u_th; dsimp only; (repeat (first | rw [if_pos (by grind)] | rw [if_neg (by grind)]))); done) | (exfalso; grind))
                  · skip
                    refine jr_tableE (tgt := 182) d_M_useThing_86 (by rcases j_16_24 x86 with h | h | rfl | rfl | rfl | rfl | rfl | rfl | rfl | rfl | rfl <;> first | exact Or.inl ⟨Or.inl (Int32.lt_iff_toInt_lt.mp h), by decide⟩ | exact Or.inl ⟨Or.inr (Int32.lt_iff_toInt_lt.mp h), by decide⟩ | exact Or.inr ⟨by decide, by decide, _, rfl, by decide⟩ | (exfalso; grind)) ?_
                    exact jr_retX (v := none) d_M_useThing_182 (by first | exact Nat.le_refl _ | exact Nat.zero_le _ | (dsimp only; omega)) (by first | exact Nat.le_refl _ | exact Nat.zero_le _ | (dsimp only; omega)) (by first | with_reducible rfl | (dsimp only; (unfold u_th; dsimp only; (repeat (first | rw [if_pos (by grind)] | rw [if_neg (by grind)]))); done) | (exfalso; grind)) (by first | with_reducible rfl | (dsimp only; (unfold u_th; dsimp only; (repeat (first | rw [if_pos (by grind)] | rw [if_neg (by grind)]))); done) | (exfalso; grind)) (by first | with_reducible rfl | (dsimp only; (unfold u_th; dsimp only; (repeat (first | rw [if_pos (by grind)] | rw [if_neg (by grind)]))); done) | (exfalso; grind)) (by first | with_reducible rfl | (dsimp only; (unfold u_th; dsimp only; (repeat (first | rw [if_pos (by grind)] | rw [if_neg (by grind)]))); done) | (exfalso; grind))
        · skip
          refine jr_aload_n d_M_useThing_53 rfl rfl ?_
          refine jr_aload d_M_useThing_54 rfl ?_
          refine jr_ifnull (tgt := 73) d_M_useThing_56 (by decide) (fun c56 => ?_) (fun q56 c56 => ?_)
          · skip
            have hx := h_fd_none c56
            refine jr_iconst (v := 0) d_M_useThing_73 (by decide) ?_
            refine jv_V1v d_M_useThing_74 l_M_177 k_F_push ⟨Nat.le_of_ble_eq_true rfl, Nat.le_of_ble_eq_true rfl⟩ rfl rfl (Nat.le_of_ble_eq_true rfl) (show jc_Ct y_F_push _ _ _ _ (none, f_psh _ _ _ _, _, _, 0, 0) from ct_F_push hf.1) (by first | decide | (dsimp only; omega) | (dsimp only; grind)) (by first | decide | (dsimp only; omega) | (dsimp only; grind)) ?_
            refine jr_goto (tgt := 182) d_M_useThing_77 (by decide) ?_
            exact jr_retX (v := none) d_M_useThing_182 (by first | exact Nat.le_refl _ | exact Nat.zero_le _ | (dsimp only; omega)) (by first | exact Nat.le_refl _ | exact Nat.zero_le _ | (dsimp only; omega)) (by first | with_reducible rfl | (dsimp only; (unfold u_th; dsimp only; (repeat (first | rw [if_pos (by grind)] | rw [if_neg (by grind)]))); done) | (exfalso; grind)) (by first | with_reducible rfl | (dsimp only; (unfold u_th; dsimp only; (repeat (first | rw [if_pos (by grind)] | rw [if_neg (by grind)]))); done) | (exfalso; grind)) (by first | with_reducible rfl | (dsimp only; (unfold u_th; dsimp only; (repeat (first | rw [if_pos (by grind)] | rw [if_neg (by grind)]))); done) | (exfalso; grind)) (by first | with_reducible rfl | (dsimp only; (unfold u_th; dsimp only; (repeat (first | rw [if_pos (by grind)] | rw [if_neg (by grind)]))); done) | (exfalso; grind))
          · skip
            obtain ⟨hx, hq⟩ := h_fd_some c56; rw [c56, hq]
            refine jr_aload d_M_useThing_59 rfl ?_
            refine jv_V0r d_M_useThing_61 l_M_203 k_T_kind ⟨Nat.le_of_ble_eq_true rfl, Nat.le_of_ble_eq_true rfl⟩ rfl rfl (Nat.le_of_ble_eq_true rfl) (ct_T_kind) (by first | decide | (dsimp only; omega) | (dsimp only; grind)) (by first | decide | (dsimp only; omega) | (dsimp only; grind)) ?_
            refine jr_iload d_M_useThing_64 rfl ?_
            refine jr_icmp_ne (tgt := 73) d_M_useThing_66 (by decide) (fun c66 => ?_) (fun c66 => ?_)
            · skip
              refine jr_iconst (v := 0) d_M_useThing_73 (by decide) ?_
              refine jv_V1v d_M_useThing_74 l_M_177 k_F_push ⟨Nat.le_of_ble_eq_true rfl, Nat.le_of_ble_eq_true rfl⟩ rfl rfl (Nat.le_of_ble_eq_true rfl) (show jc_Ct y_F_push _ _ _ _ (none, f_psh _ _ _ _, _, _, 0, 0) from ct_F_push hf.1) (by first | decide | (dsimp only; omega) | (dsimp only; grind)) (by first | decide | (dsimp only; omega) | (dsimp only; grind)) ?_
              refine jr_goto (tgt := 182) d_M_useThing_77 (by decide) ?_
              exact jr_retX (v := none) d_M_useThing_182 (by first | exact Nat.le_refl _ | exact Nat.zero_le _ | (dsimp only; omega)) (by first | exact Nat.le_refl _ | exact Nat.zero_le _ | (dsimp only; omega)) (by first | with_reducible rfl | (dsimp only; (unfold u_th; dsimp only; (repeat (first | rw [if_pos (by grind)] | rw [if_neg (by grind)]))); done) | (exfalso; grind)) (by first | with_reducible rfl | (dsimp only; (unfold u_th; dsimp only; (repeat (first | rw [if_pos (by grind)] | rw [if_neg (by grind)]))); done) | (exfalso; grind)) (by first | with_reducible rfl | (dsimp only; (unfold u_th; dsimp only; (repeat (first | rw [if_pos (by grind)] | rw [if_neg (by grind)]))); done) | (exfalso; grind)) (by first | with_reducible rfl | (dsimp only; (unfold u_th; dsimp only; (repeat (first | rw [if_pos (by grind)] | rw [if_neg (by grind)]))); done) | (exfalso; grind))
            · skip
              refine jr_iconst (v := 1) d_M_useThing_69 (by decide) ?_
              refine jr_goto (tgt := 74) d_M_useThing_70 (by decide) ?_
              refine jv_V1v d_M_useThing_74 l_M_177 k_F_push ⟨Nat.le_of_ble_eq_true rfl, Nat.le_of_ble_eq_true rfl⟩ rfl rfl (Nat.le_of_ble_eq_true rfl) (show jc_Ct y_F_push _ _ _ _ (none, f_psh _ _ _ _, _, _, 0, 0) from ct_F_push hf.1) (by first | decide | (dsimp only; omega) | (dsimp only; grind)) (by first | decide | (dsimp only; omega) | (dsimp only; grind)) ?_
              refine jr_goto (tgt := 182) d_M_useThing_77 (by decide) ?_
              exact jr_retX (v := none) d_M_useThing_182 (by first | exact Nat.le_refl _ | exact Nat.zero_le _ | (dsimp only; omega)) (by first | exact Nat.le_refl _ | exact Nat.zero_le _ | (dsimp only; omega)) (by first | with_reducible rfl | (dsimp only; (unfold u_th; dsimp only; (repeat (first | rw [if_pos (by grind)] | rw [if_neg (by grind)]))); done) | (exfalso; grind)) (by first | with_reducible rfl | (dsimp only; (unfold u_th; dsimp only; (repeat (first | rw [if_pos (by grind)] | rw [if_neg (by grind)]))); done) | (exfalso; grind)) (by first | with_reducible rfl | (dsimp only; (unfold u_th; dsimp only; (repeat (first | rw [if_pos (by grind)] | rw [if_neg (by grind)]))); done) | (exfalso; grind)) (by first | with_reducible rfl | (dsimp only; (unfold u_th; dsimp only; (repeat (first | rw [if_pos (by grind)] | rw [if_neg (by grind)]))); done) | (exfalso; grind))
      · skip
        refine jr_aload_n d_M_useThing_24 rfl rfl ?_
        refine jv_V0r d_M_useThing_25 l_M_162 k_F_pop ⟨Nat.le_of_ble_eq_true rfl, Nat.le_of_ble_eq_true rfl⟩ rfl rfl (Nat.le_of_ble_eq_true rfl) (show jc_Ct y_F_pop _ _ _ _ (some (.inl (f_tp _ _ _)), f_pop _ _ _, _, _, 0, 0) from ct_F_pop hf.1 hd.2) (by first | decide | (dsimp only; omega) | (dsimp only; grind)) (by first | decide | (dsimp only; omega) | (dsimp only; grind)) ?_
        refine jr_goto (tgt := 32) d_M_useThing_28 (by decide) ?_
        refine jr_istore d_M_useThing_32 (Nat.le_of_ble_eq_true rfl) ?_
        refine jr_aload_n d_M_useThing_34 rfl rfl ?_
        refine jr_getr d_M_useThing_35 f_M_25 rfl rfl ?_
        first | rw [m0] | rw [m1] | rw [m2] | rw [m3] | skip
        refine jr_aload_n d_M_useThing_38 rfl rfl ?_
        refine jv_V0r d_M_useThing_39 l_M_162 k_F_pop ⟨Nat.le_of_ble_eq_true rfl, Nat.le_of_ble_eq_true rfl⟩ rfl rfl (Nat.le_of_ble_eq_true rfl) (show jc_Ct y_F_pop _ _ _ _ (some (.inl (f_tp _ _ _)), f_pop _ _ _, _, _, 0, 0) from ct_F_pop hf.1 (by first | exact hd.pop.2 | exact hd.2)) (by first | decide | (dsimp only; omega) | (dsimp only; grind)) (by first | decide | (dsimp only; omega) | (dsimp only; grind)) ?_
        refine jv_V1r d_M_useThing_42 l_M_110 k_H_find ⟨Nat.le_of_ble_eq_true rfl, Nat.le_of_ble_eq_true rfl⟩ rfl rfl (Nat.le_of_ble_eq_true rfl) (ct_H_findT (by first | exact (hH.to (by rw [f_pop_t (by decide), f_pop_t (by decide)])) | exact (hH.to (by rw [f_pop_t (by decide)])))) (by first | decide | (dsimp only; omega) | (dsimp only; grind)) (by first | decide | (dsimp only; omega) | (dsimp only; grind)) ?_
        first | rw [m0] | rw [m1] | rw [m2] | rw [m3] | skip
        refine jr_astore d_M_useThing_45 (Nat.le_of_ble_eq_true rfl) ?_
        refine jr_iload_n d_M_useThing_47 rfl rfl ?_
        refine jr_bipush (v := 15) d_M_useThing_48 (by decide) ?_
        refine jr_icmp_ne (tgt := 80) d_M_useThing_50 (by decide) (fun c50 => ?_) (fun c50 => ?_)
        · skip
          refine jr_aload d_M_useThing_80 rfl ?_
          refine jr_ifnull (tgt := 182) d_M_useThing_82 (by decide) (fun c82 => ?_) (fun q82 c82 => ?_)
          · skip
            have hx := h_fd_none c82
            exact jr_retX (v := none) d_M_useThing_182 (by first | exact Nat.le_refl _ | exact Nat.zero_le _ | (dsimp only; omega)) (by first | exact Nat.le_refl _ | exact Nat.zero_le _ | (dsimp only; omega)) (by first | with_reducible rfl | (dsimp only; (unfold u_th; dsimp only; (repeat (first | rw [if_pos (by grind)] | rw [if_neg (by grind)]))); done) | (exfalso; grind)) (by first | with_reducible rfl | (dsimp only; (unfold u_th; dsimp only; (repeat (first | rw [if_pos (by grind)] | rw [if_neg (by grind)]))); done) | (exfalso; grind)) (by first | with_reducible rfl | (dsimp only; (unfold u_th; dsimp only; (repeat (first | rw [if_pos (by grind)] | rw [if_neg (by grind)]))); done) | (exfalso; grind)) (by first | with_reducible rfl | (dsimp only; (unfold u_th; dsimp only; (repeat (first | rw [if_pos (by grind)] | rw [if_neg (by grind)]))); done) | (exfalso; grind))
          · skip
            obtain ⟨hx, hq⟩ := h_fd_some c82; rw [c82, hq]; have hk := (jw_H.at (O := O) (by first | exact (hH.to (by rw [f_pop_t (by decide), f_pop_t (by decide)])) | exact (hH.to (by rw [f_pop_t (by decide)]))) hx).2
            refine jr_iload_n d_M_useThing_85 rfl rfl ?_
            refine jr_name (fun x86 e86 => ?_)
            by_cases g86_16 : x86 = 16 ∨ x86 = 23
            · refine jr_tableIn (tgt := 136) d_M_useThing_86 (by rcases g86_16 with rfl | rfl <;> decide) (by rcases g86_16 with rfl | rfl <;> decide) (by rcases g86_16 with rfl | rfl <;> rfl) (by decide) ?_
              refine jr_aload_n d_M_useThing_136 rfl rfl ?_
              refine jr_aload d_M_useThing_137 rfl ?_
              refine jr_iload d_M_useThing_139 rfl ?_
              refine jv_V1r d_M_useThing_141 l_M_206 k_T_field ⟨Nat.le_of_ble_eq_true rfl, Nat.le_of_ble_eq_true rfl⟩ rfl rfl (Nat.le_of_ble_eq_true rfl) (show jc_Ct y_T_field _ _ _ _ (some (.inl (t_fd _ _ _)), _, _, _, 0, 0) from ct_T_field hk) (by first | decide | (dsimp only; omega) | (dsimp only; grind)) (by first | decide | (dsimp only; omega) | (dsimp only; grind)) ?_
              refine jv_V1v d_M_useThing_144 l_M_177 k_F_push ⟨Nat.le_of_ble_eq_true rfl, Nat.le_of_ble_eq_true rfl⟩ rfl rfl (Nat.le_of_ble_eq_true rfl) (show jc_Ct y_F_push _ _ _ _ (none, f_psh _ _ _ _, _, _, 0, 0) from ct_F_push hf.1) (by first | decide | (dsimp only; omega) | (dsimp only; grind)) (by first | decide | (dsimp only; omega) | (dsimp only; grind)) ?_
              refine jr_goto (tgt := 182) d_M_useThing_147 (by decide) ?_
              exact jr_retX (v := none) d_M_useThing_182 (by first | exact Nat.le_refl _ | exact Nat.zero_le _ | (dsimp only; omega)) (by first | exact Nat.le_refl _ | exact Nat.zero_le _ | (dsimp only; omega)) (by first | with_reducible rfl | (dsimp only; (unfold u_th; dsimp only; (repeat (first | rw [if_pos (by grind)] | rw [if_neg (by grind)]))); done) | (exfalso; grind)) (by first | with_reducible rfl | (dsimp only; (unfold u_th; dsimp only; (repeat (first | rw [if_pos (by grind)] | rw [if_neg (by grind)]))); done) | (exfalso; grind)) (by first | with_reducible rfl | (dsimp only; (unfold u_th; dsimp only; (repeat (first | rw [if_pos (by grind)] | rw [if_neg (by grind)]))); done) | (exfalso; grind)) (by first | with_reducible rfl | (dsimp only; (unfold u_th; dsimp only; (repeat (first | rw [if_pos (by grind)] | rw [if_neg (by grind)]))); done) | (exfalso; grind))
            · skip
              by_cases g86_17 : x86 = 17 ∨ x86 = 24
              · refine jr_tableIn (tgt := 150) d_M_useThing_86 (by rcases g86_17 with rfl | rfl <;> decide) (by rcases g86_17 with rfl | rfl <;> decide) (by rcases g86_17 with rfl | rfl <;> rfl) (by decide) ?_
                refine jr_aload d_M_useThing_150 rfl ?_
                refine jr_iload d_M_useThing_152 rfl ?_
                refine jr_iload d_M_useThing_154 rfl ?_
                refine jv_V2v d_M_useThing_156 l_M_209 k_T_setField ⟨Nat.le_of_ble_eq_true rfl, Nat.le_of_ble_eq_true rfl⟩ rfl rfl (Nat.le_of_ble_eq_true rfl) (show jc_Ct y_T_setField _ _ _ _ (none, t_sf _ _ _ _, _, _, 0, 0) from ct_T_setField hk) (by first | decide | (dsimp only; omega) | (dsimp only; grind)) (by first | decide | (dsimp only; omega) | (dsimp only; grind)) ?_
                refine jr_goto (tgt := 182) d_M_useThing_159 (by decide) ?_
                exact jr_retX (v := none) d_M_useThing_182 (by first | exact Nat.le_refl _ | exact Nat.zero_le _ | (dsimp only; omega)) (by first | exact Nat.le_refl _ | exact Nat.zero_le _ | (dsimp only; omega)) (by first | with_reducible rfl | (dsimp only; (unfold u_th; dsimp only; (repeat (first | rw [if_pos (by grind)] | rw [if_neg (by grind)]))); done) | (exfalso; grind)) (by first | with_reducible rfl | (dsimp only; (unfold u_th; dsimp only; (repeat (first | rw [if_pos (by grind)] | rw [if_neg (by grind)]))); done) | (exfalso; grind)) (by first | with_reducible rfl | (dsimp only; (unfold u_th; dsimp only; (repeat (first | rw [if_pos (by grind)] | rw [if_neg (by grind)]))); done) | (exfalso; grind)) (by first | with_reducible rfl | (dsimp only; (unfold u_th; dsimp only; (repeat (first | rw [if_pos (by grind)] | rw [if_neg (by grind)]))); done) | (exfalso; grind))
              · skip
                by_cases g86_20 : x86 = 20
                · refine jr_tableIn (tgt := 162) d_M_useThing_86 (by rcases g86_20 with rfl <;> decide) (by rcases g86_20 with rfl <;> decide) (by rcases g86_20 with rfl <;> rfl) (by decide) ?_
                  refine jr_aload d_M_useThing_162 rfl ?_
                  refine jr_aload_n d_M_useThing_164 rfl rfl ?_
                  refine jv_V0r d_M_useThing_165 l_M_113 k_S_number ⟨Nat.le_of_ble_eq_true rfl, Nat.le_of_ble_eq_true rfl⟩ rfl rfl (Nat.le_of_ble_eq_true rfl) (ct_S_number) (by first | decide | (dsimp only; omega) | (dsimp only; grind)) (by first | decide | (dsimp only; omega) | (dsimp only; grind)) ?_
                  refine jv_V1v d_M_useThing_168 l_M_212 k_T_enter ⟨Nat.le_of_ble_eq_true rfl, Nat.le_of_ble_eq_true rfl⟩ rfl rfl (Nat.le_of_ble_eq_true rfl) (show jc_Ct y_T_enter _ _ _ _ (none, t_en _ _ _, _, _, 0, 0) from ct_T_enter) (by first | decide | (dsimp only; omega) | (dsimp only; grind)) (by first | decide | (dsimp only; omega) | (dsimp only; grind)) ?_
                  refine jr_goto (tgt := 182) d_M_useThing_171 (by decide) ?_
                  exact jr_retX (v := none) d_M_useThing_182 (by first | exact Nat.le_refl _ | exact Nat.zero_le _ | (dsimp only; omega)) (by first | exact Nat.le_refl _ | exact Nat.zero_le _ | (dsimp only; omega)) (by first | with_reducible rfl | (dsimp only; (unfold u_th; dsimp only; (repeat (first | rw [if_pos (by grind)] | rw [if_neg (by grind)]))); done) | (exfalso; grind)) (by first | with_reducible rfl | (dsimp only; (unfold u_th; dsimp only; (repeat (first | rw [if_pos (by grind)] | rw [if_neg (by grind)]))); done) | (exfalso; grind)) (by first | with_reducible rfl | (dsimp only; (unfold u_th; dsimp only; (repeat (first | rw [if_pos (by grind)] | rw [if_neg (by grind)]))); done) | (exfalso; grind)) (by first | with_reducible rfl | (dsimp only; (unfold u_th; dsimp only; (repeat (first | rw [if_pos (by grind)] | rw [if_neg (by grind)]))); done) | (exfalso; grind))
                · skip
                  by_cases g86_21 : x86 = 21
                  · refine jr_tableIn (tgt := 174) d_M_useThing_86 (by rcases g86_21 with rfl <;> decide) (by rcases g86_21 with rfl <;> decide) (by rcases g86_21 with rfl <;> rfl) (by decide) ?_
                    refine jr_aload d_M_useThing_174 rfl ?_
                    refine jv_V0v d_M_useThing_176 l_M_215 k_T_leave ⟨Nat.le_of_ble_eq_true rfl, Nat.le_of_ble_eq_true rfl⟩ rfl rfl (Nat.le_of_ble_eq_true rfl) (show jc_Ct y_T_leave _ _ _ _ (none, t_lv _ _, _, _, 0, 0) from ct_T_leave) (by first | decide | (dsimp only; omega) | (dsimp only; grind)) (by first | decide | (dsimp only; omega) | (dsimp only; grind)) ?_
                    refine jr_goto (tgt := 182) d_M_useThing_179 (by decide) ?_
                    exact jr_retX (v := none) d_M_useThing_182 (by first | exact Nat.le_refl _ | exact Nat.zero_le _ | (dsimp only; omega)) (by first | exact Nat.le_refl _ | exact Nat.zero_le _ | (dsimp only; omega)) (by first | with_reducible rfl | (dsimp only; (unfold u_th; dsimp only; (repeat (first | rw [if_pos (by grind)] | rw [if_neg (by grind)]))); done) | (exfalso; grind)) (by first | with_reducible rfl | (dsimp only; (unfold u_th; dsimp only; (repeat (first | rw [if_pos (by grind)] | rw [if_neg (by grind)]))); done) | (exfalso; grind)) (by first | with_reducible rfl | (dsimp only; (unfold u_th; dsimp only; (repeat (first | rw [if_pos (by grind)] | rw [if_neg (by grind)]))); done) | (exfalso; grind)) (by first | with_reducible rfl | (dsimp only; (unfold u_th; dsimp only; (repeat (first | rw [if_pos (by grind)] | rw [if_neg (by grind)]))); done) | (exfalso; grind))
                  · skip
                    refine jr_tableE (tgt := 182) d_M_useThing_86 (by rcases j_16_24 x86 with h | h | rfl | rfl | rfl | rfl | rfl | rfl | rfl | rfl | rfl <;> first | exact Or.inl ⟨Or.inl (Int32.lt_iff_toInt_lt.mp h), by decide⟩ | exact Or.inl ⟨Or.inr (Int32.lt_iff_toInt_lt.mp h), by decide⟩ | exact Or.inr ⟨by decide, by decide, _, rfl, by decide⟩ | (exfalso; grind)) ?_
                    exact jr_retX (v := none) d_M_useThing_182 (by first | exact Nat.le_refl _ | exact Nat.zero_le _ | (dsimp only; omega)) (by first | exact Nat.le_refl _ | exact Nat.zero_le _ | (dsimp only; omega)) (by first | with_reducible rfl | (dsimp only; (unfold u_th; dsimp only; (repeat (first | rw [if_pos (by grind)] | rw [if_neg (by grind)]))); done) | (exfalso; grind)) (by first | with_reducible rfl | (dsimp only; (unfold u_th; dsimp only; (repeat (first | rw [if_pos (by grind)] | rw [if_neg (by grind)]))); done) | (exfalso; grind)) (by first | with_reducible rfl | (dsimp only; (unfold u_th; dsimp only; (repeat (first | rw [if_pos (by grind)] | rw [if_neg (by grind)]))); done) | (exfalso; grind)) (by first | with_reducible rfl | (dsimp only; (unfold u_th; dsimp only; (repeat (first | rw [if_pos (by grind)] | rw [if_neg (by grind)]))); done) | (exfalso; grind))
        · skip
          refine jr_aload_n d_M_useThing_53 rfl rfl ?_
          refine jr_aload d_M_useThing_54 rfl ?_
          refine jr_ifnull (tgt := 73) d_M_useThing_56 (by decide) (fun c56 => ?_) (fun q56 c56 => ?_)
          · skip
            have hx := h_fd_none c56
            refine jr_iconst (v := 0) d_M_useThing_73 (by decide) ?_
            refine jv_V1v d_M_useThing_74 l_M_177 k_F_push ⟨Nat.le_of_ble_eq_true rfl, Nat.le_of_ble_eq_true rfl⟩ rfl rfl (Nat.le_of_ble_eq_true rfl) (show jc_Ct y_F_push _ _ _ _ (none, f_psh _ _ _ _, _, _, 0, 0) from ct_F_push hf.1) (by first | decide | (dsimp only; omega) | (dsimp only; grind)) (by first | decide | (dsimp only; omega) | (dsimp only; grind)) ?_
            refine jr_goto (tgt := 182) d_M_useThing_77 (by decide) ?_
            exact jr_retX (v := none) d_M_useThing_182 (by first | exact Nat.le_refl _ | exact Nat.zero_le _ | (dsimp only; omega)) (by first | exact Nat.le_refl _ | exact Nat.zero_le _ | (dsimp only; omega)) (by first | with_reducible rfl | (dsimp only; (unfold u_th; dsimp only; (repeat (first | rw [if_pos (by grind)] | rw [if_neg (by grind)]))); done) | (exfalso; grind)) (by first | with_reducible rfl | (dsimp only; (unfold u_th; dsimp only; (repeat (first | rw [if_pos (by grind)] | rw [if_neg (by grind)]))); done) | (exfalso; grind)) (by first | with_reducible rfl | (dsimp only; (unfold u_th; dsimp only; (repeat (first | rw [if_pos (by grind)] | rw [if_neg (by grind)]))); done) | (exfalso; grind)) (by first | with_reducible rfl | (dsimp only; (unfold u_th; dsimp only; (repeat (first | rw [if_pos (by grind)] | rw [if_neg (by grind)]))); done) | (exfalso; grind))
          · skip
            obtain ⟨hx, hq⟩ := h_fd_some c56; rw [c56, hq]
            refine jr_aload d_M_useThing_59 rfl ?_
            refine jv_V0r d_M_useThing_61 l_M_203 k_T_kind ⟨Nat.le_of_ble_eq_true rfl, Nat.le_of_ble_eq_true rfl⟩ rfl rfl (Nat.le_of_ble_eq_true rfl) (ct_T_kind) (by first | decide | (dsimp only; omega) | (dsimp only; grind)) (by first | decide | (dsimp only; omega) | (dsimp only; grind)) ?_
            refine jr_iload d_M_useThing_64 rfl ?_
            refine jr_icmp_ne (tgt := 73) d_M_useThing_66 (by decide) (fun c66 => ?_) (fun c66 => ?_)
            · skip
              refine jr_iconst (v := 0) d_M_useThing_73 (by decide) ?_
              refine jv_V1v d_M_useThing_74 l_M_177 k_F_push ⟨Nat.le_of_ble_eq_true rfl, Nat.le_of_ble_eq_true rfl⟩ rfl rfl (Nat.le_of_ble_eq_true rfl) (show jc_Ct y_F_push _ _ _ _ (none, f_psh _ _ _ _, _, _, 0, 0) from ct_F_push hf.1) (by first | decide | (dsimp only; omega) | (dsimp only; grind)) (by first | decide | (dsimp only; omega) | (dsimp only; grind)) ?_
              refine jr_goto (tgt := 182) d_M_useThing_77 (by decide) ?_
              exact jr_retX (v := none) d_M_useThing_182 (by first | exact Nat.le_refl _ | exact Nat.zero_le _ | (dsimp only; omega)) (by first | exact Nat.le_refl _ | exact Nat.zero_le _ | (dsimp only; omega)) (by first | with_reducible rfl | (dsimp only; (unfold u_th; dsimp only; (repeat (first | rw [if_pos (by grind)] | rw [if_neg (by grind)]))); done) | (exfalso; grind)) (by first | with_reducible rfl | (dsimp only; (unfold u_th; dsimp only; (repeat (first | rw [if_pos (by grind)] | rw [if_neg (by grind)]))); done) | (exfalso; grind)) (by first | with_reducible rfl | (dsimp only; (unfold u_th; dsimp only; (repeat (first | rw [if_pos (by grind)] | rw [if_neg (by grind)]))); done) | (exfalso; grind)) (by first | with_reducible rfl | (dsimp only; (unfold u_th; dsimp only; (repeat (first | rw [if_pos (by grind)] | rw [if_neg (by grind)]))); done) | (exfalso; grind))
            · skip
              refine jr_iconst (v := 1) d_M_useThing_69 (by decide) ?_
              refine jr_goto (tgt := 74) d_M_useThing_70 (by decide) ?_
              refine jv_V1v d_M_useThing_74 l_M_177 k_F_push ⟨Nat.le_of_ble_eq_true rfl, Nat.le_of_ble_eq_true rfl⟩ rfl rfl (Nat.le_of_ble_eq_true rfl) (show jc_Ct y_F_push _ _ _ _ (none, f_psh _ _ _ _, _, _, 0, 0) from ct_F_push hf.1) (by first | decide | (dsimp only; omega) | (dsimp only; grind)) (by first | decide | (dsimp only; omega) | (dsimp only; grind)) ?_
              refine jr_goto (tgt := 182) d_M_useThing_77 (by decide) ?_
              exact jr_retX (v := none) d_M_useThing_182 (by first | exact Nat.le_refl _ | exact Nat.zero_le _ | (dsimp only; omega)) (by first | exact Nat.le_refl _ | exact Nat.zero_le _ | (dsimp only; omega)) (by first | with_reducible rfl | (dsimp only; (unfold u_th; dsimp only; (repeat (first | rw [if_pos (by grind)] | rw [if_neg (by grind)]))); done) | (exfalso; grind)) (by first | with_reducible rfl | (dsimp only; (unfold u_th; dsimp only; (repeat (first | rw [if_pos (by grind)] | rw [if_neg (by grind)]))); done) | (exfalso; grind)) (by first | with_reducible rfl | (dsimp only; (unfold u_th; dsimp only; (repeat (first | rw [if_pos (by grind)] | rw [if_neg (by grind)]))); done) | (exfalso; grind)) (by first | with_reducible rfl | (dsimp only; (unfold u_th; dsimp only; (repeat (first | rw [if_pos (by grind)] | rw [if_neg (by grind)]))); done) | (exfalso; grind))
    · skip
      refine jr_iconst (v := 1) d_M_useThing_12 (by decide) ?_
      refine jr_goto (tgt := 17) d_M_useThing_13 (by decide) ?_
      refine jr_istore d_M_useThing_17 (Nat.le_of_ble_eq_true rfl) ?_
      refine jr_iload d_M_useThing_19 rfl ?_
      refine jr_if_eq (tgt := 31) d_M_useThing_21 (by decide) (fun c21 => ?_) (fun c21 => ?_)
      · skip
        refine jr_iconst (v := 0) d_M_useThing_31 (by decide) ?_
        refine jr_istore d_M_useThing_32 (Nat.le_of_ble_eq_true rfl) ?_
        refine jr_aload_n d_M_useThing_34 rfl rfl ?_
        refine jr_getr d_M_useThing_35 f_M_25 rfl rfl ?_
        first | rw [m0] | rw [m1] | rw [m2] | rw [m3] | skip
        refine jr_aload_n d_M_useThing_38 rfl rfl ?_
        refine jv_V0r d_M_useThing_39 l_M_162 k_F_pop ⟨Nat.le_of_ble_eq_true rfl, Nat.le_of_ble_eq_true rfl⟩ rfl rfl (Nat.le_of_ble_eq_true rfl) (show jc_Ct y_F_pop _ _ _ _ (some (.inl (f_tp _ _ _)), f_pop _ _ _, _, _, 0, 0) from ct_F_pop hf.1 (by first | exact hd.pop.2 | exact hd.2)) (by first | decide | (dsimp only; omega) | (dsimp only; grind)) (by first | decide | (dsimp only; omega) | (dsimp only; grind)) ?_
        refine jv_V1r d_M_useThing_42 l_M_110 k_H_find ⟨Nat.le_of_ble_eq_true rfl, Nat.le_of_ble_eq_true rfl⟩ rfl rfl (Nat.le_of_ble_eq_true rfl) (ct_H_findT (by first | exact (hH.to (by rw [f_pop_t (by decide), f_pop_t (by decide)])) | exact (hH.to (by rw [f_pop_t (by decide)])))) (by first | decide | (dsimp only; omega) | (dsimp only; grind)) (by first | decide | (dsimp only; omega) | (dsimp only; grind)) ?_
        first | rw [m0] | rw [m1] | rw [m2] | rw [m3] | skip
        refine jr_astore d_M_useThing_45 (Nat.le_of_ble_eq_true rfl) ?_
        refine jr_iload_n d_M_useThing_47 rfl rfl ?_
        refine jr_bipush (v := 15) d_M_useThing_48 (by decide) ?_
        refine jr_icmp_ne (tgt := 80) d_M_useThing_50 (by decide) (fun c50 => ?_) (fun c50 => ?_)
        · skip
          refine jr_aload d_M_useThing_80 rfl ?_
          refine jr_ifnull (tgt := 182) d_M_useThing_82 (by decide) (fun c82 => ?_) (fun q82 c82 => ?_)
          · skip
            have hx := h_fd_none c82
            exact jr_retX (v := none) d_M_useThing_182 (by first | exact Nat.le_refl _ | exact Nat.zero_le _ | (dsimp only; omega)) (by first | exact Nat.le_refl _ | exact Nat.zero_le _ | (dsimp only; omega)) (by first | with_reducible rfl | (dsimp only; (unfold u_th; dsimp only; (repeat (first | rw [if_pos (by grind)] | rw [if_neg (by grind)]))); done) | (exfalso; grind)) (by first | with_reducible rfl | (dsimp only; (unfold u_th; dsimp only; (repeat (first | rw [if_pos (by grind)] | rw [if_neg (by grind)]))); done) | (exfalso; grind)) (by first | with_reducible rfl | (dsimp only; (unfold u_th; dsimp only; (repeat (first | rw [if_pos (by grind)] | rw [if_neg (by grind)]))); done) | (exfalso; grind)) (by first | with_reducible rfl | (dsimp only; (unfold u_th; dsimp only; (repeat (first | rw [if_pos (by grind)] | rw [if_neg (by grind)]))); done) | (exfalso; grind))
          · skip
            obtain ⟨hx, hq⟩ := h_fd_some c82; rw [c82, hq]; have hk := (jw_H.at (O := O) (by first | exact (hH.to (by rw [f_pop_t (by decide), f_pop_t (by decide)])) | exact (hH.to (by rw [f_pop_t (by decide)]))) hx).2
            refine jr_iload_n d_M_useThing_85 rfl rfl ?_
            refine jr_name (fun x86 e86 => ?_)
            by_cases g86_16 : x86 = 16 ∨ x86 = 23
            · refine jr_tableIn (tgt := 136) d_M_useThing_86 (by rcases g86_16 with rfl | rfl <;> decide) (by rcases g86_16 with rfl | rfl <;> decide) (by rcases g86_16 with rfl | rfl <;> rfl) (by decide) ?_
              refine jr_aload_n d_M_useThing_136 rfl rfl ?_
              refine jr_aload d_M_useThing_137 rfl ?_
              refine jr_iload d_M_useThing_139 rfl ?_
              refine jv_V1r d_M_useThing_141 l_M_206 k_T_field ⟨Nat.le_of_ble_eq_true rfl, Nat.le_of_ble_eq_true rfl⟩ rfl rfl (Nat.le_of_ble_eq_true rfl) (show jc_Ct y_T_field _ _ _ _ (some (.inl (t_fd _ _ _)), _, _, _, 0, 0) from ct_T_field hk) (by first | decide | (dsimp only; omega) | (dsimp only; grind)) (by first | decide | (dsimp only; omega) | (dsimp only; grind)) ?_
              refine jv_V1v d_M_useThing_144 l_M_177 k_F_push ⟨Nat.le_of_ble_eq_true rfl, Nat.le_of_ble_eq_true rfl⟩ rfl rfl (Nat.le_of_ble_eq_true rfl) (show jc_Ct y_F_push _ _ _ _ (none, f_psh _ _ _ _, _, _, 0, 0) from ct_F_push hf.1) (by first | decide | (dsimp only; omega) | (dsimp only; grind)) (by first | decide | (dsimp only; omega) | (dsimp only; grind)) ?_
              refine jr_goto (tgt := 182) d_M_useThing_147 (by decide) ?_
              exact jr_retX (v := none) d_M_useThing_182 (by first | exact Nat.le_refl _ | exact Nat.zero_le _ | (dsimp only; omega)) (by first | exact Nat.le_refl _ | exact Nat.zero_le _ | (dsimp only; omega)) (by first | with_reducible rfl | (dsimp only; (unfold u_th; dsimp only; (repeat (first | rw [if_pos (by grind)] | rw [if_neg (by grind)]))); done) | (exfalso; grind)) (by first | with_reducible rfl | (dsimp only; (unfold u_th; dsimp only; (repeat (first | rw [if_pos (by grind)] | rw [if_neg (by grind)]))); done) | (exfalso; grind)) (by first | with_reducible rfl | (dsimp only; (unfold u_th; dsimp only; (repeat (first | rw [if_pos (by grind)] | rw [if_neg (by grind)]))); done) | (exfalso; grind)) (by first | with_reducible rfl | (dsimp only; (unfold u_th; dsimp only; (repeat (first | rw [if_pos (by grind)] | rw [if_neg (by grind)]))); done) | (exfalso; grind))
            · skip
              by_cases g86_17 : x86 = 17 ∨ x86 = 24
              · refine jr_tableIn (tgt := 150) d_M_useThing_86 (by rcases g86_17 with rfl | rfl <;> decide) (by rcases g86_17 with rfl | rfl <;> decide) (by rcases g86_17 with rfl | rfl <;> rfl) (by decide) ?_
                refine jr_aload d_M_useThing_150 rfl ?_
                refine jr_iload d_M_useThing_152 rfl ?_
                refine jr_iload d_M_useThing_154 rfl ?_
                refine jv_V2v d_M_useThing_156 l_M_209 k_T_setField ⟨Nat.le_of_ble_eq_true rfl, Nat.le_of_ble_eq_true rfl⟩ rfl rfl (Nat.le_of_ble_eq_true rfl) (show jc_Ct y_T_setField _ _ _ _ (none, t_sf _ _ _ _, _, _, 0, 0) from ct_T_setField hk) (by first | decide | (dsimp only; omega) | (dsimp only; grind)) (by first | decide | (dsimp only; omega) | (dsimp only; grind)) ?_
                refine jr_goto (tgt := 182) d_M_useThing_159 (by decide) ?_
                exact jr_retX (v := none) d_M_useThing_182 (by first | exact Nat.le_refl _ | exact Nat.zero_le _ | (dsimp only; omega)) (by first | exact Nat.le_refl _ | exact Nat.zero_le _ | (dsimp only; omega)) (by first | with_reducible rfl | (dsimp only; (unfold u_th; dsimp only; (repeat (first | rw [if_pos (by grind)] | rw [if_neg (by grind)]))); done) | (exfalso; grind)) (by first | with_reducible rfl | (dsimp only; (unfold u_th; dsimp only; (repeat (first | rw [if_pos (by grind)] | rw [if_neg (by grind)]))); done) | (exfalso; grind)) (by first | with_reducible rfl | (dsimp only; (unfold u_th; dsimp only; (repeat (first | rw [if_pos (by grind)] | rw [if_neg (by grind)]))); done) | (exfalso; grind)) (by first | with_reducible rfl | (dsimp only; (unfold u_th; dsimp only; (repeat (first | rw [if_pos (by grind)] | rw [if_neg (by grind)]))); done) | (exfalso; grind))
              · skip
                by_cases g86_20 : x86 = 20
                · refine jr_tableIn (tgt := 162) d_M_useThing_86 (by rcases g86_20 with rfl <;> decide) (by rcases g86_20 with rfl <;> decide) (by rcases g86_20 with rfl <;> rfl) (by decide) ?_
                  refine jr_aload d_M_useThing_162 rfl ?_
                  refine jr_aload_n d_M_useThing_164 rfl rfl ?_
                  refine jv_V0r d_M_useThing_165 l_M_113 k_S_number ⟨Nat.le_of_ble_eq_true rfl, Nat.le_of_ble_eq_true rfl⟩ rfl rfl (Nat.le_of_ble_eq_true rfl) (ct_S_number) (by first | decide | (dsimp only; omega) | (dsimp only; grind)) (by first | decide | (dsimp only; omega) | (dsimp only; grind)) ?_
                  refine jv_V1v d_M_useThing_168 l_M_212 k_T_enter ⟨Nat.le_of_ble_eq_true rfl, Nat.le_of_ble_eq_true rfl⟩ rfl rfl (Nat.le_of_ble_eq_true rfl) (show jc_Ct y_T_enter _ _ _ _ (none, t_en _ _ _, _, _, 0, 0) from ct_T_enter) (by first | decide | (dsimp only; omega) | (dsimp only; grind)) (by first | decide | (dsimp only; omega) | (dsimp only; grind)) ?_
                  refine jr_goto (tgt := 182) d_M_useThing_171 (by decide) ?_
                  exact jr_retX (v := none) d_M_useThing_182 (by first | exact Nat.le_refl _ | exact Nat.zero_le _ | (dsimp only; omega)) (by first | exact Nat.le_refl _ | exact Nat.zero_le _ | (dsimp only; omega)) (by first | with_reducible rfl | (dsimp only; (unfold u_th; dsimp only; (repeat (first | rw [if_pos (by grind)] | rw [if_neg (by grind)]))); done) | (exfalso; grind)) (by first | with_reducible rfl | (dsimp only; (unfold u_th; dsimp only; (repeat (first | rw [if_pos (by grind)] | rw [if_neg (by grind)]))); done) | (exfalso; grind)) (by first | with_reducible rfl | (dsimp only; (unfold u_th; dsimp only; (repeat (first | rw [if_pos (by grind)] | rw [if_neg (by grind)]))); done) | (exfalso; grind)) (by first | with_reducible rfl | (dsimp only; (unfold u_th; dsimp only; (repeat (first | rw [if_pos (by grind)] | rw [if_neg (by grind)]))); done) | (exfalso; grind))
                · skip
                  by_cases g86_21 : x86 = 21
                  · refine jr_tableIn (tgt := 174) d_M_useThing_86 (by rcases g86_21 with rfl <;> decide) (by rcases g86_21 with rfl <;> decide) (by rcases g86_21 with rfl <;> rfl) (by decide) ?_
                    refine jr_aload d_M_useThing_174 rfl ?_
                    refine jv_V0v d_M_useThing_176 l_M_215 k_T_leave ⟨Nat.le_of_ble_eq_true rfl, Nat.le_of_ble_eq_true rfl⟩ rfl rfl (Nat.le_of_ble_eq_true rfl) (show jc_Ct y_T_leave _ _ _ _ (none, t_lv _ _, _, _, 0, 0) from ct_T_leave) (by first | decide | (dsimp only; omega) | (dsimp only; grind)) (by first | decide | (dsimp only; omega) | (dsimp only; grind)) ?_
                    refine jr_goto (tgt := 182) d_M_useThing_179 (by decide) ?_
                    exact jr_retX (v := none) d_M_useThing_182 (by first | exact Nat.le_refl _ | exact Nat.zero_le _ | (dsimp only; omega)) (by first | exact Nat.le_refl _ | exact Nat.zero_le _ | (dsimp only; omega)) (by first | with_reducible rfl | (dsimp only; (unfold u_th; dsimp only; (repeat (first | rw [if_pos (by grind)] | rw [if_neg (by grind)]))); done) | (exfalso; grind)) (by first | with_reducible rfl | (dsimp only; (unfold u_th; dsimp only; (repeat (first | rw [if_pos (by grind)] | rw [if_neg (by grind)]))); done) | (exfalso; grind)) (by first | with_reducible rfl | (dsimp only; (unfold u_th; dsimp only; (repeat (first | rw [if_pos (by grind)] | rw [if_neg (by grind)]))); done) | (exfalso; grind)) (by first | with_reducible rfl | (dsimp only; (unfold u_th; dsimp only; (repeat (first | rw [if_pos (by grind)] | rw [if_neg (by grind)]))); done) | (exfalso; grind))
                  · skip
                    refine jr_tableE (tgt := 182) d_M_useThing_86 (by rcases j_16_24 x86 with h | h | rfl | rfl | rfl | rfl | rfl | rfl | rfl | rfl | rfl <;> first | exact Or.inl ⟨Or.inl (Int32.lt_iff_toInt_lt.mp h), by decide⟩ | exact Or.inl ⟨Or.inr (Int32.lt_iff_toInt_lt.mp h), by decide⟩ | exact Or.inr ⟨by decide, by decide, _, rfl, by decide⟩ | (exfalso; grind)) ?_
                    exact jr_retX (v := none) d_M_useThing_182 (by first | exact Nat.le_refl _ | exact Nat.zero_le _ | (dsimp only; omega)) (by first | exact Nat.le_refl _ | exact Nat.zero_le _ | (dsimp only; omega)) (by first | with_reducible rfl | (dsimp only; (unfold u_th; dsimp only; (repeat (first | rw [if_pos (by grind)] | rw [if_neg (by grind)]))); done) | (exfalso; grind)) (by first | with_reducible rfl | (dsimp only; (unfold u_th; dsimp only; (repeat (first | rw [if_pos (by grind)] | rw [if_neg (by grind)]))); done) | (exfalso; grind)) (by first | with_reducible rfl | (dsimp only; (unfold u_th; dsimp only; (repeat (first | rw [if_pos (by grind)] | rw [if_neg (by grind)]))); done) | (exfalso; grind)) (by first | with_reducible rfl | (dsimp only; (unfold u_th; dsimp only; (repeat (first | rw [if_pos (by grind)] | rw [if_neg (by grind)]))); done) | (exfalso; grind))
        · skip
          refine jr_aload_n d_M_useThing_53 rfl rfl ?_
          refine jr_aload d_M_useThing_54 rfl ?_
          refine jr_ifnull (tgt := 73) d_M_useThing_56 (by decide) (fun c56 => ?_) (fun q56 c56 => ?_)
          · skip
            have hx := h_fd_none c56
            refine jr_iconst (v := 0) d_M_useThing_73 (by decide) ?_
            refine jv_V1v d_M_useThing_74 l_M_177 k_F_push ⟨Nat.le_of_ble_eq_true rfl, Nat.le_of_ble_eq_true rfl⟩ rfl rfl (Nat.le_of_ble_eq_true rfl) (show jc_Ct y_F_push _ _ _ _ (none, f_psh _ _ _ _, _, _, 0, 0) from ct_F_push hf.1) (by first | decide | (dsimp only; omega) | (dsimp only; grind)) (by first | decide | (dsimp only; omega) | (dsimp only; grind)) ?_
            refine jr_goto (tgt := 182) d_M_useThing_77 (by decide) ?_
            exact jr_retX (v := none) d_M_useThing_182 (by first | exact Nat.le_refl _ | exact Nat.zero_le _ | (dsimp only; omega)) (by first | exact Nat.le_refl _ | exact Nat.zero_le _ | (dsimp only; omega)) (by first | with_reducible rfl | (dsimp only; (unfold u_th; dsimp only; (repeat (first | rw [if_pos (by grind)] | rw [if_neg (by grind)]))); done) | (exfalso; grind)) (by first | with_reducible rfl | (dsimp only; (unfold u_th; dsimp only; (repeat (first | rw [if_pos (by grind)] | rw [if_neg (by grind)]))); done) | (exfalso; grind)) (by first | with_reducible rfl | (dsimp only; (unfold u_th; dsimp only; (repeat (first | rw [if_pos (by grind)] | rw [if_neg (by grind)]))); done) | (exfalso; grind)) (by first | with_reducible rfl | (dsimp only; (unfold u_th; dsimp only; (repeat (first | rw [if_pos (by grind)] | rw [if_neg (by grind)]))); done) | (exfalso; grind))
          · skip
            obtain ⟨hx, hq⟩ := h_fd_some c56; rw [c56, hq]
            refine jr_aload d_M_useThing_59 rfl ?_
            refine jv_V0r d_M_useThing_61 l_M_203 k_T_kind ⟨Nat.le_of_ble_eq_true rfl, Nat.le_of_ble_eq_true rfl⟩ rfl rfl (Nat.le_of_ble_eq_true rfl) (ct_T_kind) (by first | decide | (dsimp only; omega) | (dsimp only; grind)) (by first | decide | (dsimp only; omega) | (dsimp only; grind)) ?_
            refine jr_iload d_M_useThing_64 rfl ?_
            refine jr_icmp_ne (tgt := 73) d_M_useThing_66 (by decide) (fun c66 => ?_) (fun c66 => ?_)
            · skip
              refine jr_iconst (v := 0) d_M_useThing_73 (by decide) ?_
              refine jv_V1v d_M_useThing_74 l_M_177 k_F_push ⟨Nat.le_of_ble_eq_true rfl, Nat.le_of_ble_eq_true rfl⟩ rfl rfl (Nat.le_of_ble_eq_true rfl) (show jc_Ct y_F_push _ _ _ _ (none, f_psh _ _ _ _, _, _, 0, 0) from ct_F_push hf.1) (by first | decide | (dsimp only; omega) | (dsimp only; grind)) (by first | decide | (dsimp only; omega) | (dsimp only; grind)) ?_
              refine jr_goto (tgt := 182) d_M_useThing_77 (by decide) ?_
              exact jr_retX (v := none) d_M_useThing_182 (by first | exact Nat.le_refl _ | exact Nat.zero_le _ | (dsimp only; omega)) (by first | exact Nat.le_refl _ | exact Nat.zero_le _ | (dsimp only; omega)) (by first | with_reducible rfl | (dsimp only; (unfold u_th; dsimp only; (repeat (first | rw [if_pos (by grind)] | rw [if_neg (by grind)]))); done) | (exfalso; grind)) (by first | with_reducible rfl | (dsimp only; (unfold u_th; dsimp only; (repeat (first | rw [if_pos (by grind)] | rw [if_neg (by grind)]))); done) | (exfalso; grind)) (by first | with_reducible rfl | (dsimp only; (unfold u_th; dsimp only; (repeat (first | rw [if_pos (by grind)] | rw [if_neg (by grind)]))); done) | (exfalso; grind)) (by first | with_reducible rfl | (dsimp only; (unfold u_th; dsimp only; (repeat (first | rw [if_pos (by grind)] | rw [if_neg (by grind)]))); done) | (exfalso; grind))
            · skip
              refine jr_iconst (v := 1) d_M_useThing_69 (by decide) ?_
              refine jr_goto (tgt := 74) d_M_useThing_70 (by decide) ?_
              refine jv_V1v d_M_useThing_74 l_M_177 k_F_push ⟨Nat.le_of_ble_eq_true rfl, Nat.le_of_ble_eq_true rfl⟩ rfl rfl (Nat.le_of_ble_eq_true rfl) (show jc_Ct y_F_push _ _ _ _ (none, f_psh _ _ _ _, _, _, 0, 0) from ct_F_push hf.1) (by first | decide | (dsimp only; omega) | (dsimp only; grind)) (by first | decide | (dsimp only; omega) | (dsimp only; grind)) ?_
              refine jr_goto (tgt := 182) d_M_useThing_77 (by decide) ?_
              exact jr_retX (v := none) d_M_useThing_182 (by first | exact Nat.le_refl _ | exact Nat.zero_le _ | (dsimp only; omega)) (by first | exact Nat.le_refl _ | exact Nat.zero_le _ | (dsimp only; omega)) (by first | with_reducible rfl | (dsimp only; (unfold u_th; dsimp only; (repeat (first | rw [if_pos (by grind)] | rw [if_neg (by grind)]))); done) | (exfalso; grind)) (by first | with_reducible rfl | (dsimp only; (unfold u_th; dsimp only; (repeat (first | rw [if_pos (by grind)] | rw [if_neg (by grind)]))); done) | (exfalso; grind)) (by first | with_reducible rfl | (dsimp only; (unfold u_th; dsimp only; (repeat (first | rw [if_pos (by grind)] | rw [if_neg (by grind)]))); done) | (exfalso; grind)) (by first | with_reducible rfl | (dsimp only; (unfold u_th; dsimp only; (repeat (first | rw [if_pos (by grind)] | rw [if_neg (by grind)]))); done) | (exfalso; grind))
      · skip
        refine jr_aload_n d_M_useThing_24 rfl rfl ?_
        refine jv_V0r d_M_useThing_25 l_M_162 k_F_pop ⟨Nat.le_of_ble_eq_true rfl, Nat.le_of_ble_eq_true rfl⟩ rfl rfl (Nat.le_of_ble_eq_true rfl) (show jc_Ct y_F_pop _ _ _ _ (some (.inl (f_tp _ _ _)), f_pop _ _ _, _, _, 0, 0) from ct_F_pop hf.1 hd.2) (by first | decide | (dsimp only; omega) | (dsimp only; grind)) (by first | decide | (dsimp only; omega) | (dsimp only; grind)) ?_
        refine jr_goto (tgt := 32) d_M_useThing_28 (by decide) ?_
        refine jr_istore d_M_useThing_32 (Nat.le_of_ble_eq_true rfl) ?_
        refine jr_aload_n d_M_useThing_34 rfl rfl ?_
        refine jr_getr d_M_useThing_35 f_M_25 rfl rfl ?_
        first | rw [m0] | rw [m1] | rw [m2] | rw [m3] | skip
        refine jr_aload_n d_M_useThing_38 rfl rfl ?_
        refine jv_V0r d_M_useThing_39 l_M_162 k_F_pop ⟨Nat.le_of_ble_eq_true rfl, Nat.le_of_ble_eq_true rfl⟩ rfl rfl (Nat.le_of_ble_eq_true rfl) (show jc_Ct y_F_pop _ _ _ _ (some (.inl (f_tp _ _ _)), f_pop _ _ _, _, _, 0, 0) from ct_F_pop hf.1 (by first | exact hd.pop.2 | exact hd.2)) (by first | decide | (dsimp only; omega) | (dsimp only; grind)) (by first | decide | (dsimp only; omega) | (dsimp only; grind)) ?_
        refine jv_V1r d_M_useThing_42 l_M_110 k_H_find ⟨Nat.le_of_ble_eq_true rfl, Nat.le_of_ble_eq_true rfl⟩ rfl rfl (Nat.le_of_ble_eq_true rfl) (ct_H_findT (by first | exact (hH.to (by rw [f_pop_t (by decide), f_pop_t (by decide)])) | exact (hH.to (by rw [f_pop_t (by decide)])))) (by first | decide | (dsimp only; omega) | (dsimp only; grind)) (by first | decide | (dsimp only; omega) | (dsimp only; grind)) ?_
        first | rw [m0] | rw [m1] | rw [m2] | rw [m3] | skip
        refine jr_astore d_M_useThing_45 (Nat.le_of_ble_eq_true rfl) ?_
        refine jr_iload_n d_M_useThing_47 rfl rfl ?_
        refine jr_bipush (v := 15) d_M_useThing_48 (by decide) ?_
        refine jr_icmp_ne (tgt := 80) d_M_useThing_50 (by decide) (fun c50 => ?_) (fun c50 => ?_)
        · skip
          refine jr_aload d_M_useThing_80 rfl ?_
          refine jr_ifnull (tgt := 182) d_M_useThing_82 (by decide) (fun c82 => ?_) (fun q82 c82 => ?_)
          · skip
            have hx := h_fd_none c82
            exact jr_retX (v := none) d_M_useThing_182 (by first | exact Nat.le_refl _ | exact Nat.zero_le _ | (dsimp only; omega)) (by first | exact Nat.le_refl _ | exact Nat.zero_le _ | (dsimp only; omega)) (by first | with_reducible rfl | (dsimp only; (unfold u_th; dsimp only; (repeat (first | rw [if_pos (by grind)] | rw [if_neg (by grind)]))); done) | (exfalso; grind)) (by first | with_reducible rfl | (dsimp only; (unfold u_th; dsimp only; (repeat (first | rw [if_pos (by grind)] | rw [if_neg (by grind)]))); done) | (exfalso; grind)) (by first | with_reducible rfl | (dsimp only; (unfold u_th; dsimp only; (repeat (first | rw [if_pos (by grind)] | rw [if_neg (by grind)]))); done) | (exfalso; grind)) (by first | with_reducible rfl | (dsimp only; (unfold u_th; dsimp only; (repeat (first | rw [if_pos (by grind)] | rw [if_neg (by grind)]))); done) | (exfalso; grind))
          · skip
            obtain ⟨hx, hq⟩ := h_fd_some c82; rw [c82, hq]; have hk := (jw_H.at (O := O) (by first | exact (hH.to (by rw [f_pop_t (by decide), f_pop_t (by decide)])) | exact (hH.to (by rw [f_pop_t (by decide)]))) hx).2
            refine jr_iload_n d_M_useThing_85 rfl rfl ?_
            refine jr_name (fun x86 e86 => ?_)
            by_cases g86_16 : x86 = 16 ∨ x86 = 23
            · refine jr_tableIn (tgt := 136) d_M_useThing_86 (by rcases g86_16 with rfl | rfl <;> decide) (by rcases g86_16 with rfl | rfl <;> decide) (by rcases g86_16 with rfl | rfl <;> rfl) (by decide) ?_
              refine jr_aload_n d_M_useThing_136 rfl rfl ?_
              refine jr_aload d_M_useThing_137 rfl ?_
              refine jr_iload d_M_useThing_139 rfl ?_
              refine jv_V1r d_M_useThing_141 l_M_206 k_T_field ⟨Nat.le_of_ble_eq_true rfl, Nat.le_of_ble_eq_true rfl⟩ rfl rfl (Nat.le_of_ble_eq_true rfl) (show jc_Ct y_T_field _ _ _ _ (some (.inl (t_fd _ _ _)), _, _, _, 0, 0) from ct_T_field hk) (by first | decide | (dsimp only; omega) | (dsimp only; grind)) (by first | decide | (dsimp only; omega) | (dsimp only; grind)) ?_
              refine jv_V1v d_M_useThing_144 l_M_177 k_F_push ⟨Nat.le_of_ble_eq_true rfl, Nat.le_of_ble_eq_true rfl⟩ rfl rfl (Nat.le_of_ble_eq_true rfl) (show jc_Ct y_F_push _ _ _ _ (none, f_psh _ _ _ _, _, _, 0, 0) from ct_F_push hf.1) (by first | decide | (dsimp only; omega) | (dsimp only; grind)) (by first | decide | (dsimp only; omega) | (dsimp only; grind)) ?_
              refine jr_goto (tgt := 182) d_M_useThing_147 (by decide) ?_
              exact jr_retX (v := none) d_M_useThing_182 (by first | exact Nat.le_refl _ | exact Nat.zero_le _ | (dsimp only; omega)) (by first | exact Nat.le_refl _ | exact Nat.zero_le _ | (dsimp only; omega)) (by first | with_reducible rfl | (dsimp only; (unfold u_th; dsimp only; (repeat (first | rw [if_pos (by grind)] | rw [if_neg (by grind)]))); done) | (exfalso; grind)) (by first | with_reducible rfl | (dsimp only; (unfold u_th; dsimp only; (repeat (first | rw [if_pos (by grind)] | rw [if_neg (by grind)]))); done) | (exfalso; grind)) (by first | with_reducible rfl | (dsimp only; (unfold u_th; dsimp only; (repeat (first | rw [if_pos (by grind)] | rw [if_neg (by grind)]))); done) | (exfalso; grind)) (by first | with_reducible rfl | (dsimp only; (unfold u_th; dsimp only; (repeat (first | rw [if_pos (by grind)] | rw [if_neg (by grind)]))); done) | (exfalso; grind))
            · skip
              by_cases g86_17 : x86 = 17 ∨ x86 = 24
              · refine jr_tableIn (tgt := 150) d_M_useThing_86 (by rcases g86_17 with rfl | rfl <;> decide) (by rcases g86_17 with rfl | rfl <;> decide) (by rcases g86_17 with rfl | rfl <;> rfl) (by decide) ?_
                refine jr_aload d_M_useThing_150 rfl ?_
                refine jr_iload d_M_useThing_152 rfl ?_
                refine jr_iload d_M_useThing_154 rfl ?_
                refine jv_V2v d_M_useThing_156 l_M_209 k_T_setField ⟨Nat.le_of_ble_eq_true rfl, Nat.le_of_ble_eq_true rfl⟩ rfl rfl (Nat.le_of_ble_eq_true rfl) (show jc_Ct y_T_setField _ _ _ _ (none, t_sf _ _ _ _, _, _, 0, 0) from ct_T_setField hk) (by first | decide | (dsimp only; omega) | (dsimp only; grind)) (by first | decide | (dsimp only; omega) | (dsimp only; grind)) ?_
                refine jr_goto (tgt := 182) d_M_useThing_159 (by decide) ?_
                exact jr_retX (v := none) d_M_useThing_182 (by first | exact Nat.le_refl _ | exact Nat.zero_le _ | (dsimp only; omega)) (by first | exact Nat.le_refl _ | exact Nat.zero_le _ | (dsimp only; omega)) (by first | with_reducible rfl | (dsimp only; (unfold u_th; dsimp only; (repeat (first | rw [if_pos (by grind)] | rw [if_neg (by grind)]))); done) | (exfalso; grind)) (by first | with_reducible rfl | (dsimp only; (unfold u_th; dsimp only; (repeat (first | rw [if_pos (by grind)] | rw [if_neg (by grind)]))); done) | (exfalso; grind)) (by first | with_reducible rfl | (dsimp only; (unfold u_th; dsimp only; (repeat (first | rw [if_pos (by grind)] | rw [if_neg (by grind)]))); done) | (exfalso; grind)) (by first | with_reducible rfl | (dsimp only; (unfold u_th; dsimp only; (repeat (first | rw [if_pos (by grind)] | rw [if_neg (by grind)]))); done) | (exfalso; grind))
              · skip
                by_cases g86_20 : x86 = 20
                · refine jr_tableIn (tgt := 162) d_M_useThing_86 (by rcases g86_20 with rfl <;> decide) (by rcases g86_20 with rfl <;> decide) (by rcases g86_20 with rfl <;> rfl) (by decide) ?_
                  refine jr_aload d_M_useThing_162 rfl ?_
                  refine jr_aload_n d_M_useThing_164 rfl rfl ?_
                  refine jv_V0r d_M_useThing_165 l_M_113 k_S_number ⟨Nat.le_of_ble_eq_true rfl, Nat.le_of_ble_eq_true rfl⟩ rfl rfl (Nat.le_of_ble_eq_true rfl) (ct_S_number) (by first | decide | (dsimp only; omega) | (dsimp only; grind)) (by first | decide | (dsimp only; omega) | (dsimp only; grind)) ?_
                  refine jv_V1v d_M_useThing_168 l_M_212 k_T_enter ⟨Nat.le_of_ble_eq_true rfl, Nat.le_of_ble_eq_true rfl⟩ rfl rfl (Nat.le_of_ble_eq_true rfl) (show jc_Ct y_T_enter _ _ _ _ (none, t_en _ _ _, _, _, 0, 0) from ct_T_enter) (by first | decide | (dsimp only; omega) | (dsimp only; grind)) (by first | decide | (dsimp only; omega) | (dsimp only; grind)) ?_
                  refine jr_goto (tgt := 182) d_M_useThing_171 (by decide) ?_
                  exact jr_retX (v := none) d_M_useThing_182 (by first | exact Nat.le_refl _ | exact Nat.zero_le _ | (dsimp only; omega)) (by first | exact Nat.le_refl _ | exact Nat.zero_le _ | (dsimp only; omega)) (by first | with_reducible rfl | (dsimp only; (unfold u_th; dsimp only; (repeat (first | rw [if_pos (by grind)] | rw [if_neg (by grind)]))); done) | (exfalso; grind)) (by first | with_reducible rfl | (dsimp only; (unfold u_th; dsimp only; (repeat (first | rw [if_pos (by grind)] | rw [if_neg (by grind)]))); done) | (exfalso; grind)) (by first | with_reducible rfl | (dsimp only; (unfold u_th; dsimp only; (repeat (first | rw [if_pos (by grind)] | rw [if_neg (by grind)]))); done) | (exfalso; grind)) (by first | with_reducible rfl | (dsimp only; (unfold u_th; dsimp only; (repeat (first | rw [if_pos (by grind)] | rw [if_neg (by grind)]))); done) | (exfalso; grind))
                · skip
                  by_cases g86_21 : x86 = 21
                  · refine jr_tableIn (tgt := 174) d_M_useThing_86 (by rcases g86_21 with rfl <;> decide) (by rcases g86_21 with rfl <;> decide) (by rcases g86_21 with rfl <;> rfl) (by decide) ?_
                    refine jr_aload d_M_useThing_174 rfl ?_
                    refine jv_V0v d_M_useThing_176 l_M_215 k_T_leave ⟨Nat.le_of_ble_eq_true rfl, Nat.le_of_ble_eq_true rfl⟩ rfl rfl (Nat.le_of_ble_eq_true rfl) (show jc_Ct y_T_leave _ _ _ _ (none, t_lv _ _, _, _, 0, 0) from ct_T_leave) (by first | decide | (dsimp only; omega) | (dsimp only; grind)) (by first | decide | (dsimp only; omega) | (dsimp only; grind)) ?_
                    refine jr_goto (tgt := 182) d_M_useThing_179 (by decide) ?_
                    exact jr_retX (v := none) d_M_useThing_182 (by first | exact Nat.le_refl _ | exact Nat.zero_le _ | (dsimp only; omega)) (by first | exact Nat.le_refl _ | exact Nat.zero_le _ | (dsimp only; omega)) (by first | with_reducible rfl | (dsimp only; (unfold u_th; dsimp only; (repeat (first | rw [if_pos (by grind)] | rw [if_neg (by grind)]))); done) | (exfalso; grind)) (by first | with_reducible rfl | (dsimp only; (unfold u_th; dsimp only; (repeat (first | rw [if_pos (by grind)] | rw [if_neg (by grind)]))); done) | (exfalso; grind)) (by first | with_reducible rfl | (dsimp only; (unfold u_th; dsimp only; (repeat (first | rw [if_pos (by grind)] | rw [if_neg (by grind)]))); done) | (exfalso; grind)) (by first | with_reducible rfl | (dsimp only; (unfold u_th; dsimp only; (repeat (first | rw [if_pos (by grind)] | rw [if_neg (by grind)]))); done) | (exfalso; grind))
                  · skip
                    refine jr_tableE (tgt := 182) d_M_useThing_86 (by rcases j_16_24 x86 with h | h | rfl | rfl | rfl | rfl | rfl | rfl | rfl | rfl | rfl <;> first | exact Or.inl ⟨Or.inl (Int32.lt_iff_toInt_lt.mp h), by decide⟩ | exact Or.inl ⟨Or.inr (Int32.lt_iff_toInt_lt.mp h), by decide⟩ | exact Or.inr ⟨by decide, by decide, _, rfl, by decide⟩ | (exfalso; grind)) ?_
                    exact jr_retX (v := none) d_M_useThing_182 (by first | exact Nat.le_refl _ | exact Nat.zero_le _ | (dsimp only; omega)) (by first | exact Nat.le_refl _ | exact Nat.zero_le _ | (dsimp only; omega)) (by first | with_reducible rfl | (dsimp only; (unfold u_th; dsimp only; (repeat (first | rw [if_pos (by grind)] | rw [if_neg (by grind)]))); done) | (exfalso; grind)) (by first | with_reducible rfl | (dsimp only; (unfold u_th; dsimp only; (repeat (first | rw [if_pos (by grind)] | rw [if_neg (by grind)]))); done) | (exfalso; grind)) (by first | with_reducible rfl | (dsimp only; (unfold u_th; dsimp only; (repeat (first | rw [if_pos (by grind)] | rw [if_neg (by grind)]))); done) | (exfalso; grind)) (by first | with_reducible rfl | (dsimp only; (unfold u_th; dsimp only; (repeat (first | rw [if_pos (by grind)] | rw [if_neg (by grind)]))); done) | (exfalso; grind))
        · skip
          refine jr_aload_n d_M_useThing_53 rfl rfl ?_
          refine jr_aload d_M_useThing_54 rfl ?_
          refine jr_ifnull (tgt := 73) d_M_useThing_56 (by decide) (fun c56 => ?_) (fun q56 c56 => ?_)
          · skip
            have hx := h_fd_none c56
            refine jr_iconst (v := 0) d_M_useThing_73 (by decide) ?_
            refine jv_V1v d_M_useThing_74 l_M_177 k_F_push ⟨Nat.le_of_ble_eq_true rfl, Nat.le_of_ble_eq_true rfl⟩ rfl rfl (Nat.le_of_ble_eq_true rfl) (show jc_Ct y_F_push _ _ _ _ (none, f_psh _ _ _ _, _, _, 0, 0) from ct_F_push hf.1) (by first | decide | (dsimp only; omega) | (dsimp only; grind)) (by first | decide | (dsimp only; omega) | (dsimp only; grind)) ?_
            refine jr_goto (tgt := 182) d_M_useThing_77 (by decide) ?_
            exact jr_retX (v := none) d_M_useThing_182 (by first | exact Nat.le_refl _ | exact Nat.zero_le _ | (dsimp only; omega)) (by first | exact Nat.le_refl _ | exact Nat.zero_le _ | (dsimp only; omega)) (by first | with_reducible rfl | (dsimp only; (unfold u_th; dsimp only; (repeat (first | rw [if_pos (by grind)] | rw [if_neg (by grind)]))); done) | (exfalso; grind)) (by first | with_reducible rfl | (dsimp only; (unfold u_th; dsimp only; (repeat (first | rw [if_pos (by grind)] | rw [if_neg (by grind)]))); done) | (exfalso; grind)) (by first | with_reducible rfl | (dsimp only; (unfold u_th; dsimp only; (repeat (first | rw [if_pos (by grind)] | rw [if_neg (by grind)]))); done) | (exfalso; grind)) (by first | with_reducible rfl | (dsimp only; (unfold u_th; dsimp only; (repeat (first | rw [if_pos (by grind)] | rw [if_neg (by grind)]))); done) | (exfalso; grind))
          · skip
            obtain ⟨hx, hq⟩ := h_fd_some c56; rw [c56, hq]
            refine jr_aload d_M_useThing_59 rfl ?_
            refine jv_V0r d_M_useThing_61 l_M_203 k_T_kind ⟨Nat.le_of_ble_eq_true rfl, Nat.le_of_ble_eq_true rfl⟩ rfl rfl (Nat.le_of_ble_eq_true rfl) (ct_T_kind) (by first | decide | (dsimp only; omega) | (dsimp only; grind)) (by first | decide | (dsimp only; omega) | (dsimp only; grind)) ?_
            refine jr_iload d_M_useThing_64 rfl ?_
            refine jr_icmp_ne (tgt := 73) d_M_useThing_66 (by decide) (fun c66 => ?_) (fun c66 => ?_)
            · skip
              refine jr_iconst (v := 0) d_M_useThing_73 (by decide) ?_
              refine jv_V1v d_M_useThing_74 l_M_177 k_F_push ⟨Nat.le_of_ble_eq_true rfl, Nat.le_of_ble_eq_true rfl⟩ rfl rfl (Nat.le_of_ble_eq_true rfl) (show jc_Ct y_F_push _ _ _ _ (none, f_psh _ _ _ _, _, _, 0, 0) from ct_F_push hf.1) (by first | decide | (dsimp only; omega) | (dsimp only; grind)) (by first | decide | (dsimp only; omega) | (dsimp only; grind)) ?_
              refine jr_goto (tgt := 182) d_M_useThing_77 (by decide) ?_
              exact jr_retX (v := none) d_M_useThing_182 (by first | exact Nat.le_refl _ | exact Nat.zero_le _ | (dsimp only; omega)) (by first | exact Nat.le_refl _ | exact Nat.zero_le _ | (dsimp only; omega)) (by first | with_reducible rfl | (dsimp only; (unfold u_th; dsimp only; (repeat (first | rw [if_pos (by grind)] | rw [if_neg (by grind)]))); done) | (exfalso; grind)) (by first | with_reducible rfl | (dsimp only; (unfold u_th; dsimp only; (repeat (first | rw [if_pos (by grind)] | rw [if_neg (by grind)]))); done) | (exfalso; grind)) (by first | with_reducible rfl | (dsimp only; (unfold u_th; dsimp only; (repeat (first | rw [if_pos (by grind)] | rw [if_neg (by grind)]))); done) | (exfalso; grind)) (by first | with_reducible rfl | (dsimp only; (unfold u_th; dsimp only; (repeat (first | rw [if_pos (by grind)] | rw [if_neg (by grind)]))); done) | (exfalso; grind))
            · skip
              refine jr_iconst (v := 1) d_M_useThing_69 (by decide) ?_
              refine jr_goto (tgt := 74) d_M_useThing_70 (by decide) ?_
              refine jv_V1v d_M_useThing_74 l_M_177 k_F_push ⟨Nat.le_of_ble_eq_true rfl, Nat.le_of_ble_eq_true rfl⟩ rfl rfl (Nat.le_of_ble_eq_true rfl) (show jc_Ct y_F_push _ _ _ _ (none, f_psh _ _ _ _, _, _, 0, 0) from ct_F_push hf.1) (by first | decide | (dsimp only; omega) | (dsimp only; grind)) (by first | decide | (dsimp only; omega) | (dsimp only; grind)) ?_
              refine jr_goto (tgt := 182) d_M_useThing_77 (by decide) ?_
              exact jr_retX (v := none) d_M_useThing_182 (by first | exact Nat.le_refl _ | exact Nat.zero_le _ | (dsimp only; omega)) (by first | exact Nat.le_refl _ | exact Nat.zero_le _ | (dsimp only; omega)) (by first | with_reducible rfl | (dsimp only; (unfold u_th; dsimp only; (repeat (first | rw [if_pos (by grind)] | rw [if_neg (by grind)]))); done) | (exfalso; grind)) (by first | with_reducible rfl | (dsimp only; (unfold u_th; dsimp only; (repeat (first | rw [if_pos (by grind)] | rw [if_neg (by grind)]))); done) | (exfalso; grind)) (by first | with_reducible rfl | (dsimp only; (unfold u_th; dsimp only; (repeat (first | rw [if_pos (by grind)] | rw [if_neg (by grind)]))); done) | (exfalso; grind)) (by first | with_reducible rfl | (dsimp only; (unfold u_th; dsimp only; (repeat (first | rw [if_pos (by grind)] | rw [if_neg (by grind)]))); done) | (exfalso; grind))
