def m_cp (op x z : Int32) : Int32 := if op = 4 then x + z else if op = 5 then x - z else if op = 6 then x * z else if op = 7 then (if z = 0 then 0 else x / z) else if op = 8 then (if x < z then 1 else 0) else 0
theorem jw_T.pop {I : jc_I} {O : jc_O} {t j : Nat} (h : jw_T I O t) : jw_T (f_pop I t j) O t := by
  obtain ⟨a1, a2, a3, a4⟩ := h
  unfold jw_T
  rw [f_pop_t (by decide)]
  refine ⟨a1, a2, a3, fun i hi => ?_⟩
  obtain ⟨b1, b2, b3, b4, b5⟩ := a4 i hi
  refine ⟨b1, b2, ?_, b4, ?_⟩
  · by_cases e : i = j
    · subst e; exact b3.pop
    · unfold jw_d f_pop at *
      rw [jc_up_q _ _ _ _ _ _ (by intro h9; simp at h9; exact e h9)]
      exact b3
  · unfold jw_in at *; rw [f_pop_t (by decide)]; exact b5
theorem ct_M_perform_jump {I : jc_I} {O : jc_O} {live : jc_L → Prop} {t j c : Nat} {op a : Int32} (ho : op = 11) : jc_Ct y_M_perform [.inr (some (4, 0, 0)), .inr (some (9, t, 0)), .inr (some (8, t, j)), .inl op, .inl a] I O live (none, jc_up I (8, t, j) 4 a, O, live, 0, 0) := by
  refine jc_Ct.of (by decide +kernel) (rfl) (Nat.le_of_ble_eq_true rfl) ?_
  refine jr_iload_n d_M_perform_0 rfl rfl ?_
  refine jr_name (fun x1 e1 => ?_)
  by_cases g1_4 : x1 = 4 ∨ x1 = 5 ∨ x1 = 6 ∨ x1 = 7 ∨ x1 = 8
  · refine jr_tableIn (tgt := 173) d_M_perform_1 (by rcases g1_4 with rfl | rfl | rfl | rfl | rfl <;> decide) (by rcases g1_4 with rfl | rfl | rfl | rfl | rfl <;> decide) (by rcases g1_4 with rfl | rfl | rfl | rfl | rfl <;> rfl) (by decide) ?_
    exfalso; grind (splits := 60)
  · skip
    by_cases g1_11 : x1 = 11
    · refine jr_tableIn (tgt := 100) d_M_perform_1 (by rcases g1_11 with rfl <;> decide) (by rcases g1_11 with rfl <;> decide) (by rcases g1_11 with rfl <;> rfl) (by decide) ?_
      refine jr_aload_n d_M_perform_100 rfl rfl ?_
      refine jr_iload d_M_perform_101 rfl ?_
      refine jv_V1v d_M_perform_103 l_M_159 k_F_goTo ⟨Nat.le_of_ble_eq_true rfl, Nat.le_of_ble_eq_true rfl⟩ rfl rfl (Nat.le_of_ble_eq_true rfl) (ct_F_goTo) (by first | decide | (dsimp only; omega) | (dsimp only; grind)) (by first | decide | (dsimp only; omega) | (dsimp only; grind)) ?_
      refine jr_goto (tgt := 228) d_M_perform_106 (by decide) ?_
      exact jr_retX (v := none) d_M_perform_228 (by first | exact Nat.le_refl _ | exact Nat.zero_le _ | (dsimp only; omega)) (by first | exact Nat.le_refl _ | exact Nat.zero_le _ | (dsimp only; omega)) (by first | with_reducible rfl | (dsimp only; rfl; done) | (exfalso; grind)) (by first | with_reducible rfl | (dsimp only; rfl; done) | (exfalso; grind)) (by first | with_reducible rfl | (dsimp only; rfl; done) | (exfalso; grind)) (by first | with_reducible rfl | (dsimp only; rfl; done) | (exfalso; grind))
    · skip
      by_cases g1_12 : x1 = 12 ∨ x1 = 13
      · refine jr_tableIn (tgt := 109) d_M_perform_1 (by rcases g1_12 with rfl | rfl <;> decide) (by rcases g1_12 with rfl | rfl <;> decide) (by rcases g1_12 with rfl | rfl <;> rfl) (by decide) ?_
        exfalso; grind (splits := 60)
      · skip
        by_cases g1_15 : x1 = 15 ∨ x1 = 16 ∨ x1 = 17 ∨ x1 = 20 ∨ x1 = 21 ∨ x1 = 23 ∨ x1 = 24
        · refine jr_tableIn (tgt := 200) d_M_perform_1 (by rcases g1_15 with rfl | rfl | rfl | rfl | rfl | rfl | rfl <;> decide) (by rcases g1_15 with rfl | rfl | rfl | rfl | rfl | rfl | rfl <;> decide) (by rcases g1_15 with rfl | rfl | rfl | rfl | rfl | rfl | rfl <;> rfl) (by decide) ?_
          exfalso; grind (splits := 60)
        · skip
          by_cases g1_18 : x1 = 18
          · refine jr_tableIn (tgt := 134) d_M_perform_1 (by rcases g1_18 with rfl <;> decide) (by rcases g1_18 with rfl <;> decide) (by rcases g1_18 with rfl <;> rfl) (by decide) ?_
            exfalso; grind (splits := 60)
          · skip
            by_cases g1_19 : x1 = 19
            · refine jr_tableIn (tgt := 152) d_M_perform_1 (by rcases g1_19 with rfl <;> decide) (by rcases g1_19 with rfl <;> decide) (by rcases g1_19 with rfl <;> rfl) (by decide) ?_
              exfalso; grind (splits := 60)
            · skip
              by_cases g1_22 : x1 = 22
              · refine jr_tableIn (tgt := 164) d_M_perform_1 (by rcases g1_22 with rfl <;> decide) (by rcases g1_22 with rfl <;> decide) (by rcases g1_22 with rfl <;> rfl) (by decide) ?_
                exfalso; grind (splits := 60)
              · skip
                refine jr_tableE (tgt := 216) d_M_perform_1 (by rcases j_4_24 x1 with h | h | rfl | rfl | rfl | rfl | rfl | rfl | rfl | rfl | rfl | rfl | rfl | rfl | rfl | rfl | rfl | rfl | rfl | rfl | rfl | rfl | rfl <;> first | exact Or.inl ⟨Or.inl (Int32.lt_iff_toInt_lt.mp h), by decide⟩ | exact Or.inl ⟨Or.inr (Int32.lt_iff_toInt_lt.mp h), by decide⟩ | exact Or.inr ⟨by decide, by decide, _, rfl, by decide⟩ | (exfalso; grind)) ?_
                exfalso; grind (splits := 60)
theorem ct_M_perform_zero {I : jc_I} {O : jc_O} {live : jc_L → Prop} {t j c : Nat} {op a : Int32} (hf : jw_f O t j) (hd : jw_d I t j) (ho : op = 12 ∨ op = 13) : jc_Ct y_M_perform [.inr (some (4, 0, 0)), .inr (some (9, t, 0)), .inr (some (8, t, j)), .inl op, .inl a] I O live (none, jc_up (f_pop I t j) (8, t, j) 4 (if f_tp I t j = 0 then a else f_pop I t j (8, t, j) 4 + 1), O, live, 0, 0) := by
  refine jc_Ct.of (by decide +kernel) (rfl) (Nat.le_of_ble_eq_true rfl) ?_
  refine jr_iload_n d_M_perform_0 rfl rfl ?_
  refine jr_name (fun x1 e1 => ?_)
  by_cases g1_4 : x1 = 4 ∨ x1 = 5 ∨ x1 = 6 ∨ x1 = 7 ∨ x1 = 8
  · refine jr_tableIn (tgt := 173) d_M_perform_1 (by rcases g1_4 with rfl | rfl | rfl | rfl | rfl <;> decide) (by rcases g1_4 with rfl | rfl | rfl | rfl | rfl <;> decide) (by rcases g1_4 with rfl | rfl | rfl | rfl | rfl <;> rfl) (by decide) ?_
    exfalso; grind (splits := 60)
  · skip
    by_cases g1_11 : x1 = 11
    · refine jr_tableIn (tgt := 100) d_M_perform_1 (by rcases g1_11 with rfl <;> decide) (by rcases g1_11 with rfl <;> decide) (by rcases g1_11 with rfl <;> rfl) (by decide) ?_
      exfalso; grind (splits := 60)
    · skip
      by_cases g1_12 : x1 = 12 ∨ x1 = 13
      · refine jr_tableIn (tgt := 109) d_M_perform_1 (by rcases g1_12 with rfl | rfl <;> decide) (by rcases g1_12 with rfl | rfl <;> decide) (by rcases g1_12 with rfl | rfl <;> rfl) (by decide) ?_
        refine jr_aload_n d_M_perform_109 rfl rfl ?_
        refine jr_aload_n d_M_perform_110 rfl rfl ?_
        refine jv_V0r d_M_perform_111 l_M_162 k_F_pop ⟨Nat.le_of_ble_eq_true rfl, Nat.le_of_ble_eq_true rfl⟩ rfl rfl (Nat.le_of_ble_eq_true rfl) (show jc_Ct y_F_pop _ _ _ _ (some (.inl (f_tp _ _ _)), f_pop _ _ _, _, _, 0, 0) from ct_F_pop hf.1 hd.2) (by first | decide | (dsimp only; omega) | (dsimp only; grind)) (by first | decide | (dsimp only; omega) | (dsimp only; grind)) ?_
        refine jr_if_ne (tgt := 122) d_M_perform_114 (by decide) (fun c114 => ?_) (fun c114 => ?_)
        · skip
          refine jr_aload_n d_M_perform_122 rfl rfl ?_
          refine jv_V0r d_M_perform_123 l_M_100 k_F_at ⟨Nat.le_of_ble_eq_true rfl, Nat.le_of_ble_eq_true rfl⟩ rfl rfl (Nat.le_of_ble_eq_true rfl) (ct_F_at) (by first | decide | (dsimp only; omega) | (dsimp only; grind)) (by first | decide | (dsimp only; omega) | (dsimp only; grind)) ?_
          refine jr_iconst (v := 1) d_M_perform_126 (by decide) ?_
          refine jr_iadd d_M_perform_127 ?_
          refine jv_V1v d_M_perform_128 l_M_159 k_F_goTo ⟨Nat.le_of_ble_eq_true rfl, Nat.le_of_ble_eq_true rfl⟩ rfl rfl (Nat.le_of_ble_eq_true rfl) (ct_F_goTo) (by first | decide | (dsimp only; omega) | (dsimp only; grind)) (by first | decide | (dsimp only; omega) | (dsimp only; grind)) ?_
          refine jr_goto (tgt := 228) d_M_perform_131 (by decide) ?_
          exact jr_retX (v := none) d_M_perform_228 (by first | exact Nat.le_refl _ | exact Nat.zero_le _ | (dsimp only; omega)) (by first | exact Nat.le_refl _ | exact Nat.zero_le _ | (dsimp only; omega)) (by first | with_reducible rfl | (dsimp only; (repeat (first | rw [if_pos (by grind)] | rw [if_neg (by grind)])); done) | (exfalso; grind)) (by first | with_reducible rfl | (dsimp only; (repeat (first | rw [if_pos (by grind)] | rw [if_neg (by grind)])); done) | (exfalso; grind)) (by first | with_reducible rfl | (dsimp only; (repeat (first | rw [if_pos (by grind)] | rw [if_neg (by grind)])); done) | (exfalso; grind)) (by first | with_reducible rfl | (dsimp only; (repeat (first | rw [if_pos (by grind)] | rw [if_neg (by grind)])); done) | (exfalso; grind))
        · skip
          refine jr_iload d_M_perform_117 rfl ?_
          refine jr_goto (tgt := 128) d_M_perform_119 (by decide) ?_
          refine jv_V1v d_M_perform_128 l_M_159 k_F_goTo ⟨Nat.le_of_ble_eq_true rfl, Nat.le_of_ble_eq_true rfl⟩ rfl rfl (Nat.le_of_ble_eq_true rfl) (ct_F_goTo) (by first | decide | (dsimp only; omega) | (dsimp only; grind)) (by first | decide | (dsimp only; omega) | (dsimp only; grind)) ?_
          refine jr_goto (tgt := 228) d_M_perform_131 (by decide) ?_
          exact jr_retX (v := none) d_M_perform_228 (by first | exact Nat.le_refl _ | exact Nat.zero_le _ | (dsimp only; omega)) (by first | exact Nat.le_refl _ | exact Nat.zero_le _ | (dsimp only; omega)) (by first | with_reducible rfl | (dsimp only; (repeat (first | rw [if_pos (by grind)] | rw [if_neg (by grind)])); done) | (exfalso; grind)) (by first | with_reducible rfl | (dsimp only; (repeat (first | rw [if_pos (by grind)] | rw [if_neg (by grind)])); done) | (exfalso; grind)) (by first | with_reducible rfl | (dsimp only; (repeat (first | rw [if_pos (by grind)] | rw [if_neg (by grind)])); done) | (exfalso; grind)) (by first | with_reducible rfl | (dsimp only; (repeat (first | rw [if_pos (by grind)] | rw [if_neg (by grind)])); done) | (exfalso; grind))
      · skip
        by_cases g1_15 : x1 = 15 ∨ x1 = 16 ∨ x1 = 17 ∨ x1 = 20 ∨ x1 = 21 ∨ x1 = 23 ∨ x1 = 24
        · refine jr_tableIn (tgt := 200) d_M_perform_1 (by rcases g1_15 with rfl | rfl | rfl | rfl | rfl | rfl | rfl <;> decide) (by rcases g1_15 with rfl | rfl | rfl | rfl | rfl | rfl | rfl <;> decide) (by rcases g1_15 with rfl | rfl | rfl | rfl | rfl | rfl | rfl <;> rfl) (by decide) ?_
          exfalso; grind (splits := 60)
        · skip
          by_cases g1_18 : x1 = 18
          · refine jr_tableIn (tgt := 134) d_M_perform_1 (by rcases g1_18 with rfl <;> decide) (by rcases g1_18 with rfl <;> decide) (by rcases g1_18 with rfl <;> rfl) (by decide) ?_
            exfalso; grind (splits := 60)
          · skip
            by_cases g1_19 : x1 = 19
            · refine jr_tableIn (tgt := 152) d_M_perform_1 (by rcases g1_19 with rfl <;> decide) (by rcases g1_19 with rfl <;> decide) (by rcases g1_19 with rfl <;> rfl) (by decide) ?_
              exfalso; grind (splits := 60)
            · skip
              by_cases g1_22 : x1 = 22
              · refine jr_tableIn (tgt := 164) d_M_perform_1 (by rcases g1_22 with rfl <;> decide) (by rcases g1_22 with rfl <;> decide) (by rcases g1_22 with rfl <;> rfl) (by decide) ?_
                exfalso; grind (splits := 60)
              · skip
                refine jr_tableE (tgt := 216) d_M_perform_1 (by rcases j_4_24 x1 with h | h | rfl | rfl | rfl | rfl | rfl | rfl | rfl | rfl | rfl | rfl | rfl | rfl | rfl | rfl | rfl | rfl | rfl | rfl | rfl | rfl | rfl <;> first | exact Or.inl ⟨Or.inl (Int32.lt_iff_toInt_lt.mp h), by decide⟩ | exact Or.inl ⟨Or.inr (Int32.lt_iff_toInt_lt.mp h), by decide⟩ | exact Or.inr ⟨by decide, by decide, _, rfl, by decide⟩ | (exfalso; grind)) ?_
                exfalso; grind (splits := 60)
theorem ct_M_perform_arith {I : jc_I} {O : jc_O} {live : jc_L → Prop} {t j c : Nat} {op a : Int32} (hf : jw_f O t j) (hd : jw_d I t j) (ho : op = 4 ∨ op = 5 ∨ op = 6 ∨ op = 7 ∨ op = 8) : jc_Ct y_M_perform [.inr (some (4, 0, 0)), .inr (some (9, t, 0)), .inr (some (8, t, j)), .inl op, .inl a] I O live (none, f_on (f_psh (f_pop (f_pop I t j) t j) t j (m_cp op (f_tp (f_pop I t j) t j) (f_tp I t j))) t j, O, live, 0, 0) := by
  refine jc_Ct.of (by decide +kernel) (rfl) (Nat.le_of_ble_eq_true rfl) ?_
  refine jr_iload_n d_M_perform_0 rfl rfl ?_
  refine jr_name (fun x1 e1 => ?_)
  by_cases g1_4 : x1 = 4 ∨ x1 = 5 ∨ x1 = 6 ∨ x1 = 7 ∨ x1 = 8
  · refine jr_tableIn (tgt := 173) d_M_perform_1 (by rcases g1_4 with rfl | rfl | rfl | rfl | rfl <;> decide) (by rcases g1_4 with rfl | rfl | rfl | rfl | rfl <;> decide) (by rcases g1_4 with rfl | rfl | rfl | rfl | rfl <;> rfl) (by decide) ?_
    refine jr_aload_n d_M_perform_173 rfl rfl ?_
    refine jv_V0r d_M_perform_174 l_M_162 k_F_pop ⟨Nat.le_of_ble_eq_true rfl, Nat.le_of_ble_eq_true rfl⟩ rfl rfl (Nat.le_of_ble_eq_true rfl) (show jc_Ct y_F_pop _ _ _ _ (some (.inl (f_tp _ _ _)), f_pop _ _ _, _, _, 0, 0) from ct_F_pop hf.1 hd.2) (by first | decide | (dsimp only; omega) | (dsimp only; grind)) (by first | decide | (dsimp only; omega) | (dsimp only; grind)) ?_
    refine jr_istore d_M_perform_177 (Nat.le_of_ble_eq_true rfl) ?_
    refine jr_aload_n d_M_perform_179 rfl rfl ?_
    refine jr_iload_n d_M_perform_180 rfl rfl ?_
    refine jr_aload_n d_M_perform_181 rfl rfl ?_
    refine jv_V0r d_M_perform_182 l_M_162 k_F_pop ⟨Nat.le_of_ble_eq_true rfl, Nat.le_of_ble_eq_true rfl⟩ rfl rfl (Nat.le_of_ble_eq_true rfl) (show jc_Ct y_F_pop _ _ _ _ (some (.inl (f_tp _ _ _)), f_pop _ _ _, _, _, 0, 0) from ct_F_pop hf.1 hd.pop.2) (by first | decide | (dsimp only; omega) | (dsimp only; grind)) (by first | decide | (dsimp only; omega) | (dsimp only; grind)) ?_
    refine jr_iload d_M_perform_185 rfl ?_
    refine jv_S3r d_M_perform_187 l_M_173 k_M_compute ⟨Nat.le_of_ble_eq_true rfl, Nat.le_of_ble_eq_true rfl⟩ (Nat.le_of_ble_eq_true rfl) (show jc_Ct y_M_compute _ _ _ _ (some (.inl (m_cp _ _ _)), _, _, _, 0, 0) from ct_M_compute) (by first | decide | (dsimp only; omega) | (dsimp only; grind)) (by first | decide | (dsimp only; omega) | (dsimp only; grind)) ?_
    refine jv_V1v d_M_perform_190 l_M_177 k_F_push ⟨Nat.le_of_ble_eq_true rfl, Nat.le_of_ble_eq_true rfl⟩ rfl rfl (Nat.le_of_ble_eq_true rfl) (show jc_Ct y_F_push _ _ _ _ (none, f_psh _ _ _ _, _, _, 0, 0) from ct_F_push hf.1) (by first | decide | (dsimp only; omega) | (dsimp only; grind)) (by first | decide | (dsimp only; omega) | (dsimp only; grind)) ?_
    refine jr_aload_n d_M_perform_193 rfl rfl ?_
    refine jv_V0v d_M_perform_194 l_M_180 k_F_goOn ⟨Nat.le_of_ble_eq_true rfl, Nat.le_of_ble_eq_true rfl⟩ rfl rfl (Nat.le_of_ble_eq_true rfl) (show jc_Ct y_F_goOn _ _ _ _ (none, f_on _ _ _, _, _, 0, 0) from ct_F_goOn) (by first | decide | (dsimp only; omega) | (dsimp only; grind)) (by first | decide | (dsimp only; omega) | (dsimp only; grind)) ?_
    refine jr_goto (tgt := 228) d_M_perform_197 (by decide) ?_
    exact jr_retX (v := none) d_M_perform_228 (by first | exact Nat.le_refl _ | exact Nat.zero_le _ | (dsimp only; omega)) (by first | exact Nat.le_refl _ | exact Nat.zero_le _ | (dsimp only; omega)) (by first | with_reducible rfl | (dsimp only; rfl; done) | (exfalso; grind)) (by first | with_reducible rfl | (dsimp only; rfl; done) | (exfalso; grind)) (by first | with_reducible rfl | (dsimp only; rfl; done) | (exfalso; grind)) (by first | with_reducible rfl | (dsimp only; rfl; done) | (exfalso; grind))
  · skip
    by_cases g1_11 : x1 = 11
    · refine jr_tableIn (tgt := 100) d_M_perform_1 (by rcases g1_11 with rfl <;> decide) (by rcases g1_11 with rfl <;> decide) (by rcases g1_11 with rfl <;> rfl) (by decide) ?_
      exfalso; grind (splits := 60)
    · skip
      by_cases g1_12 : x1 = 12 ∨ x1 = 13
      · refine jr_tableIn (tgt := 109) d_M_perform_1 (by rcases g1_12 with rfl | rfl <;> decide) (by rcases g1_12 with rfl | rfl <;> decide) (by rcases g1_12 with rfl | rfl <;> rfl) (by decide) ?_
        exfalso; grind (splits := 60)
      · skip
        by_cases g1_15 : x1 = 15 ∨ x1 = 16 ∨ x1 = 17 ∨ x1 = 20 ∨ x1 = 21 ∨ x1 = 23 ∨ x1 = 24
        · refine jr_tableIn (tgt := 200) d_M_perform_1 (by rcases g1_15 with rfl | rfl | rfl | rfl | rfl | rfl | rfl <;> decide) (by rcases g1_15 with rfl | rfl | rfl | rfl | rfl | rfl | rfl <;> decide) (by rcases g1_15 with rfl | rfl | rfl | rfl | rfl | rfl | rfl <;> rfl) (by decide) ?_
          exfalso; grind (splits := 60)
        · skip
          by_cases g1_18 : x1 = 18
          · refine jr_tableIn (tgt := 134) d_M_perform_1 (by rcases g1_18 with rfl <;> decide) (by rcases g1_18 with rfl <;> decide) (by rcases g1_18 with rfl <;> rfl) (by decide) ?_
            exfalso; grind (splits := 60)
          · skip
            by_cases g1_19 : x1 = 19
            · refine jr_tableIn (tgt := 152) d_M_perform_1 (by rcases g1_19 with rfl <;> decide) (by rcases g1_19 with rfl <;> decide) (by rcases g1_19 with rfl <;> rfl) (by decide) ?_
              exfalso; grind (splits := 60)
            · skip
              by_cases g1_22 : x1 = 22
              · refine jr_tableIn (tgt := 164) d_M_perform_1 (by rcases g1_22 with rfl <;> decide) (by rcases g1_22 with rfl <;> decide) (by rcases g1_22 with rfl <;> rfl) (by decide) ?_
                exfalso; grind (splits := 60)
              · skip
                refine jr_tableE (tgt := 216) d_M_perform_1 (by rcases j_4_24 x1 with h | h | rfl | rfl | rfl | rfl | rfl | rfl | rfl | rfl | rfl | rfl | rfl | rfl | rfl | rfl | rfl | rfl | rfl | rfl | rfl | rfl | rfl <;> first | exact Or.inl ⟨Or.inl (Int32.lt_iff_toInt_lt.mp h), by decide⟩ | exact Or.inl ⟨Or.inr (Int32.lt_iff_toInt_lt.mp h), by decide⟩ | exact Or.inr ⟨by decide, by decide, _, rfl, by decide⟩ | (exfalso; grind)) ?_
                exfalso; grind (splits := 60)
theorem ct_M_perform_use {I : jc_I} {O : jc_O} {live : jc_L → Prop} {t j c : Nat} {op a : Int32} (hM : jw_M O) (hH : jw_H I O) (hf : jw_f O t j) (hd : jw_d I t j) (ho : op = 15 ∨ op = 16 ∨ op = 17 ∨ op = 20 ∨ op = 21 ∨ op = 23 ∨ op = 24) : jc_Ct y_M_perform [.inr (some (4, 0, 0)), .inr (some (9, t, 0)), .inr (some (8, t, j)), .inl op, .inl a] I O live (none, f_on (u_th I t j op a) t j, O, live, 0, 0) := by
  refine jc_Ct.of (by decide +kernel) (rfl) (Nat.le_of_ble_eq_true rfl) ?_
  refine jr_iload_n d_M_perform_0 rfl rfl ?_
  refine jr_name (fun x1 e1 => ?_)
  by_cases g1_4 : x1 = 4 ∨ x1 = 5 ∨ x1 = 6 ∨ x1 = 7 ∨ x1 = 8
  · refine jr_tableIn (tgt := 173) d_M_perform_1 (by rcases g1_4 with rfl | rfl | rfl | rfl | rfl <;> decide) (by rcases g1_4 with rfl | rfl | rfl | rfl | rfl <;> decide) (by rcases g1_4 with rfl | rfl | rfl | rfl | rfl <;> rfl) (by decide) ?_
    exfalso; grind (splits := 60)
  · skip
    by_cases g1_11 : x1 = 11
    · refine jr_tableIn (tgt := 100) d_M_perform_1 (by rcases g1_11 with rfl <;> decide) (by rcases g1_11 with rfl <;> decide) (by rcases g1_11 with rfl <;> rfl) (by decide) ?_
      exfalso; grind (splits := 60)
    · skip
      by_cases g1_12 : x1 = 12 ∨ x1 = 13
      · refine jr_tableIn (tgt := 109) d_M_perform_1 (by rcases g1_12 with rfl | rfl <;> decide) (by rcases g1_12 with rfl | rfl <;> decide) (by rcases g1_12 with rfl | rfl <;> rfl) (by decide) ?_
        exfalso; grind (splits := 60)
      · skip
        by_cases g1_15 : x1 = 15 ∨ x1 = 16 ∨ x1 = 17 ∨ x1 = 20 ∨ x1 = 21 ∨ x1 = 23 ∨ x1 = 24
        · refine jr_tableIn (tgt := 200) d_M_perform_1 (by rcases g1_15 with rfl | rfl | rfl | rfl | rfl | rfl | rfl <;> decide) (by rcases g1_15 with rfl | rfl | rfl | rfl | rfl | rfl | rfl <;> decide) (by rcases g1_15 with rfl | rfl | rfl | rfl | rfl | rfl | rfl <;> rfl) (by decide) ?_
          refine jr_aload_n d_M_perform_200 rfl rfl ?_
          refine jr_aload_n d_M_perform_201 rfl rfl ?_
          refine jr_aload_n d_M_perform_202 rfl rfl ?_
          refine jr_iload_n d_M_perform_203 rfl rfl ?_
          refine jr_iload d_M_perform_204 rfl ?_
          refine jv_V4v d_M_perform_206 l_M_183 k_M_useThing ⟨Nat.le_of_ble_eq_true rfl, Nat.le_of_ble_eq_true rfl⟩ rfl rfl (Nat.le_of_ble_eq_true rfl) (ct_M_useThing hM hH hf hd) (by first | decide | (dsimp only; omega) | (dsimp only; grind)) (by first | decide | (dsimp only; omega) | (dsimp only; grind)) ?_
          refine jr_aload_n d_M_perform_209 rfl rfl ?_
          refine jv_V0v d_M_perform_210 l_M_180 k_F_goOn ⟨Nat.le_of_ble_eq_true rfl, Nat.le_of_ble_eq_true rfl⟩ rfl rfl (Nat.le_of_ble_eq_true rfl) (show jc_Ct y_F_goOn _ _ _ _ (none, f_on _ _ _, _, _, 0, 0) from ct_F_goOn) (by first | decide | (dsimp only; omega) | (dsimp only; grind)) (by first | decide | (dsimp only; omega) | (dsimp only; grind)) ?_
          refine jr_goto (tgt := 228) d_M_perform_213 (by decide) ?_
          exact jr_retX (v := none) d_M_perform_228 (by first | exact Nat.le_refl _ | exact Nat.zero_le _ | (dsimp only; omega)) (by first | exact Nat.le_refl _ | exact Nat.zero_le _ | (dsimp only; omega)) (by first | with_reducible rfl | (dsimp only; rfl; done) | (exfalso; grind)) (by first | with_reducible rfl | (dsimp only; rfl; done) | (exfalso; grind)) (by first | with_reducible rfl | (dsimp only; rfl; done) | (exfalso; grind)) (by first | with_reducible rfl | (dsimp only; rfl; done) | (exfalso; grind))
        · skip
          by_cases g1_18 : x1 = 18
          · refine jr_tableIn (tgt := 134) d_M_perform_1 (by rcases g1_18 with rfl <;> decide) (by rcases g1_18 with rfl <;> decide) (by rcases g1_18 with rfl <;> rfl) (by decide) ?_
            exfalso; grind (splits := 60)
          · skip
            by_cases g1_19 : x1 = 19
            · refine jr_tableIn (tgt := 152) d_M_perform_1 (by rcases g1_19 with rfl <;> decide) (by rcases g1_19 with rfl <;> decide) (by rcases g1_19 with rfl <;> rfl) (by decide) ?_
              exfalso; grind (splits := 60)
            · skip
              by_cases g1_22 : x1 = 22
              · refine jr_tableIn (tgt := 164) d_M_perform_1 (by rcases g1_22 with rfl <;> decide) (by rcases g1_22 with rfl <;> decide) (by rcases g1_22 with rfl <;> rfl) (by decide) ?_
                exfalso; grind (splits := 60)
              · skip
                refine jr_tableE (tgt := 216) d_M_perform_1 (by rcases j_4_24 x1 with h | h | rfl | rfl | rfl | rfl | rfl | rfl | rfl | rfl | rfl | rfl | rfl | rfl | rfl | rfl | rfl | rfl | rfl | rfl | rfl | rfl | rfl <;> first | exact Or.inl ⟨Or.inl (Int32.lt_iff_toInt_lt.mp h), by decide⟩ | exact Or.inl ⟨Or.inr (Int32.lt_iff_toInt_lt.mp h), by decide⟩ | exact Or.inr ⟨by decide, by decide, _, rfl, by decide⟩ | (exfalso; grind)) ?_
                exfalso; grind (splits := 60)
theorem ct_M_perform_throw {I : jc_I} {O : jc_O} {live : jc_L → Prop} {t j c : Nat} {op a : Int32} (hM : jw_M O) (hH : jw_H I O) (hf : jw_f O t j) (hd : jw_d I t j) (hA : jw_A I O) (hT : jw_T I O t) (ho : op = 19) : jc_Ct y_M_perform [.inr (some (4, 0, 0)), .inr (some (9, t, 0)), .inr (some (8, t, j)), .inl op, .inl a] I O live (none, m_rse (f_pop I t j) O t (f_tp I t j), O, live, 0, 0) := by
  refine jc_Ct.of (by decide +kernel) (rfl) (Nat.le_of_ble_eq_true rfl) ?_
  refine jr_iload_n d_M_perform_0 rfl rfl ?_
  refine jr_name (fun x1 e1 => ?_)
  by_cases g1_4 : x1 = 4 ∨ x1 = 5 ∨ x1 = 6 ∨ x1 = 7 ∨ x1 = 8
  · refine jr_tableIn (tgt := 173) d_M_perform_1 (by rcases g1_4 with rfl | rfl | rfl | rfl | rfl <;> decide) (by rcases g1_4 with rfl | rfl | rfl | rfl | rfl <;> decide) (by rcases g1_4 with rfl | rfl | rfl | rfl | rfl <;> rfl) (by decide) ?_
    exfalso; grind (splits := 60)
  · skip
    by_cases g1_11 : x1 = 11
    · refine jr_tableIn (tgt := 100) d_M_perform_1 (by rcases g1_11 with rfl <;> decide) (by rcases g1_11 with rfl <;> decide) (by rcases g1_11 with rfl <;> rfl) (by decide) ?_
      exfalso; grind (splits := 60)
    · skip
      by_cases g1_12 : x1 = 12 ∨ x1 = 13
      · refine jr_tableIn (tgt := 109) d_M_perform_1 (by rcases g1_12 with rfl | rfl <;> decide) (by rcases g1_12 with rfl | rfl <;> decide) (by rcases g1_12 with rfl | rfl <;> rfl) (by decide) ?_
        exfalso; grind (splits := 60)
      · skip
        by_cases g1_15 : x1 = 15 ∨ x1 = 16 ∨ x1 = 17 ∨ x1 = 20 ∨ x1 = 21 ∨ x1 = 23 ∨ x1 = 24
        · refine jr_tableIn (tgt := 200) d_M_perform_1 (by rcases g1_15 with rfl | rfl | rfl | rfl | rfl | rfl | rfl <;> decide) (by rcases g1_15 with rfl | rfl | rfl | rfl | rfl | rfl | rfl <;> decide) (by rcases g1_15 with rfl | rfl | rfl | rfl | rfl | rfl | rfl <;> rfl) (by decide) ?_
          exfalso; grind (splits := 60)
        · skip
          by_cases g1_18 : x1 = 18
          · refine jr_tableIn (tgt := 134) d_M_perform_1 (by rcases g1_18 with rfl <;> decide) (by rcases g1_18 with rfl <;> decide) (by rcases g1_18 with rfl <;> rfl) (by decide) ?_
            exfalso; grind (splits := 60)
          · skip
            by_cases g1_19 : x1 = 19
            · refine jr_tableIn (tgt := 152) d_M_perform_1 (by rcases g1_19 with rfl <;> decide) (by rcases g1_19 with rfl <;> decide) (by rcases g1_19 with rfl <;> rfl) (by decide) ?_
              refine jr_aload_n d_M_perform_152 rfl rfl ?_
              refine jr_aload_n d_M_perform_153 rfl rfl ?_
              refine jr_aload_n d_M_perform_154 rfl rfl ?_
              refine jv_V0r d_M_perform_155 l_M_162 k_F_pop ⟨Nat.le_of_ble_eq_true rfl, Nat.le_of_ble_eq_true rfl⟩ rfl rfl (Nat.le_of_ble_eq_true rfl) (show jc_Ct y_F_pop _ _ _ _ (some (.inl (f_tp _ _ _)), f_pop _ _ _, _, _, 0, 0) from ct_F_pop hf.1 hd.2) (by first | decide | (dsimp only; omega) | (dsimp only; grind)) (by first | decide | (dsimp only; omega) | (dsimp only; grind)) ?_
              refine jv_V2v d_M_perform_158 l_M_142 k_M_raise ⟨Nat.le_of_ble_eq_true rfl, Nat.le_of_ble_eq_true rfl⟩ rfl rfl (Nat.le_of_ble_eq_true rfl) (ct_M_raise hM (hH.to (f_pop_t (by decide))) (jk_pop.A (by decide) (by decide) hA) hT.pop) (by first | decide | (dsimp only; omega) | (dsimp only; grind)) (by first | decide | (dsimp only; omega) | (dsimp only; grind)) ?_
              refine jr_goto (tgt := 228) d_M_perform_161 (by decide) ?_
              exact jr_retX (v := none) d_M_perform_228 (by first | exact Nat.le_refl _ | exact Nat.zero_le _ | (dsimp only; omega)) (by first | exact Nat.le_refl _ | exact Nat.zero_le _ | (dsimp only; omega)) (by first | with_reducible rfl | (dsimp only; rfl; done) | (exfalso; grind)) (by first | with_reducible rfl | (dsimp only; rfl; done) | (exfalso; grind)) (by first | with_reducible rfl | (dsimp only; rfl; done) | (exfalso; grind)) (by first | with_reducible rfl | (dsimp only; rfl; done) | (exfalso; grind))
            · skip
              by_cases g1_22 : x1 = 22
              · refine jr_tableIn (tgt := 164) d_M_perform_1 (by rcases g1_22 with rfl <;> decide) (by rcases g1_22 with rfl <;> decide) (by rcases g1_22 with rfl <;> rfl) (by decide) ?_
                exfalso; grind (splits := 60)
              · skip
                refine jr_tableE (tgt := 216) d_M_perform_1 (by rcases j_4_24 x1 with h | h | rfl | rfl | rfl | rfl | rfl | rfl | rfl | rfl | rfl | rfl | rfl | rfl | rfl | rfl | rfl | rfl | rfl | rfl | rfl | rfl | rfl <;> first | exact Or.inl ⟨Or.inl (Int32.lt_iff_toInt_lt.mp h), by decide⟩ | exact Or.inl ⟨Or.inr (Int32.lt_iff_toInt_lt.mp h), by decide⟩ | exact Or.inr ⟨by decide, by decide, _, rfl, by decide⟩ | (exfalso; grind)) ?_
                exfalso; grind (splits := 60)
theorem ct_M_perform_call {I : jc_I} {O : jc_O} {live : jc_L → Prop} {t j c : Nat} {op a : Int32} (hM : jw_M O) (hA : jw_A I O) (h1 : O (9, t, 0) 1 = some (34, t, 0)) (hp : 0 ≤ I (9, t, 0) 2) (hlt : I (9, t, 0) 2 < 30) (hj : O (34, t, 0) (I (9, t, 0) 2).toNatClampNeg = some (8, t, (I (9, t, 0) 2).toNatClampNeg)) (hg : jw_f O t (I (9, t, 0) 2).toNatClampNeg) (hf : jw_f O t j) (hd : jw_d I t j) (hne : j ≠ (I (9, t, 0) 2).toNatClampNeg) (ha : 0 ≤ a ∧ a < I (1, 0, 0) 1) (ho : op = 18) : jc_Ct y_M_perform [.inr (some (4, 0, 0)), .inr (some (9, t, 0)), .inr (some (8, t, j)), .inl op, .inl a] I O live (none, m_ccI I t j a.toNatClampNeg, m_ccO I O t a.toNatClampNeg, live, 0, 0) := by
  obtain ⟨m0, m1, m2, m3⟩ := id hM
  refine jc_Ct.of (by decide +kernel) (rfl) (Nat.le_of_ble_eq_true rfl) ?_
  refine jr_iload_n d_M_perform_0 rfl rfl ?_
  refine jr_name (fun x1 e1 => ?_)
  by_cases g1_4 : x1 = 4 ∨ x1 = 5 ∨ x1 = 6 ∨ x1 = 7 ∨ x1 = 8
  · refine jr_tableIn (tgt := 173) d_M_perform_1 (by rcases g1_4 with rfl | rfl | rfl | rfl | rfl <;> decide) (by rcases g1_4 with rfl | rfl | rfl | rfl | rfl <;> decide) (by rcases g1_4 with rfl | rfl | rfl | rfl | rfl <;> rfl) (by decide) ?_
    exfalso; grind (splits := 60)
  · skip
    by_cases g1_11 : x1 = 11
    · refine jr_tableIn (tgt := 100) d_M_perform_1 (by rcases g1_11 with rfl <;> decide) (by rcases g1_11 with rfl <;> decide) (by rcases g1_11 with rfl <;> rfl) (by decide) ?_
      exfalso; grind (splits := 60)
    · skip
      by_cases g1_12 : x1 = 12 ∨ x1 = 13
      · refine jr_tableIn (tgt := 109) d_M_perform_1 (by rcases g1_12 with rfl | rfl <;> decide) (by rcases g1_12 with rfl | rfl <;> decide) (by rcases g1_12 with rfl | rfl <;> rfl) (by decide) ?_
        exfalso; grind (splits := 60)
      · skip
        by_cases g1_15 : x1 = 15 ∨ x1 = 16 ∨ x1 = 17 ∨ x1 = 20 ∨ x1 = 21 ∨ x1 = 23 ∨ x1 = 24
        · refine jr_tableIn (tgt := 200) d_M_perform_1 (by rcases g1_15 with rfl | rfl | rfl | rfl | rfl | rfl | rfl <;> decide) (by rcases g1_15 with rfl | rfl | rfl | rfl | rfl | rfl | rfl <;> decide) (by rcases g1_15 with rfl | rfl | rfl | rfl | rfl | rfl | rfl <;> rfl) (by decide) ?_
          exfalso; grind (splits := 60)
        · skip
          by_cases g1_18 : x1 = 18
          · refine jr_tableIn (tgt := 134) d_M_perform_1 (by rcases g1_18 with rfl <;> decide) (by rcases g1_18 with rfl <;> decide) (by rcases g1_18 with rfl <;> rfl) (by decide) ?_
            refine jr_aload_n d_M_perform_134 rfl rfl ?_
            refine jr_aload_n d_M_perform_135 rfl rfl ?_
            refine jr_aload_n d_M_perform_136 rfl rfl ?_
            refine jr_aload_n d_M_perform_137 rfl rfl ?_
            refine jr_getr d_M_perform_138 f_M_17 rfl rfl ?_
            first | rw [m0] | rw [m1] | rw [m2] | rw [m3] | skip
            refine jr_iload d_M_perform_141 rfl ?_
            refine jv_V1r d_M_perform_143 l_M_33 k_Cs_find ⟨Nat.le_of_ble_eq_true rfl, Nat.le_of_ble_eq_true rfl⟩ rfl rfl (Nat.le_of_ble_eq_true rfl) (ct_Cs_find hA.1 hA.2.2.1) (by first | decide | (dsimp only; omega) | (dsimp only; grind)) (by first | decide | (dsimp only; omega) | (dsimp only; grind)) ?_
            first | rw [m0] | rw [m1] | rw [m2] | rw [m3] | skip
            (have bA := hA.2.2.2 a.toNatClampNeg (jlN ha.1 ha.2)); rw [if_pos ha, bA.1]
            refine jv_V3v d_M_perform_146 l_M_165 k_M_callCode ⟨Nat.le_of_ble_eq_true rfl, Nat.le_of_ble_eq_true rfl⟩ rfl rfl (Nat.le_of_ble_eq_true rfl) (ct_M_callCode h1 hp hlt hj hg hf hd hne bA.2.2.2.2.2.1) (by first | decide | (dsimp only; omega) | (dsimp only; grind)) (by first | decide | (dsimp only; omega) | (dsimp only; grind)) ?_
            refine jr_goto (tgt := 228) d_M_perform_149 (by decide) ?_
            exact jr_retX (v := none) d_M_perform_228 (by first | exact Nat.le_refl _ | exact Nat.zero_le _ | (dsimp only; omega)) (by first | exact Nat.le_refl _ | exact Nat.zero_le _ | (dsimp only; omega)) (by first | with_reducible rfl | (dsimp only; rfl; done) | (exfalso; grind)) (by first | with_reducible rfl | (dsimp only; rfl; done) | (exfalso; grind)) (by first | with_reducible rfl | (dsimp only; rfl; done) | (exfalso; grind)) (by first | with_reducible rfl | (dsimp only; rfl; done) | (exfalso; grind))
          · skip
            by_cases g1_19 : x1 = 19
            · refine jr_tableIn (tgt := 152) d_M_perform_1 (by rcases g1_19 with rfl <;> decide) (by rcases g1_19 with rfl <;> decide) (by rcases g1_19 with rfl <;> rfl) (by decide) ?_
              exfalso; grind (splits := 60)
            · skip
              by_cases g1_22 : x1 = 22
              · refine jr_tableIn (tgt := 164) d_M_perform_1 (by rcases g1_22 with rfl <;> decide) (by rcases g1_22 with rfl <;> decide) (by rcases g1_22 with rfl <;> rfl) (by decide) ?_
                exfalso; grind (splits := 60)
              · skip
                refine jr_tableE (tgt := 216) d_M_perform_1 (by rcases j_4_24 x1 with h | h | rfl | rfl | rfl | rfl | rfl | rfl | rfl | rfl | rfl | rfl | rfl | rfl | rfl | rfl | rfl | rfl | rfl | rfl | rfl | rfl | rfl <;> first | exact Or.inl ⟨Or.inl (Int32.lt_iff_toInt_lt.mp h), by decide⟩ | exact Or.inl ⟨Or.inr (Int32.lt_iff_toInt_lt.mp h), by decide⟩ | exact Or.inr ⟨by decide, by decide, _, rfl, by decide⟩ | (exfalso; grind)) ?_
                exfalso; grind (splits := 60)
theorem ct_M_perform_ret0 {I : jc_I} {O : jc_O} {live : jc_L → Prop} {t j c : Nat} {op a : Int32} (hM : jw_M O) (hH : jw_H I O) (hf : jw_f O t j) (hd : jw_d I t j) (hc : O (8, t, j) 2 = some (6, c, 0)) (h1 : O (9, t, 0) 1 = some (34, t, 0)) (h0 : I (9, t, 0) 2 = 1) (ho : op = 22) : jc_Ct y_M_perform [.inr (some (4, 0, 0)), .inr (some (9, t, 0)), .inr (some (8, t, j)), .inl op, .inl a] I O live (none, m_gb0 I t j c, O, live, 0, 0) := by
  refine jc_Ct.of (by decide +kernel) (rfl) (Nat.le_of_ble_eq_true rfl) ?_
  refine jr_iload_n d_M_perform_0 rfl rfl ?_
  refine jr_name (fun x1 e1 => ?_)
  by_cases g1_4 : x1 = 4 ∨ x1 = 5 ∨ x1 = 6 ∨ x1 = 7 ∨ x1 = 8
  · refine jr_tableIn (tgt := 173) d_M_perform_1 (by rcases g1_4 with rfl | rfl | rfl | rfl | rfl <;> decide) (by rcases g1_4 with rfl | rfl | rfl | rfl | rfl <;> decide) (by rcases g1_4 with rfl | rfl | rfl | rfl | rfl <;> rfl) (by decide) ?_
    exfalso; grind (splits := 60)
  · skip
    by_cases g1_11 : x1 = 11
    · refine jr_tableIn (tgt := 100) d_M_perform_1 (by rcases g1_11 with rfl <;> decide) (by rcases g1_11 with rfl <;> decide) (by rcases g1_11 with rfl <;> rfl) (by decide) ?_
      exfalso; grind (splits := 60)
    · skip
      by_cases g1_12 : x1 = 12 ∨ x1 = 13
      · refine jr_tableIn (tgt := 109) d_M_perform_1 (by rcases g1_12 with rfl | rfl <;> decide) (by rcases g1_12 with rfl | rfl <;> decide) (by rcases g1_12 with rfl | rfl <;> rfl) (by decide) ?_
        exfalso; grind (splits := 60)
      · skip
        by_cases g1_15 : x1 = 15 ∨ x1 = 16 ∨ x1 = 17 ∨ x1 = 20 ∨ x1 = 21 ∨ x1 = 23 ∨ x1 = 24
        · refine jr_tableIn (tgt := 200) d_M_perform_1 (by rcases g1_15 with rfl | rfl | rfl | rfl | rfl | rfl | rfl <;> decide) (by rcases g1_15 with rfl | rfl | rfl | rfl | rfl | rfl | rfl <;> decide) (by rcases g1_15 with rfl | rfl | rfl | rfl | rfl | rfl | rfl <;> rfl) (by decide) ?_
          exfalso; grind (splits := 60)
        · skip
          by_cases g1_18 : x1 = 18
          · refine jr_tableIn (tgt := 134) d_M_perform_1 (by rcases g1_18 with rfl <;> decide) (by rcases g1_18 with rfl <;> decide) (by rcases g1_18 with rfl <;> rfl) (by decide) ?_
            exfalso; grind (splits := 60)
          · skip
            by_cases g1_19 : x1 = 19
            · refine jr_tableIn (tgt := 152) d_M_perform_1 (by rcases g1_19 with rfl <;> decide) (by rcases g1_19 with rfl <;> decide) (by rcases g1_19 with rfl <;> rfl) (by decide) ?_
              exfalso; grind (splits := 60)
            · skip
              by_cases g1_22 : x1 = 22
              · refine jr_tableIn (tgt := 164) d_M_perform_1 (by rcases g1_22 with rfl <;> decide) (by rcases g1_22 with rfl <;> decide) (by rcases g1_22 with rfl <;> rfl) (by decide) ?_
                refine jr_aload_n d_M_perform_164 rfl rfl ?_
                refine jr_aload_n d_M_perform_165 rfl rfl ?_
                refine jr_aload_n d_M_perform_166 rfl rfl ?_
                refine jv_V2v d_M_perform_167 l_M_169 k_M_giveBack ⟨Nat.le_of_ble_eq_true rfl, Nat.le_of_ble_eq_true rfl⟩ rfl rfl (Nat.le_of_ble_eq_true rfl) (ct_M_giveBack0 hM hH hf hd hc h1 h0) (by first | decide | (dsimp only; omega) | (dsimp only; grind)) (by first | decide | (dsimp only; omega) | (dsimp only; grind)) ?_
                refine jr_goto (tgt := 228) d_M_perform_170 (by decide) ?_
                exact jr_retX (v := none) d_M_perform_228 (by first | exact Nat.le_refl _ | exact Nat.zero_le _ | (dsimp only; omega)) (by first | exact Nat.le_refl _ | exact Nat.zero_le _ | (dsimp only; omega)) (by first | with_reducible rfl | (dsimp only; rfl; done) | (exfalso; grind)) (by first | with_reducible rfl | (dsimp only; rfl; done) | (exfalso; grind)) (by first | with_reducible rfl | (dsimp only; rfl; done) | (exfalso; grind)) (by first | with_reducible rfl | (dsimp only; rfl; done) | (exfalso; grind))
              · skip
                refine jr_tableE (tgt := 216) d_M_perform_1 (by rcases j_4_24 x1 with h | h | rfl | rfl | rfl | rfl | rfl | rfl | rfl | rfl | rfl | rfl | rfl | rfl | rfl | rfl | rfl | rfl | rfl | rfl | rfl | rfl | rfl <;> first | exact Or.inl ⟨Or.inl (Int32.lt_iff_toInt_lt.mp h), by decide⟩ | exact Or.inl ⟨Or.inr (Int32.lt_iff_toInt_lt.mp h), by decide⟩ | exact Or.inr ⟨by decide, by decide, _, rfl, by decide⟩ | (exfalso; grind)) ?_
                exfalso; grind (splits := 60)
theorem ct_M_perform_ret1 {I : jc_I} {O : jc_O} {live : jc_L → Prop} {t j c i : Nat} {op a : Int32} (hf : jw_f O t j) (hd : jw_d I t j) (hc : O (8, t, j) 2 = some (6, c, 0)) (hi : jw_f O t i) (hT2 : jw_top (s_ef I t) O t i) (ho : op = 22) : jc_Ct y_M_perform [.inr (some (4, 0, 0)), .inr (some (9, t, 0)), .inr (some (8, t, j)), .inl op, .inl a] I O live (none, m_gb1 I t j i c, O, live, 0, 0) := by
  refine jc_Ct.of (by decide +kernel) (rfl) (Nat.le_of_ble_eq_true rfl) ?_
  refine jr_iload_n d_M_perform_0 rfl rfl ?_
  refine jr_name (fun x1 e1 => ?_)
  by_cases g1_4 : x1 = 4 ∨ x1 = 5 ∨ x1 = 6 ∨ x1 = 7 ∨ x1 = 8
  · refine jr_tableIn (tgt := 173) d_M_perform_1 (by rcases g1_4 with rfl | rfl | rfl | rfl | rfl <;> decide) (by rcases g1_4 with rfl | rfl | rfl | rfl | rfl <;> decide) (by rcases g1_4 with rfl | rfl | rfl | rfl | rfl <;> rfl) (by decide) ?_
    exfalso; grind (splits := 60)
  · skip
    by_cases g1_11 : x1 = 11
    · refine jr_tableIn (tgt := 100) d_M_perform_1 (by rcases g1_11 with rfl <;> decide) (by rcases g1_11 with rfl <;> decide) (by rcases g1_11 with rfl <;> rfl) (by decide) ?_
      exfalso; grind (splits := 60)
    · skip
      by_cases g1_12 : x1 = 12 ∨ x1 = 13
      · refine jr_tableIn (tgt := 109) d_M_perform_1 (by rcases g1_12 with rfl | rfl <;> decide) (by rcases g1_12 with rfl | rfl <;> decide) (by rcases g1_12 with rfl | rfl <;> rfl) (by decide) ?_
        exfalso; grind (splits := 60)
      · skip
        by_cases g1_15 : x1 = 15 ∨ x1 = 16 ∨ x1 = 17 ∨ x1 = 20 ∨ x1 = 21 ∨ x1 = 23 ∨ x1 = 24
        · refine jr_tableIn (tgt := 200) d_M_perform_1 (by rcases g1_15 with rfl | rfl | rfl | rfl | rfl | rfl | rfl <;> decide) (by rcases g1_15 with rfl | rfl | rfl | rfl | rfl | rfl | rfl <;> decide) (by rcases g1_15 with rfl | rfl | rfl | rfl | rfl | rfl | rfl <;> rfl) (by decide) ?_
          exfalso; grind (splits := 60)
        · skip
          by_cases g1_18 : x1 = 18
          · refine jr_tableIn (tgt := 134) d_M_perform_1 (by rcases g1_18 with rfl <;> decide) (by rcases g1_18 with rfl <;> decide) (by rcases g1_18 with rfl <;> rfl) (by decide) ?_
            exfalso; grind (splits := 60)
          · skip
            by_cases g1_19 : x1 = 19
            · refine jr_tableIn (tgt := 152) d_M_perform_1 (by rcases g1_19 with rfl <;> decide) (by rcases g1_19 with rfl <;> decide) (by rcases g1_19 with rfl <;> rfl) (by decide) ?_
              exfalso; grind (splits := 60)
            · skip
              by_cases g1_22 : x1 = 22
              · refine jr_tableIn (tgt := 164) d_M_perform_1 (by rcases g1_22 with rfl <;> decide) (by rcases g1_22 with rfl <;> decide) (by rcases g1_22 with rfl <;> rfl) (by decide) ?_
                refine jr_aload_n d_M_perform_164 rfl rfl ?_
                refine jr_aload_n d_M_perform_165 rfl rfl ?_
                refine jr_aload_n d_M_perform_166 rfl rfl ?_
                refine jv_V2v d_M_perform_167 l_M_169 k_M_giveBack ⟨Nat.le_of_ble_eq_true rfl, Nat.le_of_ble_eq_true rfl⟩ rfl rfl (Nat.le_of_ble_eq_true rfl) (ct_M_giveBack1 hf hd hc hi hT2) (by first | decide | (dsimp only; omega) | (dsimp only; grind)) (by first | decide | (dsimp only; omega) | (dsimp only; grind)) ?_
                refine jr_goto (tgt := 228) d_M_perform_170 (by decide) ?_
                exact jr_retX (v := none) d_M_perform_228 (by first | exact Nat.le_refl _ | exact Nat.zero_le _ | (dsimp only; omega)) (by first | exact Nat.le_refl _ | exact Nat.zero_le _ | (dsimp only; omega)) (by first | with_reducible rfl | (dsimp only; rfl; done) | (exfalso; grind)) (by first | with_reducible rfl | (dsimp only; rfl; done) | (exfalso; grind)) (by first | with_reducible rfl | (dsimp only; rfl; done) | (exfalso; grind)) (by first | with_reducible rfl | (dsimp only; rfl; done) | (exfalso; grind))
              · skip
                refine jr_tableE (tgt := 216) d_M_perform_1 (by rcases j_4_24 x1 with h | h | rfl | rfl | rfl | rfl | rfl | rfl | rfl | rfl | rfl | rfl | rfl | rfl | rfl | rfl | rfl | rfl | rfl | rfl | rfl | rfl | rfl <;> first | exact Or.inl ⟨Or.inl (Int32.lt_iff_toInt_lt.mp h), by decide⟩ | exact Or.inl ⟨Or.inr (Int32.lt_iff_toInt_lt.mp h), by decide⟩ | exact Or.inr ⟨by decide, by decide, _, rfl, by decide⟩ | (exfalso; grind)) ?_
                exfalso; grind (splits := 60)
theorem m_mv_live {I : jc_I} {O : jc_O} {live : jc_L → Prop} {t j c : Nat} {op a : Int32} : ∀ q, live q → (m_mv I O live t j c op a).2.2.1 q := by
  intro q hq
  unfold m_mv
  repeat' split
  all_goals first | exact hq | exact h_mk_live q hq
theorem ct_M_perform_move {I : jc_I} {O : jc_O} {live : jc_L → Prop} {t j c : Nat} {op a : Int32} (hM : jw_M O) (hH : jw_H I O) (hf : jw_f O t j) (hd : jw_d I t j) (hc : O (8, t, j) 2 = some (6, c, 0)) (hn : jw_n I c) (hN : jw_N I O live) (ho : ¬ (op = 4 ∨ op = 5 ∨ op = 6 ∨ op = 7 ∨ op = 8 ∨ op = 11 ∨ op = 12 ∨ op = 13 ∨ op = 15 ∨ op = 16 ∨ op = 17 ∨ op = 18 ∨ op = 19 ∨ op = 20 ∨ op = 21 ∨ op = 22 ∨ op = 23 ∨ op = 24)) : jc_Ct y_M_perform [.inr (some (4, 0, 0)), .inr (some (9, t, 0)), .inr (some (8, t, j)), .inl op, .inl a] I O live (none, f_on (m_mv I O live t j c op a).1 t j, (m_mv I O live t j c op a).2.1, (m_mv I O live t j c op a).2.2.1, (m_mv I O live t j c op a).2.2.2.1, (m_mv I O live t j c op a).2.2.2.2) := by
  refine jc_Ct.of (by decide +kernel) (rfl) (Nat.le_of_ble_eq_true rfl) ?_
  refine jr_iload_n d_M_perform_0 rfl rfl ?_
  refine jr_name (fun x1 e1 => ?_)
  by_cases g1_4 : x1 = 4 ∨ x1 = 5 ∨ x1 = 6 ∨ x1 = 7 ∨ x1 = 8
  · refine jr_tableIn (tgt := 173) d_M_perform_1 (by rcases g1_4 with rfl | rfl | rfl | rfl | rfl <;> decide) (by rcases g1_4 with rfl | rfl | rfl | rfl | rfl <;> decide) (by rcases g1_4 with rfl | rfl | rfl | rfl | rfl <;> rfl) (by decide) ?_
    exfalso; grind (splits := 60)
  · skip
    by_cases g1_11 : x1 = 11
    · refine jr_tableIn (tgt := 100) d_M_perform_1 (by rcases g1_11 with rfl <;> decide) (by rcases g1_11 with rfl <;> decide) (by rcases g1_11 with rfl <;> rfl) (by decide) ?_
      exfalso; grind (splits := 60)
    · skip
      by_cases g1_12 : x1 = 12 ∨ x1 = 13
      · refine jr_tableIn (tgt := 109) d_M_perform_1 (by rcases g1_12 with rfl | rfl <;> decide) (by rcases g1_12 with rfl | rfl <;> decide) (by rcases g1_12 with rfl | rfl <;> rfl) (by decide) ?_
        exfalso; grind (splits := 60)
      · skip
        by_cases g1_15 : x1 = 15 ∨ x1 = 16 ∨ x1 = 17 ∨ x1 = 20 ∨ x1 = 21 ∨ x1 = 23 ∨ x1 = 24
        · refine jr_tableIn (tgt := 200) d_M_perform_1 (by rcases g1_15 with rfl | rfl | rfl | rfl | rfl | rfl | rfl <;> decide) (by rcases g1_15 with rfl | rfl | rfl | rfl | rfl | rfl | rfl <;> decide) (by rcases g1_15 with rfl | rfl | rfl | rfl | rfl | rfl | rfl <;> rfl) (by decide) ?_
          exfalso; grind (splits := 60)
        · skip
          by_cases g1_18 : x1 = 18
          · refine jr_tableIn (tgt := 134) d_M_perform_1 (by rcases g1_18 with rfl <;> decide) (by rcases g1_18 with rfl <;> decide) (by rcases g1_18 with rfl <;> rfl) (by decide) ?_
            exfalso; grind (splits := 60)
          · skip
            by_cases g1_19 : x1 = 19
            · refine jr_tableIn (tgt := 152) d_M_perform_1 (by rcases g1_19 with rfl <;> decide) (by rcases g1_19 with rfl <;> decide) (by rcases g1_19 with rfl <;> rfl) (by decide) ?_
              exfalso; grind (splits := 60)
            · skip
              by_cases g1_22 : x1 = 22
              · refine jr_tableIn (tgt := 164) d_M_perform_1 (by rcases g1_22 with rfl <;> decide) (by rcases g1_22 with rfl <;> decide) (by rcases g1_22 with rfl <;> rfl) (by decide) ?_
                exfalso; grind (splits := 60)
              · skip
                refine jr_tableE (tgt := 216) d_M_perform_1 (by rcases j_4_24 x1 with h | h | rfl | rfl | rfl | rfl | rfl | rfl | rfl | rfl | rfl | rfl | rfl | rfl | rfl | rfl | rfl | rfl | rfl | rfl | rfl | rfl | rfl <;> first | exact Or.inl ⟨Or.inl (Int32.lt_iff_toInt_lt.mp h), by decide⟩ | exact Or.inl ⟨Or.inr (Int32.lt_iff_toInt_lt.mp h), by decide⟩ | exact Or.inr ⟨by decide, by decide, _, rfl, by decide⟩ | (exfalso; grind)) ?_
                refine jr_aload_n d_M_perform_216 rfl rfl ?_
                refine jr_aload_n d_M_perform_217 rfl rfl ?_
                refine jr_iload_n d_M_perform_218 rfl rfl ?_
                refine jr_iload d_M_perform_219 rfl ?_
                refine jv_V3vA d_M_perform_221 l_M_186 k_M_moveValue ⟨Nat.le_of_ble_eq_true rfl, Nat.le_of_ble_eq_true rfl⟩ rfl rfl (Nat.le_of_ble_eq_true rfl) (ct_M_moveValue hM hH hf hd hc hn hN) (fun q9 h9 => m_mv_live q9 h9) (by first | decide | (dsimp only; omega) | (dsimp only; grind)) (by first | decide | (dsimp only; omega) | (dsimp only; grind)) ?_
                refine jr_aload_n d_M_perform_224 rfl rfl ?_
                refine jv_V0v d_M_perform_225 l_M_180 k_F_goOn ⟨Nat.le_of_ble_eq_true rfl, Nat.le_of_ble_eq_true rfl⟩ rfl rfl (Nat.le_of_ble_eq_true rfl) (show jc_Ct y_F_goOn _ _ _ _ (none, f_on _ _ _, _, _, 0, 0) from ct_F_goOn) (by first | decide | (dsimp only; omega) | (dsimp only; grind)) (by first | decide | (dsimp only; omega) | (dsimp only; grind)) ?_
                exact jr_retX (v := none) d_M_perform_228 (by first | exact Nat.le_refl _ | exact Nat.zero_le _ | (dsimp only; omega)) (by first | exact Nat.le_refl _ | exact Nat.zero_le _ | (dsimp only; omega)) (by first | with_reducible rfl | (dsimp only; rfl; done) | (exfalso; grind)) (by first | with_reducible rfl | (dsimp only; rfl; done) | (exfalso; grind)) (by first | with_reducible rfl | (dsimp only; rfl; done) | (exfalso; grind)) (by first | with_reducible rfl | (dsimp only; rfl; done) | (exfalso; grind))
def s_cs (I : jc_I) (t : Nat) : jc_I := jc_up (jc_up I (9, t, 0) 3 (I (9, t, 0) 3 + 1)) (9, t, 0) 6 0
theorem s_cs_t {I : jc_I} {t a : Nat} {u : Nat × Nat} {k : Nat} (h : a ≠ 9) : s_cs I t (a, u) k = I (a, u) k := by
  unfold s_cs
  rw [jc_up_t _ _ _ _ _ _ _ _ h, jc_up_t _ _ _ _ _ _ _ _ h]
theorem jk_cs {I : jc_I} {t : Nat} : jk [9] I (s_cs I t) := (jk.up.tr jk.up).more (by simp)
theorem jw_top.cs {I : jc_I} {O : jc_O} {t j : Nat} (h : jw_top I O t j) : jw_top (s_cs I t) O t j := by
  unfold jw_top s_cs at *
  rw [jc_up_k _ _ _ _ _ _ (by decide), jc_up_k _ _ _ _ _ _ (by decide)]
  exact h
theorem jw_d.cs {I : jc_I} {t j : Nat} (h : jw_d I t j) : jw_d (s_cs I t) t j := by
  unfold jw_d at *
  rw [s_cs_t (by decide)]
  exact h
theorem ct_M_step_p {I : jc_I} {O : jc_O} {live : jc_L → Prop} {t j c : Nat} {I1 : jc_I} {O1 : jc_O} {live1 : jc_L → Prop} {mc1 ms1 : Nat} (hM : jw_M O) (hH : jw_H I O) (hT : jw_top I O t j) (hf : jw_f O t j) (hd : jw_d I t j) (hc : O (8, t, j) 2 = some (6, c, 0)) (hC : jw_C O c) (hn : jw_n I c) (hF : m_fo (s_cs I t) t j (m_op (s_cs I t) t j c) = 0) (hlv : ∀ q, live q → live1 q) (hP : jc_Ct y_M_perform [.inr (some (4, 0, 0)), .inr (some (9, t, 0)), .inr (some (8, t, j)), .inl (m_op (s_cs I t) t j c), .inl (m_an (s_cs I t) t j c)] (s_cs I t) O live (none, I1, O1, live1, mc1, ms1)) : jc_Ct y_M_step [.inr (some (4, 0, 0)), .inr (some (9, t, 0))] I O live (none, I1, O1, live1, mc1, ms1) := by
  refine jc_Ct.of (by decide +kernel) (rfl) (Nat.le_of_ble_eq_true rfl) ?_
  refine jr_aload_n d_M_step_0 rfl rfl ?_
  refine jv_V0r d_M_step_1 l_M_90 k_S_top ⟨Nat.le_of_ble_eq_true rfl, Nat.le_of_ble_eq_true rfl⟩ rfl rfl (Nat.le_of_ble_eq_true rfl) (ct_S_topF hT) (by first | decide | (dsimp only; omega) | (dsimp only; grind)) (by first | decide | (dsimp only; omega) | (dsimp only; grind)) ?_
  first | rw [hc] | skip
  refine jr_astore_n d_M_step_4 rfl (Nat.le_of_ble_eq_true rfl) ?_
  refine jr_aload_n d_M_step_5 rfl rfl ?_
  refine jr_ifnonnull (tgt := 13) d_M_step_6 (by decide) (fun q6 c6 => ?_) (fun c6 => by cases c6)
  refine jr_aload_n d_M_step_13 rfl rfl ?_
  refine jv_V0r d_M_step_14 l_M_94 k_F_ownCode ⟨Nat.le_of_ble_eq_true rfl, Nat.le_of_ble_eq_true rfl⟩ rfl rfl (Nat.le_of_ble_eq_true rfl) (ct_F_ownCode) (by first | decide | (dsimp only; omega) | (dsimp only; grind)) (by first | decide | (dsimp only; omega) | (dsimp only; grind)) ?_
  first | rw [hc] | skip
  refine jr_astore_n d_M_step_17 rfl (Nat.le_of_ble_eq_true rfl) ?_
  refine jr_aload_n d_M_step_18 rfl rfl ?_
  refine jr_ifnonnull (tgt := 23) d_M_step_19 (by decide) (fun q19 c19 => ?_) (fun c19 => by cases c19)
  refine jr_aload_n d_M_step_23 rfl rfl ?_
  refine jv_V0v d_M_step_24 l_M_125 k_S_countStep ⟨Nat.le_of_ble_eq_true rfl, Nat.le_of_ble_eq_true rfl⟩ rfl rfl (Nat.le_of_ble_eq_true rfl) (show jc_Ct y_S_countStep _ _ _ _ (none, s_cs _ _, _, _, 0, 0) from ct_S_countStep) (by first | decide | (dsimp only; omega) | (dsimp only; grind)) (by first | decide | (dsimp only; omega) | (dsimp only; grind)) ?_
  refine jr_aload_n d_M_step_27 rfl rfl ?_
  refine jr_aload_n d_M_step_28 rfl rfl ?_
  refine jv_V0r d_M_step_29 l_M_100 k_F_at ⟨Nat.le_of_ble_eq_true rfl, Nat.le_of_ble_eq_true rfl⟩ rfl rfl (Nat.le_of_ble_eq_true rfl) (ct_F_at) (by first | decide | (dsimp only; omega) | (dsimp only; grind)) (by first | decide | (dsimp only; omega) | (dsimp only; grind)) ?_
  refine jv_V1r d_M_step_32 l_M_103 k_C_op ⟨Nat.le_of_ble_eq_true rfl, Nat.le_of_ble_eq_true rfl⟩ rfl rfl (Nat.le_of_ble_eq_true rfl) (show jc_Ct y_C_op _ _ _ _ (some (.inl (m_op _ _ _ _)), _, _, _, 0, 0) from ct_C_op hC.2.1 (jk_cs.n (by decide) hn).2.2.2.1) (by first | decide | (dsimp only; omega) | (dsimp only; grind)) (by first | decide | (dsimp only; omega) | (dsimp only; grind)) ?_
  refine jr_istore d_M_step_35 (Nat.le_of_ble_eq_true rfl) ?_
  refine jr_aload_n d_M_step_37 rfl rfl ?_
  refine jr_aload_n d_M_step_38 rfl rfl ?_
  refine jr_aload_n d_M_step_39 rfl rfl ?_
  refine jr_iload d_M_step_40 rfl ?_
  refine jv_V3r d_M_step_42 l_M_128 k_M_failureOf ⟨Nat.le_of_ble_eq_true rfl, Nat.le_of_ble_eq_true rfl⟩ rfl rfl (Nat.le_of_ble_eq_true rfl) (ct_M_failureOf hM (hH.to (s_cs_t (by decide))) hf hd.cs) (by first | decide | (dsimp only; omega) | (dsimp only; grind)) (by first | decide | (dsimp only; omega) | (dsimp only; grind)) ?_
  refine jr_istore d_M_step_45 (Nat.le_of_ble_eq_true rfl) ?_
  refine jr_iload d_M_step_47 rfl ?_
  refine jr_if_ne (tgt := 71) d_M_step_49 (by decide) (fun c49 => ?_) (fun c49 => ?_)
  · skip
    exact absurd hF c49
  · skip
    refine jr_aload_n d_M_step_52 rfl rfl ?_
    refine jr_aload_n d_M_step_53 rfl rfl ?_
    refine jr_aload_n d_M_step_54 rfl rfl ?_
    refine jr_iload d_M_step_55 rfl ?_
    refine jr_aload_n d_M_step_57 rfl rfl ?_
    refine jr_aload_n d_M_step_58 rfl rfl ?_
    refine jv_V0r d_M_step_59 l_M_100 k_F_at ⟨Nat.le_of_ble_eq_true rfl, Nat.le_of_ble_eq_true rfl⟩ rfl rfl (Nat.le_of_ble_eq_true rfl) (ct_F_at) (by first | decide | (dsimp only; omega) | (dsimp only; grind)) (by first | decide | (dsimp only; omega) | (dsimp only; grind)) ?_
    refine jv_V1r d_M_step_62 l_M_132 k_C_operand ⟨Nat.le_of_ble_eq_true rfl, Nat.le_of_ble_eq_true rfl⟩ rfl rfl (Nat.le_of_ble_eq_true rfl) (show jc_Ct y_C_operand _ _ _ _ (some (.inl (m_an _ _ _ _)), _, _, _, 0, 0) from ct_C_operand hC.2.2.1 (jk_cs.n (by decide) hn).2.2.2.1) (by first | decide | (dsimp only; omega) | (dsimp only; grind)) (by first | decide | (dsimp only; omega) | (dsimp only; grind)) ?_
    refine jv_V4vA d_M_step_65 l_M_135 k_M_perform ⟨Nat.le_of_ble_eq_true rfl, Nat.le_of_ble_eq_true rfl⟩ rfl rfl (Nat.le_of_ble_eq_true rfl) (hP) hlv (by first | decide | (dsimp only; omega) | (dsimp only; grind)) (by first | decide | (dsimp only; omega) | (dsimp only; grind)) ?_
    refine jr_goto (tgt := 85) d_M_step_68 (by decide) ?_
    exact jr_retX (v := none) d_M_step_85 (by first | exact Nat.le_refl _ | exact Nat.zero_le _ | (dsimp only; omega)) (by first | exact Nat.le_refl _ | exact Nat.zero_le _ | (dsimp only; omega)) (by first | with_reducible rfl | (dsimp only; rfl; done) | (exfalso; grind)) (by first | with_reducible rfl | (dsimp only; rfl; done) | (exfalso; grind)) (by first | with_reducible rfl | (dsimp only; rfl; done) | (exfalso; grind)) (by first | with_reducible rfl | (dsimp only; rfl; done) | (exfalso; grind))
theorem ct_M_step_f {I : jc_I} {O : jc_O} {live : jc_L → Prop} {t j c : Nat} (hM : jw_M O) (hH : jw_H I O) (hT : jw_top I O t j) (hf : jw_f O t j) (hd : jw_d I t j) (hc : O (8, t, j) 2 = some (6, c, 0)) (hC : jw_C O c) (hn : jw_n I c) (hF : m_fo (s_cs I t) t j (m_op (s_cs I t) t j c) ≠ 0) (hN : jw_N (s_cs I t) O live) (hM2 : jw_M (h_mk (s_cs I t) O live (m_fo (s_cs I t) t j (m_op (s_cs I t) t j c))).2.2.1) (hH2 : jw_H (h_mk (s_cs I t) O live (m_fo (s_cs I t) t j (m_op (s_cs I t) t j c))).2.1 (h_mk (s_cs I t) O live (m_fo (s_cs I t) t j (m_op (s_cs I t) t j c))).2.2.1) (hA2 : jw_A (h_mk (s_cs I t) O live (m_fo (s_cs I t) t j (m_op (s_cs I t) t j c))).2.1 (h_mk (s_cs I t) O live (m_fo (s_cs I t) t j (m_op (s_cs I t) t j c))).2.2.1) (hT2 : jw_T (h_mk (s_cs I t) O live (m_fo (s_cs I t) t j (m_op (s_cs I t) t j c))).2.1 (h_mk (s_cs I t) O live (m_fo (s_cs I t) t j (m_op (s_cs I t) t j c))).2.2.1 t) : jc_Ct y_M_step [.inr (some (4, 0, 0)), .inr (some (9, t, 0))] I O live (none, m_rse (h_mk (s_cs I t) O live (m_fo (s_cs I t) t j (m_op (s_cs I t) t j c))).2.1 (h_mk (s_cs I t) O live (m_fo (s_cs I t) t j (m_op (s_cs I t) t j c))).2.2.1 t (h_mk (s_cs I t) O live (m_fo (s_cs I t) t j (m_op (s_cs I t) t j c))).1, (h_mk (s_cs I t) O live (m_fo (s_cs I t) t j (m_op (s_cs I t) t j c))).2.2.1, (h_mk (s_cs I t) O live (m_fo (s_cs I t) t j (m_op (s_cs I t) t j c))).2.2.2.1, (h_mk (s_cs I t) O live (m_fo (s_cs I t) t j (m_op (s_cs I t) t j c))).2.2.2.2.1, (h_mk (s_cs I t) O live (m_fo (s_cs I t) t j (m_op (s_cs I t) t j c))).2.2.2.2.2) := by
  obtain ⟨m0, m1, m2, m3⟩ := id hM
  refine jc_Ct.of (by decide +kernel) (rfl) (Nat.le_of_ble_eq_true rfl) ?_
  refine jr_aload_n d_M_step_0 rfl rfl ?_
  refine jv_V0r d_M_step_1 l_M_90 k_S_top ⟨Nat.le_of_ble_eq_true rfl, Nat.le_of_ble_eq_true rfl⟩ rfl rfl (Nat.le_of_ble_eq_true rfl) (ct_S_topF hT) (by first | decide | (dsimp only; omega) | (dsimp only; grind)) (by first | decide | (dsimp only; omega) | (dsimp only; grind)) ?_
  first | rw [hc] | rw [m0] | rw [m1] | rw [m2] | rw [m3] | skip
  refine jr_astore_n d_M_step_4 rfl (Nat.le_of_ble_eq_true rfl) ?_
  refine jr_aload_n d_M_step_5 rfl rfl ?_
  refine jr_ifnonnull (tgt := 13) d_M_step_6 (by decide) (fun q6 c6 => ?_) (fun c6 => by cases c6)
  refine jr_aload_n d_M_step_13 rfl rfl ?_
  refine jv_V0r d_M_step_14 l_M_94 k_F_ownCode ⟨Nat.le_of_ble_eq_true rfl, Nat.le_of_ble_eq_true rfl⟩ rfl rfl (Nat.le_of_ble_eq_true rfl) (ct_F_ownCode) (by first | decide | (dsimp only; omega) | (dsimp only; grind)) (by first | decide | (dsimp only; omega) | (dsimp only; grind)) ?_
  first | rw [hc] | rw [m0] | rw [m1] | rw [m2] | rw [m3] | skip
  refine jr_astore_n d_M_step_17 rfl (Nat.le_of_ble_eq_true rfl) ?_
  refine jr_aload_n d_M_step_18 rfl rfl ?_
  refine jr_ifnonnull (tgt := 23) d_M_step_19 (by decide) (fun q19 c19 => ?_) (fun c19 => by cases c19)
  refine jr_aload_n d_M_step_23 rfl rfl ?_
  refine jv_V0v d_M_step_24 l_M_125 k_S_countStep ⟨Nat.le_of_ble_eq_true rfl, Nat.le_of_ble_eq_true rfl⟩ rfl rfl (Nat.le_of_ble_eq_true rfl) (show jc_Ct y_S_countStep _ _ _ _ (none, s_cs _ _, _, _, 0, 0) from ct_S_countStep) (by first | decide | (dsimp only; omega) | (dsimp only; grind)) (by first | decide | (dsimp only; omega) | (dsimp only; grind)) ?_
  refine jr_aload_n d_M_step_27 rfl rfl ?_
  refine jr_aload_n d_M_step_28 rfl rfl ?_
  refine jv_V0r d_M_step_29 l_M_100 k_F_at ⟨Nat.le_of_ble_eq_true rfl, Nat.le_of_ble_eq_true rfl⟩ rfl rfl (Nat.le_of_ble_eq_true rfl) (ct_F_at) (by first | decide | (dsimp only; omega) | (dsimp only; grind)) (by first | decide | (dsimp only; omega) | (dsimp only; grind)) ?_
  refine jv_V1r d_M_step_32 l_M_103 k_C_op ⟨Nat.le_of_ble_eq_true rfl, Nat.le_of_ble_eq_true rfl⟩ rfl rfl (Nat.le_of_ble_eq_true rfl) (show jc_Ct y_C_op _ _ _ _ (some (.inl (m_op _ _ _ _)), _, _, _, 0, 0) from ct_C_op hC.2.1 (jk_cs.n (by decide) hn).2.2.2.1) (by first | decide | (dsimp only; omega) | (dsimp only; grind)) (by first | decide | (dsimp only; omega) | (dsimp only; grind)) ?_
  refine jr_istore d_M_step_35 (Nat.le_of_ble_eq_true rfl) ?_
  refine jr_aload_n d_M_step_37 rfl rfl ?_
  refine jr_aload_n d_M_step_38 rfl rfl ?_
  refine jr_aload_n d_M_step_39 rfl rfl ?_
  refine jr_iload d_M_step_40 rfl ?_
  refine jv_V3r d_M_step_42 l_M_128 k_M_failureOf ⟨Nat.le_of_ble_eq_true rfl, Nat.le_of_ble_eq_true rfl⟩ rfl rfl (Nat.le_of_ble_eq_true rfl) (ct_M_failureOf hM (hH.to (s_cs_t (by decide))) hf hd.cs) (by first | decide | (dsimp only; omega) | (dsimp only; grind)) (by first | decide | (dsimp only; omega) | (dsimp only; grind)) ?_
  refine jr_istore d_M_step_45 (Nat.le_of_ble_eq_true rfl) ?_
  refine jr_iload d_M_step_47 rfl ?_
  refine jr_if_ne (tgt := 71) d_M_step_49 (by decide) (fun c49 => ?_) (fun c49 => ?_)
  · skip
    refine jr_aload_n d_M_step_71 rfl rfl ?_
    refine jr_aload_n d_M_step_72 rfl rfl ?_
    refine jr_aload_n d_M_step_73 rfl rfl ?_
    refine jr_getr d_M_step_74 f_M_25 rfl rfl ?_
    first | rw [hc] | rw [m0] | rw [m1] | rw [m2] | rw [m3] | skip
    refine jr_iload d_M_step_77 rfl ?_
    refine jv_V1rA d_M_step_79 l_M_139 k_H_make ⟨Nat.le_of_ble_eq_true rfl, Nat.le_of_ble_eq_true rfl⟩ rfl rfl (Nat.le_of_ble_eq_true rfl) (ct_H_make hN) (fun q9 h9 => h_mk_live q9 h9) (by first | decide | (dsimp only; omega) | (dsimp only; grind)) (by first | decide | (dsimp only; omega) | (dsimp only; grind)) ?_
    refine jv_V2v d_M_step_82 l_M_142 k_M_raise ⟨Nat.le_of_ble_eq_true rfl, Nat.le_of_ble_eq_true rfl⟩ rfl rfl (Nat.le_of_ble_eq_true rfl) (ct_M_raise hM2 hH2 hA2 hT2) (by first | decide | (dsimp only; omega) | (dsimp only; grind)) (by first | decide | (dsimp only; omega) | (dsimp only; grind)) ?_
    exact jr_retX (v := none) d_M_step_85 (by first | exact Nat.le_refl _ | exact Nat.zero_le _ | (dsimp only; omega)) (by first | exact Nat.le_refl _ | exact Nat.zero_le _ | (dsimp only; omega)) (by first | with_reducible rfl | (dsimp only; rfl; done) | (exfalso; grind)) (by first | with_reducible rfl | (dsimp only; rfl; done) | (exfalso; grind)) (by first | with_reducible rfl | (dsimp only; rfl; done) | (exfalso; grind)) (by first | with_reducible rfl | (dsimp only; rfl; done) | (exfalso; grind))
  · skip
    exact absurd c49 hF
