theorem ct_m_step_11 {I : jc_I} {O : jc_O} {live : jc_L → Prop} {t xt fn j c i : Nat}  (hm1 : O (14, t, 0) 1 = some (15, xt, 0)) (hfl : ql I O live xt fn (qFr t)) (hdj : I (14, t, 0) 2 - 1 = Int32.ofNat j) (hjf : j < fn) (hcd : O (12, t, j) 0 = some (11, c, 0)) (hc : qc O c) (hat : I (12, t, j) 5 = Int32.ofNat i) (hi : i < 60) (ho : I (41, c, 0) i = 11) : jc_Ct y_m_step [.inr (some (10, 0, 0)), .inr (some (14, t, 0))] I O live (none, jc_up I (12, t, j) 5 (I (42, c, 0) i), O, live, 0, 0) := by
  obtain ⟨g2, g4, g5, g7, g8, g9, g10⟩ := id hc
  have a1 := jofI (n := i) (by omega)
  have a3 := jofN (n := i) (by omega)
  refine jc_Ct.of (by decide +kernel) (rfl) (Nat.le_of_ble_eq_true rfl) ?_
  refine jr_aload_n d_m_step_0 rfl rfl ?_
  refine jv_V0r d_m_step_1 l_m_186 k_mT_top ⟨Nat.le_of_ble_eq_true rfl, Nat.le_of_ble_eq_true rfl⟩ rfl rfl (Nat.le_of_ble_eq_true rfl) (ct_mT_top hm1 hfl hdj hjf rfl) (by first | decide | exact Nat.zero_le _ | (dsimp only; omega) | (dsimp only; grind)) (by first | decide | exact Nat.zero_le _ | (dsimp only; omega) | (dsimp only; grind)) ?_
  first | rw [hcd] | rw [g4] | rw [g5] | skip
  refine jr_astore_n d_m_step_4 rfl (Nat.le_of_ble_eq_true rfl) ?_
  refine jr_aload_n d_m_step_5 rfl rfl ?_
  refine jr_getr d_m_step_6 f_m_190 rfl rfl ?_
  first | rw [hcd] | rw [g4] | rw [g5] | skip
  refine jr_getr d_m_step_9 f_m_59 rfl rfl ?_
  first | rw [hcd] | rw [g4] | rw [g5] | skip
  refine jr_aload_n d_m_step_12 rfl rfl ?_
  refine jr_geti d_m_step_13 f_m_195 rfl ?_
  refine jr_iald d_m_step_16 rfl rfl rfl (jinv (by rw [hat, jle, a1, j0I]; omega) (by rw [hat, a3]; show i < 60; omega)) ?_
  rw [hat, a3]
  refine jr_istore_n d_m_step_17 rfl (Nat.le_of_ble_eq_true rfl) ?_
  refine jr_aload_n d_m_step_18 rfl rfl ?_
  refine jr_getr d_m_step_19 f_m_190 rfl rfl ?_
  first | rw [hcd] | rw [g4] | rw [g5] | skip
  refine jr_getr d_m_step_22 f_m_62 rfl rfl ?_
  first | rw [hcd] | rw [g4] | rw [g5] | skip
  refine jr_aload_n d_m_step_25 rfl rfl ?_
  refine jr_geti d_m_step_26 f_m_195 rfl ?_
  refine jr_iald d_m_step_29 rfl rfl rfl (jinv (by rw [hat, jle, a1, j0I]; omega) (by rw [hat, a3]; show i < 60; omega)) ?_
  rw [hat, a3]
  refine jr_istore d_m_step_30 (Nat.le_of_ble_eq_true rfl) ?_
  refine jr_iload_n d_m_step_32 rfl rfl ?_
  refine jr_name (fun x33 e33 => ?_)
  by_cases g33_11 : x33 = 11
  · refine jr_tableIn (tgt := 104) d_m_step_33 (by rcases g33_11 with rfl <;> decide) (by rcases g33_11 with rfl <;> decide) (by rcases g33_11 with rfl <;> rfl) (by decide) ?_
    refine jr_aload_n d_m_step_104 rfl rfl ?_
    refine jr_iload d_m_step_105 rfl ?_
    refine jr_puti d_m_step_107 f_m_195 (Or.inl rfl) rfl ?_
    exact jr_retX (v := none) d_m_step_110 (by first | exact Nat.le_refl _ | exact Nat.zero_le _ | (dsimp only; omega)) (by first | exact Nat.le_refl _ | exact Nat.zero_le _ | (dsimp only; omega)) (by first | with_reducible rfl | (dsimp only; rfl; done) | (rfl; done) | (exfalso; grind)) (by first | with_reducible rfl | (dsimp only; rfl; done) | (rfl; done) | (exfalso; grind)) (by first | with_reducible rfl | (dsimp only; rfl; done) | (rfl; done) | (exfalso; grind)) (by first | with_reducible rfl | (dsimp only; rfl; done) | (rfl; done) | (exfalso; grind))
  · skip
    by_cases g33_12 : x33 = 12 ∨ x33 = 13
    · refine jr_tableIn (tgt := 111) d_m_step_33 (by rcases g33_12 with rfl | rfl <;> decide) (by rcases g33_12 with rfl | rfl <;> decide) (by rcases g33_12 with rfl | rfl <;> rfl) (by decide) ?_
      exfalso; clear hc hfl; grind (splits := 60)
    · skip
      by_cases g33_16 : x33 = 16 ∨ x33 = 17 ∨ x33 = 23 ∨ x33 = 24
      · refine jr_tableIn (tgt := 184) d_m_step_33 (by rcases g33_16 with rfl | rfl | rfl | rfl <;> decide) (by rcases g33_16 with rfl | rfl | rfl | rfl <;> decide) (by rcases g33_16 with rfl | rfl | rfl | rfl <;> rfl) (by decide) ?_
        exfalso; clear hc hfl; grind (splits := 60)
      · skip
        by_cases g33_18 : x33 = 18
        · refine jr_tableIn (tgt := 134) d_m_step_33 (by rcases g33_18 with rfl <;> decide) (by rcases g33_18 with rfl <;> decide) (by rcases g33_18 with rfl <;> rfl) (by decide) ?_
          exfalso; clear hc hfl; grind (splits := 60)
        · skip
          by_cases g33_19 : x33 = 19
          · refine jr_tableIn (tgt := 143) d_m_step_33 (by rcases g33_19 with rfl <;> decide) (by rcases g33_19 with rfl <;> decide) (by rcases g33_19 with rfl <;> rfl) (by decide) ?_
            exfalso; clear hc hfl; grind (splits := 60)
          · skip
            by_cases g33_20 : x33 = 20 ∨ x33 = 21
            · refine jr_tableIn (tgt := 169) d_m_step_33 (by rcases g33_20 with rfl | rfl <;> decide) (by rcases g33_20 with rfl | rfl <;> decide) (by rcases g33_20 with rfl | rfl <;> rfl) (by decide) ?_
              exfalso; clear hc hfl; grind (splits := 60)
            · skip
              by_cases g33_22 : x33 = 22
              · refine jr_tableIn (tgt := 177) d_m_step_33 (by rcases g33_22 with rfl <;> decide) (by rcases g33_22 with rfl <;> decide) (by rcases g33_22 with rfl <;> rfl) (by decide) ?_
                exfalso; clear hc hfl; grind (splits := 60)
              · skip
                refine jr_tableE (tgt := 194) d_m_step_33 (by rcases j_11_24 x33 with h | h | rfl | rfl | rfl | rfl | rfl | rfl | rfl | rfl | rfl | rfl | rfl | rfl | rfl | rfl <;> first | exact Or.inl ⟨Or.inl (Int32.lt_iff_toInt_lt.mp h), by decide⟩ | exact Or.inl ⟨Or.inr (Int32.lt_iff_toInt_lt.mp h), by decide⟩ | exact Or.inr ⟨by decide, by decide, _, rfl, by decide⟩ | (exfalso; grind)) ?_
                exfalso; clear hc hfl; grind (splits := 60)
theorem ct_m_step_12 {I : jc_I} {O : jc_O} {live : jc_L → Prop} {t xt fn j c i : Nat}  (hm1 : O (14, t, 0) 1 = some (15, xt, 0)) (hfl : ql I O live xt fn (qFr t)) (hdj : I (14, t, 0) 2 - 1 = Int32.ofNat j) (hjf : j < fn) (hcd : O (12, t, j) 0 = some (11, c, 0)) (hc : qc O c) (hat : I (12, t, j) 5 = Int32.ofNat i) (hi : i < 60) (hf : qf O t j) (h1 : 1 ≤ I (12, t, j) 4) (h2 : I (12, t, j) 4 ≤ 12) (ho : I (41, c, 0) i = 12 ∨ I (41, c, 0) i = 13) : jc_Ct y_m_step [.inr (some (10, 0, 0)), .inr (some (14, t, 0))] I O live (none, jc_up (q_pop I t j) (12, t, j) 5 (if q_tp I t j = 0 then I (42, c, 0) i else q_pop I t j (12, t, j) 5 + 1), O, live, 0, 0) := by
  obtain ⟨g2, g4, g5, g7, g8, g9, g10⟩ := id hc
  have a1 := jofI (n := i) (by omega)
  have a3 := jofN (n := i) (by omega)
  refine jc_Ct.of (by decide +kernel) (rfl) (Nat.le_of_ble_eq_true rfl) ?_
  refine jr_aload_n d_m_step_0 rfl rfl ?_
  refine jv_V0r d_m_step_1 l_m_186 k_mT_top ⟨Nat.le_of_ble_eq_true rfl, Nat.le_of_ble_eq_true rfl⟩ rfl rfl (Nat.le_of_ble_eq_true rfl) (ct_mT_top hm1 hfl hdj hjf rfl) (by first | decide | exact Nat.zero_le _ | (dsimp only; omega) | (dsimp only; grind)) (by first | decide | exact Nat.zero_le _ | (dsimp only; omega) | (dsimp only; grind)) ?_
  first | rw [hcd] | rw [g4] | rw [g5] | skip
  refine jr_astore_n d_m_step_4 rfl (Nat.le_of_ble_eq_true rfl) ?_
  refine jr_aload_n d_m_step_5 rfl rfl ?_
  refine jr_getr d_m_step_6 f_m_190 rfl rfl ?_
  first | rw [hcd] | rw [g4] | rw [g5] | skip
  refine jr_getr d_m_step_9 f_m_59 rfl rfl ?_
  first | rw [hcd] | rw [g4] | rw [g5] | skip
  refine jr_aload_n d_m_step_12 rfl rfl ?_
  refine jr_geti d_m_step_13 f_m_195 rfl ?_
  refine jr_iald d_m_step_16 rfl rfl rfl (jinv (by rw [hat, jle, a1, j0I]; omega) (by rw [hat, a3]; show i < 60; omega)) ?_
  rw [hat, a3]
  refine jr_istore_n d_m_step_17 rfl (Nat.le_of_ble_eq_true rfl) ?_
  refine jr_aload_n d_m_step_18 rfl rfl ?_
  refine jr_getr d_m_step_19 f_m_190 rfl rfl ?_
  first | rw [hcd] | rw [g4] | rw [g5] | skip
  refine jr_getr d_m_step_22 f_m_62 rfl rfl ?_
  first | rw [hcd] | rw [g4] | rw [g5] | skip
  refine jr_aload_n d_m_step_25 rfl rfl ?_
  refine jr_geti d_m_step_26 f_m_195 rfl ?_
  refine jr_iald d_m_step_29 rfl rfl rfl (jinv (by rw [hat, jle, a1, j0I]; omega) (by rw [hat, a3]; show i < 60; omega)) ?_
  rw [hat, a3]
  refine jr_istore d_m_step_30 (Nat.le_of_ble_eq_true rfl) ?_
  refine jr_iload_n d_m_step_32 rfl rfl ?_
  refine jr_name (fun x33 e33 => ?_)
  by_cases g33_11 : x33 = 11
  · refine jr_tableIn (tgt := 104) d_m_step_33 (by rcases g33_11 with rfl <;> decide) (by rcases g33_11 with rfl <;> decide) (by rcases g33_11 with rfl <;> rfl) (by decide) ?_
    exfalso; clear hc hfl; grind (splits := 60)
  · skip
    by_cases g33_12 : x33 = 12 ∨ x33 = 13
    · refine jr_tableIn (tgt := 111) d_m_step_33 (by rcases g33_12 with rfl | rfl <;> decide) (by rcases g33_12 with rfl | rfl <;> decide) (by rcases g33_12 with rfl | rfl <;> rfl) (by decide) ?_
      refine jr_aload_n d_m_step_111 rfl rfl ?_
      refine jr_aload_n d_m_step_112 rfl rfl ?_
      refine jv_V0r d_m_step_113 l_m_206 k_mF_pop ⟨Nat.le_of_ble_eq_true rfl, Nat.le_of_ble_eq_true rfl⟩ rfl rfl (Nat.le_of_ble_eq_true rfl) (ct_mF_pop hf h1 h2) (by first | decide | exact Nat.zero_le _ | (dsimp only; omega) | (dsimp only; grind)) (by first | decide | exact Nat.zero_le _ | (dsimp only; omega) | (dsimp only; grind)) ?_
      refine jr_if_ne (tgt := 124) d_m_step_116 (by decide) (fun c116 => ?_) (fun c116 => ?_)
      · skip
        refine jr_aload_n d_m_step_124 rfl rfl ?_
        refine jr_geti d_m_step_125 f_m_195 rfl ?_
        refine jr_iconst (v := 1) d_m_step_128 (by decide) ?_
        refine jr_iadd d_m_step_129 ?_
        refine jr_puti d_m_step_130 f_m_195 (Or.inl rfl) rfl ?_
        exact jr_retX (v := none) d_m_step_133 (by first | exact Nat.le_refl _ | exact Nat.zero_le _ | (dsimp only; omega)) (by first | exact Nat.le_refl _ | exact Nat.zero_le _ | (dsimp only; omega)) (by first | with_reducible rfl | (dsimp only; (first | (rw [if_pos c116]; done) | (rw [if_neg c116]; done)); done) | ((first | (rw [if_pos c116]; done) | (rw [if_neg c116]; done)); done) | (exfalso; grind)) (by first | with_reducible rfl | (dsimp only; (first | (rw [if_pos c116]; done) | (rw [if_neg c116]; done)); done) | ((first | (rw [if_pos c116]; done) | (rw [if_neg c116]; done)); done) | (exfalso; grind)) (by first | with_reducible rfl | (dsimp only; (first | (rw [if_pos c116]; done) | (rw [if_neg c116]; done)); done) | ((first | (rw [if_pos c116]; done) | (rw [if_neg c116]; done)); done) | (exfalso; grind)) (by first | with_reducible rfl | (dsimp only; (first | (rw [if_pos c116]; done) | (rw [if_neg c116]; done)); done) | ((first | (rw [if_pos c116]; done) | (rw [if_neg c116]; done)); done) | (exfalso; grind))
      · skip
        refine jr_iload d_m_step_119 rfl ?_
        refine jr_goto (tgt := 130) d_m_step_121 (by decide) ?_
        refine jr_puti d_m_step_130 f_m_195 (Or.inl rfl) rfl ?_
        exact jr_retX (v := none) d_m_step_133 (by first | exact Nat.le_refl _ | exact Nat.zero_le _ | (dsimp only; omega)) (by first | exact Nat.le_refl _ | exact Nat.zero_le _ | (dsimp only; omega)) (by first | with_reducible rfl | (dsimp only; (first | (rw [if_pos c116]; done) | (rw [if_neg c116]; done)); done) | ((first | (rw [if_pos c116]; done) | (rw [if_neg c116]; done)); done) | (exfalso; grind)) (by first | with_reducible rfl | (dsimp only; (first | (rw [if_pos c116]; done) | (rw [if_neg c116]; done)); done) | ((first | (rw [if_pos c116]; done) | (rw [if_neg c116]; done)); done) | (exfalso; grind)) (by first | with_reducible rfl | (dsimp only; (first | (rw [if_pos c116]; done) | (rw [if_neg c116]; done)); done) | ((first | (rw [if_pos c116]; done) | (rw [if_neg c116]; done)); done) | (exfalso; grind)) (by first | with_reducible rfl | (dsimp only; (first | (rw [if_pos c116]; done) | (rw [if_neg c116]; done)); done) | ((first | (rw [if_pos c116]; done) | (rw [if_neg c116]; done)); done) | (exfalso; grind))
    · skip
      by_cases g33_16 : x33 = 16 ∨ x33 = 17 ∨ x33 = 23 ∨ x33 = 24
      · refine jr_tableIn (tgt := 184) d_m_step_33 (by rcases g33_16 with rfl | rfl | rfl | rfl <;> decide) (by rcases g33_16 with rfl | rfl | rfl | rfl <;> decide) (by rcases g33_16 with rfl | rfl | rfl | rfl <;> rfl) (by decide) ?_
        exfalso; clear hc hfl; grind (splits := 60)
      · skip
        by_cases g33_18 : x33 = 18
        · refine jr_tableIn (tgt := 134) d_m_step_33 (by rcases g33_18 with rfl <;> decide) (by rcases g33_18 with rfl <;> decide) (by rcases g33_18 with rfl <;> rfl) (by decide) ?_
          exfalso; clear hc hfl; grind (splits := 60)
        · skip
          by_cases g33_19 : x33 = 19
          · refine jr_tableIn (tgt := 143) d_m_step_33 (by rcases g33_19 with rfl <;> decide) (by rcases g33_19 with rfl <;> decide) (by rcases g33_19 with rfl <;> rfl) (by decide) ?_
            exfalso; clear hc hfl; grind (splits := 60)
          · skip
            by_cases g33_20 : x33 = 20 ∨ x33 = 21
            · refine jr_tableIn (tgt := 169) d_m_step_33 (by rcases g33_20 with rfl | rfl <;> decide) (by rcases g33_20 with rfl | rfl <;> decide) (by rcases g33_20 with rfl | rfl <;> rfl) (by decide) ?_
              exfalso; clear hc hfl; grind (splits := 60)
            · skip
              by_cases g33_22 : x33 = 22
              · refine jr_tableIn (tgt := 177) d_m_step_33 (by rcases g33_22 with rfl <;> decide) (by rcases g33_22 with rfl <;> decide) (by rcases g33_22 with rfl <;> rfl) (by decide) ?_
                exfalso; clear hc hfl; grind (splits := 60)
              · skip
                refine jr_tableE (tgt := 194) d_m_step_33 (by rcases j_11_24 x33 with h | h | rfl | rfl | rfl | rfl | rfl | rfl | rfl | rfl | rfl | rfl | rfl | rfl | rfl | rfl <;> first | exact Or.inl ⟨Or.inl (Int32.lt_iff_toInt_lt.mp h), by decide⟩ | exact Or.inl ⟨Or.inr (Int32.lt_iff_toInt_lt.mp h), by decide⟩ | exact Or.inr ⟨by decide, by decide, _, rfl, by decide⟩ | (exfalso; grind)) ?_
                exfalso; clear hc hfl; grind (splits := 60)
theorem ct_m_step_18 {I : jc_I} {O : jc_O} {live : jc_L → Prop} {t xt fn j c i : Nat} {I1 : jc_I} {O1 : jc_O} {live1 : jc_L → Prop} {mc1 ms1 : Nat} (hm1 : O (14, t, 0) 1 = some (15, xt, 0)) (hfl : ql I O live xt fn (qFr t)) (hdj : I (14, t, 0) 2 - 1 = Int32.ofNat j) (hjf : j < fn) (hcd : O (12, t, j) 0 = some (11, c, 0)) (hc : qc O c) (hat : I (12, t, j) 5 = Int32.ofNat i) (hi : i < 60) (hlv : ∀ q, live q → live1 q) (hP : jc_Ct y_m_call [.inr (some (10, 0, 0)), .inr (some (14, t, 0)), .inr (some (12, t, j)), .inl (I (42, c, 0) i)] I O live (none, I1, O1, live1, mc1, ms1)) (ho : I (41, c, 0) i = 18) : jc_Ct y_m_step [.inr (some (10, 0, 0)), .inr (some (14, t, 0))] I O live (none, I1, O1, live1, mc1, ms1) := by
  obtain ⟨g2, g4, g5, g7, g8, g9, g10⟩ := id hc
  have a1 := jofI (n := i) (by omega)
  have a3 := jofN (n := i) (by omega)
  refine jc_Ct.of (by decide +kernel) (rfl) (Nat.le_of_ble_eq_true rfl) ?_
  refine jr_aload_n d_m_step_0 rfl rfl ?_
  refine jv_V0r d_m_step_1 l_m_186 k_mT_top ⟨Nat.le_of_ble_eq_true rfl, Nat.le_of_ble_eq_true rfl⟩ rfl rfl (Nat.le_of_ble_eq_true rfl) (ct_mT_top hm1 hfl hdj hjf rfl) (by first | decide | exact Nat.zero_le _ | (dsimp only; omega) | (dsimp only; grind) | (omega)) (by first | decide | exact Nat.zero_le _ | (dsimp only; omega) | (dsimp only; grind) | (omega)) ?_
  first | rw [hcd] | rw [g4] | rw [g5] | skip
  refine jr_astore_n d_m_step_4 rfl (Nat.le_of_ble_eq_true rfl) ?_
  refine jr_aload_n d_m_step_5 rfl rfl ?_
  refine jr_getr d_m_step_6 f_m_190 rfl rfl ?_
  first | rw [hcd] | rw [g4] | rw [g5] | skip
  refine jr_getr d_m_step_9 f_m_59 rfl rfl ?_
  first | rw [hcd] | rw [g4] | rw [g5] | skip
  refine jr_aload_n d_m_step_12 rfl rfl ?_
  refine jr_geti d_m_step_13 f_m_195 rfl ?_
  refine jr_iald d_m_step_16 rfl rfl rfl (jinv (by rw [hat, jle, a1, j0I]; omega) (by rw [hat, a3]; show i < 60; omega)) ?_
  rw [hat, a3]
  refine jr_istore_n d_m_step_17 rfl (Nat.le_of_ble_eq_true rfl) ?_
  refine jr_aload_n d_m_step_18 rfl rfl ?_
  refine jr_getr d_m_step_19 f_m_190 rfl rfl ?_
  first | rw [hcd] | rw [g4] | rw [g5] | skip
  refine jr_getr d_m_step_22 f_m_62 rfl rfl ?_
  first | rw [hcd] | rw [g4] | rw [g5] | skip
  refine jr_aload_n d_m_step_25 rfl rfl ?_
  refine jr_geti d_m_step_26 f_m_195 rfl ?_
  refine jr_iald d_m_step_29 rfl rfl rfl (jinv (by rw [hat, jle, a1, j0I]; omega) (by rw [hat, a3]; show i < 60; omega)) ?_
  rw [hat, a3]
  refine jr_istore d_m_step_30 (Nat.le_of_ble_eq_true rfl) ?_
  refine jr_iload_n d_m_step_32 rfl rfl ?_
  refine jr_name (fun x33 e33 => ?_)
  by_cases g33_11 : x33 = 11
  · refine jr_tableIn (tgt := 104) d_m_step_33 (by rcases g33_11 with rfl <;> decide) (by rcases g33_11 with rfl <;> decide) (by rcases g33_11 with rfl <;> rfl) (by decide) ?_
    exfalso; clear hc hfl; grind (splits := 60)
  · skip
    by_cases g33_12 : x33 = 12 ∨ x33 = 13
    · refine jr_tableIn (tgt := 111) d_m_step_33 (by rcases g33_12 with rfl | rfl <;> decide) (by rcases g33_12 with rfl | rfl <;> decide) (by rcases g33_12 with rfl | rfl <;> rfl) (by decide) ?_
      exfalso; clear hc hfl; grind (splits := 60)
    · skip
      by_cases g33_16 : x33 = 16 ∨ x33 = 17 ∨ x33 = 23 ∨ x33 = 24
      · refine jr_tableIn (tgt := 184) d_m_step_33 (by rcases g33_16 with rfl | rfl | rfl | rfl <;> decide) (by rcases g33_16 with rfl | rfl | rfl | rfl <;> decide) (by rcases g33_16 with rfl | rfl | rfl | rfl <;> rfl) (by decide) ?_
        exfalso; clear hc hfl; grind (splits := 60)
      · skip
        by_cases g33_18 : x33 = 18
        · refine jr_tableIn (tgt := 134) d_m_step_33 (by rcases g33_18 with rfl <;> decide) (by rcases g33_18 with rfl <;> decide) (by rcases g33_18 with rfl <;> rfl) (by decide) ?_
          refine jr_aload_n d_m_step_134 rfl rfl ?_
          refine jr_aload_n d_m_step_135 rfl rfl ?_
          refine jr_aload_n d_m_step_136 rfl rfl ?_
          refine jr_iload d_m_step_137 rfl ?_
          refine jv_V3vA d_m_step_139 l_m_209 k_m_call ⟨Nat.le_of_ble_eq_true rfl, Nat.le_of_ble_eq_true rfl⟩ rfl rfl (Nat.le_of_ble_eq_true rfl) (hP) hlv (by first | decide | exact Nat.zero_le _ | (dsimp only; omega) | (dsimp only; grind) | (omega)) (by first | decide | exact Nat.zero_le _ | (dsimp only; omega) | (dsimp only; grind) | (omega)) ?_
          exact jr_retX (v := none) d_m_step_142 (by first | exact Nat.le_refl _ | exact Nat.zero_le _ | (dsimp only; omega) | (omega)) (by first | exact Nat.le_refl _ | exact Nat.zero_le _ | (dsimp only; omega) | (omega)) (by first | with_reducible rfl | (dsimp only; rfl; done) | (rfl; done) | (exfalso; grind)) (by first | with_reducible rfl | (dsimp only; rfl; done) | (rfl; done) | (exfalso; grind)) (by first | with_reducible rfl | (dsimp only; rfl; done) | (rfl; done) | (exfalso; grind)) (by first | with_reducible rfl | (dsimp only; rfl; done) | (rfl; done) | (exfalso; grind))
        · skip
          by_cases g33_19 : x33 = 19
          · refine jr_tableIn (tgt := 143) d_m_step_33 (by rcases g33_19 with rfl <;> decide) (by rcases g33_19 with rfl <;> decide) (by rcases g33_19 with rfl <;> rfl) (by decide) ?_
            exfalso; clear hc hfl; grind (splits := 60)
          · skip
            by_cases g33_20 : x33 = 20 ∨ x33 = 21
            · refine jr_tableIn (tgt := 169) d_m_step_33 (by rcases g33_20 with rfl | rfl <;> decide) (by rcases g33_20 with rfl | rfl <;> decide) (by rcases g33_20 with rfl | rfl <;> rfl) (by decide) ?_
              exfalso; clear hc hfl; grind (splits := 60)
            · skip
              by_cases g33_22 : x33 = 22
              · refine jr_tableIn (tgt := 177) d_m_step_33 (by rcases g33_22 with rfl <;> decide) (by rcases g33_22 with rfl <;> decide) (by rcases g33_22 with rfl <;> rfl) (by decide) ?_
                exfalso; clear hc hfl; grind (splits := 60)
              · skip
                refine jr_tableE (tgt := 194) d_m_step_33 (by rcases j_11_24 x33 with h | h | rfl | rfl | rfl | rfl | rfl | rfl | rfl | rfl | rfl | rfl | rfl | rfl | rfl | rfl <;> first | exact Or.inl ⟨Or.inl (Int32.lt_iff_toInt_lt.mp h), by decide⟩ | exact Or.inl ⟨Or.inr (Int32.lt_iff_toInt_lt.mp h), by decide⟩ | exact Or.inr ⟨by decide, by decide, _, rfl, by decide⟩ | (exfalso; grind)) ?_
                exfalso; clear hc hfl; grind (splits := 60)
theorem ct_m_step_20 {I : jc_I} {O : jc_O} {live : jc_L → Prop} {t xt fn j c i : Nat} {I1 : jc_I} {O1 : jc_O} {live1 : jc_L → Prop} {mc1 ms1 : Nat} (hm1 : O (14, t, 0) 1 = some (15, xt, 0)) (hfl : ql I O live xt fn (qFr t)) (hdj : I (14, t, 0) 2 - 1 = Int32.ofNat j) (hjf : j < fn) (hcd : O (12, t, j) 0 = some (11, c, 0)) (hc : qc O c) (hat : I (12, t, j) 5 = Int32.ofNat i) (hi : i < 60) (hlv : ∀ q, live q → live1 q) (hP : jc_Ct y_m_monitor [.inr (some (10, 0, 0)), .inr (some (14, t, 0)), .inr (some (12, t, j)), .inl (I (41, c, 0) i)] I O live (none, I1, O1, live1, mc1, ms1)) (ho : I (41, c, 0) i = 20 ∨ I (41, c, 0) i = 21) : jc_Ct y_m_step [.inr (some (10, 0, 0)), .inr (some (14, t, 0))] I O live (none, I1, O1, live1, mc1, ms1) := by
  obtain ⟨g2, g4, g5, g7, g8, g9, g10⟩ := id hc
  have a1 := jofI (n := i) (by omega)
  have a3 := jofN (n := i) (by omega)
  refine jc_Ct.of (by decide +kernel) (rfl) (Nat.le_of_ble_eq_true rfl) ?_
  refine jr_aload_n d_m_step_0 rfl rfl ?_
  refine jv_V0r d_m_step_1 l_m_186 k_mT_top ⟨Nat.le_of_ble_eq_true rfl, Nat.le_of_ble_eq_true rfl⟩ rfl rfl (Nat.le_of_ble_eq_true rfl) (ct_mT_top hm1 hfl hdj hjf rfl) (by first | decide | exact Nat.zero_le _ | (dsimp only; omega) | (dsimp only; grind) | (omega)) (by first | decide | exact Nat.zero_le _ | (dsimp only; omega) | (dsimp only; grind) | (omega)) ?_
  first | rw [hcd] | rw [g4] | rw [g5] | skip
  refine jr_astore_n d_m_step_4 rfl (Nat.le_of_ble_eq_true rfl) ?_
  refine jr_aload_n d_m_step_5 rfl rfl ?_
  refine jr_getr d_m_step_6 f_m_190 rfl rfl ?_
  first | rw [hcd] | rw [g4] | rw [g5] | skip
  refine jr_getr d_m_step_9 f_m_59 rfl rfl ?_
  first | rw [hcd] | rw [g4] | rw [g5] | skip
  refine jr_aload_n d_m_step_12 rfl rfl ?_
  refine jr_geti d_m_step_13 f_m_195 rfl ?_
  refine jr_iald d_m_step_16 rfl rfl rfl (jinv (by rw [hat, jle, a1, j0I]; omega) (by rw [hat, a3]; show i < 60; omega)) ?_
  rw [hat, a3]
  refine jr_istore_n d_m_step_17 rfl (Nat.le_of_ble_eq_true rfl) ?_
  refine jr_aload_n d_m_step_18 rfl rfl ?_
  refine jr_getr d_m_step_19 f_m_190 rfl rfl ?_
  first | rw [hcd] | rw [g4] | rw [g5] | skip
  refine jr_getr d_m_step_22 f_m_62 rfl rfl ?_
  first | rw [hcd] | rw [g4] | rw [g5] | skip
  refine jr_aload_n d_m_step_25 rfl rfl ?_
  refine jr_geti d_m_step_26 f_m_195 rfl ?_
  refine jr_iald d_m_step_29 rfl rfl rfl (jinv (by rw [hat, jle, a1, j0I]; omega) (by rw [hat, a3]; show i < 60; omega)) ?_
  rw [hat, a3]
  refine jr_istore d_m_step_30 (Nat.le_of_ble_eq_true rfl) ?_
  refine jr_iload_n d_m_step_32 rfl rfl ?_
  refine jr_name (fun x33 e33 => ?_)
  by_cases g33_11 : x33 = 11
  · refine jr_tableIn (tgt := 104) d_m_step_33 (by rcases g33_11 with rfl <;> decide) (by rcases g33_11 with rfl <;> decide) (by rcases g33_11 with rfl <;> rfl) (by decide) ?_
    exfalso; clear hc hfl; grind (splits := 60)
  · skip
    by_cases g33_12 : x33 = 12 ∨ x33 = 13
    · refine jr_tableIn (tgt := 111) d_m_step_33 (by rcases g33_12 with rfl | rfl <;> decide) (by rcases g33_12 with rfl | rfl <;> decide) (by rcases g33_12 with rfl | rfl <;> rfl) (by decide) ?_
      exfalso; clear hc hfl; grind (splits := 60)
    · skip
      by_cases g33_16 : x33 = 16 ∨ x33 = 17 ∨ x33 = 23 ∨ x33 = 24
      · refine jr_tableIn (tgt := 184) d_m_step_33 (by rcases g33_16 with rfl | rfl | rfl | rfl <;> decide) (by rcases g33_16 with rfl | rfl | rfl | rfl <;> decide) (by rcases g33_16 with rfl | rfl | rfl | rfl <;> rfl) (by decide) ?_
        exfalso; clear hc hfl; grind (splits := 60)
      · skip
        by_cases g33_18 : x33 = 18
        · refine jr_tableIn (tgt := 134) d_m_step_33 (by rcases g33_18 with rfl <;> decide) (by rcases g33_18 with rfl <;> decide) (by rcases g33_18 with rfl <;> rfl) (by decide) ?_
          exfalso; clear hc hfl; grind (splits := 60)
        · skip
          by_cases g33_19 : x33 = 19
          · refine jr_tableIn (tgt := 143) d_m_step_33 (by rcases g33_19 with rfl <;> decide) (by rcases g33_19 with rfl <;> decide) (by rcases g33_19 with rfl <;> rfl) (by decide) ?_
            exfalso; clear hc hfl; grind (splits := 60)
          · skip
            by_cases g33_20 : x33 = 20 ∨ x33 = 21
            · refine jr_tableIn (tgt := 169) d_m_step_33 (by rcases g33_20 with rfl | rfl <;> decide) (by rcases g33_20 with rfl | rfl <;> decide) (by rcases g33_20 with rfl | rfl <;> rfl) (by decide) ?_
              refine jr_aload_n d_m_step_169 rfl rfl ?_
              refine jr_aload_n d_m_step_170 rfl rfl ?_
              refine jr_aload_n d_m_step_171 rfl rfl ?_
              refine jr_iload_n d_m_step_172 rfl rfl ?_
              refine jv_V3vA d_m_step_173 l_m_223 k_m_monitor ⟨Nat.le_of_ble_eq_true rfl, Nat.le_of_ble_eq_true rfl⟩ rfl rfl (Nat.le_of_ble_eq_true rfl) (hP) hlv (by first | decide | exact Nat.zero_le _ | (dsimp only; omega) | (dsimp only; grind) | (omega)) (by first | decide | exact Nat.zero_le _ | (dsimp only; omega) | (dsimp only; grind) | (omega)) ?_
              exact jr_retX (v := none) d_m_step_176 (by first | exact Nat.le_refl _ | exact Nat.zero_le _ | (dsimp only; omega) | (omega)) (by first | exact Nat.le_refl _ | exact Nat.zero_le _ | (dsimp only; omega) | (omega)) (by first | with_reducible rfl | (dsimp only; rfl; done) | (rfl; done) | (exfalso; grind)) (by first | with_reducible rfl | (dsimp only; rfl; done) | (rfl; done) | (exfalso; grind)) (by first | with_reducible rfl | (dsimp only; rfl; done) | (rfl; done) | (exfalso; grind)) (by first | with_reducible rfl | (dsimp only; rfl; done) | (rfl; done) | (exfalso; grind))
            · skip
              by_cases g33_22 : x33 = 22
              · refine jr_tableIn (tgt := 177) d_m_step_33 (by rcases g33_22 with rfl <;> decide) (by rcases g33_22 with rfl <;> decide) (by rcases g33_22 with rfl <;> rfl) (by decide) ?_
                exfalso; clear hc hfl; grind (splits := 60)
              · skip
                refine jr_tableE (tgt := 194) d_m_step_33 (by rcases j_11_24 x33 with h | h | rfl | rfl | rfl | rfl | rfl | rfl | rfl | rfl | rfl | rfl | rfl | rfl | rfl | rfl <;> first | exact Or.inl ⟨Or.inl (Int32.lt_iff_toInt_lt.mp h), by decide⟩ | exact Or.inl ⟨Or.inr (Int32.lt_iff_toInt_lt.mp h), by decide⟩ | exact Or.inr ⟨by decide, by decide, _, rfl, by decide⟩ | (exfalso; grind)) ?_
                exfalso; clear hc hfl; grind (splits := 60)
theorem ct_m_step_22 {I : jc_I} {O : jc_O} {live : jc_L → Prop} {t xt fn j c i : Nat} {I1 : jc_I} {O1 : jc_O} {live1 : jc_L → Prop} {mc1 ms1 : Nat} (hm1 : O (14, t, 0) 1 = some (15, xt, 0)) (hfl : ql I O live xt fn (qFr t)) (hdj : I (14, t, 0) 2 - 1 = Int32.ofNat j) (hjf : j < fn) (hcd : O (12, t, j) 0 = some (11, c, 0)) (hc : qc O c) (hat : I (12, t, j) 5 = Int32.ofNat i) (hi : i < 60) (hlv : ∀ q, live q → live1 q) (hP : jc_Ct y_m_ends [.inr (some (10, 0, 0)), .inr (some (14, t, 0)), .inr (some (12, t, j))] I O live (none, I1, O1, live1, mc1, ms1)) (ho : I (41, c, 0) i = 22) : jc_Ct y_m_step [.inr (some (10, 0, 0)), .inr (some (14, t, 0))] I O live (none, I1, O1, live1, mc1, ms1) := by
  obtain ⟨g2, g4, g5, g7, g8, g9, g10⟩ := id hc
  have a1 := jofI (n := i) (by omega)
  have a3 := jofN (n := i) (by omega)
  refine jc_Ct.of (by decide +kernel) (rfl) (Nat.le_of_ble_eq_true rfl) ?_
  refine jr_aload_n d_m_step_0 rfl rfl ?_
  refine jv_V0r d_m_step_1 l_m_186 k_mT_top ⟨Nat.le_of_ble_eq_true rfl, Nat.le_of_ble_eq_true rfl⟩ rfl rfl (Nat.le_of_ble_eq_true rfl) (ct_mT_top hm1 hfl hdj hjf rfl) (by first | decide | exact Nat.zero_le _ | (dsimp only; omega) | (dsimp only; grind) | (omega)) (by first | decide | exact Nat.zero_le _ | (dsimp only; omega) | (dsimp only; grind) | (omega)) ?_
  first | rw [hcd] | rw [g4] | rw [g5] | skip
  refine jr_astore_n d_m_step_4 rfl (Nat.le_of_ble_eq_true rfl) ?_
  refine jr_aload_n d_m_step_5 rfl rfl ?_
  refine jr_getr d_m_step_6 f_m_190 rfl rfl ?_
  first | rw [hcd] | rw [g4] | rw [g5] | skip
  refine jr_getr d_m_step_9 f_m_59 rfl rfl ?_
  first | rw [hcd] | rw [g4] | rw [g5] | skip
  refine jr_aload_n d_m_step_12 rfl rfl ?_
  refine jr_geti d_m_step_13 f_m_195 rfl ?_
  refine jr_iald d_m_step_16 rfl rfl rfl (jinv (by rw [hat, jle, a1, j0I]; omega) (by rw [hat, a3]; show i < 60; omega)) ?_
  rw [hat, a3]
  refine jr_istore_n d_m_step_17 rfl (Nat.le_of_ble_eq_true rfl) ?_
  refine jr_aload_n d_m_step_18 rfl rfl ?_
  refine jr_getr d_m_step_19 f_m_190 rfl rfl ?_
  first | rw [hcd] | rw [g4] | rw [g5] | skip
  refine jr_getr d_m_step_22 f_m_62 rfl rfl ?_
  first | rw [hcd] | rw [g4] | rw [g5] | skip
  refine jr_aload_n d_m_step_25 rfl rfl ?_
  refine jr_geti d_m_step_26 f_m_195 rfl ?_
  refine jr_iald d_m_step_29 rfl rfl rfl (jinv (by rw [hat, jle, a1, j0I]; omega) (by rw [hat, a3]; show i < 60; omega)) ?_
  rw [hat, a3]
  refine jr_istore d_m_step_30 (Nat.le_of_ble_eq_true rfl) ?_
  refine jr_iload_n d_m_step_32 rfl rfl ?_
  refine jr_name (fun x33 e33 => ?_)
  by_cases g33_11 : x33 = 11
  · refine jr_tableIn (tgt := 104) d_m_step_33 (by rcases g33_11 with rfl <;> decide) (by rcases g33_11 with rfl <;> decide) (by rcases g33_11 with rfl <;> rfl) (by decide) ?_
    exfalso; clear hc hfl; grind (splits := 60)
  · skip
    by_cases g33_12 : x33 = 12 ∨ x33 = 13
    · refine jr_tableIn (tgt := 111) d_m_step_33 (by rcases g33_12 with rfl | rfl <;> decide) (by rcases g33_12 with rfl | rfl <;> decide) (by rcases g33_12 with rfl | rfl <;> rfl) (by decide) ?_
      exfalso; clear hc hfl; grind (splits := 60)
    · skip
      by_cases g33_16 : x33 = 16 ∨ x33 = 17 ∨ x33 = 23 ∨ x33 = 24
      · refine jr_tableIn (tgt := 184) d_m_step_33 (by rcases g33_16 with rfl | rfl | rfl | rfl <;> decide) (by rcases g33_16 with rfl | rfl | rfl | rfl <;> decide) (by rcases g33_16 with rfl | rfl | rfl | rfl <;> rfl) (by decide) ?_
        exfalso; clear hc hfl; grind (splits := 60)
      · skip
        by_cases g33_18 : x33 = 18
        · refine jr_tableIn (tgt := 134) d_m_step_33 (by rcases g33_18 with rfl <;> decide) (by rcases g33_18 with rfl <;> decide) (by rcases g33_18 with rfl <;> rfl) (by decide) ?_
          exfalso; clear hc hfl; grind (splits := 60)
        · skip
          by_cases g33_19 : x33 = 19
          · refine jr_tableIn (tgt := 143) d_m_step_33 (by rcases g33_19 with rfl <;> decide) (by rcases g33_19 with rfl <;> decide) (by rcases g33_19 with rfl <;> rfl) (by decide) ?_
            exfalso; clear hc hfl; grind (splits := 60)
          · skip
            by_cases g33_20 : x33 = 20 ∨ x33 = 21
            · refine jr_tableIn (tgt := 169) d_m_step_33 (by rcases g33_20 with rfl | rfl <;> decide) (by rcases g33_20 with rfl | rfl <;> decide) (by rcases g33_20 with rfl | rfl <;> rfl) (by decide) ?_
              exfalso; clear hc hfl; grind (splits := 60)
            · skip
              by_cases g33_22 : x33 = 22
              · refine jr_tableIn (tgt := 177) d_m_step_33 (by rcases g33_22 with rfl <;> decide) (by rcases g33_22 with rfl <;> decide) (by rcases g33_22 with rfl <;> rfl) (by decide) ?_
                refine jr_aload_n d_m_step_177 rfl rfl ?_
                refine jr_aload_n d_m_step_178 rfl rfl ?_
                refine jr_aload_n d_m_step_179 rfl rfl ?_
                refine jv_V2vA d_m_step_180 l_m_226 k_m_ends ⟨Nat.le_of_ble_eq_true rfl, Nat.le_of_ble_eq_true rfl⟩ rfl rfl (Nat.le_of_ble_eq_true rfl) (hP) hlv (by first | decide | exact Nat.zero_le _ | (dsimp only; omega) | (dsimp only; grind) | (omega)) (by first | decide | exact Nat.zero_le _ | (dsimp only; omega) | (dsimp only; grind) | (omega)) ?_
                exact jr_retX (v := none) d_m_step_183 (by first | exact Nat.le_refl _ | exact Nat.zero_le _ | (dsimp only; omega) | (omega)) (by first | exact Nat.le_refl _ | exact Nat.zero_le _ | (dsimp only; omega) | (omega)) (by first | with_reducible rfl | (dsimp only; rfl; done) | (rfl; done) | (exfalso; grind)) (by first | with_reducible rfl | (dsimp only; rfl; done) | (rfl; done) | (exfalso; grind)) (by first | with_reducible rfl | (dsimp only; rfl; done) | (rfl; done) | (exfalso; grind)) (by first | with_reducible rfl | (dsimp only; rfl; done) | (rfl; done) | (exfalso; grind))
              · skip
                refine jr_tableE (tgt := 194) d_m_step_33 (by rcases j_11_24 x33 with h | h | rfl | rfl | rfl | rfl | rfl | rfl | rfl | rfl | rfl | rfl | rfl | rfl | rfl | rfl <;> first | exact Or.inl ⟨Or.inl (Int32.lt_iff_toInt_lt.mp h), by decide⟩ | exact Or.inl ⟨Or.inr (Int32.lt_iff_toInt_lt.mp h), by decide⟩ | exact Or.inr ⟨by decide, by decide, _, rfl, by decide⟩ | (exfalso; grind)) ?_
                exfalso; clear hc hfl; grind (splits := 60)
theorem ct_m_step_16 {I : jc_I} {O : jc_O} {live : jc_L → Prop} {t xt fn j c i : Nat} {I1 : jc_I} {O1 : jc_O} {live1 : jc_L → Prop} {mc1 ms1 : Nat} (hm1 : O (14, t, 0) 1 = some (15, xt, 0)) (hfl : ql I O live xt fn (qFr t)) (hdj : I (14, t, 0) 2 - 1 = Int32.ofNat j) (hjf : j < fn) (hcd : O (12, t, j) 0 = some (11, c, 0)) (hc : qc O c) (hat : I (12, t, j) 5 = Int32.ofNat i) (hi : i < 60) (hlv : ∀ q, live q → live1 q) (hP : jc_Ct y_m_field [.inr (some (10, 0, 0)), .inr (some (14, t, 0)), .inr (some (12, t, j)), .inl (I (41, c, 0) i), .inl (I (42, c, 0) i)] I O live (none, I1, O1, live1, mc1, ms1)) (ho : I (41, c, 0) i = 16 ∨ I (41, c, 0) i = 17 ∨ I (41, c, 0) i = 23 ∨ I (41, c, 0) i = 24) : jc_Ct y_m_step [.inr (some (10, 0, 0)), .inr (some (14, t, 0))] I O live (none, I1, O1, live1, mc1, ms1) := by
  obtain ⟨g2, g4, g5, g7, g8, g9, g10⟩ := id hc
  have a1 := jofI (n := i) (by omega)
  have a3 := jofN (n := i) (by omega)
  refine jc_Ct.of (by decide +kernel) (rfl) (Nat.le_of_ble_eq_true rfl) ?_
  refine jr_aload_n d_m_step_0 rfl rfl ?_
  refine jv_V0r d_m_step_1 l_m_186 k_mT_top ⟨Nat.le_of_ble_eq_true rfl, Nat.le_of_ble_eq_true rfl⟩ rfl rfl (Nat.le_of_ble_eq_true rfl) (ct_mT_top hm1 hfl hdj hjf rfl) (by first | decide | exact Nat.zero_le _ | (dsimp only; omega) | (dsimp only; grind) | (omega)) (by first | decide | exact Nat.zero_le _ | (dsimp only; omega) | (dsimp only; grind) | (omega)) ?_
  first | rw [hcd] | rw [g4] | rw [g5] | skip
  refine jr_astore_n d_m_step_4 rfl (Nat.le_of_ble_eq_true rfl) ?_
  refine jr_aload_n d_m_step_5 rfl rfl ?_
  refine jr_getr d_m_step_6 f_m_190 rfl rfl ?_
  first | rw [hcd] | rw [g4] | rw [g5] | skip
  refine jr_getr d_m_step_9 f_m_59 rfl rfl ?_
  first | rw [hcd] | rw [g4] | rw [g5] | skip
  refine jr_aload_n d_m_step_12 rfl rfl ?_
  refine jr_geti d_m_step_13 f_m_195 rfl ?_
  refine jr_iald d_m_step_16 rfl rfl rfl (jinv (by rw [hat, jle, a1, j0I]; omega) (by rw [hat, a3]; show i < 60; omega)) ?_
  rw [hat, a3]
  refine jr_istore_n d_m_step_17 rfl (Nat.le_of_ble_eq_true rfl) ?_
  refine jr_aload_n d_m_step_18 rfl rfl ?_
  refine jr_getr d_m_step_19 f_m_190 rfl rfl ?_
  first | rw [hcd] | rw [g4] | rw [g5] | skip
  refine jr_getr d_m_step_22 f_m_62 rfl rfl ?_
  first | rw [hcd] | rw [g4] | rw [g5] | skip
  refine jr_aload_n d_m_step_25 rfl rfl ?_
  refine jr_geti d_m_step_26 f_m_195 rfl ?_
  refine jr_iald d_m_step_29 rfl rfl rfl (jinv (by rw [hat, jle, a1, j0I]; omega) (by rw [hat, a3]; show i < 60; omega)) ?_
  rw [hat, a3]
  refine jr_istore d_m_step_30 (Nat.le_of_ble_eq_true rfl) ?_
  refine jr_iload_n d_m_step_32 rfl rfl ?_
  refine jr_name (fun x33 e33 => ?_)
  by_cases g33_11 : x33 = 11
  · refine jr_tableIn (tgt := 104) d_m_step_33 (by rcases g33_11 with rfl <;> decide) (by rcases g33_11 with rfl <;> decide) (by rcases g33_11 with rfl <;> rfl) (by decide) ?_
    exfalso; clear hc hfl; grind (splits := 60)
  · skip
    by_cases g33_12 : x33 = 12 ∨ x33 = 13
    · refine jr_tableIn (tgt := 111) d_m_step_33 (by rcases g33_12 with rfl | rfl <;> decide) (by rcases g33_12 with rfl | rfl <;> decide) (by rcases g33_12 with rfl | rfl <;> rfl) (by decide) ?_
      exfalso; clear hc hfl; grind (splits := 60)
    · skip
      by_cases g33_16 : x33 = 16 ∨ x33 = 17 ∨ x33 = 23 ∨ x33 = 24
      · refine jr_tableIn (tgt := 184) d_m_step_33 (by rcases g33_16 with rfl | rfl | rfl | rfl <;> decide) (by rcases g33_16 with rfl | rfl | rfl | rfl <;> decide) (by rcases g33_16 with rfl | rfl | rfl | rfl <;> rfl) (by decide) ?_
        refine jr_aload_n d_m_step_184 rfl rfl ?_
        refine jr_aload_n d_m_step_185 rfl rfl ?_
        refine jr_aload_n d_m_step_186 rfl rfl ?_
        refine jr_iload_n d_m_step_187 rfl rfl ?_
        refine jr_iload d_m_step_188 rfl ?_
        refine jv_V4vA d_m_step_190 l_m_230 k_m_field ⟨Nat.le_of_ble_eq_true rfl, Nat.le_of_ble_eq_true rfl⟩ rfl rfl (Nat.le_of_ble_eq_true rfl) (hP) hlv (by first | decide | exact Nat.zero_le _ | (dsimp only; omega) | (dsimp only; grind) | (omega)) (by first | decide | exact Nat.zero_le _ | (dsimp only; omega) | (dsimp only; grind) | (omega)) ?_
        exact jr_retX (v := none) d_m_step_193 (by first | exact Nat.le_refl _ | exact Nat.zero_le _ | (dsimp only; omega) | (omega)) (by first | exact Nat.le_refl _ | exact Nat.zero_le _ | (dsimp only; omega) | (omega)) (by first | with_reducible rfl | (dsimp only; rfl; done) | (rfl; done) | (exfalso; grind)) (by first | with_reducible rfl | (dsimp only; rfl; done) | (rfl; done) | (exfalso; grind)) (by first | with_reducible rfl | (dsimp only; rfl; done) | (rfl; done) | (exfalso; grind)) (by first | with_reducible rfl | (dsimp only; rfl; done) | (rfl; done) | (exfalso; grind))
      · skip
        by_cases g33_18 : x33 = 18
        · refine jr_tableIn (tgt := 134) d_m_step_33 (by rcases g33_18 with rfl <;> decide) (by rcases g33_18 with rfl <;> decide) (by rcases g33_18 with rfl <;> rfl) (by decide) ?_
          exfalso; clear hc hfl; grind (splits := 60)
        · skip
          by_cases g33_19 : x33 = 19
          · refine jr_tableIn (tgt := 143) d_m_step_33 (by rcases g33_19 with rfl <;> decide) (by rcases g33_19 with rfl <;> decide) (by rcases g33_19 with rfl <;> rfl) (by decide) ?_
            exfalso; clear hc hfl; grind (splits := 60)
          · skip
            by_cases g33_20 : x33 = 20 ∨ x33 = 21
            · refine jr_tableIn (tgt := 169) d_m_step_33 (by rcases g33_20 with rfl | rfl <;> decide) (by rcases g33_20 with rfl | rfl <;> decide) (by rcases g33_20 with rfl | rfl <;> rfl) (by decide) ?_
              exfalso; clear hc hfl; grind (splits := 60)
            · skip
              by_cases g33_22 : x33 = 22
              · refine jr_tableIn (tgt := 177) d_m_step_33 (by rcases g33_22 with rfl <;> decide) (by rcases g33_22 with rfl <;> decide) (by rcases g33_22 with rfl <;> rfl) (by decide) ?_
                exfalso; clear hc hfl; grind (splits := 60)
              · skip
                refine jr_tableE (tgt := 194) d_m_step_33 (by rcases j_11_24 x33 with h | h | rfl | rfl | rfl | rfl | rfl | rfl | rfl | rfl | rfl | rfl | rfl | rfl | rfl | rfl <;> first | exact Or.inl ⟨Or.inl (Int32.lt_iff_toInt_lt.mp h), by decide⟩ | exact Or.inl ⟨Or.inr (Int32.lt_iff_toInt_lt.mp h), by decide⟩ | exact Or.inr ⟨by decide, by decide, _, rfl, by decide⟩ | (exfalso; grind)) ?_
                exfalso; clear hc hfl; grind (splits := 60)
theorem ct_m_step_pl {I : jc_I} {O : jc_O} {live : jc_L → Prop} {t xt fn j c i : Nat} {I1 : jc_I} {O1 : jc_O} {live1 : jc_L → Prop} {mc1 ms1 : Nat} (hm1 : O (14, t, 0) 1 = some (15, xt, 0)) (hfl : ql I O live xt fn (qFr t)) (hdj : I (14, t, 0) 2 - 1 = Int32.ofNat j) (hjf : j < fn) (hcd : O (12, t, j) 0 = some (11, c, 0)) (hc : qc O c) (hat : I (12, t, j) 5 = Int32.ofNat i) (hi : i < 60) (hlv : ∀ q, live q → live1 q) (hP : jc_Ct y_m_plain [.inr (some (10, 0, 0)), .inr (some (14, t, 0)), .inr (some (12, t, j)), .inl (I (41, c, 0) i), .inl (I (42, c, 0) i)] I O live (none, I1, O1, live1, mc1, ms1)) (ho : ¬ (I (41, c, 0) i = 11 ∨ I (41, c, 0) i = 12 ∨ I (41, c, 0) i = 13 ∨ I (41, c, 0) i = 16 ∨ I (41, c, 0) i = 17 ∨ I (41, c, 0) i = 18 ∨ I (41, c, 0) i = 19 ∨ I (41, c, 0) i = 20 ∨ I (41, c, 0) i = 21 ∨ I (41, c, 0) i = 22 ∨ I (41, c, 0) i = 23 ∨ I (41, c, 0) i = 24)) : jc_Ct y_m_step [.inr (some (10, 0, 0)), .inr (some (14, t, 0))] I O live (none, I1, O1, live1, mc1, ms1) := by
  obtain ⟨g2, g4, g5, g7, g8, g9, g10⟩ := id hc
  have a1 := jofI (n := i) (by omega)
  have a3 := jofN (n := i) (by omega)
  refine jc_Ct.of (by decide +kernel) (rfl) (Nat.le_of_ble_eq_true rfl) ?_
  refine jr_aload_n d_m_step_0 rfl rfl ?_
  refine jv_V0r d_m_step_1 l_m_186 k_mT_top ⟨Nat.le_of_ble_eq_true rfl, Nat.le_of_ble_eq_true rfl⟩ rfl rfl (Nat.le_of_ble_eq_true rfl) (ct_mT_top hm1 hfl hdj hjf rfl) (by first | decide | exact Nat.zero_le _ | (dsimp only; omega) | (dsimp only; grind) | (omega)) (by first | decide | exact Nat.zero_le _ | (dsimp only; omega) | (dsimp only; grind) | (omega)) ?_
  first | rw [hcd] | rw [g4] | rw [g5] | skip
  refine jr_astore_n d_m_step_4 rfl (Nat.le_of_ble_eq_true rfl) ?_
  refine jr_aload_n d_m_step_5 rfl rfl ?_
  refine jr_getr d_m_step_6 f_m_190 rfl rfl ?_
  first | rw [hcd] | rw [g4] | rw [g5] | skip
  refine jr_getr d_m_step_9 f_m_59 rfl rfl ?_
  first | rw [hcd] | rw [g4] | rw [g5] | skip
  refine jr_aload_n d_m_step_12 rfl rfl ?_
  refine jr_geti d_m_step_13 f_m_195 rfl ?_
  refine jr_iald d_m_step_16 rfl rfl rfl (jinv (by rw [hat, jle, a1, j0I]; omega) (by rw [hat, a3]; show i < 60; omega)) ?_
  rw [hat, a3]
  refine jr_istore_n d_m_step_17 rfl (Nat.le_of_ble_eq_true rfl) ?_
  refine jr_aload_n d_m_step_18 rfl rfl ?_
  refine jr_getr d_m_step_19 f_m_190 rfl rfl ?_
  first | rw [hcd] | rw [g4] | rw [g5] | skip
  refine jr_getr d_m_step_22 f_m_62 rfl rfl ?_
  first | rw [hcd] | rw [g4] | rw [g5] | skip
  refine jr_aload_n d_m_step_25 rfl rfl ?_
  refine jr_geti d_m_step_26 f_m_195 rfl ?_
  refine jr_iald d_m_step_29 rfl rfl rfl (jinv (by rw [hat, jle, a1, j0I]; omega) (by rw [hat, a3]; show i < 60; omega)) ?_
  rw [hat, a3]
  refine jr_istore d_m_step_30 (Nat.le_of_ble_eq_true rfl) ?_
  refine jr_iload_n d_m_step_32 rfl rfl ?_
  refine jr_name (fun x33 e33 => ?_)
  by_cases g33_11 : x33 = 11
  · refine jr_tableIn (tgt := 104) d_m_step_33 (by rcases g33_11 with rfl <;> decide) (by rcases g33_11 with rfl <;> decide) (by rcases g33_11 with rfl <;> rfl) (by decide) ?_
    exfalso; clear hc hfl; grind (splits := 60)
  · skip
    by_cases g33_12 : x33 = 12 ∨ x33 = 13
    · refine jr_tableIn (tgt := 111) d_m_step_33 (by rcases g33_12 with rfl | rfl <;> decide) (by rcases g33_12 with rfl | rfl <;> decide) (by rcases g33_12 with rfl | rfl <;> rfl) (by decide) ?_
      exfalso; clear hc hfl; grind (splits := 60)
    · skip
      by_cases g33_16 : x33 = 16 ∨ x33 = 17 ∨ x33 = 23 ∨ x33 = 24
      · refine jr_tableIn (tgt := 184) d_m_step_33 (by rcases g33_16 with rfl | rfl | rfl | rfl <;> decide) (by rcases g33_16 with rfl | rfl | rfl | rfl <;> decide) (by rcases g33_16 with rfl | rfl | rfl | rfl <;> rfl) (by decide) ?_
        exfalso; clear hc hfl; grind (splits := 60)
      · skip
        by_cases g33_18 : x33 = 18
        · refine jr_tableIn (tgt := 134) d_m_step_33 (by rcases g33_18 with rfl <;> decide) (by rcases g33_18 with rfl <;> decide) (by rcases g33_18 with rfl <;> rfl) (by decide) ?_
          exfalso; clear hc hfl; grind (splits := 60)
        · skip
          by_cases g33_19 : x33 = 19
          · refine jr_tableIn (tgt := 143) d_m_step_33 (by rcases g33_19 with rfl <;> decide) (by rcases g33_19 with rfl <;> decide) (by rcases g33_19 with rfl <;> rfl) (by decide) ?_
            exfalso; clear hc hfl; grind (splits := 60)
          · skip
            by_cases g33_20 : x33 = 20 ∨ x33 = 21
            · refine jr_tableIn (tgt := 169) d_m_step_33 (by rcases g33_20 with rfl | rfl <;> decide) (by rcases g33_20 with rfl | rfl <;> decide) (by rcases g33_20 with rfl | rfl <;> rfl) (by decide) ?_
              exfalso; clear hc hfl; grind (splits := 60)
            · skip
              by_cases g33_22 : x33 = 22
              · refine jr_tableIn (tgt := 177) d_m_step_33 (by rcases g33_22 with rfl <;> decide) (by rcases g33_22 with rfl <;> decide) (by rcases g33_22 with rfl <;> rfl) (by decide) ?_
                exfalso; clear hc hfl; grind (splits := 60)
              · skip
                refine jr_tableE (tgt := 194) d_m_step_33 (by rcases j_11_24 x33 with h | h | rfl | rfl | rfl | rfl | rfl | rfl | rfl | rfl | rfl | rfl | rfl | rfl | rfl | rfl <;> first | exact Or.inl ⟨Or.inl (Int32.lt_iff_toInt_lt.mp h), by decide⟩ | exact Or.inl ⟨Or.inr (Int32.lt_iff_toInt_lt.mp h), by decide⟩ | exact Or.inr ⟨by decide, by decide, _, rfl, by decide⟩ | (exfalso; grind)) ?_
                refine jr_aload_n d_m_step_194 rfl rfl ?_
                refine jr_aload_n d_m_step_195 rfl rfl ?_
                refine jr_aload_n d_m_step_196 rfl rfl ?_
                refine jr_iload_n d_m_step_197 rfl rfl ?_
                refine jr_iload d_m_step_198 rfl ?_
                refine jv_V4vA d_m_step_200 l_m_234 k_m_plain ⟨Nat.le_of_ble_eq_true rfl, Nat.le_of_ble_eq_true rfl⟩ rfl rfl (Nat.le_of_ble_eq_true rfl) (hP) hlv (by first | decide | exact Nat.zero_le _ | (dsimp only; omega) | (dsimp only; grind) | (omega)) (by first | decide | exact Nat.zero_le _ | (dsimp only; omega) | (dsimp only; grind) | (omega)) ?_
                exact jr_retX (v := none) d_m_step_203 (by first | exact Nat.le_refl _ | exact Nat.zero_le _ | (dsimp only; omega) | (omega)) (by first | exact Nat.le_refl _ | exact Nat.zero_le _ | (dsimp only; omega) | (omega)) (by first | with_reducible rfl | (dsimp only; rfl; done) | (rfl; done) | (exfalso; grind)) (by first | with_reducible rfl | (dsimp only; rfl; done) | (rfl; done) | (exfalso; grind)) (by first | with_reducible rfl | (dsimp only; rfl; done) | (rfl; done) | (exfalso; grind)) (by first | with_reducible rfl | (dsimp only; rfl; done) | (rfl; done) | (exfalso; grind))
theorem ct_m_step_19n {I : jc_I} {O : jc_O} {live : jc_L → Prop} {t xt fn j c i : Nat} {b n m : Nat} (hm1 : O (14, t, 0) 1 = some (15, xt, 0)) (hfl : ql I O live xt fn (qFr t)) (hdj : I (14, t, 0) 2 - 1 = Int32.ofNat j) (hjf : j < fn) (hcd : O (12, t, j) 0 = some (11, c, 0)) (hc : qc O c) (hat : I (12, t, j) 5 = Int32.ofNat i) (hi : i < 60) (hQ : QT I O live t b n xt fn m) (hf : qf O t j) (h1 : 1 ≤ I (12, t, j) 4) (h2 : I (12, t, j) 4 ≤ 12) (hz : q_tp I t j = 0) (ho : I (41, c, 0) i = 19) : jc_Ct y_m_step [.inr (some (10, 0, 0)), .inr (some (14, t, 0))] I O live (none, q_fI I O live t b n m 6, (q_mk I O live 6).2.2.1, (q_mk I O live 6).2.2.2.1, (q_mk I O live 6).2.2.2.2.1, (q_mk I O live 6).2.2.2.2.2) := by
  obtain ⟨g2, g4, g5, g7, g8, g9, g10⟩ := id hc
  have a1 := jofI (n := i) (by omega)
  have a3 := jofN (n := i) (by omega)
  refine jc_Ct.of (by decide +kernel) (rfl) (Nat.le_of_ble_eq_true rfl) ?_
  refine jr_aload_n d_m_step_0 rfl rfl ?_
  refine jv_V0r d_m_step_1 l_m_186 k_mT_top ⟨Nat.le_of_ble_eq_true rfl, Nat.le_of_ble_eq_true rfl⟩ rfl rfl (Nat.le_of_ble_eq_true rfl) (ct_mT_top hm1 hfl hdj hjf rfl) (by first | decide | exact Nat.zero_le _ | (dsimp only; omega) | (dsimp only; grind) | (omega)) (by first | decide | exact Nat.zero_le _ | (dsimp only; omega) | (dsimp only; grind) | (omega)) ?_
  first | rw [hcd] | rw [g4] | rw [g5] | skip
  refine jr_astore_n d_m_step_4 rfl (Nat.le_of_ble_eq_true rfl) ?_
  refine jr_aload_n d_m_step_5 rfl rfl ?_
  refine jr_getr d_m_step_6 f_m_190 rfl rfl ?_
  first | rw [hcd] | rw [g4] | rw [g5] | skip
  refine jr_getr d_m_step_9 f_m_59 rfl rfl ?_
  first | rw [hcd] | rw [g4] | rw [g5] | skip
  refine jr_aload_n d_m_step_12 rfl rfl ?_
  refine jr_geti d_m_step_13 f_m_195 rfl ?_
  refine jr_iald d_m_step_16 rfl rfl rfl (jinv (by rw [hat, jle, a1, j0I]; omega) (by rw [hat, a3]; show i < 60; omega)) ?_
  rw [hat, a3]
  refine jr_istore_n d_m_step_17 rfl (Nat.le_of_ble_eq_true rfl) ?_
  refine jr_aload_n d_m_step_18 rfl rfl ?_
  refine jr_getr d_m_step_19 f_m_190 rfl rfl ?_
  first | rw [hcd] | rw [g4] | rw [g5] | skip
  refine jr_getr d_m_step_22 f_m_62 rfl rfl ?_
  first | rw [hcd] | rw [g4] | rw [g5] | skip
  refine jr_aload_n d_m_step_25 rfl rfl ?_
  refine jr_geti d_m_step_26 f_m_195 rfl ?_
  refine jr_iald d_m_step_29 rfl rfl rfl (jinv (by rw [hat, jle, a1, j0I]; omega) (by rw [hat, a3]; show i < 60; omega)) ?_
  rw [hat, a3]
  refine jr_istore d_m_step_30 (Nat.le_of_ble_eq_true rfl) ?_
  refine jr_iload_n d_m_step_32 rfl rfl ?_
  refine jr_name (fun x33 e33 => ?_)
  by_cases g33_11 : x33 = 11
  · refine jr_tableIn (tgt := 104) d_m_step_33 (by rcases g33_11 with rfl <;> decide) (by rcases g33_11 with rfl <;> decide) (by rcases g33_11 with rfl <;> rfl) (by decide) ?_
    exfalso; clear hc hfl; grind (splits := 60)
  · skip
    by_cases g33_12 : x33 = 12 ∨ x33 = 13
    · refine jr_tableIn (tgt := 111) d_m_step_33 (by rcases g33_12 with rfl | rfl <;> decide) (by rcases g33_12 with rfl | rfl <;> decide) (by rcases g33_12 with rfl | rfl <;> rfl) (by decide) ?_
      exfalso; clear hc hfl; grind (splits := 60)
    · skip
      by_cases g33_16 : x33 = 16 ∨ x33 = 17 ∨ x33 = 23 ∨ x33 = 24
      · refine jr_tableIn (tgt := 184) d_m_step_33 (by rcases g33_16 with rfl | rfl | rfl | rfl <;> decide) (by rcases g33_16 with rfl | rfl | rfl | rfl <;> decide) (by rcases g33_16 with rfl | rfl | rfl | rfl <;> rfl) (by decide) ?_
        exfalso; clear hc hfl; grind (splits := 60)
      · skip
        by_cases g33_18 : x33 = 18
        · refine jr_tableIn (tgt := 134) d_m_step_33 (by rcases g33_18 with rfl <;> decide) (by rcases g33_18 with rfl <;> decide) (by rcases g33_18 with rfl <;> rfl) (by decide) ?_
          exfalso; clear hc hfl; grind (splits := 60)
        · skip
          by_cases g33_19 : x33 = 19
          · refine jr_tableIn (tgt := 143) d_m_step_33 (by rcases g33_19 with rfl <;> decide) (by rcases g33_19 with rfl <;> decide) (by rcases g33_19 with rfl <;> rfl) (by decide) ?_
            refine jr_aload_n d_m_step_143 rfl rfl ?_
            refine jr_aload_n d_m_step_144 rfl rfl ?_
            refine jr_aload_n d_m_step_145 rfl rfl ?_
            refine jv_V0r d_m_step_146 l_m_213 k_mF_top ⟨Nat.le_of_ble_eq_true rfl, Nat.le_of_ble_eq_true rfl⟩ rfl rfl (Nat.le_of_ble_eq_true rfl) (ct_mF_top hf h1 h2) (by first | decide | exact Nat.zero_le _ | (dsimp only; omega) | (dsimp only; grind) | (omega)) (by first | decide | exact Nat.zero_le _ | (dsimp only; omega) | (dsimp only; grind) | (omega)) ?_
            refine jr_if_ne (tgt := 161) d_m_step_149 (by decide) (fun c149 => ?_) (fun c149 => ?_)
            · skip
              exact absurd hz c149
            · skip
              refine jr_aload_n d_m_step_152 rfl rfl ?_
              refine jr_bipush (v := 6) d_m_step_153 (by decide) ?_
              refine jv_V1rA d_m_step_155 l_m_215 k_m_fresh ⟨Nat.le_of_ble_eq_true rfl, Nat.le_of_ble_eq_true rfl⟩ rfl rfl (Nat.le_of_ble_eq_true rfl) ((ct_fail (x := 6) hQ).1) (fun q9 h9 => q_mk_live q9 h9) (by first | decide | exact Nat.zero_le _ | (dsimp only; omega) | (dsimp only; grind) | (omega)) (by first | decide | exact Nat.zero_le _ | (dsimp only; omega) | (dsimp only; grind) | (omega)) ?_
              refine jr_goto (tgt := 165) d_m_step_158 (by decide) ?_
              refine jv_V2v d_m_step_165 l_m_219 k_m_flies ⟨Nat.le_of_ble_eq_true rfl, Nat.le_of_ble_eq_true rfl⟩ rfl rfl (Nat.le_of_ble_eq_true rfl) ((ct_fail (x := 6) hQ).2) (by first | decide | exact Nat.zero_le _ | (dsimp only; omega) | (dsimp only; grind) | (omega)) (by first | decide | exact Nat.zero_le _ | (dsimp only; omega) | (dsimp only; grind) | (omega)) ?_
              exact jr_retX (v := none) d_m_step_168 (by first | exact Nat.le_refl _ | exact Nat.zero_le _ | (dsimp only; omega) | (omega)) (by first | exact Nat.le_refl _ | exact Nat.zero_le _ | (dsimp only; omega) | (omega)) (by first | with_reducible rfl | (dsimp only; rfl; done) | (rfl; done) | (exfalso; grind)) (by first | with_reducible rfl | (dsimp only; rfl; done) | (rfl; done) | (exfalso; grind)) (by first | with_reducible rfl | (dsimp only; rfl; done) | (rfl; done) | (exfalso; grind)) (by first | with_reducible rfl | (dsimp only; rfl; done) | (rfl; done) | (exfalso; grind))
          · skip
            by_cases g33_20 : x33 = 20 ∨ x33 = 21
            · refine jr_tableIn (tgt := 169) d_m_step_33 (by rcases g33_20 with rfl | rfl <;> decide) (by rcases g33_20 with rfl | rfl <;> decide) (by rcases g33_20 with rfl | rfl <;> rfl) (by decide) ?_
              exfalso; clear hc hfl; grind (splits := 60)
            · skip
              by_cases g33_22 : x33 = 22
              · refine jr_tableIn (tgt := 177) d_m_step_33 (by rcases g33_22 with rfl <;> decide) (by rcases g33_22 with rfl <;> decide) (by rcases g33_22 with rfl <;> rfl) (by decide) ?_
                exfalso; clear hc hfl; grind (splits := 60)
              · skip
                refine jr_tableE (tgt := 194) d_m_step_33 (by rcases j_11_24 x33 with h | h | rfl | rfl | rfl | rfl | rfl | rfl | rfl | rfl | rfl | rfl | rfl | rfl | rfl | rfl <;> first | exact Or.inl ⟨Or.inl (Int32.lt_iff_toInt_lt.mp h), by decide⟩ | exact Or.inl ⟨Or.inr (Int32.lt_iff_toInt_lt.mp h), by decide⟩ | exact Or.inr ⟨by decide, by decide, _, rfl, by decide⟩ | (exfalso; grind)) ?_
                exfalso; clear hc hfl; grind (splits := 60)
theorem ct_m_step_19o {I : jc_I} {O : jc_O} {live : jc_L → Prop} {t xt fn j c i : Nat} {b n m : Nat} (hm1 : O (14, t, 0) 1 = some (15, xt, 0)) (hfl : ql I O live xt fn (qFr t)) (hdj : I (14, t, 0) 2 - 1 = Int32.ofNat j) (hjf : j < fn) (hcd : O (12, t, j) 0 = some (11, c, 0)) (hc : qc O c) (hat : I (12, t, j) 5 = Int32.ofNat i) (hi : i < 60) (hQ : QT I O live t b n xt fn m) (hf : qf O t j) (h1 : 1 ≤ I (12, t, j) 4) (h2 : I (12, t, j) 4 ≤ 12) (hx1 : 1 ≤ q_tp I t j) (hx2 : (q_tp I t j - 1).toNatClampNeg < n) (ho : I (41, c, 0) i = 19) : jc_Ct y_m_step [.inr (some (10, 0, 0)), .inr (some (14, t, 0))] I O live (none, q_rs O t b n (q_tp I t j) (I (13, b + (q_tp I t j - 1).toNatClampNeg, 0) 0) m I, O, live, 0, 0) := by
  obtain ⟨g2, g4, g5, g7, g8, g9, g10⟩ := id hc
  have a1 := jofI (n := i) (by omega)
  have a3 := jofN (n := i) (by omega)
  refine jc_Ct.of (by decide +kernel) (rfl) (Nat.le_of_ble_eq_true rfl) ?_
  refine jr_aload_n d_m_step_0 rfl rfl ?_
  refine jv_V0r d_m_step_1 l_m_186 k_mT_top ⟨Nat.le_of_ble_eq_true rfl, Nat.le_of_ble_eq_true rfl⟩ rfl rfl (Nat.le_of_ble_eq_true rfl) (ct_mT_top hm1 hfl hdj hjf rfl) (by first | decide | exact Nat.zero_le _ | (dsimp only; omega) | (dsimp only; grind)) (by first | decide | exact Nat.zero_le _ | (dsimp only; omega) | (dsimp only; grind)) ?_
  first | rw [hcd] | rw [g4] | rw [g5] | skip
  refine jr_astore_n d_m_step_4 rfl (Nat.le_of_ble_eq_true rfl) ?_
  refine jr_aload_n d_m_step_5 rfl rfl ?_
  refine jr_getr d_m_step_6 f_m_190 rfl rfl ?_
  first | rw [hcd] | rw [g4] | rw [g5] | skip
  refine jr_getr d_m_step_9 f_m_59 rfl rfl ?_
  first | rw [hcd] | rw [g4] | rw [g5] | skip
  refine jr_aload_n d_m_step_12 rfl rfl ?_
  refine jr_geti d_m_step_13 f_m_195 rfl ?_
  refine jr_iald d_m_step_16 rfl rfl rfl (jinv (by rw [hat, jle, a1, j0I]; omega) (by rw [hat, a3]; show i < 60; omega)) ?_
  rw [hat, a3]
  refine jr_istore_n d_m_step_17 rfl (Nat.le_of_ble_eq_true rfl) ?_
  refine jr_aload_n d_m_step_18 rfl rfl ?_
  refine jr_getr d_m_step_19 f_m_190 rfl rfl ?_
  first | rw [hcd] | rw [g4] | rw [g5] | skip
  refine jr_getr d_m_step_22 f_m_62 rfl rfl ?_
  first | rw [hcd] | rw [g4] | rw [g5] | skip
  refine jr_aload_n d_m_step_25 rfl rfl ?_
  refine jr_geti d_m_step_26 f_m_195 rfl ?_
  refine jr_iald d_m_step_29 rfl rfl rfl (jinv (by rw [hat, jle, a1, j0I]; omega) (by rw [hat, a3]; show i < 60; omega)) ?_
  rw [hat, a3]
  refine jr_istore d_m_step_30 (Nat.le_of_ble_eq_true rfl) ?_
  refine jr_iload_n d_m_step_32 rfl rfl ?_
  refine jr_name (fun x33 e33 => ?_)
  by_cases g33_11 : x33 = 11
  · refine jr_tableIn (tgt := 104) d_m_step_33 (by rcases g33_11 with rfl <;> decide) (by rcases g33_11 with rfl <;> decide) (by rcases g33_11 with rfl <;> rfl) (by decide) ?_
    exfalso; clear hc hfl; grind (splits := 60)
  · skip
    by_cases g33_12 : x33 = 12 ∨ x33 = 13
    · refine jr_tableIn (tgt := 111) d_m_step_33 (by rcases g33_12 with rfl | rfl <;> decide) (by rcases g33_12 with rfl | rfl <;> decide) (by rcases g33_12 with rfl | rfl <;> rfl) (by decide) ?_
      exfalso; clear hc hfl; grind (splits := 60)
    · skip
      by_cases g33_16 : x33 = 16 ∨ x33 = 17 ∨ x33 = 23 ∨ x33 = 24
      · refine jr_tableIn (tgt := 184) d_m_step_33 (by rcases g33_16 with rfl | rfl | rfl | rfl <;> decide) (by rcases g33_16 with rfl | rfl | rfl | rfl <;> decide) (by rcases g33_16 with rfl | rfl | rfl | rfl <;> rfl) (by decide) ?_
        exfalso; clear hc hfl; grind (splits := 60)
      · skip
        by_cases g33_18 : x33 = 18
        · refine jr_tableIn (tgt := 134) d_m_step_33 (by rcases g33_18 with rfl <;> decide) (by rcases g33_18 with rfl <;> decide) (by rcases g33_18 with rfl <;> rfl) (by decide) ?_
          exfalso; clear hc hfl; grind (splits := 60)
        · skip
          by_cases g33_19 : x33 = 19
          · refine jr_tableIn (tgt := 143) d_m_step_33 (by rcases g33_19 with rfl <;> decide) (by rcases g33_19 with rfl <;> decide) (by rcases g33_19 with rfl <;> rfl) (by decide) ?_
            refine jr_aload_n d_m_step_143 rfl rfl ?_
            refine jr_aload_n d_m_step_144 rfl rfl ?_
            refine jr_aload_n d_m_step_145 rfl rfl ?_
            refine jv_V0r d_m_step_146 l_m_213 k_mF_top ⟨Nat.le_of_ble_eq_true rfl, Nat.le_of_ble_eq_true rfl⟩ rfl rfl (Nat.le_of_ble_eq_true rfl) (ct_mF_top hf h1 h2) (by first | decide | exact Nat.zero_le _ | (dsimp only; omega) | (dsimp only; grind)) (by first | decide | exact Nat.zero_le _ | (dsimp only; omega) | (dsimp only; grind)) ?_
            refine jr_if_ne (tgt := 161) d_m_step_149 (by decide) (fun c149 => ?_) (fun c149 => ?_)
            · skip
              refine jr_aload_n d_m_step_161 rfl rfl ?_
              refine jv_V0r d_m_step_162 l_m_213 k_mF_top ⟨Nat.le_of_ble_eq_true rfl, Nat.le_of_ble_eq_true rfl⟩ rfl rfl (Nat.le_of_ble_eq_true rfl) (ct_mF_top hf h1 h2) (by first | decide | exact Nat.zero_le _ | (dsimp only; omega) | (dsimp only; grind)) (by first | decide | exact Nat.zero_le _ | (dsimp only; omega) | (dsimp only; grind)) ?_
              refine jv_V2v d_m_step_165 l_m_219 k_m_flies ⟨Nat.le_of_ble_eq_true rfl, Nat.le_of_ble_eq_true rfl⟩ rfl rfl (Nat.le_of_ble_eq_true rfl) (ct_m_flies hQ.M hQ.ob (jex hx1 hx2 (by have := hQ.n3; omega)) hx2 hQ.m1 hQ.fs hQ.d hQ.mf hQ.F) (by first | decide | exact Nat.zero_le _ | (dsimp only; omega) | (dsimp only; grind)) (by first | decide | exact Nat.zero_le _ | (dsimp only; omega) | (dsimp only; grind)) ?_
              exact jr_retX (v := none) d_m_step_168 (by first | exact Nat.le_refl _ | exact Nat.zero_le _ | (dsimp only; omega)) (by first | exact Nat.le_refl _ | exact Nat.zero_le _ | (dsimp only; omega)) (by first | with_reducible rfl | (dsimp only; rfl; done) | (rfl; done) | (exfalso; grind)) (by first | with_reducible rfl | (dsimp only; rfl; done) | (rfl; done) | (exfalso; grind)) (by first | with_reducible rfl | (dsimp only; rfl; done) | (rfl; done) | (exfalso; grind)) (by first | with_reducible rfl | (dsimp only; rfl; done) | (rfl; done) | (exfalso; grind))
            · skip
              exfalso; rw [c149] at hx1; exact absurd hx1 (by decide)
          · skip
            by_cases g33_20 : x33 = 20 ∨ x33 = 21
            · refine jr_tableIn (tgt := 169) d_m_step_33 (by rcases g33_20 with rfl | rfl <;> decide) (by rcases g33_20 with rfl | rfl <;> decide) (by rcases g33_20 with rfl | rfl <;> rfl) (by decide) ?_
              exfalso; clear hc hfl; grind (splits := 60)
            · skip
              by_cases g33_22 : x33 = 22
              · refine jr_tableIn (tgt := 177) d_m_step_33 (by rcases g33_22 with rfl <;> decide) (by rcases g33_22 with rfl <;> decide) (by rcases g33_22 with rfl <;> rfl) (by decide) ?_
                exfalso; clear hc hfl; grind (splits := 60)
              · skip
                refine jr_tableE (tgt := 194) d_m_step_33 (by rcases j_11_24 x33 with h | h | rfl | rfl | rfl | rfl | rfl | rfl | rfl | rfl | rfl | rfl | rfl | rfl | rfl | rfl <;> first | exact Or.inl ⟨Or.inl (Int32.lt_iff_toInt_lt.mp h), by decide⟩ | exact Or.inl ⟨Or.inr (Int32.lt_iff_toInt_lt.mp h), by decide⟩ | exact Or.inr ⟨by decide, by decide, _, rfl, by decide⟩ | (exfalso; grind)) ?_
                exfalso; clear hc hfl; grind (splits := 60)
