theorem ct_m_plain_d {I : jc_I} {O : jc_O} {live : jc_L → Prop} {t b n xt fn m j : Nat} {op a : Int32} (hQ : QT I O live t b n xt fn m) (hf : qf O t j) (h1 : 1 ≤ I (12, t, j) 4) (h2 : I (12, t, j) 4 ≤ 12) (ho : op = 7) (hz : q_tp I t j = 0) : jc_Ct y_m_plain [.inr (some (10, 0, 0)), .inr (some (14, t, 0)), .inr (some (12, t, j)), .inl op, .inl a] I O live (none, q_fI I O live t b n m 7, (q_mk I O live 7).2.2.1, (q_mk I O live 7).2.2.2.1, (q_mk I O live 7).2.2.2.2.1, (q_mk I O live 7).2.2.2.2.2) := by
  refine jc_Ct.of (by decide +kernel) (rfl) (Nat.le_of_ble_eq_true rfl) ?_
  refine jr_iload_n d_m_plain_0 rfl rfl ?_
  refine jr_bipush (v := 7) d_m_plain_1 (by decide) ?_
  refine jr_icmp_ne (tgt := 25) d_m_plain_3 (by decide) (fun c3 => ?_) (fun c3 => ?_)
  · skip
    exact absurd ho c3
  · skip
    refine jr_aload_n d_m_plain_6 rfl rfl ?_
    refine jv_V0r d_m_plain_7 l_m_213 k_mF_top ⟨Nat.le_of_ble_eq_true rfl, Nat.le_of_ble_eq_true rfl⟩ rfl rfl (Nat.le_of_ble_eq_true rfl) (ct_mF_top hf h1 h2) (by first | decide | exact Nat.zero_le _ | (dsimp only; omega) | (dsimp only; grind) | (omega)) (by first | decide | exact Nat.zero_le _ | (dsimp only; omega) | (dsimp only; grind) | (omega)) ?_
    refine jr_if_ne (tgt := 25) d_m_plain_10 (by decide) (fun c10 => ?_) (fun c10 => ?_)
    · skip
      exact absurd hz c10
    · skip
      refine jr_aload_n d_m_plain_13 rfl rfl ?_
      refine jr_aload_n d_m_plain_14 rfl rfl ?_
      refine jr_aload_n d_m_plain_15 rfl rfl ?_
      refine jr_bipush (v := 7) d_m_plain_16 (by decide) ?_
      refine jv_V1rA d_m_plain_18 l_m_215 k_m_fresh ⟨Nat.le_of_ble_eq_true rfl, Nat.le_of_ble_eq_true rfl⟩ rfl rfl (Nat.le_of_ble_eq_true rfl) ((ct_fail (x := 7) hQ).1) (fun q9 h9 => q_mk_live q9 h9) (by first | decide | exact Nat.zero_le _ | (dsimp only; omega) | (dsimp only; grind) | (omega)) (by first | decide | exact Nat.zero_le _ | (dsimp only; omega) | (dsimp only; grind) | (omega)) ?_
      refine jv_V2v d_m_plain_21 l_m_219 k_m_flies ⟨Nat.le_of_ble_eq_true rfl, Nat.le_of_ble_eq_true rfl⟩ rfl rfl (Nat.le_of_ble_eq_true rfl) ((ct_fail (x := 7) hQ).2) (by first | decide | exact Nat.zero_le _ | (dsimp only; omega) | (dsimp only; grind) | (omega)) (by first | decide | exact Nat.zero_le _ | (dsimp only; omega) | (dsimp only; grind) | (omega)) ?_
      exact jr_retX (v := none) d_m_plain_24 (by first | exact Nat.le_refl _ | exact Nat.zero_le _ | (dsimp only; omega) | (omega)) (by first | exact Nat.le_refl _ | exact Nat.zero_le _ | (dsimp only; omega) | (omega)) (by first | with_reducible rfl | (dsimp only; rfl; done) | (rfl; done) | (exfalso; grind)) (by first | with_reducible rfl | (dsimp only; rfl; done) | (rfl; done) | (exfalso; grind)) (by first | with_reducible rfl | (dsimp only; rfl; done) | (rfl; done) | (exfalso; grind)) (by first | with_reducible rfl | (dsimp only; rfl; done) | (rfl; done) | (exfalso; grind))
theorem ct_m_plain_0 {I : jc_I} {O : jc_O} {live : jc_L → Prop} {t b n xt fn m j : Nat} {op a : Int32} (hQ : QT I O live t b n xt fn m) (hf : qf O t j) (h1 : 0 ≤ I (12, t, j) 4) (h2 : I (12, t, j) 4 < 12) (ho : op = 0) : jc_Ct y_m_plain [.inr (some (10, 0, 0)), .inr (some (14, t, 0)), .inr (some (12, t, j)), .inl op, .inl a] I O live (none, q_on (q_psh I t j a) t j, O, live, 0, 0) := by
  refine jc_Ct.of (by decide +kernel) (rfl) (Nat.le_of_ble_eq_true rfl) ?_
  refine jr_iload_n d_m_plain_0 rfl rfl ?_
  refine jr_bipush (v := 7) d_m_plain_1 (by decide) ?_
  refine jr_icmp_ne (tgt := 25) d_m_plain_3 (by decide) (fun c3 => ?_) (fun c3 => ?_)
  · skip
    refine jr_iload_n d_m_plain_25 rfl rfl ?_
    refine jr_if_ne (tgt := 38) d_m_plain_26 (by decide) (fun c26 => ?_) (fun c26 => ?_)
    · skip
      exact absurd ho c26
    · skip
      refine jr_aload_n d_m_plain_29 rfl rfl ?_
      refine jr_iload d_m_plain_30 rfl ?_
      refine jv_V1v d_m_plain_32 l_m_200 k_mF_push ⟨Nat.le_of_ble_eq_true rfl, Nat.le_of_ble_eq_true rfl⟩ rfl rfl (Nat.le_of_ble_eq_true rfl) (show jc_Ct y_mF_push _ _ _ _ (none, q_psh _ _ _ _, _, _, 0, 0) from ct_mF_push hf h1 h2) (by first | decide | exact Nat.zero_le _ | (dsimp only; omega) | (dsimp only; grind)) (by first | decide | exact Nat.zero_le _ | (dsimp only; omega) | (dsimp only; grind)) ?_
      refine jr_goto (tgt := 317) d_m_plain_35 (by decide) ?_
      refine jr_aload_n d_m_plain_317 rfl rfl ?_
      refine jr_dup d_m_plain_318 ?_
      refine jr_geti d_m_plain_319 f_m_195 rfl ?_
      refine jr_iconst (v := 1) d_m_plain_322 (by decide) ?_
      refine jr_iadd d_m_plain_323 ?_
      refine jr_puti d_m_plain_324 f_m_195 (Or.inl rfl) rfl ?_
      exact jr_retX (v := none) d_m_plain_327 (by first | exact Nat.le_refl _ | exact Nat.zero_le _ | (dsimp only; omega)) (by first | exact Nat.le_refl _ | exact Nat.zero_le _ | (dsimp only; omega)) (by first | with_reducible rfl | (dsimp only; rfl; done) | (rfl; done) | (exfalso; grind)) (by first | with_reducible rfl | (dsimp only; rfl; done) | (rfl; done) | (exfalso; grind)) (by first | with_reducible rfl | (dsimp only; rfl; done) | (rfl; done) | (exfalso; grind)) (by first | with_reducible rfl | (dsimp only; rfl; done) | (rfl; done) | (exfalso; grind))
  · skip
    exfalso; rw [ho] at c3; exact absurd c3 (by decide)
theorem ct_m_plain_1 {I : jc_I} {O : jc_O} {live : jc_L → Prop} {t b n xt fn m j : Nat} {op a : Int32} (hQ : QT I O live t b n xt fn m) (hf : qf O t j) (h1 : 0 ≤ I (12, t, j) 4) (h2 : I (12, t, j) 4 < 12) (ho : op = 1) : jc_Ct y_m_plain [.inr (some (10, 0, 0)), .inr (some (14, t, 0)), .inr (some (12, t, j)), .inl op, .inl a] I O live (none, q_on (q_psh I t j 0) t j, O, live, 0, 0) := by
  refine jc_Ct.of (by decide +kernel) (rfl) (Nat.le_of_ble_eq_true rfl) ?_
  refine jr_iload_n d_m_plain_0 rfl rfl ?_
  refine jr_bipush (v := 7) d_m_plain_1 (by decide) ?_
  refine jr_icmp_ne (tgt := 25) d_m_plain_3 (by decide) (fun c3 => ?_) (fun c3 => ?_)
  · skip
    refine jr_iload_n d_m_plain_25 rfl rfl ?_
    refine jr_if_ne (tgt := 38) d_m_plain_26 (by decide) (fun c26 => ?_) (fun c26 => ?_)
    · skip
      refine jr_iload_n d_m_plain_38 rfl rfl ?_
      refine jr_iconst (v := 1) d_m_plain_39 (by decide) ?_
      refine jr_icmp_ne (tgt := 51) d_m_plain_40 (by decide) (fun c40 => ?_) (fun c40 => ?_)
      · skip
        exact absurd ho c40
      · skip
        refine jr_aload_n d_m_plain_43 rfl rfl ?_
        refine jr_iconst (v := 0) d_m_plain_44 (by decide) ?_
        refine jv_V1v d_m_plain_45 l_m_200 k_mF_push ⟨Nat.le_of_ble_eq_true rfl, Nat.le_of_ble_eq_true rfl⟩ rfl rfl (Nat.le_of_ble_eq_true rfl) (show jc_Ct y_mF_push _ _ _ _ (none, q_psh _ _ _ _, _, _, 0, 0) from ct_mF_push hf h1 h2) (by first | decide | exact Nat.zero_le _ | (dsimp only; omega) | (dsimp only; grind)) (by first | decide | exact Nat.zero_le _ | (dsimp only; omega) | (dsimp only; grind)) ?_
        refine jr_goto (tgt := 317) d_m_plain_48 (by decide) ?_
        refine jr_aload_n d_m_plain_317 rfl rfl ?_
        refine jr_dup d_m_plain_318 ?_
        refine jr_geti d_m_plain_319 f_m_195 rfl ?_
        refine jr_iconst (v := 1) d_m_plain_322 (by decide) ?_
        refine jr_iadd d_m_plain_323 ?_
        refine jr_puti d_m_plain_324 f_m_195 (Or.inl rfl) rfl ?_
        exact jr_retX (v := none) d_m_plain_327 (by first | exact Nat.le_refl _ | exact Nat.zero_le _ | (dsimp only; omega)) (by first | exact Nat.le_refl _ | exact Nat.zero_le _ | (dsimp only; omega)) (by first | with_reducible rfl | (dsimp only; rfl; done) | (rfl; done) | (exfalso; grind)) (by first | with_reducible rfl | (dsimp only; rfl; done) | (rfl; done) | (exfalso; grind)) (by first | with_reducible rfl | (dsimp only; rfl; done) | (rfl; done) | (exfalso; grind)) (by first | with_reducible rfl | (dsimp only; rfl; done) | (rfl; done) | (exfalso; grind))
    · skip
      exfalso; rw [ho] at c26; exact absurd c26 (by decide)
  · skip
    exfalso; rw [ho] at c3; exact absurd c3 (by decide)
theorem ct_m_plain_2 {I : jc_I} {O : jc_O} {live : jc_L → Prop} {t b n xt fn m j : Nat} {op a : Int32} (hQ : QT I O live t b n xt fn m) (hf : qf O t j) (ho : op = 2) : jc_Ct y_m_plain [.inr (some (10, 0, 0)), .inr (some (14, t, 0)), .inr (some (12, t, j)), .inl op, .inl a] I O live (none, q_on (q_pop I t j) t j, O, live, 0, 0) := by
  refine jc_Ct.of (by decide +kernel) (rfl) (Nat.le_of_ble_eq_true rfl) ?_
  refine jr_iload_n d_m_plain_0 rfl rfl ?_
  refine jr_bipush (v := 7) d_m_plain_1 (by decide) ?_
  refine jr_icmp_ne (tgt := 25) d_m_plain_3 (by decide) (fun c3 => ?_) (fun c3 => ?_)
  · skip
    refine jr_iload_n d_m_plain_25 rfl rfl ?_
    refine jr_if_ne (tgt := 38) d_m_plain_26 (by decide) (fun c26 => ?_) (fun c26 => ?_)
    · skip
      refine jr_iload_n d_m_plain_38 rfl rfl ?_
      refine jr_iconst (v := 1) d_m_plain_39 (by decide) ?_
      refine jr_icmp_ne (tgt := 51) d_m_plain_40 (by decide) (fun c40 => ?_) (fun c40 => ?_)
      · skip
        refine jr_iload_n d_m_plain_51 rfl rfl ?_
        refine jr_iconst (v := 2) d_m_plain_52 (by decide) ?_
        refine jr_icmp_ne (tgt := 69) d_m_plain_53 (by decide) (fun c53 => ?_) (fun c53 => ?_)
        · skip
          exact absurd ho c53
        · skip
          refine jr_aload_n d_m_plain_56 rfl rfl ?_
          refine jr_dup d_m_plain_57 ?_
          refine jr_geti d_m_plain_58 f_m_199 rfl ?_
          refine jr_iconst (v := 1) d_m_plain_61 (by decide) ?_
          refine jr_isub d_m_plain_62 ?_
          refine jr_puti d_m_plain_63 f_m_199 (Or.inl rfl) rfl ?_
          refine jr_goto (tgt := 317) d_m_plain_66 (by decide) ?_
          refine jr_aload_n d_m_plain_317 rfl rfl ?_
          refine jr_dup d_m_plain_318 ?_
          refine jr_geti d_m_plain_319 f_m_195 rfl ?_
          try simp only [jc_up_s, jc_up_k, jc_up_t, jc_cl_s, jc_cl_t, ne_eq, Nat.reduceEqDiff, not_false_eq_true, Nat.reduceAdd]
          refine jr_iconst (v := 1) d_m_plain_322 (by decide) ?_
          refine jr_iadd d_m_plain_323 ?_
          refine jr_puti d_m_plain_324 f_m_195 (Or.inl rfl) rfl ?_
          exact jr_retX (v := none) d_m_plain_327 (by first | exact Nat.le_refl _ | exact Nat.zero_le _ | (dsimp only; omega)) (by first | exact Nat.le_refl _ | exact Nat.zero_le _ | (dsimp only; omega)) (by first | with_reducible rfl | (unfold q_on q_pop; rw [jc_up_k _ _ _ _ _ _ (by decide)]; done) | (exfalso; grind)) (by first | with_reducible rfl | (unfold q_on q_pop; rw [jc_up_k _ _ _ _ _ _ (by decide)]; done) | (exfalso; grind)) (by first | with_reducible rfl | (unfold q_on q_pop; rw [jc_up_k _ _ _ _ _ _ (by decide)]; done) | (exfalso; grind)) (by first | with_reducible rfl | (unfold q_on q_pop; rw [jc_up_k _ _ _ _ _ _ (by decide)]; done) | (exfalso; grind))
      · skip
        exfalso; rw [ho] at c40; exact absurd c40 (by decide)
    · skip
      exfalso; rw [ho] at c26; exact absurd c26 (by decide)
  · skip
    exfalso; rw [ho] at c3; exact absurd c3 (by decide)
theorem ct_m_plain_3 {I : jc_I} {O : jc_O} {live : jc_L → Prop} {t b n xt fn m j : Nat} {op a : Int32} (hQ : QT I O live t b n xt fn m) (hf : qf O t j) (h1 : 1 ≤ I (12, t, j) 4) (h2 : I (12, t, j) 4 < 12) (ho : op = 3) : jc_Ct y_m_plain [.inr (some (10, 0, 0)), .inr (some (14, t, 0)), .inr (some (12, t, j)), .inl op, .inl a] I O live (none, q_on (q_psh I t j (q_tp I t j)) t j, O, live, 0, 0) := by
  refine jc_Ct.of (by decide +kernel) (rfl) (Nat.le_of_ble_eq_true rfl) ?_
  refine jr_iload_n d_m_plain_0 rfl rfl ?_
  refine jr_bipush (v := 7) d_m_plain_1 (by decide) ?_
  refine jr_icmp_ne (tgt := 25) d_m_plain_3 (by decide) (fun c3 => ?_) (fun c3 => ?_)
  · skip
    refine jr_iload_n d_m_plain_25 rfl rfl ?_
    refine jr_if_ne (tgt := 38) d_m_plain_26 (by decide) (fun c26 => ?_) (fun c26 => ?_)
    · skip
      refine jr_iload_n d_m_plain_38 rfl rfl ?_
      refine jr_iconst (v := 1) d_m_plain_39 (by decide) ?_
      refine jr_icmp_ne (tgt := 51) d_m_plain_40 (by decide) (fun c40 => ?_) (fun c40 => ?_)
      · skip
        refine jr_iload_n d_m_plain_51 rfl rfl ?_
        refine jr_iconst (v := 2) d_m_plain_52 (by decide) ?_
        refine jr_icmp_ne (tgt := 69) d_m_plain_53 (by decide) (fun c53 => ?_) (fun c53 => ?_)
        · skip
          refine jr_iload_n d_m_plain_69 rfl rfl ?_
          refine jr_iconst (v := 3) d_m_plain_70 (by decide) ?_
          refine jr_icmp_ne (tgt := 85) d_m_plain_71 (by decide) (fun c71 => ?_) (fun c71 => ?_)
          · skip
            exact absurd ho c71
          · skip
            refine jr_aload_n d_m_plain_74 rfl rfl ?_
            refine jr_aload_n d_m_plain_75 rfl rfl ?_
            refine jv_V0r d_m_plain_76 l_m_213 k_mF_top ⟨Nat.le_of_ble_eq_true rfl, Nat.le_of_ble_eq_true rfl⟩ rfl rfl (Nat.le_of_ble_eq_true rfl) (ct_mF_top hf h1 (by grind)) (by first | decide | exact Nat.zero_le _ | (dsimp only; omega) | (dsimp only; grind)) (by first | decide | exact Nat.zero_le _ | (dsimp only; omega) | (dsimp only; grind)) ?_
            refine jv_V1v d_m_plain_79 l_m_200 k_mF_push ⟨Nat.le_of_ble_eq_true rfl, Nat.le_of_ble_eq_true rfl⟩ rfl rfl (Nat.le_of_ble_eq_true rfl) (show jc_Ct y_mF_push _ _ _ _ (none, q_psh _ _ _ _, _, _, 0, 0) from ct_mF_push hf (by grind) h2) (by first | decide | exact Nat.zero_le _ | (dsimp only; omega) | (dsimp only; grind)) (by first | decide | exact Nat.zero_le _ | (dsimp only; omega) | (dsimp only; grind)) ?_
            refine jr_goto (tgt := 317) d_m_plain_82 (by decide) ?_
            refine jr_aload_n d_m_plain_317 rfl rfl ?_
            refine jr_dup d_m_plain_318 ?_
            refine jr_geti d_m_plain_319 f_m_195 rfl ?_
            refine jr_iconst (v := 1) d_m_plain_322 (by decide) ?_
            refine jr_iadd d_m_plain_323 ?_
            refine jr_puti d_m_plain_324 f_m_195 (Or.inl rfl) rfl ?_
            exact jr_retX (v := none) d_m_plain_327 (by first | exact Nat.le_refl _ | exact Nat.zero_le _ | (dsimp only; omega)) (by first | exact Nat.le_refl _ | exact Nat.zero_le _ | (dsimp only; omega)) (by first | with_reducible rfl | (dsimp only; rfl; done) | (rfl; done) | (exfalso; grind)) (by first | with_reducible rfl | (dsimp only; rfl; done) | (rfl; done) | (exfalso; grind)) (by first | with_reducible rfl | (dsimp only; rfl; done) | (rfl; done) | (exfalso; grind)) (by first | with_reducible rfl | (dsimp only; rfl; done) | (rfl; done) | (exfalso; grind))
        · skip
          exfalso; rw [ho] at c53; exact absurd c53 (by decide)
      · skip
        exfalso; rw [ho] at c40; exact absurd c40 (by decide)
    · skip
      exfalso; rw [ho] at c26; exact absurd c26 (by decide)
  · skip
    exfalso; rw [ho] at c3; exact absurd c3 (by decide)
theorem ct_m_plain_9 {I : jc_I} {O : jc_O} {live : jc_L → Prop} {t b n xt fn m j : Nat} {op a : Int32} (hQ : QT I O live t b n xt fn m) (hf : qf O t j) (h1 : 0 ≤ I (12, t, j) 4) (h2 : I (12, t, j) 4 < 12) (ha1 : 0 ≤ a) (ha2 : a < 8) (ho : op = 9) : jc_Ct y_m_plain [.inr (some (10, 0, 0)), .inr (some (14, t, 0)), .inr (some (12, t, j)), .inl op, .inl a] I O live (none, q_on (q_psh I t j (I (48, t, j) a.toNatClampNeg)) t j, O, live, 0, 0) := by
  obtain ⟨g1, g2⟩ := id hf
  refine jc_Ct.of (by decide +kernel) (rfl) (Nat.le_of_ble_eq_true rfl) ?_
  refine jr_iload_n d_m_plain_0 rfl rfl ?_
  refine jr_bipush (v := 7) d_m_plain_1 (by decide) ?_
  refine jr_icmp_ne (tgt := 25) d_m_plain_3 (by decide) (fun c3 => ?_) (fun c3 => ?_)
  · skip
    refine jr_iload_n d_m_plain_25 rfl rfl ?_
    refine jr_if_ne (tgt := 38) d_m_plain_26 (by decide) (fun c26 => ?_) (fun c26 => ?_)
    · skip
      refine jr_iload_n d_m_plain_38 rfl rfl ?_
      refine jr_iconst (v := 1) d_m_plain_39 (by decide) ?_
      refine jr_icmp_ne (tgt := 51) d_m_plain_40 (by decide) (fun c40 => ?_) (fun c40 => ?_)
      · skip
        refine jr_iload_n d_m_plain_51 rfl rfl ?_
        refine jr_iconst (v := 2) d_m_plain_52 (by decide) ?_
        refine jr_icmp_ne (tgt := 69) d_m_plain_53 (by decide) (fun c53 => ?_) (fun c53 => ?_)
        · skip
          refine jr_iload_n d_m_plain_69 rfl rfl ?_
          refine jr_iconst (v := 3) d_m_plain_70 (by decide) ?_
          refine jr_icmp_ne (tgt := 85) d_m_plain_71 (by decide) (fun c71 => ?_) (fun c71 => ?_)
          · skip
            refine jr_iload_n d_m_plain_85 rfl rfl ?_
            refine jr_bipush (v := 9) d_m_plain_86 (by decide) ?_
            refine jr_icmp_ne (tgt := 105) d_m_plain_88 (by decide) (fun c88 => ?_) (fun c88 => ?_)
            · skip
              exact absurd ho c88
            · skip
              refine jr_aload_n d_m_plain_91 rfl rfl ?_
              refine jr_aload_n d_m_plain_92 rfl rfl ?_
              refine jr_getr d_m_plain_93 f_m_237 rfl rfl ?_
              first | rw [g1] | skip
              refine jr_iload d_m_plain_96 rfl ?_
              refine jr_iald d_m_plain_98 rfl rfl rfl (jin (m := 8) (by decide) ha1 ha2) ?_
              refine jv_V1v d_m_plain_99 l_m_200 k_mF_push ⟨Nat.le_of_ble_eq_true rfl, Nat.le_of_ble_eq_true rfl⟩ rfl rfl (Nat.le_of_ble_eq_true rfl) (show jc_Ct y_mF_push _ _ _ _ (none, q_psh _ _ _ _, _, _, 0, 0) from ct_mF_push hf h1 h2) (by first | decide | exact Nat.zero_le _ | (dsimp only; omega) | (dsimp only; grind)) (by first | decide | exact Nat.zero_le _ | (dsimp only; omega) | (dsimp only; grind)) ?_
              refine jr_goto (tgt := 317) d_m_plain_102 (by decide) ?_
              refine jr_aload_n d_m_plain_317 rfl rfl ?_
              refine jr_dup d_m_plain_318 ?_
              refine jr_geti d_m_plain_319 f_m_195 rfl ?_
              refine jr_iconst (v := 1) d_m_plain_322 (by decide) ?_
              refine jr_iadd d_m_plain_323 ?_
              refine jr_puti d_m_plain_324 f_m_195 (Or.inl rfl) rfl ?_
              exact jr_retX (v := none) d_m_plain_327 (by first | exact Nat.le_refl _ | exact Nat.zero_le _ | (dsimp only; omega)) (by first | exact Nat.le_refl _ | exact Nat.zero_le _ | (dsimp only; omega)) (by first | with_reducible rfl | (dsimp only; rfl; done) | (rfl; done) | (exfalso; grind)) (by first | with_reducible rfl | (dsimp only; rfl; done) | (rfl; done) | (exfalso; grind)) (by first | with_reducible rfl | (dsimp only; rfl; done) | (rfl; done) | (exfalso; grind)) (by first | with_reducible rfl | (dsimp only; rfl; done) | (rfl; done) | (exfalso; grind))
          · skip
            exfalso; rw [ho] at c71; exact absurd c71 (by decide)
        · skip
          exfalso; rw [ho] at c53; exact absurd c53 (by decide)
      · skip
        exfalso; rw [ho] at c40; exact absurd c40 (by decide)
    · skip
      exfalso; rw [ho] at c26; exact absurd c26 (by decide)
  · skip
    exfalso; rw [ho] at c3; exact absurd c3 (by decide)
theorem ct_m_plain_10 {I : jc_I} {O : jc_O} {live : jc_L → Prop} {t b n xt fn m j : Nat} {op a : Int32} (hQ : QT I O live t b n xt fn m) (hf : qf O t j) (h1 : 1 ≤ I (12, t, j) 4) (h2 : I (12, t, j) 4 ≤ 12) (ha1 : 0 ≤ a) (ha2 : a < 8) (ho : op = 10) : jc_Ct y_m_plain [.inr (some (10, 0, 0)), .inr (some (14, t, 0)), .inr (some (12, t, j)), .inl op, .inl a] I O live (none, q_on (jc_up (q_pop I t j) (48, t, j) a.toNatClampNeg (q_tp I t j)) t j, O, live, 0, 0) := by
  obtain ⟨g1, g2⟩ := id hf
  refine jc_Ct.of (by decide +kernel) (rfl) (Nat.le_of_ble_eq_true rfl) ?_
  refine jr_iload_n d_m_plain_0 rfl rfl ?_
  refine jr_bipush (v := 7) d_m_plain_1 (by decide) ?_
  refine jr_icmp_ne (tgt := 25) d_m_plain_3 (by decide) (fun c3 => ?_) (fun c3 => ?_)
  · skip
    refine jr_iload_n d_m_plain_25 rfl rfl ?_
    refine jr_if_ne (tgt := 38) d_m_plain_26 (by decide) (fun c26 => ?_) (fun c26 => ?_)
    · skip
      refine jr_iload_n d_m_plain_38 rfl rfl ?_
      refine jr_iconst (v := 1) d_m_plain_39 (by decide) ?_
      refine jr_icmp_ne (tgt := 51) d_m_plain_40 (by decide) (fun c40 => ?_) (fun c40 => ?_)
      · skip
        refine jr_iload_n d_m_plain_51 rfl rfl ?_
        refine jr_iconst (v := 2) d_m_plain_52 (by decide) ?_
        refine jr_icmp_ne (tgt := 69) d_m_plain_53 (by decide) (fun c53 => ?_) (fun c53 => ?_)
        · skip
          refine jr_iload_n d_m_plain_69 rfl rfl ?_
          refine jr_iconst (v := 3) d_m_plain_70 (by decide) ?_
          refine jr_icmp_ne (tgt := 85) d_m_plain_71 (by decide) (fun c71 => ?_) (fun c71 => ?_)
          · skip
            refine jr_iload_n d_m_plain_85 rfl rfl ?_
            refine jr_bipush (v := 9) d_m_plain_86 (by decide) ?_
            refine jr_icmp_ne (tgt := 105) d_m_plain_88 (by decide) (fun c88 => ?_) (fun c88 => ?_)
            · skip
              refine jr_iload_n d_m_plain_105 rfl rfl ?_
              refine jr_bipush (v := 10) d_m_plain_106 (by decide) ?_
              refine jr_icmp_ne (tgt := 125) d_m_plain_108 (by decide) (fun c108 => ?_) (fun c108 => ?_)
              · skip
                exact absurd ho c108
              · skip
                refine jr_aload_n d_m_plain_111 rfl rfl ?_
                refine jr_getr d_m_plain_112 f_m_237 rfl rfl ?_
                first | rw [g1] | skip
                refine jr_iload d_m_plain_115 rfl ?_
                refine jr_aload_n d_m_plain_117 rfl rfl ?_
                refine jv_V0r d_m_plain_118 l_m_206 k_mF_pop ⟨Nat.le_of_ble_eq_true rfl, Nat.le_of_ble_eq_true rfl⟩ rfl rfl (Nat.le_of_ble_eq_true rfl) (ct_mF_pop hf h1 h2) (by first | decide | exact Nat.zero_le _ | (dsimp only; omega) | (dsimp only; grind)) (by first | decide | exact Nat.zero_le _ | (dsimp only; omega) | (dsimp only; grind)) ?_
                refine jr_iast d_m_plain_121 rfl rfl rfl (jin (m := 8) (by decide) ha1 ha2) ?_
                refine jr_goto (tgt := 317) d_m_plain_122 (by decide) ?_
                refine jr_aload_n d_m_plain_317 rfl rfl ?_
                refine jr_dup d_m_plain_318 ?_
                refine jr_geti d_m_plain_319 f_m_195 rfl ?_
                try simp only [jc_up_s, jc_up_k, jc_up_t, jc_cl_s, jc_cl_t, ne_eq, Nat.reduceEqDiff, not_false_eq_true, Nat.reduceAdd]
                refine jr_iconst (v := 1) d_m_plain_322 (by decide) ?_
                refine jr_iadd d_m_plain_323 ?_
                refine jr_puti d_m_plain_324 f_m_195 (Or.inl rfl) rfl ?_
                exact jr_retX (v := none) d_m_plain_327 (by first | exact Nat.le_refl _ | exact Nat.zero_le _ | (dsimp only; omega)) (by first | exact Nat.le_refl _ | exact Nat.zero_le _ | (dsimp only; omega)) (by first | with_reducible rfl | (dsimp only; rfl; done) | (rfl; done) | (exfalso; grind)) (by first | with_reducible rfl | (dsimp only; rfl; done) | (rfl; done) | (exfalso; grind)) (by first | with_reducible rfl | (dsimp only; rfl; done) | (rfl; done) | (exfalso; grind)) (by first | with_reducible rfl | (dsimp only; rfl; done) | (rfl; done) | (exfalso; grind))
            · skip
              exfalso; rw [ho] at c88; exact absurd c88 (by decide)
          · skip
            exfalso; rw [ho] at c71; exact absurd c71 (by decide)
        · skip
          exfalso; rw [ho] at c53; exact absurd c53 (by decide)
      · skip
        exfalso; rw [ho] at c40; exact absurd c40 (by decide)
    · skip
      exfalso; rw [ho] at c26; exact absurd c26 (by decide)
  · skip
    exfalso; rw [ho] at c3; exact absurd c3 (by decide)
theorem ct_m_plain_14 {I : jc_I} {O : jc_O} {live : jc_L → Prop} {t b n xt fn m j : Nat} {op a : Int32} (hQ : QT I O live t b n xt fn m) (hf : qf (q_mk I O live a).2.2.1 t j) (h1 : 0 ≤ (q_mk I O live a).2.1 (12, t, j) 4) (h2 : (q_mk I O live a).2.1 (12, t, j) 4 < 12) (ho : op = 14) : jc_Ct y_m_plain [.inr (some (10, 0, 0)), .inr (some (14, t, 0)), .inr (some (12, t, j)), .inl op, .inl a] I O live (none, q_on (q_psh (q_mk I O live a).2.1 t j (q_mk I O live a).1) t j, (q_mk I O live a).2.2.1, (q_mk I O live a).2.2.2.1, (q_mk I O live a).2.2.2.2.1, (q_mk I O live a).2.2.2.2.2) := by
  refine jc_Ct.of (by decide +kernel) (rfl) (Nat.le_of_ble_eq_true rfl) ?_
  refine jr_iload_n d_m_plain_0 rfl rfl ?_
  refine jr_bipush (v := 7) d_m_plain_1 (by decide) ?_
  refine jr_icmp_ne (tgt := 25) d_m_plain_3 (by decide) (fun c3 => ?_) (fun c3 => ?_)
  · skip
    refine jr_iload_n d_m_plain_25 rfl rfl ?_
    refine jr_if_ne (tgt := 38) d_m_plain_26 (by decide) (fun c26 => ?_) (fun c26 => ?_)
    · skip
      refine jr_iload_n d_m_plain_38 rfl rfl ?_
      refine jr_iconst (v := 1) d_m_plain_39 (by decide) ?_
      refine jr_icmp_ne (tgt := 51) d_m_plain_40 (by decide) (fun c40 => ?_) (fun c40 => ?_)
      · skip
        refine jr_iload_n d_m_plain_51 rfl rfl ?_
        refine jr_iconst (v := 2) d_m_plain_52 (by decide) ?_
        refine jr_icmp_ne (tgt := 69) d_m_plain_53 (by decide) (fun c53 => ?_) (fun c53 => ?_)
        · skip
          refine jr_iload_n d_m_plain_69 rfl rfl ?_
          refine jr_iconst (v := 3) d_m_plain_70 (by decide) ?_
          refine jr_icmp_ne (tgt := 85) d_m_plain_71 (by decide) (fun c71 => ?_) (fun c71 => ?_)
          · skip
            refine jr_iload_n d_m_plain_85 rfl rfl ?_
            refine jr_bipush (v := 9) d_m_plain_86 (by decide) ?_
            refine jr_icmp_ne (tgt := 105) d_m_plain_88 (by decide) (fun c88 => ?_) (fun c88 => ?_)
            · skip
              refine jr_iload_n d_m_plain_105 rfl rfl ?_
              refine jr_bipush (v := 10) d_m_plain_106 (by decide) ?_
              refine jr_icmp_ne (tgt := 125) d_m_plain_108 (by decide) (fun c108 => ?_) (fun c108 => ?_)
              · skip
                refine jr_iload_n d_m_plain_125 rfl rfl ?_
                refine jr_bipush (v := 14) d_m_plain_126 (by decide) ?_
                refine jr_icmp_ne (tgt := 144) d_m_plain_128 (by decide) (fun c128 => ?_) (fun c128 => ?_)
                · skip
                  exact absurd ho c128
                · skip
                  refine jr_aload_n d_m_plain_131 rfl rfl ?_
                  refine jr_aload_n d_m_plain_132 rfl rfl ?_
                  refine jr_iload d_m_plain_133 rfl ?_
                  refine jv_V1rA d_m_plain_135 l_m_215 k_m_fresh ⟨Nat.le_of_ble_eq_true rfl, Nat.le_of_ble_eq_true rfl⟩ rfl rfl (Nat.le_of_ble_eq_true rfl) ((ct_fail (x := a) hQ).1) (fun q9 h9 => q_mk_live q9 h9) (by first | decide | exact Nat.zero_le _ | (dsimp only; omega) | (dsimp only; grind) | (omega)) (by first | decide | exact Nat.zero_le _ | (dsimp only; omega) | (dsimp only; grind) | (omega)) ?_
                  refine jv_V1v d_m_plain_138 l_m_200 k_mF_push ⟨Nat.le_of_ble_eq_true rfl, Nat.le_of_ble_eq_true rfl⟩ rfl rfl (Nat.le_of_ble_eq_true rfl) (show jc_Ct y_mF_push _ _ _ _ (none, q_psh _ _ _ _, _, _, 0, 0) from ct_mF_push hf h1 h2) (by first | decide | exact Nat.zero_le _ | (dsimp only; omega) | (dsimp only; grind) | (omega)) (by first | decide | exact Nat.zero_le _ | (dsimp only; omega) | (dsimp only; grind) | (omega)) ?_
                  refine jr_goto (tgt := 317) d_m_plain_141 (by decide) ?_
                  refine jr_aload_n d_m_plain_317 rfl rfl ?_
                  refine jr_dup d_m_plain_318 ?_
                  refine jr_geti d_m_plain_319 f_m_195 rfl ?_
                  refine jr_iconst (v := 1) d_m_plain_322 (by decide) ?_
                  refine jr_iadd d_m_plain_323 ?_
                  refine jr_puti d_m_plain_324 f_m_195 (Or.inl rfl) rfl ?_
                  exact jr_retX (v := none) d_m_plain_327 (by first | exact Nat.le_refl _ | exact Nat.zero_le _ | (dsimp only; omega) | (omega)) (by first | exact Nat.le_refl _ | exact Nat.zero_le _ | (dsimp only; omega) | (omega)) (by first | with_reducible rfl | (dsimp only; rfl; done) | (rfl; done) | (exfalso; grind)) (by first | with_reducible rfl | (dsimp only; rfl; done) | (rfl; done) | (exfalso; grind)) (by first | with_reducible rfl | (dsimp only; rfl; done) | (rfl; done) | (exfalso; grind)) (by first | with_reducible rfl | (dsimp only; rfl; done) | (rfl; done) | (exfalso; grind))
              · skip
                exfalso; rw [ho] at c108; exact absurd c108 (by decide)
            · skip
              exfalso; rw [ho] at c88; exact absurd c88 (by decide)
          · skip
            exfalso; rw [ho] at c71; exact absurd c71 (by decide)
        · skip
          exfalso; rw [ho] at c53; exact absurd c53 (by decide)
      · skip
        exfalso; rw [ho] at c40; exact absurd c40 (by decide)
    · skip
      exfalso; rw [ho] at c26; exact absurd c26 (by decide)
  · skip
    exfalso; rw [ho] at c3; exact absurd c3 (by decide)
theorem ct_m_plain_25 {I : jc_I} {O : jc_O} {live : jc_L → Prop} {t b n xt fn m j : Nat} {op a : Int32} (hQ : QT I O live t b n xt fn m) (hf : qf O t j) (h1 : 0 ≤ I (12, t, j) 4) (h2 : I (12, t, j) 4 < 12) (ha1 : 0 ≤ a) (ha2 : a < 4) (ho : op = 25) : jc_Ct y_m_plain [.inr (some (10, 0, 0)), .inr (some (14, t, 0)), .inr (some (12, t, j)), .inl op, .inl a] I O live (none, q_on (q_psh I t j (I (50, 0, 0) a.toNatClampNeg)) t j, O, live, 0, 0) := by
  obtain ⟨m0, m2, m4, m6, m7⟩ := id hQ.M
  refine jc_Ct.of (by decide +kernel) (rfl) (Nat.le_of_ble_eq_true rfl) ?_
  refine jr_iload_n d_m_plain_0 rfl rfl ?_
  refine jr_bipush (v := 7) d_m_plain_1 (by decide) ?_
  refine jr_icmp_ne (tgt := 25) d_m_plain_3 (by decide) (fun c3 => ?_) (fun c3 => ?_)
  · skip
    refine jr_iload_n d_m_plain_25 rfl rfl ?_
    refine jr_if_ne (tgt := 38) d_m_plain_26 (by decide) (fun c26 => ?_) (fun c26 => ?_)
    · skip
      refine jr_iload_n d_m_plain_38 rfl rfl ?_
      refine jr_iconst (v := 1) d_m_plain_39 (by decide) ?_
      refine jr_icmp_ne (tgt := 51) d_m_plain_40 (by decide) (fun c40 => ?_) (fun c40 => ?_)
      · skip
        refine jr_iload_n d_m_plain_51 rfl rfl ?_
        refine jr_iconst (v := 2) d_m_plain_52 (by decide) ?_
        refine jr_icmp_ne (tgt := 69) d_m_plain_53 (by decide) (fun c53 => ?_) (fun c53 => ?_)
        · skip
          refine jr_iload_n d_m_plain_69 rfl rfl ?_
          refine jr_iconst (v := 3) d_m_plain_70 (by decide) ?_
          refine jr_icmp_ne (tgt := 85) d_m_plain_71 (by decide) (fun c71 => ?_) (fun c71 => ?_)
          · skip
            refine jr_iload_n d_m_plain_85 rfl rfl ?_
            refine jr_bipush (v := 9) d_m_plain_86 (by decide) ?_
            refine jr_icmp_ne (tgt := 105) d_m_plain_88 (by decide) (fun c88 => ?_) (fun c88 => ?_)
            · skip
              refine jr_iload_n d_m_plain_105 rfl rfl ?_
              refine jr_bipush (v := 10) d_m_plain_106 (by decide) ?_
              refine jr_icmp_ne (tgt := 125) d_m_plain_108 (by decide) (fun c108 => ?_) (fun c108 => ?_)
              · skip
                refine jr_iload_n d_m_plain_125 rfl rfl ?_
                refine jr_bipush (v := 14) d_m_plain_126 (by decide) ?_
                refine jr_icmp_ne (tgt := 144) d_m_plain_128 (by decide) (fun c128 => ?_) (fun c128 => ?_)
                · skip
                  refine jr_iload_n d_m_plain_144 rfl rfl ?_
                  refine jr_bipush (v := 25) d_m_plain_145 (by decide) ?_
                  refine jr_icmp_ne (tgt := 164) d_m_plain_147 (by decide) (fun c147 => ?_) (fun c147 => ?_)
                  · skip
                    exact absurd ho c147
                  · skip
                    refine jr_aload_n d_m_plain_150 rfl rfl ?_
                    refine jr_aload_n d_m_plain_151 rfl rfl ?_
                    refine jr_getr d_m_plain_152 f_m_22 rfl rfl ?_
                    first | rw [m6] | skip
                    refine jr_iload d_m_plain_155 rfl ?_
                    refine jr_iald d_m_plain_157 rfl rfl rfl (jin (m := 4) (by decide) ha1 ha2) ?_
                    refine jv_V1v d_m_plain_158 l_m_200 k_mF_push ⟨Nat.le_of_ble_eq_true rfl, Nat.le_of_ble_eq_true rfl⟩ rfl rfl (Nat.le_of_ble_eq_true rfl) (show jc_Ct y_mF_push _ _ _ _ (none, q_psh _ _ _ _, _, _, 0, 0) from ct_mF_push hf h1 h2) (by first | decide | exact Nat.zero_le _ | (dsimp only; omega) | (dsimp only; grind)) (by first | decide | exact Nat.zero_le _ | (dsimp only; omega) | (dsimp only; grind)) ?_
                    refine jr_goto (tgt := 317) d_m_plain_161 (by decide) ?_
                    refine jr_aload_n d_m_plain_317 rfl rfl ?_
                    refine jr_dup d_m_plain_318 ?_
                    refine jr_geti d_m_plain_319 f_m_195 rfl ?_
                    refine jr_iconst (v := 1) d_m_plain_322 (by decide) ?_
                    refine jr_iadd d_m_plain_323 ?_
                    refine jr_puti d_m_plain_324 f_m_195 (Or.inl rfl) rfl ?_
                    exact jr_retX (v := none) d_m_plain_327 (by first | exact Nat.le_refl _ | exact Nat.zero_le _ | (dsimp only; omega)) (by first | exact Nat.le_refl _ | exact Nat.zero_le _ | (dsimp only; omega)) (by first | with_reducible rfl | (dsimp only; rfl; done) | (rfl; done) | (exfalso; grind)) (by first | with_reducible rfl | (dsimp only; rfl; done) | (rfl; done) | (exfalso; grind)) (by first | with_reducible rfl | (dsimp only; rfl; done) | (rfl; done) | (exfalso; grind)) (by first | with_reducible rfl | (dsimp only; rfl; done) | (rfl; done) | (exfalso; grind))
                · skip
                  exfalso; rw [ho] at c128; exact absurd c128 (by decide)
              · skip
                exfalso; rw [ho] at c108; exact absurd c108 (by decide)
            · skip
              exfalso; rw [ho] at c88; exact absurd c88 (by decide)
          · skip
            exfalso; rw [ho] at c71; exact absurd c71 (by decide)
        · skip
          exfalso; rw [ho] at c53; exact absurd c53 (by decide)
      · skip
        exfalso; rw [ho] at c40; exact absurd c40 (by decide)
    · skip
      exfalso; rw [ho] at c26; exact absurd c26 (by decide)
  · skip
    exfalso; rw [ho] at c3; exact absurd c3 (by decide)
theorem ct_m_plain_26 {I : jc_I} {O : jc_O} {live : jc_L → Prop} {t b n xt fn m j : Nat} {op a : Int32} (hQ : QT I O live t b n xt fn m) (hf : qf O t j) (h1 : 1 ≤ I (12, t, j) 4) (h2 : I (12, t, j) 4 ≤ 12) (ha1 : 0 ≤ a) (ha2 : a < 4) (ho : op = 26) : jc_Ct y_m_plain [.inr (some (10, 0, 0)), .inr (some (14, t, 0)), .inr (some (12, t, j)), .inl op, .inl a] I O live (none, q_on (jc_up (q_pop I t j) (50, 0, 0) a.toNatClampNeg (q_tp I t j)) t j, O, live, 0, 0) := by
  obtain ⟨m0, m2, m4, m6, m7⟩ := id hQ.M
  refine jc_Ct.of (by decide +kernel) (rfl) (Nat.le_of_ble_eq_true rfl) ?_
  refine jr_iload_n d_m_plain_0 rfl rfl ?_
  refine jr_bipush (v := 7) d_m_plain_1 (by decide) ?_
  refine jr_icmp_ne (tgt := 25) d_m_plain_3 (by decide) (fun c3 => ?_) (fun c3 => ?_)
  · skip
    refine jr_iload_n d_m_plain_25 rfl rfl ?_
    refine jr_if_ne (tgt := 38) d_m_plain_26 (by decide) (fun c26 => ?_) (fun c26 => ?_)
    · skip
      refine jr_iload_n d_m_plain_38 rfl rfl ?_
      refine jr_iconst (v := 1) d_m_plain_39 (by decide) ?_
      refine jr_icmp_ne (tgt := 51) d_m_plain_40 (by decide) (fun c40 => ?_) (fun c40 => ?_)
      · skip
        refine jr_iload_n d_m_plain_51 rfl rfl ?_
        refine jr_iconst (v := 2) d_m_plain_52 (by decide) ?_
        refine jr_icmp_ne (tgt := 69) d_m_plain_53 (by decide) (fun c53 => ?_) (fun c53 => ?_)
        · skip
          refine jr_iload_n d_m_plain_69 rfl rfl ?_
          refine jr_iconst (v := 3) d_m_plain_70 (by decide) ?_
          refine jr_icmp_ne (tgt := 85) d_m_plain_71 (by decide) (fun c71 => ?_) (fun c71 => ?_)
          · skip
            refine jr_iload_n d_m_plain_85 rfl rfl ?_
            refine jr_bipush (v := 9) d_m_plain_86 (by decide) ?_
            refine jr_icmp_ne (tgt := 105) d_m_plain_88 (by decide) (fun c88 => ?_) (fun c88 => ?_)
            · skip
              refine jr_iload_n d_m_plain_105 rfl rfl ?_
              refine jr_bipush (v := 10) d_m_plain_106 (by decide) ?_
              refine jr_icmp_ne (tgt := 125) d_m_plain_108 (by decide) (fun c108 => ?_) (fun c108 => ?_)
              · skip
                refine jr_iload_n d_m_plain_125 rfl rfl ?_
                refine jr_bipush (v := 14) d_m_plain_126 (by decide) ?_
                refine jr_icmp_ne (tgt := 144) d_m_plain_128 (by decide) (fun c128 => ?_) (fun c128 => ?_)
                · skip
                  refine jr_iload_n d_m_plain_144 rfl rfl ?_
                  refine jr_bipush (v := 25) d_m_plain_145 (by decide) ?_
                  refine jr_icmp_ne (tgt := 164) d_m_plain_147 (by decide) (fun c147 => ?_) (fun c147 => ?_)
                  · skip
                    refine jr_iload_n d_m_plain_164 rfl rfl ?_
                    refine jr_bipush (v := 26) d_m_plain_165 (by decide) ?_
                    refine jr_icmp_ne (tgt := 184) d_m_plain_167 (by decide) (fun c167 => ?_) (fun c167 => ?_)
                    · skip
                      exact absurd ho c167
                    · skip
                      refine jr_aload_n d_m_plain_170 rfl rfl ?_
                      refine jr_getr d_m_plain_171 f_m_22 rfl rfl ?_
                      first | rw [m6] | skip
                      refine jr_iload d_m_plain_174 rfl ?_
                      refine jr_aload_n d_m_plain_176 rfl rfl ?_
                      refine jv_V0r d_m_plain_177 l_m_206 k_mF_pop ⟨Nat.le_of_ble_eq_true rfl, Nat.le_of_ble_eq_true rfl⟩ rfl rfl (Nat.le_of_ble_eq_true rfl) (ct_mF_pop hf h1 h2) (by first | decide | exact Nat.zero_le _ | (dsimp only; omega) | (dsimp only; grind)) (by first | decide | exact Nat.zero_le _ | (dsimp only; omega) | (dsimp only; grind)) ?_
                      refine jr_iast d_m_plain_180 rfl rfl rfl (jin (m := 4) (by decide) ha1 ha2) ?_
                      refine jr_goto (tgt := 317) d_m_plain_181 (by decide) ?_
                      refine jr_aload_n d_m_plain_317 rfl rfl ?_
                      refine jr_dup d_m_plain_318 ?_
                      refine jr_geti d_m_plain_319 f_m_195 rfl ?_
                      try simp only [jc_up_s, jc_up_k, jc_up_t, jc_cl_s, jc_cl_t, ne_eq, Nat.reduceEqDiff, not_false_eq_true, Nat.reduceAdd]
                      refine jr_iconst (v := 1) d_m_plain_322 (by decide) ?_
                      refine jr_iadd d_m_plain_323 ?_
                      refine jr_puti d_m_plain_324 f_m_195 (Or.inl rfl) rfl ?_
                      exact jr_retX (v := none) d_m_plain_327 (by first | exact Nat.le_refl _ | exact Nat.zero_le _ | (dsimp only; omega)) (by first | exact Nat.le_refl _ | exact Nat.zero_le _ | (dsimp only; omega)) (by first | with_reducible rfl | (dsimp only; rfl; done) | (rfl; done) | (exfalso; grind)) (by first | with_reducible rfl | (dsimp only; rfl; done) | (rfl; done) | (exfalso; grind)) (by first | with_reducible rfl | (dsimp only; rfl; done) | (rfl; done) | (exfalso; grind)) (by first | with_reducible rfl | (dsimp only; rfl; done) | (rfl; done) | (exfalso; grind))
                  · skip
                    exfalso; rw [ho] at c147; exact absurd c147 (by decide)
                · skip
                  exfalso; rw [ho] at c128; exact absurd c128 (by decide)
              · skip
                exfalso; rw [ho] at c108; exact absurd c108 (by decide)
            · skip
              exfalso; rw [ho] at c88; exact absurd c88 (by decide)
          · skip
            exfalso; rw [ho] at c71; exact absurd c71 (by decide)
        · skip
          exfalso; rw [ho] at c53; exact absurd c53 (by decide)
      · skip
        exfalso; rw [ho] at c40; exact absurd c40 (by decide)
    · skip
      exfalso; rw [ho] at c26; exact absurd c26 (by decide)
  · skip
    exfalso; rw [ho] at c3; exact absurd c3 (by decide)
theorem q_pop_4 {I : jc_I} {t j : Nat} : q_pop I t j (12, t, j) 4 = I (12, t, j) 4 - 1 := jc_up_s _ _ _ _
theorem q_pop_t {I : jc_I} {t j a : Nat} {u : Nat × Nat} {k : Nat} (h : a ≠ 12) : q_pop I t j (a, u) k = I (a, u) k := jc_up_t _ _ _ _ _ _ _ _ h
theorem jm1 {x : Int32} (h1 : 1 ≤ x) (h2 : x ≤ 12) : 0 ≤ x - 1 ∧ x - 1 < 12 := by constructor <;> grind
theorem ct_m_plain_15 {I : jc_I} {O : jc_O} {live : jc_L → Prop} {t b n xt fn m j : Nat} {op a : Int32} (hQ : QT I O live t b n xt fn m) (hf : qf O t j) (h1 : 1 ≤ I (12, t, j) 4) (h2 : I (12, t, j) 4 ≤ 12) (hx : q_tp I t j ≠ 0 → 1 ≤ q_tp I t j ∧ (q_tp I t j - 1).toNatClampNeg < n) (ho : op = 15) : jc_Ct y_m_plain [.inr (some (10, 0, 0)), .inr (some (14, t, 0)), .inr (some (12, t, j)), .inl op, .inl a] I O live (none, q_on (q_psh (q_pop I t j) t j (if q_tp I t j ≠ 0 ∧ I (13, b + (q_tp I t j - 1).toNatClampNeg, 0) 0 = a then 1 else 0)) t j, O, live, 0, 0) := by
  obtain ⟨m0, m2, m4, m6, m7⟩ := id hQ.M
  refine jc_Ct.of (by decide +kernel) (rfl) (Nat.le_of_ble_eq_true rfl) ?_
  refine jr_iload_n d_m_plain_0 rfl rfl ?_
  refine jr_bipush (v := 7) d_m_plain_1 (by decide) ?_
  refine jr_icmp_ne (tgt := 25) d_m_plain_3 (by decide) (fun c3 => ?_) (fun c3 => ?_)
  · skip
    refine jr_iload_n d_m_plain_25 rfl rfl ?_
    refine jr_if_ne (tgt := 38) d_m_plain_26 (by decide) (fun c26 => ?_) (fun c26 => ?_)
    · skip
      refine jr_iload_n d_m_plain_38 rfl rfl ?_
      refine jr_iconst (v := 1) d_m_plain_39 (by decide) ?_
      refine jr_icmp_ne (tgt := 51) d_m_plain_40 (by decide) (fun c40 => ?_) (fun c40 => ?_)
      · skip
        refine jr_iload_n d_m_plain_51 rfl rfl ?_
        refine jr_iconst (v := 2) d_m_plain_52 (by decide) ?_
        refine jr_icmp_ne (tgt := 69) d_m_plain_53 (by decide) (fun c53 => ?_) (fun c53 => ?_)
        · skip
          refine jr_iload_n d_m_plain_69 rfl rfl ?_
          refine jr_iconst (v := 3) d_m_plain_70 (by decide) ?_
          refine jr_icmp_ne (tgt := 85) d_m_plain_71 (by decide) (fun c71 => ?_) (fun c71 => ?_)
          · skip
            refine jr_iload_n d_m_plain_85 rfl rfl ?_
            refine jr_bipush (v := 9) d_m_plain_86 (by decide) ?_
            refine jr_icmp_ne (tgt := 105) d_m_plain_88 (by decide) (fun c88 => ?_) (fun c88 => ?_)
            · skip
              refine jr_iload_n d_m_plain_105 rfl rfl ?_
              refine jr_bipush (v := 10) d_m_plain_106 (by decide) ?_
              refine jr_icmp_ne (tgt := 125) d_m_plain_108 (by decide) (fun c108 => ?_) (fun c108 => ?_)
              · skip
                refine jr_iload_n d_m_plain_125 rfl rfl ?_
                refine jr_bipush (v := 14) d_m_plain_126 (by decide) ?_
                refine jr_icmp_ne (tgt := 144) d_m_plain_128 (by decide) (fun c128 => ?_) (fun c128 => ?_)
                · skip
                  refine jr_iload_n d_m_plain_144 rfl rfl ?_
                  refine jr_bipush (v := 25) d_m_plain_145 (by decide) ?_
                  refine jr_icmp_ne (tgt := 164) d_m_plain_147 (by decide) (fun c147 => ?_) (fun c147 => ?_)
                  · skip
                    refine jr_iload_n d_m_plain_164 rfl rfl ?_
                    refine jr_bipush (v := 26) d_m_plain_165 (by decide) ?_
                    refine jr_icmp_ne (tgt := 184) d_m_plain_167 (by decide) (fun c167 => ?_) (fun c167 => ?_)
                    · skip
                      refine jr_iload_n d_m_plain_184 rfl rfl ?_
                      refine jr_bipush (v := 15) d_m_plain_185 (by decide) ?_
                      refine jr_icmp_ne (tgt := 235) d_m_plain_187 (by decide) (fun c187 => ?_) (fun c187 => ?_)
                      · skip
                        exact absurd ho c187
                      · skip
                        refine jr_aload_n d_m_plain_190 rfl rfl ?_
                        refine jv_V0r d_m_plain_191 l_m_206 k_mF_pop ⟨Nat.le_of_ble_eq_true rfl, Nat.le_of_ble_eq_true rfl⟩ rfl rfl (Nat.le_of_ble_eq_true rfl) (ct_mF_pop hf h1 h2) (by first | decide | exact Nat.zero_le _ | (dsimp only; omega) | (dsimp only; grind)) (by first | decide | exact Nat.zero_le _ | (dsimp only; omega) | (dsimp only; grind)) ?_
                        refine jr_istore d_m_plain_194 (Nat.le_of_ble_eq_true rfl) ?_
                        refine jr_aload_n d_m_plain_196 rfl rfl ?_
                        refine jr_iload d_m_plain_197 rfl ?_
                        refine jr_if_eq (tgt := 228) d_m_plain_199 (by decide) (fun c199 => ?_) (fun c199 => ?_)
                        · skip
                          refine jr_iconst (v := 0) d_m_plain_228 (by decide) ?_
                          refine jv_V1v d_m_plain_229 l_m_200 k_mF_push ⟨Nat.le_of_ble_eq_true rfl, Nat.le_of_ble_eq_true rfl⟩ rfl rfl (Nat.le_of_ble_eq_true rfl) (show jc_Ct y_mF_push _ _ _ _ (none, q_psh _ _ _ _, _, _, 0, 0) from ct_mF_push hf (by rw [q_pop_4]; exact (jm1 h1 h2).1) (by rw [q_pop_4]; exact (jm1 h1 h2).2)) (by first | decide | exact Nat.zero_le _ | (dsimp only; omega) | (dsimp only; grind)) (by first | decide | exact Nat.zero_le _ | (dsimp only; omega) | (dsimp only; grind)) ?_
                          refine jr_goto (tgt := 317) d_m_plain_232 (by decide) ?_
                          refine jr_aload_n d_m_plain_317 rfl rfl ?_
                          refine jr_dup d_m_plain_318 ?_
                          refine jr_geti d_m_plain_319 f_m_195 rfl ?_
                          refine jr_iconst (v := 1) d_m_plain_322 (by decide) ?_
                          refine jr_iadd d_m_plain_323 ?_
                          refine jr_puti d_m_plain_324 f_m_195 (Or.inl rfl) rfl ?_
                          exact jr_retX (v := none) d_m_plain_327 (by first | exact Nat.le_refl _ | exact Nat.zero_le _ | (dsimp only; omega)) (by first | exact Nat.le_refl _ | exact Nat.zero_le _ | (dsimp only; omega)) (by first | with_reducible rfl | (dsimp only; (first | rw [if_pos (by grind)] | rw [if_neg (by grind)]); rfl; done) | ((first | rw [if_pos (by grind)] | rw [if_neg (by grind)]); rfl; done) | (exfalso; grind)) (by first | with_reducible rfl | (dsimp only; (first | rw [if_pos (by grind)] | rw [if_neg (by grind)]); rfl; done) | ((first | rw [if_pos (by grind)] | rw [if_neg (by grind)]); rfl; done) | (exfalso; grind)) (by first | with_reducible rfl | (dsimp only; (first | rw [if_pos (by grind)] | rw [if_neg (by grind)]); rfl; done) | ((first | rw [if_pos (by grind)] | rw [if_neg (by grind)]); rfl; done) | (exfalso; grind)) (by first | with_reducible rfl | (dsimp only; (first | rw [if_pos (by grind)] | rw [if_neg (by grind)]); rfl; done) | ((first | rw [if_pos (by grind)] | rw [if_neg (by grind)]); rfl; done) | (exfalso; grind))
                        · skip
                          refine jr_aload_n d_m_plain_202 rfl rfl ?_
                          refine jr_getr d_m_plain_203 f_m_19 rfl rfl ?_
                          first | rw [m4] | skip
                          refine jr_iload d_m_plain_206 rfl ?_
                          refine jr_iconst (v := 1) d_m_plain_208 (by decide) ?_
                          refine jr_isub d_m_plain_209 ?_
                          refine jv_V1r d_m_plain_210 l_m_126 k_aL_get ⟨Nat.le_of_ble_eq_true rfl, Nat.le_of_ble_eq_true rfl⟩ rfl rfl (Nat.le_of_ble_eq_true rfl) (ct_aL_getq (hQ.ob.to (q_pop_t (by decide)) rfl (fun _ _ => rfl) (fun _ h => h)) (jex (hx c199).1 (hx c199).2 (by have := hQ.n3; omega)) (hx c199).2) (by first | decide | exact Nat.zero_le _ | (dsimp only; omega) | (dsimp only; grind)) (by first | decide | exact Nat.zero_le _ | (dsimp only; omega) | (dsimp only; grind)) ?_
                          first | rw [m4] | skip
                          refine jr_cast d_m_plain_213 c_m_155 rfl ⟨_, rfl, ca_mO_mO⟩ ?_
                          refine jr_geti d_m_plain_216 f_m_197 rfl ?_
                          rw [q_pop_t (by simp)]
                          refine jr_iload d_m_plain_219 rfl ?_
                          refine jr_icmp_ne (tgt := 228) d_m_plain_221 (by decide) (fun c221 => ?_) (fun c221 => ?_)
                          · skip
                            refine jr_iconst (v := 0) d_m_plain_228 (by decide) ?_
                            refine jv_V1v d_m_plain_229 l_m_200 k_mF_push ⟨Nat.le_of_ble_eq_true rfl, Nat.le_of_ble_eq_true rfl⟩ rfl rfl (Nat.le_of_ble_eq_true rfl) (show jc_Ct y_mF_push _ _ _ _ (none, q_psh _ _ _ _, _, _, 0, 0) from ct_mF_push hf (by rw [q_pop_4]; exact (jm1 h1 h2).1) (by rw [q_pop_4]; exact (jm1 h1 h2).2)) (by first | decide | exact Nat.zero_le _ | (dsimp only; omega) | (dsimp only; grind)) (by first | decide | exact Nat.zero_le _ | (dsimp only; omega) | (dsimp only; grind)) ?_
                            refine jr_goto (tgt := 317) d_m_plain_232 (by decide) ?_
                            refine jr_aload_n d_m_plain_317 rfl rfl ?_
                            refine jr_dup d_m_plain_318 ?_
                            refine jr_geti d_m_plain_319 f_m_195 rfl ?_
                            refine jr_iconst (v := 1) d_m_plain_322 (by decide) ?_
                            refine jr_iadd d_m_plain_323 ?_
                            refine jr_puti d_m_plain_324 f_m_195 (Or.inl rfl) rfl ?_
                            exact jr_retX (v := none) d_m_plain_327 (by first | exact Nat.le_refl _ | exact Nat.zero_le _ | (dsimp only; omega)) (by first | exact Nat.le_refl _ | exact Nat.zero_le _ | (dsimp only; omega)) (by first | with_reducible rfl | (dsimp only; (first | rw [if_pos (by grind)] | rw [if_neg (by grind)]); rfl; done) | ((first | rw [if_pos (by grind)] | rw [if_neg (by grind)]); rfl; done) | (exfalso; grind)) (by first | with_reducible rfl | (dsimp only; (first | rw [if_pos (by grind)] | rw [if_neg (by grind)]); rfl; done) | ((first | rw [if_pos (by grind)] | rw [if_neg (by grind)]); rfl; done) | (exfalso; grind)) (by first | with_reducible rfl | (dsimp only; (first | rw [if_pos (by grind)] | rw [if_neg (by grind)]); rfl; done) | ((first | rw [if_pos (by grind)] | rw [if_neg (by grind)]); rfl; done) | (exfalso; grind)) (by first | with_reducible rfl | (dsimp only; (first | rw [if_pos (by grind)] | rw [if_neg (by grind)]); rfl; done) | ((first | rw [if_pos (by grind)] | rw [if_neg (by grind)]); rfl; done) | (exfalso; grind))
                          · skip
                            refine jr_iconst (v := 1) d_m_plain_224 (by decide) ?_
                            refine jr_goto (tgt := 229) d_m_plain_225 (by decide) ?_
                            refine jv_V1v d_m_plain_229 l_m_200 k_mF_push ⟨Nat.le_of_ble_eq_true rfl, Nat.le_of_ble_eq_true rfl⟩ rfl rfl (Nat.le_of_ble_eq_true rfl) (show jc_Ct y_mF_push _ _ _ _ (none, q_psh _ _ _ _, _, _, 0, 0) from ct_mF_push hf (by rw [q_pop_4]; exact (jm1 h1 h2).1) (by rw [q_pop_4]; exact (jm1 h1 h2).2)) (by first | decide | exact Nat.zero_le _ | (dsimp only; omega) | (dsimp only; grind)) (by first | decide | exact Nat.zero_le _ | (dsimp only; omega) | (dsimp only; grind)) ?_
                            refine jr_goto (tgt := 317) d_m_plain_232 (by decide) ?_
                            refine jr_aload_n d_m_plain_317 rfl rfl ?_
                            refine jr_dup d_m_plain_318 ?_
                            refine jr_geti d_m_plain_319 f_m_195 rfl ?_
                            refine jr_iconst (v := 1) d_m_plain_322 (by decide) ?_
                            refine jr_iadd d_m_plain_323 ?_
                            refine jr_puti d_m_plain_324 f_m_195 (Or.inl rfl) rfl ?_
                            exact jr_retX (v := none) d_m_plain_327 (by first | exact Nat.le_refl _ | exact Nat.zero_le _ | (dsimp only; omega)) (by first | exact Nat.le_refl _ | exact Nat.zero_le _ | (dsimp only; omega)) (by first | with_reducible rfl | (dsimp only; (first | rw [if_pos (by grind)] | rw [if_neg (by grind)]); rfl; done) | ((first | rw [if_pos (by grind)] | rw [if_neg (by grind)]); rfl; done) | (exfalso; grind)) (by first | with_reducible rfl | (dsimp only; (first | rw [if_pos (by grind)] | rw [if_neg (by grind)]); rfl; done) | ((first | rw [if_pos (by grind)] | rw [if_neg (by grind)]); rfl; done) | (exfalso; grind)) (by first | with_reducible rfl | (dsimp only; (first | rw [if_pos (by grind)] | rw [if_neg (by grind)]); rfl; done) | ((first | rw [if_pos (by grind)] | rw [if_neg (by grind)]); rfl; done) | (exfalso; grind)) (by first | with_reducible rfl | (dsimp only; (first | rw [if_pos (by grind)] | rw [if_neg (by grind)]); rfl; done) | ((first | rw [if_pos (by grind)] | rw [if_neg (by grind)]); rfl; done) | (exfalso; grind))
                    · skip
                      exfalso; rw [ho] at c167; exact absurd c167 (by decide)
                  · skip
                    exfalso; rw [ho] at c147; exact absurd c147 (by decide)
                · skip
                  exfalso; rw [ho] at c128; exact absurd c128 (by decide)
              · skip
                exfalso; rw [ho] at c108; exact absurd c108 (by decide)
            · skip
              exfalso; rw [ho] at c88; exact absurd c88 (by decide)
          · skip
            exfalso; rw [ho] at c71; exact absurd c71 (by decide)
        · skip
          exfalso; rw [ho] at c53; exact absurd c53 (by decide)
      · skip
        exfalso; rw [ho] at c40; exact absurd c40 (by decide)
    · skip
      exfalso; rw [ho] at c26; exact absurd c26 (by decide)
  · skip
    exfalso; rw [ho] at c3; exact absurd c3 (by decide)
theorem ct_m_plain_4 {I : jc_I} {O : jc_O} {live : jc_L → Prop} {t b n xt fn m j : Nat} {op a : Int32} (hQ : QT I O live t b n xt fn m) (hf : qf O t j) (h1 : 2 ≤ I (12, t, j) 4) (h2 : I (12, t, j) 4 ≤ 12) (ho : op = 4) : jc_Ct y_m_plain [.inr (some (10, 0, 0)), .inr (some (14, t, 0)), .inr (some (12, t, j)), .inl op, .inl a] I O live (none, q_on (q_psh (q_pop (q_pop I t j) t j) t j (q_tp (q_pop I t j) t j + q_tp I t j)) t j, O, live, 0, 0) := by
  refine jc_Ct.of (by decide +kernel) (rfl) (Nat.le_of_ble_eq_true rfl) ?_
  refine jr_iload_n d_m_plain_0 rfl rfl ?_
  refine jr_bipush (v := 7) d_m_plain_1 (by decide) ?_
  refine jr_icmp_ne (tgt := 25) d_m_plain_3 (by decide) (fun c3 => ?_) (fun c3 => ?_)
  · skip
    refine jr_iload_n d_m_plain_25 rfl rfl ?_
    refine jr_if_ne (tgt := 38) d_m_plain_26 (by decide) (fun c26 => ?_) (fun c26 => ?_)
    · skip
      refine jr_iload_n d_m_plain_38 rfl rfl ?_
      refine jr_iconst (v := 1) d_m_plain_39 (by decide) ?_
      refine jr_icmp_ne (tgt := 51) d_m_plain_40 (by decide) (fun c40 => ?_) (fun c40 => ?_)
      · skip
        refine jr_iload_n d_m_plain_51 rfl rfl ?_
        refine jr_iconst (v := 2) d_m_plain_52 (by decide) ?_
        refine jr_icmp_ne (tgt := 69) d_m_plain_53 (by decide) (fun c53 => ?_) (fun c53 => ?_)
        · skip
          refine jr_iload_n d_m_plain_69 rfl rfl ?_
          refine jr_iconst (v := 3) d_m_plain_70 (by decide) ?_
          refine jr_icmp_ne (tgt := 85) d_m_plain_71 (by decide) (fun c71 => ?_) (fun c71 => ?_)
          · skip
            refine jr_iload_n d_m_plain_85 rfl rfl ?_
            refine jr_bipush (v := 9) d_m_plain_86 (by decide) ?_
            refine jr_icmp_ne (tgt := 105) d_m_plain_88 (by decide) (fun c88 => ?_) (fun c88 => ?_)
            · skip
              refine jr_iload_n d_m_plain_105 rfl rfl ?_
              refine jr_bipush (v := 10) d_m_plain_106 (by decide) ?_
              refine jr_icmp_ne (tgt := 125) d_m_plain_108 (by decide) (fun c108 => ?_) (fun c108 => ?_)
              · skip
                refine jr_iload_n d_m_plain_125 rfl rfl ?_
                refine jr_bipush (v := 14) d_m_plain_126 (by decide) ?_
                refine jr_icmp_ne (tgt := 144) d_m_plain_128 (by decide) (fun c128 => ?_) (fun c128 => ?_)
                · skip
                  refine jr_iload_n d_m_plain_144 rfl rfl ?_
                  refine jr_bipush (v := 25) d_m_plain_145 (by decide) ?_
                  refine jr_icmp_ne (tgt := 164) d_m_plain_147 (by decide) (fun c147 => ?_) (fun c147 => ?_)
                  · skip
                    refine jr_iload_n d_m_plain_164 rfl rfl ?_
                    refine jr_bipush (v := 26) d_m_plain_165 (by decide) ?_
                    refine jr_icmp_ne (tgt := 184) d_m_plain_167 (by decide) (fun c167 => ?_) (fun c167 => ?_)
                    · skip
                      refine jr_iload_n d_m_plain_184 rfl rfl ?_
                      refine jr_bipush (v := 15) d_m_plain_185 (by decide) ?_
                      refine jr_icmp_ne (tgt := 235) d_m_plain_187 (by decide) (fun c187 => ?_) (fun c187 => ?_)
                      · skip
                        refine jr_aload_n d_m_plain_235 rfl rfl ?_
                        refine jv_V0r d_m_plain_236 l_m_206 k_mF_pop ⟨Nat.le_of_ble_eq_true rfl, Nat.le_of_ble_eq_true rfl⟩ rfl rfl (Nat.le_of_ble_eq_true rfl) (ct_mF_pop hf (by grind) h2) (by first | decide | exact Nat.zero_le _ | (dsimp only; omega) | (dsimp only; grind)) (by first | decide | exact Nat.zero_le _ | (dsimp only; omega) | (dsimp only; grind)) ?_
                        refine jr_istore d_m_plain_239 (Nat.le_of_ble_eq_true rfl) ?_
                        refine jr_aload_n d_m_plain_241 rfl rfl ?_
                        refine jv_V0r d_m_plain_242 l_m_206 k_mF_pop ⟨Nat.le_of_ble_eq_true rfl, Nat.le_of_ble_eq_true rfl⟩ rfl rfl (Nat.le_of_ble_eq_true rfl) (ct_mF_pop hf (by rw [q_pop_4]; grind) (by rw [q_pop_4]; grind)) (by first | decide | exact Nat.zero_le _ | (dsimp only; omega) | (dsimp only; grind)) (by first | decide | exact Nat.zero_le _ | (dsimp only; omega) | (dsimp only; grind)) ?_
                        refine jr_istore d_m_plain_245 (Nat.le_of_ble_eq_true rfl) ?_
                        refine jr_aload_n d_m_plain_247 rfl rfl ?_
                        refine jr_iload_n d_m_plain_248 rfl rfl ?_
                        refine jr_iconst (v := 4) d_m_plain_249 (by decide) ?_
                        refine jr_icmp_ne (tgt := 261) d_m_plain_250 (by decide) (fun c250 => ?_) (fun c250 => ?_)
                        · skip
                          exact absurd ho c250
                        · skip
                          refine jr_iload d_m_plain_253 rfl ?_
                          refine jr_iload d_m_plain_255 rfl ?_
                          refine jr_iadd d_m_plain_257 ?_
                          refine jr_goto (tgt := 314) d_m_plain_258 (by decide) ?_
                          refine jv_V1v d_m_plain_314 l_m_200 k_mF_push ⟨Nat.le_of_ble_eq_true rfl, Nat.le_of_ble_eq_true rfl⟩ rfl rfl (Nat.le_of_ble_eq_true rfl) (show jc_Ct y_mF_push _ _ _ _ (none, q_psh _ _ _ _, _, _, 0, 0) from ct_mF_push hf (by rw [q_pop_4, q_pop_4]; grind) (by rw [q_pop_4, q_pop_4]; grind)) (by first | decide | exact Nat.zero_le _ | (dsimp only; omega) | (dsimp only; grind)) (by first | decide | exact Nat.zero_le _ | (dsimp only; omega) | (dsimp only; grind)) ?_
                          refine jr_aload_n d_m_plain_317 rfl rfl ?_
                          refine jr_dup d_m_plain_318 ?_
                          refine jr_geti d_m_plain_319 f_m_195 rfl ?_
                          refine jr_iconst (v := 1) d_m_plain_322 (by decide) ?_
                          refine jr_iadd d_m_plain_323 ?_
                          refine jr_puti d_m_plain_324 f_m_195 (Or.inl rfl) rfl ?_
                          exact jr_retX (v := none) d_m_plain_327 (by first | exact Nat.le_refl _ | exact Nat.zero_le _ | (dsimp only; omega)) (by first | exact Nat.le_refl _ | exact Nat.zero_le _ | (dsimp only; omega)) (by first | with_reducible rfl | (dsimp only; rfl; done) | (rfl; done) | (exfalso; grind)) (by first | with_reducible rfl | (dsimp only; rfl; done) | (rfl; done) | (exfalso; grind)) (by first | with_reducible rfl | (dsimp only; rfl; done) | (rfl; done) | (exfalso; grind)) (by first | with_reducible rfl | (dsimp only; rfl; done) | (rfl; done) | (exfalso; grind))
                      · skip
                        exfalso; rw [ho] at c187; exact absurd c187 (by decide)
                    · skip
                      exfalso; rw [ho] at c167; exact absurd c167 (by decide)
                  · skip
                    exfalso; rw [ho] at c147; exact absurd c147 (by decide)
                · skip
                  exfalso; rw [ho] at c128; exact absurd c128 (by decide)
              · skip
                exfalso; rw [ho] at c108; exact absurd c108 (by decide)
            · skip
              exfalso; rw [ho] at c88; exact absurd c88 (by decide)
          · skip
            exfalso; rw [ho] at c71; exact absurd c71 (by decide)
        · skip
          exfalso; rw [ho] at c53; exact absurd c53 (by decide)
      · skip
        exfalso; rw [ho] at c40; exact absurd c40 (by decide)
    · skip
      exfalso; rw [ho] at c26; exact absurd c26 (by decide)
  · skip
    exfalso; rw [ho] at c3; exact absurd c3 (by decide)
theorem ct_m_plain_5 {I : jc_I} {O : jc_O} {live : jc_L → Prop} {t b n xt fn m j : Nat} {op a : Int32} (hQ : QT I O live t b n xt fn m) (hf : qf O t j) (h1 : 2 ≤ I (12, t, j) 4) (h2 : I (12, t, j) 4 ≤ 12) (ho : op = 5) : jc_Ct y_m_plain [.inr (some (10, 0, 0)), .inr (some (14, t, 0)), .inr (some (12, t, j)), .inl op, .inl a] I O live (none, q_on (q_psh (q_pop (q_pop I t j) t j) t j (q_tp (q_pop I t j) t j - q_tp I t j)) t j, O, live, 0, 0) := by
  refine jc_Ct.of (by decide +kernel) (rfl) (Nat.le_of_ble_eq_true rfl) ?_
  refine jr_iload_n d_m_plain_0 rfl rfl ?_
  refine jr_bipush (v := 7) d_m_plain_1 (by decide) ?_
  refine jr_icmp_ne (tgt := 25) d_m_plain_3 (by decide) (fun c3 => ?_) (fun c3 => ?_)
  · skip
    refine jr_iload_n d_m_plain_25 rfl rfl ?_
    refine jr_if_ne (tgt := 38) d_m_plain_26 (by decide) (fun c26 => ?_) (fun c26 => ?_)
    · skip
      refine jr_iload_n d_m_plain_38 rfl rfl ?_
      refine jr_iconst (v := 1) d_m_plain_39 (by decide) ?_
      refine jr_icmp_ne (tgt := 51) d_m_plain_40 (by decide) (fun c40 => ?_) (fun c40 => ?_)
      · skip
        refine jr_iload_n d_m_plain_51 rfl rfl ?_
        refine jr_iconst (v := 2) d_m_plain_52 (by decide) ?_
        refine jr_icmp_ne (tgt := 69) d_m_plain_53 (by decide) (fun c53 => ?_) (fun c53 => ?_)
        · skip
          refine jr_iload_n d_m_plain_69 rfl rfl ?_
          refine jr_iconst (v := 3) d_m_plain_70 (by decide) ?_
          refine jr_icmp_ne (tgt := 85) d_m_plain_71 (by decide) (fun c71 => ?_) (fun c71 => ?_)
          · skip
            refine jr_iload_n d_m_plain_85 rfl rfl ?_
            refine jr_bipush (v := 9) d_m_plain_86 (by decide) ?_
            refine jr_icmp_ne (tgt := 105) d_m_plain_88 (by decide) (fun c88 => ?_) (fun c88 => ?_)
            · skip
              refine jr_iload_n d_m_plain_105 rfl rfl ?_
              refine jr_bipush (v := 10) d_m_plain_106 (by decide) ?_
              refine jr_icmp_ne (tgt := 125) d_m_plain_108 (by decide) (fun c108 => ?_) (fun c108 => ?_)
              · skip
                refine jr_iload_n d_m_plain_125 rfl rfl ?_
                refine jr_bipush (v := 14) d_m_plain_126 (by decide) ?_
                refine jr_icmp_ne (tgt := 144) d_m_plain_128 (by decide) (fun c128 => ?_) (fun c128 => ?_)
                · skip
                  refine jr_iload_n d_m_plain_144 rfl rfl ?_
                  refine jr_bipush (v := 25) d_m_plain_145 (by decide) ?_
                  refine jr_icmp_ne (tgt := 164) d_m_plain_147 (by decide) (fun c147 => ?_) (fun c147 => ?_)
                  · skip
                    refine jr_iload_n d_m_plain_164 rfl rfl ?_
                    refine jr_bipush (v := 26) d_m_plain_165 (by decide) ?_
                    refine jr_icmp_ne (tgt := 184) d_m_plain_167 (by decide) (fun c167 => ?_) (fun c167 => ?_)
                    · skip
                      refine jr_iload_n d_m_plain_184 rfl rfl ?_
                      refine jr_bipush (v := 15) d_m_plain_185 (by decide) ?_
                      refine jr_icmp_ne (tgt := 235) d_m_plain_187 (by decide) (fun c187 => ?_) (fun c187 => ?_)
                      · skip
                        refine jr_aload_n d_m_plain_235 rfl rfl ?_
                        refine jv_V0r d_m_plain_236 l_m_206 k_mF_pop ⟨Nat.le_of_ble_eq_true rfl, Nat.le_of_ble_eq_true rfl⟩ rfl rfl (Nat.le_of_ble_eq_true rfl) (ct_mF_pop hf (by grind) h2) (by first | decide | exact Nat.zero_le _ | (dsimp only; omega) | (dsimp only; grind)) (by first | decide | exact Nat.zero_le _ | (dsimp only; omega) | (dsimp only; grind)) ?_
                        refine jr_istore d_m_plain_239 (Nat.le_of_ble_eq_true rfl) ?_
                        refine jr_aload_n d_m_plain_241 rfl rfl ?_
                        refine jv_V0r d_m_plain_242 l_m_206 k_mF_pop ⟨Nat.le_of_ble_eq_true rfl, Nat.le_of_ble_eq_true rfl⟩ rfl rfl (Nat.le_of_ble_eq_true rfl) (ct_mF_pop hf (by rw [q_pop_4]; grind) (by rw [q_pop_4]; grind)) (by first | decide | exact Nat.zero_le _ | (dsimp only; omega) | (dsimp only; grind)) (by first | decide | exact Nat.zero_le _ | (dsimp only; omega) | (dsimp only; grind)) ?_
                        refine jr_istore d_m_plain_245 (Nat.le_of_ble_eq_true rfl) ?_
                        refine jr_aload_n d_m_plain_247 rfl rfl ?_
                        refine jr_iload_n d_m_plain_248 rfl rfl ?_
                        refine jr_iconst (v := 4) d_m_plain_249 (by decide) ?_
                        refine jr_icmp_ne (tgt := 261) d_m_plain_250 (by decide) (fun c250 => ?_) (fun c250 => ?_)
                        · skip
                          refine jr_iload_n d_m_plain_261 rfl rfl ?_
                          refine jr_iconst (v := 5) d_m_plain_262 (by decide) ?_
                          refine jr_icmp_ne (tgt := 274) d_m_plain_263 (by decide) (fun c263 => ?_) (fun c263 => ?_)
                          · skip
                            exact absurd ho c263
                          · skip
                            refine jr_iload d_m_plain_266 rfl ?_
                            refine jr_iload d_m_plain_268 rfl ?_
                            refine jr_isub d_m_plain_270 ?_
                            refine jr_goto (tgt := 314) d_m_plain_271 (by decide) ?_
                            refine jv_V1v d_m_plain_314 l_m_200 k_mF_push ⟨Nat.le_of_ble_eq_true rfl, Nat.le_of_ble_eq_true rfl⟩ rfl rfl (Nat.le_of_ble_eq_true rfl) (show jc_Ct y_mF_push _ _ _ _ (none, q_psh _ _ _ _, _, _, 0, 0) from ct_mF_push hf (by rw [q_pop_4, q_pop_4]; grind) (by rw [q_pop_4, q_pop_4]; grind)) (by first | decide | exact Nat.zero_le _ | (dsimp only; omega) | (dsimp only; grind)) (by first | decide | exact Nat.zero_le _ | (dsimp only; omega) | (dsimp only; grind)) ?_
                            refine jr_aload_n d_m_plain_317 rfl rfl ?_
                            refine jr_dup d_m_plain_318 ?_
                            refine jr_geti d_m_plain_319 f_m_195 rfl ?_
                            refine jr_iconst (v := 1) d_m_plain_322 (by decide) ?_
                            refine jr_iadd d_m_plain_323 ?_
                            refine jr_puti d_m_plain_324 f_m_195 (Or.inl rfl) rfl ?_
                            exact jr_retX (v := none) d_m_plain_327 (by first | exact Nat.le_refl _ | exact Nat.zero_le _ | (dsimp only; omega)) (by first | exact Nat.le_refl _ | exact Nat.zero_le _ | (dsimp only; omega)) (by first | with_reducible rfl | (dsimp only; rfl; done) | (rfl; done) | (exfalso; grind)) (by first | with_reducible rfl | (dsimp only; rfl; done) | (rfl; done) | (exfalso; grind)) (by first | with_reducible rfl | (dsimp only; rfl; done) | (rfl; done) | (exfalso; grind)) (by first | with_reducible rfl | (dsimp only; rfl; done) | (rfl; done) | (exfalso; grind))
                        · skip
                          exfalso; rw [ho] at c250; exact absurd c250 (by decide)
                      · skip
                        exfalso; rw [ho] at c187; exact absurd c187 (by decide)
                    · skip
                      exfalso; rw [ho] at c167; exact absurd c167 (by decide)
                  · skip
                    exfalso; rw [ho] at c147; exact absurd c147 (by decide)
                · skip
                  exfalso; rw [ho] at c128; exact absurd c128 (by decide)
              · skip
                exfalso; rw [ho] at c108; exact absurd c108 (by decide)
            · skip
              exfalso; rw [ho] at c88; exact absurd c88 (by decide)
          · skip
            exfalso; rw [ho] at c71; exact absurd c71 (by decide)
        · skip
          exfalso; rw [ho] at c53; exact absurd c53 (by decide)
      · skip
        exfalso; rw [ho] at c40; exact absurd c40 (by decide)
    · skip
      exfalso; rw [ho] at c26; exact absurd c26 (by decide)
  · skip
    exfalso; rw [ho] at c3; exact absurd c3 (by decide)
theorem ct_m_plain_6 {I : jc_I} {O : jc_O} {live : jc_L → Prop} {t b n xt fn m j : Nat} {op a : Int32} (hQ : QT I O live t b n xt fn m) (hf : qf O t j) (h1 : 2 ≤ I (12, t, j) 4) (h2 : I (12, t, j) 4 ≤ 12) (ho : op = 6) : jc_Ct y_m_plain [.inr (some (10, 0, 0)), .inr (some (14, t, 0)), .inr (some (12, t, j)), .inl op, .inl a] I O live (none, q_on (q_psh (q_pop (q_pop I t j) t j) t j (q_tp (q_pop I t j) t j * q_tp I t j)) t j, O, live, 0, 0) := by
  refine jc_Ct.of (by decide +kernel) (rfl) (Nat.le_of_ble_eq_true rfl) ?_
  refine jr_iload_n d_m_plain_0 rfl rfl ?_
  refine jr_bipush (v := 7) d_m_plain_1 (by decide) ?_
  refine jr_icmp_ne (tgt := 25) d_m_plain_3 (by decide) (fun c3 => ?_) (fun c3 => ?_)
  · skip
    refine jr_iload_n d_m_plain_25 rfl rfl ?_
    refine jr_if_ne (tgt := 38) d_m_plain_26 (by decide) (fun c26 => ?_) (fun c26 => ?_)
    · skip
      refine jr_iload_n d_m_plain_38 rfl rfl ?_
      refine jr_iconst (v := 1) d_m_plain_39 (by decide) ?_
      refine jr_icmp_ne (tgt := 51) d_m_plain_40 (by decide) (fun c40 => ?_) (fun c40 => ?_)
      · skip
        refine jr_iload_n d_m_plain_51 rfl rfl ?_
        refine jr_iconst (v := 2) d_m_plain_52 (by decide) ?_
        refine jr_icmp_ne (tgt := 69) d_m_plain_53 (by decide) (fun c53 => ?_) (fun c53 => ?_)
        · skip
          refine jr_iload_n d_m_plain_69 rfl rfl ?_
          refine jr_iconst (v := 3) d_m_plain_70 (by decide) ?_
          refine jr_icmp_ne (tgt := 85) d_m_plain_71 (by decide) (fun c71 => ?_) (fun c71 => ?_)
          · skip
            refine jr_iload_n d_m_plain_85 rfl rfl ?_
            refine jr_bipush (v := 9) d_m_plain_86 (by decide) ?_
            refine jr_icmp_ne (tgt := 105) d_m_plain_88 (by decide) (fun c88 => ?_) (fun c88 => ?_)
            · skip
              refine jr_iload_n d_m_plain_105 rfl rfl ?_
              refine jr_bipush (v := 10) d_m_plain_106 (by decide) ?_
              refine jr_icmp_ne (tgt := 125) d_m_plain_108 (by decide) (fun c108 => ?_) (fun c108 => ?_)
              · skip
                refine jr_iload_n d_m_plain_125 rfl rfl ?_
                refine jr_bipush (v := 14) d_m_plain_126 (by decide) ?_
                refine jr_icmp_ne (tgt := 144) d_m_plain_128 (by decide) (fun c128 => ?_) (fun c128 => ?_)
                · skip
                  refine jr_iload_n d_m_plain_144 rfl rfl ?_
                  refine jr_bipush (v := 25) d_m_plain_145 (by decide) ?_
                  refine jr_icmp_ne (tgt := 164) d_m_plain_147 (by decide) (fun c147 => ?_) (fun c147 => ?_)
                  · skip
                    refine jr_iload_n d_m_plain_164 rfl rfl ?_
                    refine jr_bipush (v := 26) d_m_plain_165 (by decide) ?_
                    refine jr_icmp_ne (tgt := 184) d_m_plain_167 (by decide) (fun c167 => ?_) (fun c167 => ?_)
                    · skip
                      refine jr_iload_n d_m_plain_184 rfl rfl ?_
                      refine jr_bipush (v := 15) d_m_plain_185 (by decide) ?_
                      refine jr_icmp_ne (tgt := 235) d_m_plain_187 (by decide) (fun c187 => ?_) (fun c187 => ?_)
                      · skip
                        refine jr_aload_n d_m_plain_235 rfl rfl ?_
                        refine jv_V0r d_m_plain_236 l_m_206 k_mF_pop ⟨Nat.le_of_ble_eq_true rfl, Nat.le_of_ble_eq_true rfl⟩ rfl rfl (Nat.le_of_ble_eq_true rfl) (ct_mF_pop hf (by grind) h2) (by first | decide | exact Nat.zero_le _ | (dsimp only; omega) | (dsimp only; grind)) (by first | decide | exact Nat.zero_le _ | (dsimp only; omega) | (dsimp only; grind)) ?_
                        refine jr_istore d_m_plain_239 (Nat.le_of_ble_eq_true rfl) ?_
                        refine jr_aload_n d_m_plain_241 rfl rfl ?_
                        refine jv_V0r d_m_plain_242 l_m_206 k_mF_pop ⟨Nat.le_of_ble_eq_true rfl, Nat.le_of_ble_eq_true rfl⟩ rfl rfl (Nat.le_of_ble_eq_true rfl) (ct_mF_pop hf (by rw [q_pop_4]; grind) (by rw [q_pop_4]; grind)) (by first | decide | exact Nat.zero_le _ | (dsimp only; omega) | (dsimp only; grind)) (by first | decide | exact Nat.zero_le _ | (dsimp only; omega) | (dsimp only; grind)) ?_
                        refine jr_istore d_m_plain_245 (Nat.le_of_ble_eq_true rfl) ?_
                        refine jr_aload_n d_m_plain_247 rfl rfl ?_
                        refine jr_iload_n d_m_plain_248 rfl rfl ?_
                        refine jr_iconst (v := 4) d_m_plain_249 (by decide) ?_
                        refine jr_icmp_ne (tgt := 261) d_m_plain_250 (by decide) (fun c250 => ?_) (fun c250 => ?_)
                        · skip
                          refine jr_iload_n d_m_plain_261 rfl rfl ?_
                          refine jr_iconst (v := 5) d_m_plain_262 (by decide) ?_
                          refine jr_icmp_ne (tgt := 274) d_m_plain_263 (by decide) (fun c263 => ?_) (fun c263 => ?_)
                          · skip
                            refine jr_iload_n d_m_plain_274 rfl rfl ?_
                            refine jr_bipush (v := 6) d_m_plain_275 (by decide) ?_
                            refine jr_icmp_ne (tgt := 288) d_m_plain_277 (by decide) (fun c277 => ?_) (fun c277 => ?_)
                            · skip
                              exact absurd ho c277
                            · skip
                              refine jr_iload d_m_plain_280 rfl ?_
                              refine jr_iload d_m_plain_282 rfl ?_
                              refine jr_imul d_m_plain_284 ?_
                              refine jr_goto (tgt := 314) d_m_plain_285 (by decide) ?_
                              refine jv_V1v d_m_plain_314 l_m_200 k_mF_push ⟨Nat.le_of_ble_eq_true rfl, Nat.le_of_ble_eq_true rfl⟩ rfl rfl (Nat.le_of_ble_eq_true rfl) (show jc_Ct y_mF_push _ _ _ _ (none, q_psh _ _ _ _, _, _, 0, 0) from ct_mF_push hf (by rw [q_pop_4, q_pop_4]; grind) (by rw [q_pop_4, q_pop_4]; grind)) (by first | decide | exact Nat.zero_le _ | (dsimp only; omega) | (dsimp only; grind)) (by first | decide | exact Nat.zero_le _ | (dsimp only; omega) | (dsimp only; grind)) ?_
                              refine jr_aload_n d_m_plain_317 rfl rfl ?_
                              refine jr_dup d_m_plain_318 ?_
                              refine jr_geti d_m_plain_319 f_m_195 rfl ?_
                              refine jr_iconst (v := 1) d_m_plain_322 (by decide) ?_
                              refine jr_iadd d_m_plain_323 ?_
                              refine jr_puti d_m_plain_324 f_m_195 (Or.inl rfl) rfl ?_
                              exact jr_retX (v := none) d_m_plain_327 (by first | exact Nat.le_refl _ | exact Nat.zero_le _ | (dsimp only; omega)) (by first | exact Nat.le_refl _ | exact Nat.zero_le _ | (dsimp only; omega)) (by first | with_reducible rfl | (dsimp only; rfl; done) | (rfl; done) | (exfalso; grind)) (by first | with_reducible rfl | (dsimp only; rfl; done) | (rfl; done) | (exfalso; grind)) (by first | with_reducible rfl | (dsimp only; rfl; done) | (rfl; done) | (exfalso; grind)) (by first | with_reducible rfl | (dsimp only; rfl; done) | (rfl; done) | (exfalso; grind))
                          · skip
                            exfalso; rw [ho] at c263; exact absurd c263 (by decide)
                        · skip
                          exfalso; rw [ho] at c250; exact absurd c250 (by decide)
                      · skip
                        exfalso; rw [ho] at c187; exact absurd c187 (by decide)
                    · skip
                      exfalso; rw [ho] at c167; exact absurd c167 (by decide)
                  · skip
                    exfalso; rw [ho] at c147; exact absurd c147 (by decide)
                · skip
                  exfalso; rw [ho] at c128; exact absurd c128 (by decide)
              · skip
                exfalso; rw [ho] at c108; exact absurd c108 (by decide)
            · skip
              exfalso; rw [ho] at c88; exact absurd c88 (by decide)
          · skip
            exfalso; rw [ho] at c71; exact absurd c71 (by decide)
        · skip
          exfalso; rw [ho] at c53; exact absurd c53 (by decide)
      · skip
        exfalso; rw [ho] at c40; exact absurd c40 (by decide)
    · skip
      exfalso; rw [ho] at c26; exact absurd c26 (by decide)
  · skip
    exfalso; rw [ho] at c3; exact absurd c3 (by decide)
theorem ct_m_plain_7 {I : jc_I} {O : jc_O} {live : jc_L → Prop} {t b n xt fn m j : Nat} {op a : Int32} (hQ : QT I O live t b n xt fn m) (hf : qf O t j) (h1 : 2 ≤ I (12, t, j) 4) (h2 : I (12, t, j) 4 ≤ 12) (hz : q_tp I t j ≠ 0) (ho : op = 7) : jc_Ct y_m_plain [.inr (some (10, 0, 0)), .inr (some (14, t, 0)), .inr (some (12, t, j)), .inl op, .inl a] I O live (none, q_on (q_psh (q_pop (q_pop I t j) t j) t j (q_tp (q_pop I t j) t j / q_tp I t j)) t j, O, live, 0, 0) := by
  refine jc_Ct.of (by decide +kernel) (rfl) (Nat.le_of_ble_eq_true rfl) ?_
  refine jr_iload_n d_m_plain_0 rfl rfl ?_
  refine jr_bipush (v := 7) d_m_plain_1 (by decide) ?_
  refine jr_icmp_ne (tgt := 25) d_m_plain_3 (by decide) (fun c3 => ?_) (fun c3 => ?_)
  · skip
    exact absurd ho c3
  · skip
    refine jr_aload_n d_m_plain_6 rfl rfl ?_
    refine jv_V0r d_m_plain_7 l_m_213 k_mF_top ⟨Nat.le_of_ble_eq_true rfl, Nat.le_of_ble_eq_true rfl⟩ rfl rfl (Nat.le_of_ble_eq_true rfl) (ct_mF_top hf (by grind) h2) (by first | decide | exact Nat.zero_le _ | (dsimp only; omega) | (dsimp only; grind)) (by first | decide | exact Nat.zero_le _ | (dsimp only; omega) | (dsimp only; grind)) ?_
    refine jr_if_ne (tgt := 25) d_m_plain_10 (by decide) (fun c10 => ?_) (fun c10 => ?_)
    · skip
      refine jr_iload_n d_m_plain_25 rfl rfl ?_
      refine jr_if_ne (tgt := 38) d_m_plain_26 (by decide) (fun c26 => ?_) (fun c26 => ?_)
      · skip
        refine jr_iload_n d_m_plain_38 rfl rfl ?_
        refine jr_iconst (v := 1) d_m_plain_39 (by decide) ?_
        refine jr_icmp_ne (tgt := 51) d_m_plain_40 (by decide) (fun c40 => ?_) (fun c40 => ?_)
        · skip
          refine jr_iload_n d_m_plain_51 rfl rfl ?_
          refine jr_iconst (v := 2) d_m_plain_52 (by decide) ?_
          refine jr_icmp_ne (tgt := 69) d_m_plain_53 (by decide) (fun c53 => ?_) (fun c53 => ?_)
          · skip
            refine jr_iload_n d_m_plain_69 rfl rfl ?_
            refine jr_iconst (v := 3) d_m_plain_70 (by decide) ?_
            refine jr_icmp_ne (tgt := 85) d_m_plain_71 (by decide) (fun c71 => ?_) (fun c71 => ?_)
            · skip
              refine jr_iload_n d_m_plain_85 rfl rfl ?_
              refine jr_bipush (v := 9) d_m_plain_86 (by decide) ?_
              refine jr_icmp_ne (tgt := 105) d_m_plain_88 (by decide) (fun c88 => ?_) (fun c88 => ?_)
              · skip
                refine jr_iload_n d_m_plain_105 rfl rfl ?_
                refine jr_bipush (v := 10) d_m_plain_106 (by decide) ?_
                refine jr_icmp_ne (tgt := 125) d_m_plain_108 (by decide) (fun c108 => ?_) (fun c108 => ?_)
                · skip
                  refine jr_iload_n d_m_plain_125 rfl rfl ?_
                  refine jr_bipush (v := 14) d_m_plain_126 (by decide) ?_
                  refine jr_icmp_ne (tgt := 144) d_m_plain_128 (by decide) (fun c128 => ?_) (fun c128 => ?_)
                  · skip
                    refine jr_iload_n d_m_plain_144 rfl rfl ?_
                    refine jr_bipush (v := 25) d_m_plain_145 (by decide) ?_
                    refine jr_icmp_ne (tgt := 164) d_m_plain_147 (by decide) (fun c147 => ?_) (fun c147 => ?_)
                    · skip
                      refine jr_iload_n d_m_plain_164 rfl rfl ?_
                      refine jr_bipush (v := 26) d_m_plain_165 (by decide) ?_
                      refine jr_icmp_ne (tgt := 184) d_m_plain_167 (by decide) (fun c167 => ?_) (fun c167 => ?_)
                      · skip
                        refine jr_iload_n d_m_plain_184 rfl rfl ?_
                        refine jr_bipush (v := 15) d_m_plain_185 (by decide) ?_
                        refine jr_icmp_ne (tgt := 235) d_m_plain_187 (by decide) (fun c187 => ?_) (fun c187 => ?_)
                        · skip
                          refine jr_aload_n d_m_plain_235 rfl rfl ?_
                          refine jv_V0r d_m_plain_236 l_m_206 k_mF_pop ⟨Nat.le_of_ble_eq_true rfl, Nat.le_of_ble_eq_true rfl⟩ rfl rfl (Nat.le_of_ble_eq_true rfl) (ct_mF_pop hf (by grind) h2) (by first | decide | exact Nat.zero_le _ | (dsimp only; omega) | (dsimp only; grind)) (by first | decide | exact Nat.zero_le _ | (dsimp only; omega) | (dsimp only; grind)) ?_
                          refine jr_istore d_m_plain_239 (Nat.le_of_ble_eq_true rfl) ?_
                          refine jr_aload_n d_m_plain_241 rfl rfl ?_
                          refine jv_V0r d_m_plain_242 l_m_206 k_mF_pop ⟨Nat.le_of_ble_eq_true rfl, Nat.le_of_ble_eq_true rfl⟩ rfl rfl (Nat.le_of_ble_eq_true rfl) (ct_mF_pop hf (by rw [q_pop_4]; grind) (by rw [q_pop_4]; grind)) (by first | decide | exact Nat.zero_le _ | (dsimp only; omega) | (dsimp only; grind)) (by first | decide | exact Nat.zero_le _ | (dsimp only; omega) | (dsimp only; grind)) ?_
                          refine jr_istore d_m_plain_245 (Nat.le_of_ble_eq_true rfl) ?_
                          refine jr_aload_n d_m_plain_247 rfl rfl ?_
                          refine jr_iload_n d_m_plain_248 rfl rfl ?_
                          refine jr_iconst (v := 4) d_m_plain_249 (by decide) ?_
                          refine jr_icmp_ne (tgt := 261) d_m_plain_250 (by decide) (fun c250 => ?_) (fun c250 => ?_)
                          · skip
                            refine jr_iload_n d_m_plain_261 rfl rfl ?_
                            refine jr_iconst (v := 5) d_m_plain_262 (by decide) ?_
                            refine jr_icmp_ne (tgt := 274) d_m_plain_263 (by decide) (fun c263 => ?_) (fun c263 => ?_)
                            · skip
                              refine jr_iload_n d_m_plain_274 rfl rfl ?_
                              refine jr_bipush (v := 6) d_m_plain_275 (by decide) ?_
                              refine jr_icmp_ne (tgt := 288) d_m_plain_277 (by decide) (fun c277 => ?_) (fun c277 => ?_)
                              · skip
                                refine jr_iload_n d_m_plain_288 rfl rfl ?_
                                refine jr_bipush (v := 7) d_m_plain_289 (by decide) ?_
                                refine jr_icmp_ne (tgt := 302) d_m_plain_291 (by decide) (fun c291 => ?_) (fun c291 => ?_)
                                · skip
                                  exact absurd ho c291
                                · skip
                                  refine jr_iload d_m_plain_294 rfl ?_
                                  refine jr_iload d_m_plain_296 rfl ?_
                                  refine jr_idiv d_m_plain_298 (by grind) ?_
                                  refine jr_goto (tgt := 314) d_m_plain_299 (by decide) ?_
                                  refine jv_V1v d_m_plain_314 l_m_200 k_mF_push ⟨Nat.le_of_ble_eq_true rfl, Nat.le_of_ble_eq_true rfl⟩ rfl rfl (Nat.le_of_ble_eq_true rfl) (show jc_Ct y_mF_push _ _ _ _ (none, q_psh _ _ _ _, _, _, 0, 0) from ct_mF_push hf (by rw [q_pop_4, q_pop_4]; grind) (by rw [q_pop_4, q_pop_4]; grind)) (by first | decide | exact Nat.zero_le _ | (dsimp only; omega) | (dsimp only; grind)) (by first | decide | exact Nat.zero_le _ | (dsimp only; omega) | (dsimp only; grind)) ?_
                                  refine jr_aload_n d_m_plain_317 rfl rfl ?_
                                  refine jr_dup d_m_plain_318 ?_
                                  refine jr_geti d_m_plain_319 f_m_195 rfl ?_
                                  refine jr_iconst (v := 1) d_m_plain_322 (by decide) ?_
                                  refine jr_iadd d_m_plain_323 ?_
                                  refine jr_puti d_m_plain_324 f_m_195 (Or.inl rfl) rfl ?_
                                  exact jr_retX (v := none) d_m_plain_327 (by first | exact Nat.le_refl _ | exact Nat.zero_le _ | (dsimp only; omega)) (by first | exact Nat.le_refl _ | exact Nat.zero_le _ | (dsimp only; omega)) (by first | with_reducible rfl | (dsimp only; rfl; done) | (rfl; done) | (exfalso; grind)) (by first | with_reducible rfl | (dsimp only; rfl; done) | (rfl; done) | (exfalso; grind)) (by first | with_reducible rfl | (dsimp only; rfl; done) | (rfl; done) | (exfalso; grind)) (by first | with_reducible rfl | (dsimp only; rfl; done) | (rfl; done) | (exfalso; grind))
                              · skip
                                exfalso; rw [ho] at c277; exact absurd c277 (by decide)
                            · skip
                              exfalso; rw [ho] at c263; exact absurd c263 (by decide)
                          · skip
                            exfalso; rw [ho] at c250; exact absurd c250 (by decide)
                        · skip
                          exfalso; rw [ho] at c187; exact absurd c187 (by decide)
                      · skip
                        exfalso; rw [ho] at c167; exact absurd c167 (by decide)
                    · skip
                      exfalso; rw [ho] at c147; exact absurd c147 (by decide)
                  · skip
                    exfalso; rw [ho] at c128; exact absurd c128 (by decide)
                · skip
                  exfalso; rw [ho] at c108; exact absurd c108 (by decide)
              · skip
                exfalso; rw [ho] at c88; exact absurd c88 (by decide)
            · skip
              exfalso; rw [ho] at c71; exact absurd c71 (by decide)
          · skip
            exfalso; rw [ho] at c53; exact absurd c53 (by decide)
        · skip
          exfalso; rw [ho] at c40; exact absurd c40 (by decide)
      · skip
        exfalso; rw [ho] at c26; exact absurd c26 (by decide)
    · skip
      exact absurd c10 hz
theorem ct_m_plain_8 {I : jc_I} {O : jc_O} {live : jc_L → Prop} {t b n xt fn m j : Nat} {op a : Int32} (hQ : QT I O live t b n xt fn m) (hf : qf O t j) (h1 : 2 ≤ I (12, t, j) 4) (h2 : I (12, t, j) 4 ≤ 12) (ho : op = 8) : jc_Ct y_m_plain [.inr (some (10, 0, 0)), .inr (some (14, t, 0)), .inr (some (12, t, j)), .inl op, .inl a] I O live (none, q_on (q_psh (q_pop (q_pop I t j) t j) t j ((if q_tp (q_pop I t j) t j < q_tp I t j then 1 else 0))) t j, O, live, 0, 0) := by
  refine jc_Ct.of (by decide +kernel) (rfl) (Nat.le_of_ble_eq_true rfl) ?_
  refine jr_iload_n d_m_plain_0 rfl rfl ?_
  refine jr_bipush (v := 7) d_m_plain_1 (by decide) ?_
  refine jr_icmp_ne (tgt := 25) d_m_plain_3 (by decide) (fun c3 => ?_) (fun c3 => ?_)
  · skip
    refine jr_iload_n d_m_plain_25 rfl rfl ?_
    refine jr_if_ne (tgt := 38) d_m_plain_26 (by decide) (fun c26 => ?_) (fun c26 => ?_)
    · skip
      refine jr_iload_n d_m_plain_38 rfl rfl ?_
      refine jr_iconst (v := 1) d_m_plain_39 (by decide) ?_
      refine jr_icmp_ne (tgt := 51) d_m_plain_40 (by decide) (fun c40 => ?_) (fun c40 => ?_)
      · skip
        refine jr_iload_n d_m_plain_51 rfl rfl ?_
        refine jr_iconst (v := 2) d_m_plain_52 (by decide) ?_
        refine jr_icmp_ne (tgt := 69) d_m_plain_53 (by decide) (fun c53 => ?_) (fun c53 => ?_)
        · skip
          refine jr_iload_n d_m_plain_69 rfl rfl ?_
          refine jr_iconst (v := 3) d_m_plain_70 (by decide) ?_
          refine jr_icmp_ne (tgt := 85) d_m_plain_71 (by decide) (fun c71 => ?_) (fun c71 => ?_)
          · skip
            refine jr_iload_n d_m_plain_85 rfl rfl ?_
            refine jr_bipush (v := 9) d_m_plain_86 (by decide) ?_
            refine jr_icmp_ne (tgt := 105) d_m_plain_88 (by decide) (fun c88 => ?_) (fun c88 => ?_)
            · skip
              refine jr_iload_n d_m_plain_105 rfl rfl ?_
              refine jr_bipush (v := 10) d_m_plain_106 (by decide) ?_
              refine jr_icmp_ne (tgt := 125) d_m_plain_108 (by decide) (fun c108 => ?_) (fun c108 => ?_)
              · skip
                refine jr_iload_n d_m_plain_125 rfl rfl ?_
                refine jr_bipush (v := 14) d_m_plain_126 (by decide) ?_
                refine jr_icmp_ne (tgt := 144) d_m_plain_128 (by decide) (fun c128 => ?_) (fun c128 => ?_)
                · skip
                  refine jr_iload_n d_m_plain_144 rfl rfl ?_
                  refine jr_bipush (v := 25) d_m_plain_145 (by decide) ?_
                  refine jr_icmp_ne (tgt := 164) d_m_plain_147 (by decide) (fun c147 => ?_) (fun c147 => ?_)
                  · skip
                    refine jr_iload_n d_m_plain_164 rfl rfl ?_
                    refine jr_bipush (v := 26) d_m_plain_165 (by decide) ?_
                    refine jr_icmp_ne (tgt := 184) d_m_plain_167 (by decide) (fun c167 => ?_) (fun c167 => ?_)
                    · skip
                      refine jr_iload_n d_m_plain_184 rfl rfl ?_
                      refine jr_bipush (v := 15) d_m_plain_185 (by decide) ?_
                      refine jr_icmp_ne (tgt := 235) d_m_plain_187 (by decide) (fun c187 => ?_) (fun c187 => ?_)
                      · skip
                        refine jr_aload_n d_m_plain_235 rfl rfl ?_
                        refine jv_V0r d_m_plain_236 l_m_206 k_mF_pop ⟨Nat.le_of_ble_eq_true rfl, Nat.le_of_ble_eq_true rfl⟩ rfl rfl (Nat.le_of_ble_eq_true rfl) (ct_mF_pop hf (by grind) h2) (by first | decide | exact Nat.zero_le _ | (dsimp only; omega) | (dsimp only; grind)) (by first | decide | exact Nat.zero_le _ | (dsimp only; omega) | (dsimp only; grind)) ?_
                        refine jr_istore d_m_plain_239 (Nat.le_of_ble_eq_true rfl) ?_
                        refine jr_aload_n d_m_plain_241 rfl rfl ?_
                        refine jv_V0r d_m_plain_242 l_m_206 k_mF_pop ⟨Nat.le_of_ble_eq_true rfl, Nat.le_of_ble_eq_true rfl⟩ rfl rfl (Nat.le_of_ble_eq_true rfl) (ct_mF_pop hf (by rw [q_pop_4]; grind) (by rw [q_pop_4]; grind)) (by first | decide | exact Nat.zero_le _ | (dsimp only; omega) | (dsimp only; grind)) (by first | decide | exact Nat.zero_le _ | (dsimp only; omega) | (dsimp only; grind)) ?_
                        refine jr_istore d_m_plain_245 (Nat.le_of_ble_eq_true rfl) ?_
                        refine jr_aload_n d_m_plain_247 rfl rfl ?_
                        refine jr_iload_n d_m_plain_248 rfl rfl ?_
                        refine jr_iconst (v := 4) d_m_plain_249 (by decide) ?_
                        refine jr_icmp_ne (tgt := 261) d_m_plain_250 (by decide) (fun c250 => ?_) (fun c250 => ?_)
                        · skip
                          refine jr_iload_n d_m_plain_261 rfl rfl ?_
                          refine jr_iconst (v := 5) d_m_plain_262 (by decide) ?_
                          refine jr_icmp_ne (tgt := 274) d_m_plain_263 (by decide) (fun c263 => ?_) (fun c263 => ?_)
                          · skip
                            refine jr_iload_n d_m_plain_274 rfl rfl ?_
                            refine jr_bipush (v := 6) d_m_plain_275 (by decide) ?_
                            refine jr_icmp_ne (tgt := 288) d_m_plain_277 (by decide) (fun c277 => ?_) (fun c277 => ?_)
                            · skip
                              refine jr_iload_n d_m_plain_288 rfl rfl ?_
                              refine jr_bipush (v := 7) d_m_plain_289 (by decide) ?_
                              refine jr_icmp_ne (tgt := 302) d_m_plain_291 (by decide) (fun c291 => ?_) (fun c291 => ?_)
                              · skip
                                refine jr_iload d_m_plain_302 rfl ?_
                                refine jr_iload d_m_plain_304 rfl ?_
                                refine jr_icmp_ge (tgt := 313) d_m_plain_306 (by decide) (fun c306 => ?_) (fun c306 => ?_)
                                · skip
                                  refine jr_iconst (v := 0) d_m_plain_313 (by decide) ?_
                                  refine jv_V1v d_m_plain_314 l_m_200 k_mF_push ⟨Nat.le_of_ble_eq_true rfl, Nat.le_of_ble_eq_true rfl⟩ rfl rfl (Nat.le_of_ble_eq_true rfl) (show jc_Ct y_mF_push _ _ _ _ (none, q_psh _ _ _ _, _, _, 0, 0) from ct_mF_push hf (by rw [q_pop_4, q_pop_4]; grind) (by rw [q_pop_4, q_pop_4]; grind)) (by first | decide | exact Nat.zero_le _ | (dsimp only; omega) | (dsimp only; grind)) (by first | decide | exact Nat.zero_le _ | (dsimp only; omega) | (dsimp only; grind)) ?_
                                  refine jr_aload_n d_m_plain_317 rfl rfl ?_
                                  refine jr_dup d_m_plain_318 ?_
                                  refine jr_geti d_m_plain_319 f_m_195 rfl ?_
                                  refine jr_iconst (v := 1) d_m_plain_322 (by decide) ?_
                                  refine jr_iadd d_m_plain_323 ?_
                                  refine jr_puti d_m_plain_324 f_m_195 (Or.inl rfl) rfl ?_
                                  exact jr_retX (v := none) d_m_plain_327 (by first | exact Nat.le_refl _ | exact Nat.zero_le _ | (dsimp only; omega)) (by first | exact Nat.le_refl _ | exact Nat.zero_le _ | (dsimp only; omega)) (by first | with_reducible rfl | (dsimp only; (first | rw [if_pos (by grind)] | rw [if_neg (by grind)]); rfl; done) | ((first | rw [if_pos (by grind)] | rw [if_neg (by grind)]); rfl; done) | (exfalso; grind)) (by first | with_reducible rfl | (dsimp only; (first | rw [if_pos (by grind)] | rw [if_neg (by grind)]); rfl; done) | ((first | rw [if_pos (by grind)] | rw [if_neg (by grind)]); rfl; done) | (exfalso; grind)) (by first | with_reducible rfl | (dsimp only; (first | rw [if_pos (by grind)] | rw [if_neg (by grind)]); rfl; done) | ((first | rw [if_pos (by grind)] | rw [if_neg (by grind)]); rfl; done) | (exfalso; grind)) (by first | with_reducible rfl | (dsimp only; (first | rw [if_pos (by grind)] | rw [if_neg (by grind)]); rfl; done) | ((first | rw [if_pos (by grind)] | rw [if_neg (by grind)]); rfl; done) | (exfalso; grind))
                                · skip
                                  refine jr_iconst (v := 1) d_m_plain_309 (by decide) ?_
                                  refine jr_goto (tgt := 314) d_m_plain_310 (by decide) ?_
                                  refine jv_V1v d_m_plain_314 l_m_200 k_mF_push ⟨Nat.le_of_ble_eq_true rfl, Nat.le_of_ble_eq_true rfl⟩ rfl rfl (Nat.le_of_ble_eq_true rfl) (show jc_Ct y_mF_push _ _ _ _ (none, q_psh _ _ _ _, _, _, 0, 0) from ct_mF_push hf (by rw [q_pop_4, q_pop_4]; grind) (by rw [q_pop_4, q_pop_4]; grind)) (by first | decide | exact Nat.zero_le _ | (dsimp only; omega) | (dsimp only; grind)) (by first | decide | exact Nat.zero_le _ | (dsimp only; omega) | (dsimp only; grind)) ?_
                                  refine jr_aload_n d_m_plain_317 rfl rfl ?_
                                  refine jr_dup d_m_plain_318 ?_
                                  refine jr_geti d_m_plain_319 f_m_195 rfl ?_
                                  refine jr_iconst (v := 1) d_m_plain_322 (by decide) ?_
                                  refine jr_iadd d_m_plain_323 ?_
                                  refine jr_puti d_m_plain_324 f_m_195 (Or.inl rfl) rfl ?_
                                  exact jr_retX (v := none) d_m_plain_327 (by first | exact Nat.le_refl _ | exact Nat.zero_le _ | (dsimp only; omega)) (by first | exact Nat.le_refl _ | exact Nat.zero_le _ | (dsimp only; omega)) (by first | with_reducible rfl | (dsimp only; (first | rw [if_pos (by grind)] | rw [if_neg (by grind)]); rfl; done) | ((first | rw [if_pos (by grind)] | rw [if_neg (by grind)]); rfl; done) | (exfalso; grind)) (by first | with_reducible rfl | (dsimp only; (first | rw [if_pos (by grind)] | rw [if_neg (by grind)]); rfl; done) | ((first | rw [if_pos (by grind)] | rw [if_neg (by grind)]); rfl; done) | (exfalso; grind)) (by first | with_reducible rfl | (dsimp only; (first | rw [if_pos (by grind)] | rw [if_neg (by grind)]); rfl; done) | ((first | rw [if_pos (by grind)] | rw [if_neg (by grind)]); rfl; done) | (exfalso; grind)) (by first | with_reducible rfl | (dsimp only; (first | rw [if_pos (by grind)] | rw [if_neg (by grind)]); rfl; done) | ((first | rw [if_pos (by grind)] | rw [if_neg (by grind)]); rfl; done) | (exfalso; grind))
                              · skip
                                exfalso; rw [ho] at c291; exact absurd c291 (by decide)
                            · skip
                              exfalso; rw [ho] at c277; exact absurd c277 (by decide)
                          · skip
                            exfalso; rw [ho] at c263; exact absurd c263 (by decide)
                        · skip
                          exfalso; rw [ho] at c250; exact absurd c250 (by decide)
                      · skip
                        exfalso; rw [ho] at c187; exact absurd c187 (by decide)
                    · skip
                      exfalso; rw [ho] at c167; exact absurd c167 (by decide)
                  · skip
                    exfalso; rw [ho] at c147; exact absurd c147 (by decide)
                · skip
                  exfalso; rw [ho] at c128; exact absurd c128 (by decide)
              · skip
                exfalso; rw [ho] at c108; exact absurd c108 (by decide)
            · skip
              exfalso; rw [ho] at c88; exact absurd c88 (by decide)
          · skip
            exfalso; rw [ho] at c71; exact absurd c71 (by decide)
        · skip
          exfalso; rw [ho] at c53; exact absurd c53 (by decide)
      · skip
        exfalso; rw [ho] at c40; exact absurd c40 (by decide)
    · skip
      exfalso; rw [ho] at c26; exact absurd c26 (by decide)
  · skip
    exfalso; rw [ho] at c3; exact absurd c3 (by decide)
