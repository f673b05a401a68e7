theorem jin2 {i : Int32} (h0 : 2 ≤ i) (h1 : i ≤ 12) : vp_in (i - 2) 12 := jin (m := 12) (by decide) (by grind) (by grind)
def q_tp2 (I : jc_I) (t j : Nat) : Int32 := I (49, t, j) (I (12, t, j) 4 - 2).toNatClampNeg
theorem ct_m_field_gn {I : jc_I} {O : jc_O} {live : jc_L → Prop} {t b n xt fn m j : Nat} {op a : Int32} (hQ : QT I O live t b n xt fn m) (hf : qf O t j) (h1 : 1 ≤ I (12, t, j) 4) (h2 : I (12, t, j) 4 ≤ 12) (ho : op = 16 ∨ op = 23) (hz : q_tp I t j = 0) : jc_Ct y_m_field [.inr (some (10, 0, 0)), .inr (some (14, t, 0)), .inr (some (12, t, j)), .inl op, .inl a] I O live (none, q_fI I O live t b n m 6, (q_mk I O live 6).2.2.1, (q_mk I O live 6).2.2.2.1, (q_mk I O live 6).2.2.2.2.1, (q_mk I O live 6).2.2.2.2.2) := by
  obtain ⟨g1, g2⟩ := id hf
  refine jc_Ct.of (by decide +kernel) (rfl) (Nat.le_of_ble_eq_true rfl) ?_
  refine jr_iload_n d_m_field_0 rfl rfl ?_
  refine jr_bipush (v := 17) d_m_field_1 (by decide) ?_
  refine jr_icmp_eq (tgt := 12) d_m_field_3 (by decide) (fun c3 => ?_) (fun c3 => ?_)
  · skip
    exfalso; rcases ho with ho | ho <;> rw [ho] at c3 <;> exact absurd c3 (by decide)
  · skip
    refine jr_iload_n d_m_field_6 rfl rfl ?_
    refine jr_bipush (v := 24) d_m_field_7 (by decide) ?_
    refine jr_icmp_ne (tgt := 16) d_m_field_9 (by decide) (fun c9 => ?_) (fun c9 => ?_)
    · skip
      refine jr_iconst (v := 0) d_m_field_16 (by decide) ?_
      refine jr_istore d_m_field_17 (Nat.le_of_ble_eq_true rfl) ?_
      refine jr_aload_n d_m_field_19 rfl rfl ?_
      refine jr_getr d_m_field_20 f_m_238 rfl rfl ?_
      first | rw [g2] | skip
      refine jr_aload_n d_m_field_23 rfl rfl ?_
      refine jr_geti d_m_field_24 f_m_199 rfl ?_
      refine jr_iload d_m_field_27 rfl ?_
      refine jr_if_eq (tgt := 36) d_m_field_29 (by decide) (fun c29 => ?_) (fun c29 => ?_)
      · skip
        refine jr_iconst (v := 1) d_m_field_36 (by decide) ?_
        refine jr_isub d_m_field_37 ?_
        refine jr_iald d_m_field_38 rfl rfl rfl (jin1 h1 h2) ?_
        refine jr_istore d_m_field_39 (Nat.le_of_ble_eq_true rfl) ?_
        refine jr_iload d_m_field_41 rfl ?_
        refine jr_if_ne (tgt := 58) d_m_field_43 (by decide) (fun c43 => ?_) (fun c43 => ?_)
        · skip
          exact absurd hz c43
        · skip
          refine jr_aload_n d_m_field_46 rfl rfl ?_
          refine jr_aload_n d_m_field_47 rfl rfl ?_
          refine jr_aload_n d_m_field_48 rfl rfl ?_
          refine jr_bipush (v := 6) d_m_field_49 (by decide) ?_
          refine jv_V1rA d_m_field_51 l_m_215 k_m_fresh ⟨Nat.le_of_ble_eq_true rfl, Nat.le_of_ble_eq_true rfl⟩ rfl rfl (Nat.le_of_ble_eq_true rfl) ((ct_fail (x := 6) hQ).1) (fun q9 h9 => q_mk_live q9 h9) (by first | decide | exact Nat.zero_le _ | (dsimp only; omega) | (dsimp only; grind) | (omega)) (by first | decide | exact Nat.zero_le _ | (dsimp only; omega) | (dsimp only; grind) | (omega)) ?_
          refine jv_V2v d_m_field_54 l_m_219 k_m_flies ⟨Nat.le_of_ble_eq_true rfl, Nat.le_of_ble_eq_true rfl⟩ rfl rfl (Nat.le_of_ble_eq_true rfl) ((ct_fail (x := 6) hQ).2) (by first | decide | exact Nat.zero_le _ | (dsimp only; omega) | (dsimp only; grind) | (omega)) (by first | decide | exact Nat.zero_le _ | (dsimp only; omega) | (dsimp only; grind) | (omega)) ?_
          exact jr_retX (v := none) d_m_field_57 (by first | exact Nat.le_refl _ | exact Nat.zero_le _ | (dsimp only; omega) | (omega)) (by first | exact Nat.le_refl _ | exact Nat.zero_le _ | (dsimp only; omega) | (omega)) (by first | with_reducible rfl | (dsimp only; rfl; done) | (rfl; done) | (exfalso; grind)) (by first | with_reducible rfl | (dsimp only; rfl; done) | (rfl; done) | (exfalso; grind)) (by first | with_reducible rfl | (dsimp only; rfl; done) | (rfl; done) | (exfalso; grind)) (by first | with_reducible rfl | (dsimp only; rfl; done) | (rfl; done) | (exfalso; grind))
      · skip
        exact absurd rfl c29
    · skip
      exfalso; rcases ho with ho | ho <;> rw [ho] at c9 <;> exact absurd c9 (by decide)
theorem ct_m_field_pn {I : jc_I} {O : jc_O} {live : jc_L → Prop} {t b n xt fn m j : Nat} {op a : Int32} (hQ : QT I O live t b n xt fn m) (hf : qf O t j) (h1 : 2 ≤ I (12, t, j) 4) (h2 : I (12, t, j) 4 ≤ 12) (ho : op = 17 ∨ op = 24) (hz : q_tp2 I t j = 0) : jc_Ct y_m_field [.inr (some (10, 0, 0)), .inr (some (14, t, 0)), .inr (some (12, t, j)), .inl op, .inl a] I O live (none, q_fI I O live t b n m 6, (q_mk I O live 6).2.2.1, (q_mk I O live 6).2.2.2.1, (q_mk I O live 6).2.2.2.2.1, (q_mk I O live 6).2.2.2.2.2) := by
  obtain ⟨g1, g2⟩ := id hf
  refine jc_Ct.of (by decide +kernel) (rfl) (Nat.le_of_ble_eq_true rfl) ?_
  refine jr_iload_n d_m_field_0 rfl rfl ?_
  refine jr_bipush (v := 17) d_m_field_1 (by decide) ?_
  refine jr_icmp_eq (tgt := 12) d_m_field_3 (by decide) (fun c3 => ?_) (fun c3 => ?_)
  · skip
    refine jr_iconst (v := 1) d_m_field_12 (by decide) ?_
    refine jr_goto (tgt := 17) d_m_field_13 (by decide) ?_
    refine jr_istore d_m_field_17 (Nat.le_of_ble_eq_true rfl) ?_
    refine jr_aload_n d_m_field_19 rfl rfl ?_
    refine jr_getr d_m_field_20 f_m_238 rfl rfl ?_
    first | rw [g2] | skip
    refine jr_aload_n d_m_field_23 rfl rfl ?_
    refine jr_geti d_m_field_24 f_m_199 rfl ?_
    refine jr_iload d_m_field_27 rfl ?_
    refine jr_if_eq (tgt := 36) d_m_field_29 (by decide) (fun c29 => ?_) (fun c29 => ?_)
    · skip
      exact absurd c29 (by decide)
    · skip
      refine jr_iconst (v := 2) d_m_field_32 (by decide) ?_
      refine jr_goto (tgt := 37) d_m_field_33 (by decide) ?_
      refine jr_isub d_m_field_37 ?_
      refine jr_iald d_m_field_38 rfl rfl rfl (jin2 h1 h2) ?_
      refine jr_istore d_m_field_39 (Nat.le_of_ble_eq_true rfl) ?_
      refine jr_iload d_m_field_41 rfl ?_
      refine jr_if_ne (tgt := 58) d_m_field_43 (by decide) (fun c43 => ?_) (fun c43 => ?_)
      · skip
        exact absurd hz c43
      · skip
        refine jr_aload_n d_m_field_46 rfl rfl ?_
        refine jr_aload_n d_m_field_47 rfl rfl ?_
        refine jr_aload_n d_m_field_48 rfl rfl ?_
        refine jr_bipush (v := 6) d_m_field_49 (by decide) ?_
        refine jv_V1rA d_m_field_51 l_m_215 k_m_fresh ⟨Nat.le_of_ble_eq_true rfl, Nat.le_of_ble_eq_true rfl⟩ rfl rfl (Nat.le_of_ble_eq_true rfl) ((ct_fail (x := 6) hQ).1) (fun q9 h9 => q_mk_live q9 h9) (by first | decide | exact Nat.zero_le _ | (dsimp only; omega) | (dsimp only; grind) | (omega)) (by first | decide | exact Nat.zero_le _ | (dsimp only; omega) | (dsimp only; grind) | (omega)) ?_
        refine jv_V2v d_m_field_54 l_m_219 k_m_flies ⟨Nat.le_of_ble_eq_true rfl, Nat.le_of_ble_eq_true rfl⟩ rfl rfl (Nat.le_of_ble_eq_true rfl) ((ct_fail (x := 6) hQ).2) (by first | decide | exact Nat.zero_le _ | (dsimp only; omega) | (dsimp only; grind) | (omega)) (by first | decide | exact Nat.zero_le _ | (dsimp only; omega) | (dsimp only; grind) | (omega)) ?_
        exact jr_retX (v := none) d_m_field_57 (by first | exact Nat.le_refl _ | exact Nat.zero_le _ | (dsimp only; omega) | (omega)) (by first | exact Nat.le_refl _ | exact Nat.zero_le _ | (dsimp only; omega) | (omega)) (by first | with_reducible rfl | (dsimp only; rfl; done) | (rfl; done) | (exfalso; grind)) (by first | with_reducible rfl | (dsimp only; rfl; done) | (rfl; done) | (exfalso; grind)) (by first | with_reducible rfl | (dsimp only; rfl; done) | (rfl; done) | (exfalso; grind)) (by first | with_reducible rfl | (dsimp only; rfl; done) | (rfl; done) | (exfalso; grind))
  · skip
    refine jr_iload_n d_m_field_6 rfl rfl ?_
    refine jr_bipush (v := 24) d_m_field_7 (by decide) ?_
    refine jr_icmp_ne (tgt := 16) d_m_field_9 (by decide) (fun c9 => ?_) (fun c9 => ?_)
    · skip
      exfalso; grind
    · skip
      refine jr_iconst (v := 1) d_m_field_12 (by decide) ?_
      refine jr_goto (tgt := 17) d_m_field_13 (by decide) ?_
      refine jr_istore d_m_field_17 (Nat.le_of_ble_eq_true rfl) ?_
      refine jr_aload_n d_m_field_19 rfl rfl ?_
      refine jr_getr d_m_field_20 f_m_238 rfl rfl ?_
      first | rw [g2] | skip
      refine jr_aload_n d_m_field_23 rfl rfl ?_
      refine jr_geti d_m_field_24 f_m_199 rfl ?_
      refine jr_iload d_m_field_27 rfl ?_
      refine jr_if_eq (tgt := 36) d_m_field_29 (by decide) (fun c29 => ?_) (fun c29 => ?_)
      · skip
        exact absurd c29 (by decide)
      · skip
        refine jr_iconst (v := 2) d_m_field_32 (by decide) ?_
        refine jr_goto (tgt := 37) d_m_field_33 (by decide) ?_
        refine jr_isub d_m_field_37 ?_
        refine jr_iald d_m_field_38 rfl rfl rfl (jin2 h1 h2) ?_
        refine jr_istore d_m_field_39 (Nat.le_of_ble_eq_true rfl) ?_
        refine jr_iload d_m_field_41 rfl ?_
        refine jr_if_ne (tgt := 58) d_m_field_43 (by decide) (fun c43 => ?_) (fun c43 => ?_)
        · skip
          exact absurd hz c43
        · skip
          refine jr_aload_n d_m_field_46 rfl rfl ?_
          refine jr_aload_n d_m_field_47 rfl rfl ?_
          refine jr_aload_n d_m_field_48 rfl rfl ?_
          refine jr_bipush (v := 6) d_m_field_49 (by decide) ?_
          refine jv_V1rA d_m_field_51 l_m_215 k_m_fresh ⟨Nat.le_of_ble_eq_true rfl, Nat.le_of_ble_eq_true rfl⟩ rfl rfl (Nat.le_of_ble_eq_true rfl) ((ct_fail (x := 6) hQ).1) (fun q9 h9 => q_mk_live q9 h9) (by first | decide | exact Nat.zero_le _ | (dsimp only; omega) | (dsimp only; grind) | (omega)) (by first | decide | exact Nat.zero_le _ | (dsimp only; omega) | (dsimp only; grind) | (omega)) ?_
          refine jv_V2v d_m_field_54 l_m_219 k_m_flies ⟨Nat.le_of_ble_eq_true rfl, Nat.le_of_ble_eq_true rfl⟩ rfl rfl (Nat.le_of_ble_eq_true rfl) ((ct_fail (x := 6) hQ).2) (by first | decide | exact Nat.zero_le _ | (dsimp only; omega) | (dsimp only; grind) | (omega)) (by first | decide | exact Nat.zero_le _ | (dsimp only; omega) | (dsimp only; grind) | (omega)) ?_
          exact jr_retX (v := none) d_m_field_57 (by first | exact Nat.le_refl _ | exact Nat.zero_le _ | (dsimp only; omega) | (omega)) (by first | exact Nat.le_refl _ | exact Nat.zero_le _ | (dsimp only; omega) | (omega)) (by first | with_reducible rfl | (dsimp only; rfl; done) | (rfl; done) | (exfalso; grind)) (by first | with_reducible rfl | (dsimp only; rfl; done) | (rfl; done) | (exfalso; grind)) (by first | with_reducible rfl | (dsimp only; rfl; done) | (rfl; done) | (exfalso; grind)) (by first | with_reducible rfl | (dsimp only; rfl; done) | (rfl; done) | (exfalso; grind))
theorem ct_m_field_g {I : jc_I} {O : jc_O} {live : jc_L → Prop} {t b n xt fn m j : Nat} {op a : Int32} (hQ : QT I O live t b n xt fn m) (hf : qf O t j) (h1 : 1 ≤ I (12, t, j) 4) (h2 : I (12, t, j) 4 ≤ 12) (ho : op = 16 ∨ op = 23) (hx1 : 1 ≤ q_tp I t j) (hx2 : (q_tp I t j - 1).toNatClampNeg < n) (ha1 : 0 ≤ a) (ha2 : a < 8) (hb : O (qO b (q_tp I t j - 1).toNatClampNeg) 1 = some (47, (b + (q_tp I t j - 1).toNatClampNeg), 0)) : jc_Ct y_m_field [.inr (some (10, 0, 0)), .inr (some (14, t, 0)), .inr (some (12, t, j)), .inl op, .inl a] I O live (none, q_on (q_psh (q_pop I t j) t j (I (47, (b + (q_tp I t j - 1).toNatClampNeg), 0) a.toNatClampNeg)) t j, O, live, 0, 0) := by
  obtain ⟨g1, g2⟩ := id hf
  obtain ⟨m0, m2, m4, m6, m7⟩ := id hQ.M
  refine jc_Ct.of (by decide +kernel) (rfl) (Nat.le_of_ble_eq_true rfl) ?_
  refine jr_iload_n d_m_field_0 rfl rfl ?_
  refine jr_bipush (v := 17) d_m_field_1 (by decide) ?_
  refine jr_icmp_eq (tgt := 12) d_m_field_3 (by decide) (fun c3 => ?_) (fun c3 => ?_)
  · skip
    exfalso; rcases ho with ho | ho <;> rw [ho] at c3 <;> exact absurd c3 (by decide)
  · skip
    refine jr_iload_n d_m_field_6 rfl rfl ?_
    refine jr_bipush (v := 24) d_m_field_7 (by decide) ?_
    refine jr_icmp_ne (tgt := 16) d_m_field_9 (by decide) (fun c9 => ?_) (fun c9 => ?_)
    · skip
      refine jr_iconst (v := 0) d_m_field_16 (by decide) ?_
      refine jr_istore d_m_field_17 (Nat.le_of_ble_eq_true rfl) ?_
      refine jr_aload_n d_m_field_19 rfl rfl ?_
      refine jr_getr d_m_field_20 f_m_238 rfl rfl ?_
      first | rw [g2] | rw [m4] | rw [hb] | skip
      refine jr_aload_n d_m_field_23 rfl rfl ?_
      refine jr_geti d_m_field_24 f_m_199 rfl ?_
      refine jr_iload d_m_field_27 rfl ?_
      refine jr_if_eq (tgt := 36) d_m_field_29 (by decide) (fun c29 => ?_) (fun c29 => ?_)
      · skip
        refine jr_iconst (v := 1) d_m_field_36 (by decide) ?_
        refine jr_isub d_m_field_37 ?_
        refine jr_iald d_m_field_38 rfl rfl rfl (jin1 h1 h2) ?_
        rw [show I (49, t, j) (I (12, t, j) 4 - 1).toNatClampNeg = q_tp I t j from rfl]
        refine jr_istore d_m_field_39 (Nat.le_of_ble_eq_true rfl) ?_
        refine jr_iload d_m_field_41 rfl ?_
        refine jr_if_ne (tgt := 58) d_m_field_43 (by decide) (fun c43 => ?_) (fun c43 => ?_)
        · skip
          refine jr_aload_n d_m_field_58 rfl rfl ?_
          refine jr_getr d_m_field_59 f_m_19 rfl rfl ?_
          first | rw [g2] | rw [m4] | rw [hb] | skip
          refine jr_iload d_m_field_62 rfl ?_
          refine jr_iconst (v := 1) d_m_field_64 (by decide) ?_
          refine jr_isub d_m_field_65 ?_
          refine jv_V1r d_m_field_66 l_m_126 k_aL_get ⟨Nat.le_of_ble_eq_true rfl, Nat.le_of_ble_eq_true rfl⟩ rfl rfl (Nat.le_of_ble_eq_true rfl) (ct_aL_getq hQ.ob (jex hx1 hx2 (by have := hQ.n3; omega)) hx2) (by first | decide | exact Nat.zero_le _ | (dsimp only; omega) | (dsimp only; grind)) (by first | decide | exact Nat.zero_le _ | (dsimp only; omega) | (dsimp only; grind)) ?_
          first | rw [g2] | rw [m4] | rw [hb] | skip
          refine jr_cast d_m_field_69 c_m_155 rfl ⟨_, rfl, ca_mO_mO⟩ ?_
          refine jr_getr d_m_field_72 f_m_241 rfl rfl ?_
          first | rw [g2] | rw [m4] | rw [hb] | skip
          refine jr_astore d_m_field_75 (Nat.le_of_ble_eq_true rfl) ?_
          refine jr_iload d_m_field_77 rfl ?_
          refine jr_if_eq (tgt := 104) d_m_field_79 (by decide) (fun c79 => ?_) (fun c79 => ?_)
          · skip
            refine jr_aload_n d_m_field_104 rfl rfl ?_
            refine jr_dup d_m_field_105 ?_
            refine jr_geti d_m_field_106 f_m_199 rfl ?_
            refine jr_iconst (v := 1) d_m_field_109 (by decide) ?_
            refine jr_isub d_m_field_110 ?_
            refine jr_puti d_m_field_111 f_m_199 (Or.inl rfl) rfl ?_
            refine jr_aload_n d_m_field_114 rfl rfl ?_
            refine jr_aload d_m_field_115 rfl ?_
            refine jr_iload d_m_field_117 rfl ?_
            refine jr_iald d_m_field_119 rfl rfl rfl (jin (m := 8) (by decide) ha1 ha2) ?_
            try simp only [jc_up_s, jc_up_k, jc_up_t, jc_cl_s, jc_cl_t, ne_eq, Nat.reduceEqDiff, not_false_eq_true, Nat.reduceAdd]
            refine jv_V1v d_m_field_120 l_m_200 k_mF_push ⟨Nat.le_of_ble_eq_true rfl, Nat.le_of_ble_eq_true rfl⟩ rfl rfl (Nat.le_of_ble_eq_true rfl) (show jc_Ct y_mF_push _ _ _ _ (none, q_psh (q_pop I t j) _ _ _, _, _, 0, 0) from ct_mF_push (I := q_pop I t j) hf (by rw [q_pop_4]; exact (jm1 h1 h2).1) (by rw [q_pop_4]; exact (jm1 h1 h2).2)) (by first | decide | exact Nat.zero_le _ | (dsimp only; omega) | (dsimp only; grind)) (by first | decide | exact Nat.zero_le _ | (dsimp only; omega) | (dsimp only; grind)) ?_
            refine jr_aload_n d_m_field_123 rfl rfl ?_
            refine jr_dup d_m_field_124 ?_
            refine jr_geti d_m_field_125 f_m_195 rfl ?_
            try simp only [jc_up_s, jc_up_k, jc_up_t, jc_cl_s, jc_cl_t, ne_eq, Nat.reduceEqDiff, not_false_eq_true, Nat.reduceAdd]
            refine jr_iconst (v := 1) d_m_field_128 (by decide) ?_
            refine jr_iadd d_m_field_129 ?_
            refine jr_puti d_m_field_130 f_m_195 (Or.inl rfl) rfl ?_
            exact jr_retX (v := none) d_m_field_133 (by first | exact Nat.le_refl _ | exact Nat.zero_le _ | (dsimp only; omega)) (by first | exact Nat.le_refl _ | exact Nat.zero_le _ | (dsimp only; omega)) (by first | with_reducible rfl | (dsimp only; rfl; done) | (rfl; done) | (exfalso; grind)) (by first | with_reducible rfl | (dsimp only; rfl; done) | (rfl; done) | (exfalso; grind)) (by first | with_reducible rfl | (dsimp only; rfl; done) | (rfl; done) | (exfalso; grind)) (by first | with_reducible rfl | (dsimp only; rfl; done) | (rfl; done) | (exfalso; grind))
          · skip
            exact absurd rfl c79
        · skip
          exfalso; have c43 : q_tp I t j = 0 := c43; rw [c43] at hx1; exact absurd hx1 (by decide)
      · skip
        exact absurd rfl c29
    · skip
      exfalso; rcases ho with ho | ho <;> rw [ho] at c9 <;> exact absurd c9 (by decide)
def q_fp (I : jc_I) (t j k : Nat) (a : Nat) : jc_I := q_on (jc_up (jc_up (q_pop I t j) (47, k, 0) a (q_tp I t j)) (12, t, j) 4 (I (12, t, j) 4 - 1 - 1)) t j
theorem ct_m_field_p {I : jc_I} {O : jc_O} {live : jc_L → Prop} {t b n xt fn m j : Nat} {op a : Int32} (hQ : QT I O live t b n xt fn m) (hf : qf O t j) (h1 : 2 ≤ I (12, t, j) 4) (h2 : I (12, t, j) 4 ≤ 12) (ho : op = 17 ∨ op = 24) (hx1 : 1 ≤ q_tp2 I t j) (hx2 : (q_tp2 I t j - 1).toNatClampNeg < n) (ha1 : 0 ≤ a) (ha2 : a < 8) (hb : O (qO b (q_tp2 I t j - 1).toNatClampNeg) 1 = some (47, (b + (q_tp2 I t j - 1).toNatClampNeg), 0)) : jc_Ct y_m_field [.inr (some (10, 0, 0)), .inr (some (14, t, 0)), .inr (some (12, t, j)), .inl op, .inl a] I O live (none, q_fp I t j (b + (q_tp2 I t j - 1).toNatClampNeg) a.toNatClampNeg, O, live, 0, 0) := by
  obtain ⟨g1, g2⟩ := id hf
  obtain ⟨m0, m2, m4, m6, m7⟩ := id hQ.M
  refine jc_Ct.of (by decide +kernel) (rfl) (Nat.le_of_ble_eq_true rfl) ?_
  refine jr_iload_n d_m_field_0 rfl rfl ?_
  refine jr_bipush (v := 17) d_m_field_1 (by decide) ?_
  refine jr_icmp_eq (tgt := 12) d_m_field_3 (by decide) (fun c3 => ?_) (fun c3 => ?_)
  · skip
    refine jr_iconst (v := 1) d_m_field_12 (by decide) ?_
    refine jr_goto (tgt := 17) d_m_field_13 (by decide) ?_
    refine jr_istore d_m_field_17 (Nat.le_of_ble_eq_true rfl) ?_
    refine jr_aload_n d_m_field_19 rfl rfl ?_
    refine jr_getr d_m_field_20 f_m_238 rfl rfl ?_
    first | rw [g2] | rw [m4] | rw [hb] | skip
    refine jr_aload_n d_m_field_23 rfl rfl ?_
    refine jr_geti d_m_field_24 f_m_199 rfl ?_
    refine jr_iload d_m_field_27 rfl ?_
    refine jr_if_eq (tgt := 36) d_m_field_29 (by decide) (fun c29 => ?_) (fun c29 => ?_)
    · skip
      exact absurd c29 (by decide)
    · skip
      refine jr_iconst (v := 2) d_m_field_32 (by decide) ?_
      refine jr_goto (tgt := 37) d_m_field_33 (by decide) ?_
      refine jr_isub d_m_field_37 ?_
      refine jr_iald d_m_field_38 rfl rfl rfl (jin2 h1 h2) ?_
      rw [show I (49, t, j) (I (12, t, j) 4 - 2).toNatClampNeg = q_tp2 I t j from rfl]
      refine jr_istore d_m_field_39 (Nat.le_of_ble_eq_true rfl) ?_
      refine jr_iload d_m_field_41 rfl ?_
      refine jr_if_ne (tgt := 58) d_m_field_43 (by decide) (fun c43 => ?_) (fun c43 => ?_)
      · skip
        refine jr_aload_n d_m_field_58 rfl rfl ?_
        refine jr_getr d_m_field_59 f_m_19 rfl rfl ?_
        first | rw [g2] | rw [m4] | rw [hb] | skip
        refine jr_iload d_m_field_62 rfl ?_
        refine jr_iconst (v := 1) d_m_field_64 (by decide) ?_
        refine jr_isub d_m_field_65 ?_
        refine jv_V1r d_m_field_66 l_m_126 k_aL_get ⟨Nat.le_of_ble_eq_true rfl, Nat.le_of_ble_eq_true rfl⟩ rfl rfl (Nat.le_of_ble_eq_true rfl) (ct_aL_getq hQ.ob (jex hx1 hx2 (by have := hQ.n3; omega)) hx2) (by first | decide | exact Nat.zero_le _ | (dsimp only; omega) | (dsimp only; grind)) (by first | decide | exact Nat.zero_le _ | (dsimp only; omega) | (dsimp only; grind)) ?_
        first | rw [g2] | rw [m4] | rw [hb] | skip
        refine jr_cast d_m_field_69 c_m_155 rfl ⟨_, rfl, ca_mO_mO⟩ ?_
        refine jr_getr d_m_field_72 f_m_241 rfl rfl ?_
        first | rw [g2] | rw [m4] | rw [hb] | skip
        refine jr_astore d_m_field_75 (Nat.le_of_ble_eq_true rfl) ?_
        refine jr_iload d_m_field_77 rfl ?_
        refine jr_if_eq (tgt := 104) d_m_field_79 (by decide) (fun c79 => ?_) (fun c79 => ?_)
        · skip
          exact absurd c79 (by decide)
        · skip
          refine jr_aload d_m_field_82 rfl ?_
          refine jr_iload d_m_field_84 rfl ?_
          refine jr_aload_n d_m_field_86 rfl rfl ?_
          refine jv_V0r d_m_field_87 l_m_206 k_mF_pop ⟨Nat.le_of_ble_eq_true rfl, Nat.le_of_ble_eq_true rfl⟩ rfl rfl (Nat.le_of_ble_eq_true rfl) (ct_mF_pop hf (by grind) h2) (by first | decide | exact Nat.zero_le _ | (dsimp only; omega) | (dsimp only; grind)) (by first | decide | exact Nat.zero_le _ | (dsimp only; omega) | (dsimp only; grind)) ?_
          refine jr_iast d_m_field_90 rfl rfl rfl (jin (m := 8) (by decide) ha1 ha2) ?_
          refine jr_aload_n d_m_field_91 rfl rfl ?_
          refine jr_dup d_m_field_92 ?_
          refine jr_geti d_m_field_93 f_m_199 rfl ?_
          try simp only [jc_up_s, jc_up_k, jc_up_t, jc_cl_s, jc_cl_t, ne_eq, Nat.reduceEqDiff, not_false_eq_true, Nat.reduceAdd]
          try rw [q_pop_4]
          refine jr_iconst (v := 1) d_m_field_96 (by decide) ?_
          refine jr_isub d_m_field_97 ?_
          refine jr_puti d_m_field_98 f_m_199 (Or.inl rfl) rfl ?_
          refine jr_goto (tgt := 123) d_m_field_101 (by decide) ?_
          refine jr_aload_n d_m_field_123 rfl rfl ?_
          refine jr_dup d_m_field_124 ?_
          refine jr_geti d_m_field_125 f_m_195 rfl ?_
          try simp only [jc_up_s, jc_up_k, jc_up_t, jc_cl_s, jc_cl_t, ne_eq, Nat.reduceEqDiff, not_false_eq_true, Nat.reduceAdd]
          refine jr_iconst (v := 1) d_m_field_128 (by decide) ?_
          refine jr_iadd d_m_field_129 ?_
          refine jr_puti d_m_field_130 f_m_195 (Or.inl rfl) rfl ?_
          exact jr_retX (v := none) d_m_field_133 (by first | exact Nat.le_refl _ | exact Nat.zero_le _ | (dsimp only; omega)) (by first | exact Nat.le_refl _ | exact Nat.zero_le _ | (dsimp only; omega)) (by first | with_reducible rfl | (dsimp only; (unfold q_fp q_on; rw [jc_up_k _ _ _ _ _ _ (by decide), jc_up_t _ _ _ _ _ _ _ _ (by decide)]); done) | ((unfold q_fp q_on; rw [jc_up_k _ _ _ _ _ _ (by decide), jc_up_t _ _ _ _ _ _ _ _ (by decide)]); done) | (exfalso; grind)) (by first | with_reducible rfl | (dsimp only; (unfold q_fp q_on; rw [jc_up_k _ _ _ _ _ _ (by decide), jc_up_t _ _ _ _ _ _ _ _ (by decide)]); done) | ((unfold q_fp q_on; rw [jc_up_k _ _ _ _ _ _ (by decide), jc_up_t _ _ _ _ _ _ _ _ (by decide)]); done) | (exfalso; grind)) (by first | with_reducible rfl | (dsimp only; (unfold q_fp q_on; rw [jc_up_k _ _ _ _ _ _ (by decide), jc_up_t _ _ _ _ _ _ _ _ (by decide)]); done) | ((unfold q_fp q_on; rw [jc_up_k _ _ _ _ _ _ (by decide), jc_up_t _ _ _ _ _ _ _ _ (by decide)]); done) | (exfalso; grind)) (by first | with_reducible rfl | (dsimp only; (unfold q_fp q_on; rw [jc_up_k _ _ _ _ _ _ (by decide), jc_up_t _ _ _ _ _ _ _ _ (by decide)]); done) | ((unfold q_fp q_on; rw [jc_up_k _ _ _ _ _ _ (by decide), jc_up_t _ _ _ _ _ _ _ _ (by decide)]); done) | (exfalso; grind))
      · skip
        exfalso; have c43 : q_tp2 I t j = 0 := c43; rw [c43] at hx1; exact absurd hx1 (by decide)
  · skip
    refine jr_iload_n d_m_field_6 rfl rfl ?_
    refine jr_bipush (v := 24) d_m_field_7 (by decide) ?_
    refine jr_icmp_ne (tgt := 16) d_m_field_9 (by decide) (fun c9 => ?_) (fun c9 => ?_)
    · skip
      exfalso; grind
    · skip
      refine jr_iconst (v := 1) d_m_field_12 (by decide) ?_
      refine jr_goto (tgt := 17) d_m_field_13 (by decide) ?_
      refine jr_istore d_m_field_17 (Nat.le_of_ble_eq_true rfl) ?_
      refine jr_aload_n d_m_field_19 rfl rfl ?_
      refine jr_getr d_m_field_20 f_m_238 rfl rfl ?_
      first | rw [g2] | rw [m4] | rw [hb] | skip
      refine jr_aload_n d_m_field_23 rfl rfl ?_
      refine jr_geti d_m_field_24 f_m_199 rfl ?_
      refine jr_iload d_m_field_27 rfl ?_
      refine jr_if_eq (tgt := 36) d_m_field_29 (by decide) (fun c29 => ?_) (fun c29 => ?_)
      · skip
        exact absurd c29 (by decide)
      · skip
        refine jr_iconst (v := 2) d_m_field_32 (by decide) ?_
        refine jr_goto (tgt := 37) d_m_field_33 (by decide) ?_
        refine jr_isub d_m_field_37 ?_
        refine jr_iald d_m_field_38 rfl rfl rfl (jin2 h1 h2) ?_
        rw [show I (49, t, j) (I (12, t, j) 4 - 2).toNatClampNeg = q_tp2 I t j from rfl]
        refine jr_istore d_m_field_39 (Nat.le_of_ble_eq_true rfl) ?_
        refine jr_iload d_m_field_41 rfl ?_
        refine jr_if_ne (tgt := 58) d_m_field_43 (by decide) (fun c43 => ?_) (fun c43 => ?_)
        · skip
          refine jr_aload_n d_m_field_58 rfl rfl ?_
          refine jr_getr d_m_field_59 f_m_19 rfl rfl ?_
          first | rw [g2] | rw [m4] | rw [hb] | skip
          refine jr_iload d_m_field_62 rfl ?_
          refine jr_iconst (v := 1) d_m_field_64 (by decide) ?_
          refine jr_isub d_m_field_65 ?_
          refine jv_V1r d_m_field_66 l_m_126 k_aL_get ⟨Nat.le_of_ble_eq_true rfl, Nat.le_of_ble_eq_true rfl⟩ rfl rfl (Nat.le_of_ble_eq_true rfl) (ct_aL_getq hQ.ob (jex hx1 hx2 (by have := hQ.n3; omega)) hx2) (by first | decide | exact Nat.zero_le _ | (dsimp only; omega) | (dsimp only; grind)) (by first | decide | exact Nat.zero_le _ | (dsimp only; omega) | (dsimp only; grind)) ?_
          first | rw [g2] | rw [m4] | rw [hb] | skip
          refine jr_cast d_m_field_69 c_m_155 rfl ⟨_, rfl, ca_mO_mO⟩ ?_
          refine jr_getr d_m_field_72 f_m_241 rfl rfl ?_
          first | rw [g2] | rw [m4] | rw [hb] | skip
          refine jr_astore d_m_field_75 (Nat.le_of_ble_eq_true rfl) ?_
          refine jr_iload d_m_field_77 rfl ?_
          refine jr_if_eq (tgt := 104) d_m_field_79 (by decide) (fun c79 => ?_) (fun c79 => ?_)
          · skip
            exact absurd c79 (by decide)
          · skip
            refine jr_aload d_m_field_82 rfl ?_
            refine jr_iload d_m_field_84 rfl ?_
            refine jr_aload_n d_m_field_86 rfl rfl ?_
            refine jv_V0r d_m_field_87 l_m_206 k_mF_pop ⟨Nat.le_of_ble_eq_true rfl, Nat.le_of_ble_eq_true rfl⟩ rfl rfl (Nat.le_of_ble_eq_true rfl) (ct_mF_pop hf (by grind) h2) (by first | decide | exact Nat.zero_le _ | (dsimp only; omega) | (dsimp only; grind)) (by first | decide | exact Nat.zero_le _ | (dsimp only; omega) | (dsimp only; grind)) ?_
            refine jr_iast d_m_field_90 rfl rfl rfl (jin (m := 8) (by decide) ha1 ha2) ?_
            refine jr_aload_n d_m_field_91 rfl rfl ?_
            refine jr_dup d_m_field_92 ?_
            refine jr_geti d_m_field_93 f_m_199 rfl ?_
            try simp only [jc_up_s, jc_up_k, jc_up_t, jc_cl_s, jc_cl_t, ne_eq, Nat.reduceEqDiff, not_false_eq_true, Nat.reduceAdd]
            try rw [q_pop_4]
            refine jr_iconst (v := 1) d_m_field_96 (by decide) ?_
            refine jr_isub d_m_field_97 ?_
            refine jr_puti d_m_field_98 f_m_199 (Or.inl rfl) rfl ?_
            refine jr_goto (tgt := 123) d_m_field_101 (by decide) ?_
            refine jr_aload_n d_m_field_123 rfl rfl ?_
            refine jr_dup d_m_field_124 ?_
            refine jr_geti d_m_field_125 f_m_195 rfl ?_
            try simp only [jc_up_s, jc_up_k, jc_up_t, jc_cl_s, jc_cl_t, ne_eq, Nat.reduceEqDiff, not_false_eq_true, Nat.reduceAdd]
            refine jr_iconst (v := 1) d_m_field_128 (by decide) ?_
            refine jr_iadd d_m_field_129 ?_
            refine jr_puti d_m_field_130 f_m_195 (Or.inl rfl) rfl ?_
            exact jr_retX (v := none) d_m_field_133 (by first | exact Nat.le_refl _ | exact Nat.zero_le _ | (dsimp only; omega)) (by first | exact Nat.le_refl _ | exact Nat.zero_le _ | (dsimp only; omega)) (by first | with_reducible rfl | (dsimp only; (unfold q_fp q_on; rw [jc_up_k _ _ _ _ _ _ (by decide), jc_up_t _ _ _ _ _ _ _ _ (by decide)]); done) | ((unfold q_fp q_on; rw [jc_up_k _ _ _ _ _ _ (by decide), jc_up_t _ _ _ _ _ _ _ _ (by decide)]); done) | (exfalso; grind)) (by first | with_reducible rfl | (dsimp only; (unfold q_fp q_on; rw [jc_up_k _ _ _ _ _ _ (by decide), jc_up_t _ _ _ _ _ _ _ _ (by decide)]); done) | ((unfold q_fp q_on; rw [jc_up_k _ _ _ _ _ _ (by decide), jc_up_t _ _ _ _ _ _ _ _ (by decide)]); done) | (exfalso; grind)) (by first | with_reducible rfl | (dsimp only; (unfold q_fp q_on; rw [jc_up_k _ _ _ _ _ _ (by decide), jc_up_t _ _ _ _ _ _ _ _ (by decide)]); done) | ((unfold q_fp q_on; rw [jc_up_k _ _ _ _ _ _ (by decide), jc_up_t _ _ _ _ _ _ _ _ (by decide)]); done) | (exfalso; grind)) (by first | with_reducible rfl | (dsimp only; (unfold q_fp q_on; rw [jc_up_k _ _ _ _ _ _ (by decide), jc_up_t _ _ _ _ _ _ _ _ (by decide)]); done) | ((unfold q_fp q_on; rw [jc_up_k _ _ _ _ _ _ (by decide), jc_up_t _ _ _ _ _ _ _ _ (by decide)]); done) | (exfalso; grind))
        · skip
          exfalso; have c43 : q_tp2 I t j = 0 := c43; rw [c43] at hx1; exact absurd hx1 (by decide)
def q_e0 (I : jc_I) (t j c : Nat) : jc_I := jc_up (if I (11, c, 0) 1 = 0 then I else q_pop I t j) (14, t, 0) 2 (I (14, t, 0) 2 - 1)
def q_ev (I : jc_I) (t j c : Nat) : Int32 := if I (11, c, 0) 1 = 0 then 0 else q_tp I t j
theorem ct_m_ends_0 {I : jc_I} {O : jc_O} {live : jc_L → Prop} {t b n xt fn m j : Nat} {c : Nat} (hQ : QT I O live t b n xt fn m) (hf : qf O t j) (hcd : O (12, t, j) 0 = some (11, c, 0)) (h1 : I (11, c, 0) 1 ≠ 0 → 1 ≤ I (12, t, j) 4) (h2 : I (12, t, j) 4 ≤ 12) (hd0 : I (14, t, 0) 2 = 1) : jc_Ct y_m_ends [.inr (some (10, 0, 0)), .inr (some (14, t, 0)), .inr (some (12, t, j))] I O live (none, q_over (q_e0 I t j c) t b n 1 (q_ev I t j c), O, live, 0, 0) := by
  refine jc_Ct.of (by decide +kernel) (rfl) (Nat.le_of_ble_eq_true rfl) ?_
  refine jr_aload_n d_m_ends_0 rfl rfl ?_
  refine jr_getr d_m_ends_1 f_m_190 rfl rfl ?_
  first | rw [hcd] | skip
  refine jr_geti d_m_ends_4 f_m_117 rfl ?_
  refine jr_if_ne (tgt := 14) d_m_ends_7 (by decide) (fun c7 => ?_) (fun c7 => ?_)
  · skip
    refine jr_aload_n d_m_ends_14 rfl rfl ?_
    refine jv_V0r d_m_ends_15 l_m_206 k_mF_pop ⟨Nat.le_of_ble_eq_true rfl, Nat.le_of_ble_eq_true rfl⟩ rfl rfl (Nat.le_of_ble_eq_true rfl) (ct_mF_pop hf (h1 c7) h2) (by first | decide | exact Nat.zero_le _ | (dsimp only; omega) | (dsimp only; grind)) (by first | decide | exact Nat.zero_le _ | (dsimp only; omega) | (dsimp only; grind)) ?_
    refine jr_istore_n d_m_ends_18 rfl (Nat.le_of_ble_eq_true rfl) ?_
    refine jr_aload_n d_m_ends_19 rfl rfl ?_
    refine jr_dup d_m_ends_20 ?_
    refine jr_geti d_m_ends_21 f_m_183 rfl ?_
    try rw [q_pop_t (by simp)]
    refine jr_iconst (v := 1) d_m_ends_24 (by decide) ?_
    refine jr_isub d_m_ends_25 ?_
    refine jr_puti d_m_ends_26 f_m_183 (Or.inl rfl) rfl ?_
    refine jr_aload_n d_m_ends_29 rfl rfl ?_
    refine jr_geti d_m_ends_30 f_m_183 rfl ?_
    try simp only [jc_up_s, jc_up_k, jc_up_t, jc_cl_s, jc_cl_t, ne_eq, Nat.reduceEqDiff, not_false_eq_true, Nat.reduceAdd]
    try rw [jc_up_s]
    refine jr_if_ne (tgt := 44) d_m_ends_33 (by decide) (fun c33 => ?_) (fun c33 => ?_)
    · skip
      exfalso; (try rw [q_pop_t (by simp)] at c33); (try rw [jc_up_s] at c33); rw [hd0] at c33; exact absurd c33 (by decide)
    · skip
      refine jr_aload_n d_m_ends_36 rfl rfl ?_
      refine jr_aload_n d_m_ends_37 rfl rfl ?_
      refine jr_iconst (v := 1) d_m_ends_38 (by decide) ?_
      refine jr_iload_n d_m_ends_39 rfl rfl ?_
      refine jv_V3v d_m_ends_40 l_m_202 k_m_over ⟨Nat.le_of_ble_eq_true rfl, Nat.le_of_ble_eq_true rfl⟩ rfl rfl (Nat.le_of_ble_eq_true rfl) (ct_m_over hQ.M (hQ.ob.to (by rw [jc_up_t _ _ _ _ _ _ _ _ (by decide)]; try rw [q_pop_t (by decide)]) rfl (fun _ _ => rfl) (fun _ h => h))) (by first | decide | exact Nat.zero_le _ | (dsimp only; omega) | (dsimp only; grind)) (by first | decide | exact Nat.zero_le _ | (dsimp only; omega) | (dsimp only; grind)) ?_
      exact jr_retX (v := none) d_m_ends_43 (by first | exact Nat.le_refl _ | exact Nat.zero_le _ | (dsimp only; omega)) (by first | exact Nat.le_refl _ | exact Nat.zero_le _ | (dsimp only; omega)) (by first | with_reducible rfl | (dsimp only; (unfold q_e0 q_ev; first | (rw [if_pos c7, if_pos c7]; done) | (rw [if_neg c7, if_neg c7]; done)); done) | ((unfold q_e0 q_ev; first | (rw [if_pos c7, if_pos c7]; done) | (rw [if_neg c7, if_neg c7]; done)); done) | (exfalso; grind)) (by first | with_reducible rfl | (dsimp only; (unfold q_e0 q_ev; first | (rw [if_pos c7, if_pos c7]; done) | (rw [if_neg c7, if_neg c7]; done)); done) | ((unfold q_e0 q_ev; first | (rw [if_pos c7, if_pos c7]; done) | (rw [if_neg c7, if_neg c7]; done)); done) | (exfalso; grind)) (by first | with_reducible rfl | (dsimp only; (unfold q_e0 q_ev; first | (rw [if_pos c7, if_pos c7]; done) | (rw [if_neg c7, if_neg c7]; done)); done) | ((unfold q_e0 q_ev; first | (rw [if_pos c7, if_pos c7]; done) | (rw [if_neg c7, if_neg c7]; done)); done) | (exfalso; grind)) (by first | with_reducible rfl | (dsimp only; (unfold q_e0 q_ev; first | (rw [if_pos c7, if_pos c7]; done) | (rw [if_neg c7, if_neg c7]; done)); done) | ((unfold q_e0 q_ev; first | (rw [if_pos c7, if_pos c7]; done) | (rw [if_neg c7, if_neg c7]; done)); done) | (exfalso; grind))
  · skip
    refine jr_iconst (v := 0) d_m_ends_10 (by decide) ?_
    refine jr_goto (tgt := 18) d_m_ends_11 (by decide) ?_
    refine jr_istore_n d_m_ends_18 rfl (Nat.le_of_ble_eq_true rfl) ?_
    refine jr_aload_n d_m_ends_19 rfl rfl ?_
    refine jr_dup d_m_ends_20 ?_
    refine jr_geti d_m_ends_21 f_m_183 rfl ?_
    try rw [q_pop_t (by simp)]
    refine jr_iconst (v := 1) d_m_ends_24 (by decide) ?_
    refine jr_isub d_m_ends_25 ?_
    refine jr_puti d_m_ends_26 f_m_183 (Or.inl rfl) rfl ?_
    refine jr_aload_n d_m_ends_29 rfl rfl ?_
    refine jr_geti d_m_ends_30 f_m_183 rfl ?_
    try simp only [jc_up_s, jc_up_k, jc_up_t, jc_cl_s, jc_cl_t, ne_eq, Nat.reduceEqDiff, not_false_eq_true, Nat.reduceAdd]
    try rw [jc_up_s]
    refine jr_if_ne (tgt := 44) d_m_ends_33 (by decide) (fun c33 => ?_) (fun c33 => ?_)
    · skip
      exfalso; (try rw [q_pop_t (by simp)] at c33); (try rw [jc_up_s] at c33); rw [hd0] at c33; exact absurd c33 (by decide)
    · skip
      refine jr_aload_n d_m_ends_36 rfl rfl ?_
      refine jr_aload_n d_m_ends_37 rfl rfl ?_
      refine jr_iconst (v := 1) d_m_ends_38 (by decide) ?_
      refine jr_iload_n d_m_ends_39 rfl rfl ?_
      refine jv_V3v d_m_ends_40 l_m_202 k_m_over ⟨Nat.le_of_ble_eq_true rfl, Nat.le_of_ble_eq_true rfl⟩ rfl rfl (Nat.le_of_ble_eq_true rfl) (ct_m_over hQ.M (hQ.ob.to (by rw [jc_up_t _ _ _ _ _ _ _ _ (by decide)]; try rw [q_pop_t (by decide)]) rfl (fun _ _ => rfl) (fun _ h => h))) (by first | decide | exact Nat.zero_le _ | (dsimp only; omega) | (dsimp only; grind)) (by first | decide | exact Nat.zero_le _ | (dsimp only; omega) | (dsimp only; grind)) ?_
      exact jr_retX (v := none) d_m_ends_43 (by first | exact Nat.le_refl _ | exact Nat.zero_le _ | (dsimp only; omega)) (by first | exact Nat.le_refl _ | exact Nat.zero_le _ | (dsimp only; omega)) (by first | with_reducible rfl | (dsimp only; (unfold q_e0 q_ev; first | (rw [if_pos c7, if_pos c7]; done) | (rw [if_neg c7, if_neg c7]; done)); done) | ((unfold q_e0 q_ev; first | (rw [if_pos c7, if_pos c7]; done) | (rw [if_neg c7, if_neg c7]; done)); done) | (exfalso; grind)) (by first | with_reducible rfl | (dsimp only; (unfold q_e0 q_ev; first | (rw [if_pos c7, if_pos c7]; done) | (rw [if_neg c7, if_neg c7]; done)); done) | ((unfold q_e0 q_ev; first | (rw [if_pos c7, if_pos c7]; done) | (rw [if_neg c7, if_neg c7]; done)); done) | (exfalso; grind)) (by first | with_reducible rfl | (dsimp only; (unfold q_e0 q_ev; first | (rw [if_pos c7, if_pos c7]; done) | (rw [if_neg c7, if_neg c7]; done)); done) | ((unfold q_e0 q_ev; first | (rw [if_pos c7, if_pos c7]; done) | (rw [if_neg c7, if_neg c7]; done)); done) | (exfalso; grind)) (by first | with_reducible rfl | (dsimp only; (unfold q_e0 q_ev; first | (rw [if_pos c7, if_pos c7]; done) | (rw [if_neg c7, if_neg c7]; done)); done) | ((unfold q_e0 q_ev; first | (rw [if_pos c7, if_pos c7]; done) | (rw [if_neg c7, if_neg c7]; done)); done) | (exfalso; grind))
def q_e1 (I : jc_I) (t j i c : Nat) : jc_I := q_on (if I (11, c, 0) 1 = 0 then q_e0 I t j c else q_psh (q_e0 I t j c) t i (q_tp I t j)) t i
theorem q_e0_t {I : jc_I} {t j c a : Nat} {u : Nat × Nat} {k : Nat} (h : a ≠ 12) (h2 : a ≠ 14) : q_e0 I t j c (a, u) k = I (a, u) k := by
  unfold q_e0
  rw [jc_up_t _ _ _ _ _ _ _ _ h2]
  split
  · rfl
  · exact q_pop_t h
theorem ct_m_ends_1 {I : jc_I} {O : jc_O} {live : jc_L → Prop} {t b n xt fn m j : Nat} {c i : Nat} (hQ : QT I O live t b n xt fn m) (hf : qf O t j) (hcd : O (12, t, j) 0 = some (11, c, 0)) (h1 : I (11, c, 0) 1 ≠ 0 → 1 ≤ I (12, t, j) 4) (h2 : I (12, t, j) 4 ≤ 12) (hi : qf O t i) (hm : m = i + 2) (hje : j = i + 1) (h3 : I (11, c, 0) 1 ≠ 0 → 0 ≤ I (12, t, i) 4 ∧ I (12, t, i) 4 < 12) (h4 : 0 ≤ I (11, c, 0) 1) : jc_Ct y_m_ends [.inr (some (10, 0, 0)), .inr (some (14, t, 0)), .inr (some (12, t, j))] I O live (none, q_e1 I t j i c, O, live, 0, 0) := by
  have hdd := hQ.d
  have hmf := hQ.mf
  have hcp := hQ.fs.cp
  have hle := hQ.fs.le
  refine jc_Ct.of (by decide +kernel) (rfl) (Nat.le_of_ble_eq_true rfl) ?_
  refine jr_aload_n d_m_ends_0 rfl rfl ?_
  refine jr_getr d_m_ends_1 f_m_190 rfl rfl ?_
  first | rw [hcd] | skip
  refine jr_geti d_m_ends_4 f_m_117 rfl ?_
  refine jr_if_ne (tgt := 14) d_m_ends_7 (by decide) (fun c7 => ?_) (fun c7 => ?_)
  · skip
    refine jr_aload_n d_m_ends_14 rfl rfl ?_
    refine jv_V0r d_m_ends_15 l_m_206 k_mF_pop ⟨Nat.le_of_ble_eq_true rfl, Nat.le_of_ble_eq_true rfl⟩ rfl rfl (Nat.le_of_ble_eq_true rfl) (ct_mF_pop hf (h1 c7) h2) (by first | decide | exact Nat.zero_le _ | (dsimp only; omega) | (dsimp only; grind)) (by first | decide | exact Nat.zero_le _ | (dsimp only; omega) | (dsimp only; grind)) ?_
    refine jr_istore_n d_m_ends_18 rfl (Nat.le_of_ble_eq_true rfl) ?_
    refine jr_aload_n d_m_ends_19 rfl rfl ?_
    refine jr_dup d_m_ends_20 ?_
    refine jr_geti d_m_ends_21 f_m_183 rfl ?_
    try rw [q_pop_t (by simp)]
    refine jr_iconst (v := 1) d_m_ends_24 (by decide) ?_
    refine jr_isub d_m_ends_25 ?_
    refine jr_puti d_m_ends_26 f_m_183 (Or.inl rfl) rfl ?_
    refine jr_aload_n d_m_ends_29 rfl rfl ?_
    refine jr_geti d_m_ends_30 f_m_183 rfl ?_
    try simp only [jc_up_s, jc_up_k, jc_up_t, jc_cl_s, jc_cl_t, ne_eq, Nat.reduceEqDiff, not_false_eq_true, Nat.reduceAdd]
    try rw [jc_up_s]
    refine jr_if_ne (tgt := 44) d_m_ends_33 (by decide) (fun c33 => ?_) (fun c33 => ?_)
    · skip
      refine jr_aload_n d_m_ends_44 rfl rfl ?_
      refine jv_V0r d_m_ends_45 l_m_186 k_mT_top ⟨Nat.le_of_ble_eq_true rfl, Nat.le_of_ble_eq_true rfl⟩ rfl rfl (Nat.le_of_ble_eq_true rfl) (ct_mT_top (j := i) hQ.m1 (hQ.fs.to (by rw [jc_up_t _ _ _ _ _ _ _ _ (by decide)]; try rw [q_pop_t (by decide)]) rfl (fun _ _ => rfl) (fun _ h => h)) (by rw [jc_up_s, hdd, hm, jofs (by omega), jofs (by omega)]) (by omega) rfl) (by first | decide | exact Nat.zero_le _ | (dsimp only; omega) | (dsimp only; grind)) (by first | decide | exact Nat.zero_le _ | (dsimp only; omega) | (dsimp only; grind)) ?_
      first | rw [hcd] | skip
      refine jr_astore d_m_ends_48 (Nat.le_of_ble_eq_true rfl) ?_
      refine jr_aload_n d_m_ends_50 rfl rfl ?_
      refine jr_getr d_m_ends_51 f_m_190 rfl rfl ?_
      try simp only [jc_up_s, jc_up_k, jc_up_t, jc_cl_s, jc_cl_t, ne_eq, Nat.reduceEqDiff, not_false_eq_true, Nat.reduceAdd]
      first | rw [hcd] | skip
      refine jr_geti d_m_ends_54 f_m_117 rfl ?_
      try simp only [jc_up_s, jc_up_k, jc_up_t, jc_cl_s, jc_cl_t, ne_eq, Nat.reduceEqDiff, not_false_eq_true, Nat.reduceAdd]
      refine jr_if_le (tgt := 66) d_m_ends_57 (by decide) (fun c57 => ?_) (fun c57 => ?_)
      · skip
        exfalso; (try rw [q_pop_t (by simp)] at c57); (try rw [jc_up_t _ _ _ _ _ _ _ _ (by decide)] at c57); (try rw [q_pop_t (by simp)] at c57); grind
      · skip
        refine jr_aload d_m_ends_60 rfl ?_
        refine jr_iload_n d_m_ends_62 rfl rfl ?_
        refine jv_V1v d_m_ends_63 l_m_200 k_mF_push ⟨Nat.le_of_ble_eq_true rfl, Nat.le_of_ble_eq_true rfl⟩ rfl rfl (Nat.le_of_ble_eq_true rfl) (show jc_Ct y_mF_push _ _ _ _ (none, q_psh _ _ _ _, _, _, 0, 0) from ct_mF_push hi (by rw [jc_up_t _ _ _ _ _ _ _ _ (by decide)]; rw [show q_pop I t j (12, t, i) 4 = I (12, t, i) 4 from jc_up_q _ _ _ _ _ _ (by simp; omega)]; exact (h3 c7).1) (by rw [jc_up_t _ _ _ _ _ _ _ _ (by decide)]; rw [show q_pop I t j (12, t, i) 4 = I (12, t, i) 4 from jc_up_q _ _ _ _ _ _ (by simp; omega)]; exact (h3 c7).2)) (by first | decide | exact Nat.zero_le _ | (dsimp only; omega) | (dsimp only; grind)) (by first | decide | exact Nat.zero_le _ | (dsimp only; omega) | (dsimp only; grind)) ?_
        refine jr_aload d_m_ends_66 rfl ?_
        refine jr_dup d_m_ends_68 ?_
        refine jr_geti d_m_ends_69 f_m_195 rfl ?_
        try simp only [jc_up_s, jc_up_k, jc_up_t, jc_cl_s, jc_cl_t, ne_eq, Nat.reduceEqDiff, not_false_eq_true, Nat.reduceAdd]
        refine jr_iconst (v := 1) d_m_ends_72 (by decide) ?_
        refine jr_iadd d_m_ends_73 ?_
        refine jr_puti d_m_ends_74 f_m_195 (Or.inl rfl) rfl ?_
        exact jr_retX (v := none) d_m_ends_77 (by first | exact Nat.le_refl _ | exact Nat.zero_le _ | (dsimp only; omega)) (by first | exact Nat.le_refl _ | exact Nat.zero_le _ | (dsimp only; omega)) (by first | with_reducible rfl | (dsimp only; (unfold q_e1 q_e0 q_on; first | (rw [if_pos c7, if_pos c7]; done) | (rw [if_neg c7, if_neg c7]; done) | (simp only [if_pos c7]; done) | (simp only [if_neg c7]; done) | (simp only [if_pos c7]; rfl) | (simp only [if_neg c7]; rfl)); done) | ((unfold q_e1 q_e0 q_on; first | (rw [if_pos c7, if_pos c7]; done) | (rw [if_neg c7, if_neg c7]; done) | (simp only [if_pos c7]; done) | (simp only [if_neg c7]; done) | (simp only [if_pos c7]; rfl) | (simp only [if_neg c7]; rfl)); done) | (exfalso; grind)) (by first | with_reducible rfl | (dsimp only; (unfold q_e1 q_e0 q_on; first | (rw [if_pos c7, if_pos c7]; done) | (rw [if_neg c7, if_neg c7]; done) | (simp only [if_pos c7]; done) | (simp only [if_neg c7]; done) | (simp only [if_pos c7]; rfl) | (simp only [if_neg c7]; rfl)); done) | ((unfold q_e1 q_e0 q_on; first | (rw [if_pos c7, if_pos c7]; done) | (rw [if_neg c7, if_neg c7]; done) | (simp only [if_pos c7]; done) | (simp only [if_neg c7]; done) | (simp only [if_pos c7]; rfl) | (simp only [if_neg c7]; rfl)); done) | (exfalso; grind)) (by first | with_reducible rfl | (dsimp only; (unfold q_e1 q_e0 q_on; first | (rw [if_pos c7, if_pos c7]; done) | (rw [if_neg c7, if_neg c7]; done) | (simp only [if_pos c7]; done) | (simp only [if_neg c7]; done) | (simp only [if_pos c7]; rfl) | (simp only [if_neg c7]; rfl)); done) | ((unfold q_e1 q_e0 q_on; first | (rw [if_pos c7, if_pos c7]; done) | (rw [if_neg c7, if_neg c7]; done) | (simp only [if_pos c7]; done) | (simp only [if_neg c7]; done) | (simp only [if_pos c7]; rfl) | (simp only [if_neg c7]; rfl)); done) | (exfalso; grind)) (by first | with_reducible rfl | (dsimp only; (unfold q_e1 q_e0 q_on; first | (rw [if_pos c7, if_pos c7]; done) | (rw [if_neg c7, if_neg c7]; done) | (simp only [if_pos c7]; done) | (simp only [if_neg c7]; done) | (simp only [if_pos c7]; rfl) | (simp only [if_neg c7]; rfl)); done) | ((unfold q_e1 q_e0 q_on; first | (rw [if_pos c7, if_pos c7]; done) | (rw [if_neg c7, if_neg c7]; done) | (simp only [if_pos c7]; done) | (simp only [if_neg c7]; done) | (simp only [if_pos c7]; rfl) | (simp only [if_neg c7]; rfl)); done) | (exfalso; grind))
    · skip
      exfalso; (try rw [q_pop_t (by simp)] at c33); (try rw [jc_up_s] at c33); rw [hdd, hm, jofs (by omega)] at c33; have c33 := congrArg Int32.toInt c33; rw [jofI (by omega), j0I] at c33; omega
  · skip
    refine jr_iconst (v := 0) d_m_ends_10 (by decide) ?_
    refine jr_goto (tgt := 18) d_m_ends_11 (by decide) ?_
    refine jr_istore_n d_m_ends_18 rfl (Nat.le_of_ble_eq_true rfl) ?_
    refine jr_aload_n d_m_ends_19 rfl rfl ?_
    refine jr_dup d_m_ends_20 ?_
    refine jr_geti d_m_ends_21 f_m_183 rfl ?_
    try rw [q_pop_t (by simp)]
    refine jr_iconst (v := 1) d_m_ends_24 (by decide) ?_
    refine jr_isub d_m_ends_25 ?_
    refine jr_puti d_m_ends_26 f_m_183 (Or.inl rfl) rfl ?_
    refine jr_aload_n d_m_ends_29 rfl rfl ?_
    refine jr_geti d_m_ends_30 f_m_183 rfl ?_
    try simp only [jc_up_s, jc_up_k, jc_up_t, jc_cl_s, jc_cl_t, ne_eq, Nat.reduceEqDiff, not_false_eq_true, Nat.reduceAdd]
    try rw [jc_up_s]
    refine jr_if_ne (tgt := 44) d_m_ends_33 (by decide) (fun c33 => ?_) (fun c33 => ?_)
    · skip
      refine jr_aload_n d_m_ends_44 rfl rfl ?_
      refine jv_V0r d_m_ends_45 l_m_186 k_mT_top ⟨Nat.le_of_ble_eq_true rfl, Nat.le_of_ble_eq_true rfl⟩ rfl rfl (Nat.le_of_ble_eq_true rfl) (ct_mT_top (j := i) hQ.m1 (hQ.fs.to (by rw [jc_up_t _ _ _ _ _ _ _ _ (by decide)]; try rw [q_pop_t (by decide)]) rfl (fun _ _ => rfl) (fun _ h => h)) (by rw [jc_up_s, hdd, hm, jofs (by omega), jofs (by omega)]) (by omega) rfl) (by first | decide | exact Nat.zero_le _ | (dsimp only; omega) | (dsimp only; grind)) (by first | decide | exact Nat.zero_le _ | (dsimp only; omega) | (dsimp only; grind)) ?_
      first | rw [hcd] | skip
      refine jr_astore d_m_ends_48 (Nat.le_of_ble_eq_true rfl) ?_
      refine jr_aload_n d_m_ends_50 rfl rfl ?_
      refine jr_getr d_m_ends_51 f_m_190 rfl rfl ?_
      try simp only [jc_up_s, jc_up_k, jc_up_t, jc_cl_s, jc_cl_t, ne_eq, Nat.reduceEqDiff, not_false_eq_true, Nat.reduceAdd]
      first | rw [hcd] | skip
      refine jr_geti d_m_ends_54 f_m_117 rfl ?_
      try simp only [jc_up_s, jc_up_k, jc_up_t, jc_cl_s, jc_cl_t, ne_eq, Nat.reduceEqDiff, not_false_eq_true, Nat.reduceAdd]
      refine jr_if_le (tgt := 66) d_m_ends_57 (by decide) (fun c57 => ?_) (fun c57 => ?_)
      · skip
        refine jr_aload d_m_ends_66 rfl ?_
        refine jr_dup d_m_ends_68 ?_
        refine jr_geti d_m_ends_69 f_m_195 rfl ?_
        try simp only [jc_up_s, jc_up_k, jc_up_t, jc_cl_s, jc_cl_t, ne_eq, Nat.reduceEqDiff, not_false_eq_true, Nat.reduceAdd]
        refine jr_iconst (v := 1) d_m_ends_72 (by decide) ?_
        refine jr_iadd d_m_ends_73 ?_
        refine jr_puti d_m_ends_74 f_m_195 (Or.inl rfl) rfl ?_
        exact jr_retX (v := none) d_m_ends_77 (by first | exact Nat.le_refl _ | exact Nat.zero_le _ | (dsimp only; omega)) (by first | exact Nat.le_refl _ | exact Nat.zero_le _ | (dsimp only; omega)) (by first | with_reducible rfl | (dsimp only; (unfold q_e1 q_e0 q_on; first | (rw [if_pos c7, if_pos c7]; done) | (rw [if_neg c7, if_neg c7]; done) | (simp only [if_pos c7]; done) | (simp only [if_neg c7]; done) | (simp only [if_pos c7]; rfl) | (simp only [if_neg c7]; rfl)); done) | ((unfold q_e1 q_e0 q_on; first | (rw [if_pos c7, if_pos c7]; done) | (rw [if_neg c7, if_neg c7]; done) | (simp only [if_pos c7]; done) | (simp only [if_neg c7]; done) | (simp only [if_pos c7]; rfl) | (simp only [if_neg c7]; rfl)); done) | (exfalso; grind)) (by first | with_reducible rfl | (dsimp only; (unfold q_e1 q_e0 q_on; first | (rw [if_pos c7, if_pos c7]; done) | (rw [if_neg c7, if_neg c7]; done) | (simp only [if_pos c7]; done) | (simp only [if_neg c7]; done) | (simp only [if_pos c7]; rfl) | (simp only [if_neg c7]; rfl)); done) | ((unfold q_e1 q_e0 q_on; first | (rw [if_pos c7, if_pos c7]; done) | (rw [if_neg c7, if_neg c7]; done) | (simp only [if_pos c7]; done) | (simp only [if_neg c7]; done) | (simp only [if_pos c7]; rfl) | (simp only [if_neg c7]; rfl)); done) | (exfalso; grind)) (by first | with_reducible rfl | (dsimp only; (unfold q_e1 q_e0 q_on; first | (rw [if_pos c7, if_pos c7]; done) | (rw [if_neg c7, if_neg c7]; done) | (simp only [if_pos c7]; done) | (simp only [if_neg c7]; done) | (simp only [if_pos c7]; rfl) | (simp only [if_neg c7]; rfl)); done) | ((unfold q_e1 q_e0 q_on; first | (rw [if_pos c7, if_pos c7]; done) | (rw [if_neg c7, if_neg c7]; done) | (simp only [if_pos c7]; done) | (simp only [if_neg c7]; done) | (simp only [if_pos c7]; rfl) | (simp only [if_neg c7]; rfl)); done) | (exfalso; grind)) (by first | with_reducible rfl | (dsimp only; (unfold q_e1 q_e0 q_on; first | (rw [if_pos c7, if_pos c7]; done) | (rw [if_neg c7, if_neg c7]; done) | (simp only [if_pos c7]; done) | (simp only [if_neg c7]; done) | (simp only [if_pos c7]; rfl) | (simp only [if_neg c7]; rfl)); done) | ((unfold q_e1 q_e0 q_on; first | (rw [if_pos c7, if_pos c7]; done) | (rw [if_neg c7, if_neg c7]; done) | (simp only [if_pos c7]; done) | (simp only [if_neg c7]; done) | (simp only [if_pos c7]; rfl) | (simp only [if_neg c7]; rfl)); done) | (exfalso; grind))
      · skip
        exfalso; (try rw [jc_up_t _ _ _ _ _ _ _ _ (by decide)] at c57); rw [c7] at c57; exact absurd c57 (by decide)
    · skip
      exfalso; (try rw [q_pop_t (by simp)] at c33); (try rw [jc_up_s] at c33); rw [hdd, hm, jofs (by omega)] at c33; have c33 := congrArg Int32.toInt c33; rw [jofI (by omega), j0I] at c33; omega
