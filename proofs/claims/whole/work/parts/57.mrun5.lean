theorem jex {x : Int32} {n : Nat} (h1 : 1 ≤ x) (h2 : (x - 1).toNatClampNeg < n) (hn : n ≤ 50000) : x - 1 = Int32.ofNat (x - 1).toNatClampNeg := by
  apply Int32.toInt_inj.mp
  rw [jofI (by omega), jsubN h1, jsub1 h1]
theorem ct_m_monitor_n {I : jc_I} {O : jc_O} {live : jc_L → Prop} {t b n xt fn m j : Nat} {op : Int32} (hQ : QT I O live t b n xt fn m) (hf : qf O t j) (h1 : 1 ≤ I (12, t, j) 4) (h2 : I (12, t, j) 4 ≤ 12) (hz : q_tp I t j = 0) : jc_Ct y_m_monitor [.inr (some (10, 0, 0)), .inr (some (14, t, 0)), .inr (some (12, t, j)), .inl op] I O live (none, q_fI I O live t b n m 6, (q_mk I O live 6).2.2.1, (q_mk I O live 6).2.2.2.1, (q_mk I O live 6).2.2.2.2.1, (q_mk I O live 6).2.2.2.2.2) := by
  refine jc_Ct.of (by decide +kernel) (rfl) (Nat.le_of_ble_eq_true rfl) ?_
  refine jr_aload_n d_m_monitor_0 rfl rfl ?_
  refine jv_V0r d_m_monitor_1 l_m_213 k_mF_top ⟨Nat.le_of_ble_eq_true rfl, Nat.le_of_ble_eq_true rfl⟩ rfl rfl (Nat.le_of_ble_eq_true rfl) (ct_mF_top hf h1 h2) (by first | decide | exact Nat.zero_le _ | (dsimp only; omega) | (dsimp only; grind) | (omega)) (by first | decide | exact Nat.zero_le _ | (dsimp only; omega) | (dsimp only; grind) | (omega)) ?_
  refine jr_if_ne (tgt := 19) d_m_monitor_4 (by decide) (fun c4 => ?_) (fun c4 => ?_)
  · skip
    exact absurd hz c4
  · skip
    refine jr_aload_n d_m_monitor_7 rfl rfl ?_
    refine jr_aload_n d_m_monitor_8 rfl rfl ?_
    refine jr_aload_n d_m_monitor_9 rfl rfl ?_
    refine jr_bipush (v := 6) d_m_monitor_10 (by decide) ?_
    refine jv_V1rA d_m_monitor_12 l_m_215 k_m_fresh ⟨Nat.le_of_ble_eq_true rfl, Nat.le_of_ble_eq_true rfl⟩ rfl rfl (Nat.le_of_ble_eq_true rfl) ((ct_fail (x := 6) hQ).1) (fun q9 h9 => q_mk_live q9 h9) (by first | decide | exact Nat.zero_le _ | (dsimp only; omega) | (dsimp only; grind) | (omega)) (by first | decide | exact Nat.zero_le _ | (dsimp only; omega) | (dsimp only; grind) | (omega)) ?_
    refine jv_V2v d_m_monitor_15 l_m_219 k_m_flies ⟨Nat.le_of_ble_eq_true rfl, Nat.le_of_ble_eq_true rfl⟩ rfl rfl (Nat.le_of_ble_eq_true rfl) ((ct_fail (x := 6) hQ).2) (by first | decide | exact Nat.zero_le _ | (dsimp only; omega) | (dsimp only; grind) | (omega)) (by first | decide | exact Nat.zero_le _ | (dsimp only; omega) | (dsimp only; grind) | (omega)) ?_
    exact jr_retX (v := none) d_m_monitor_18 (by first | exact Nat.le_refl _ | exact Nat.zero_le _ | (dsimp only; omega) | (omega)) (by first | exact Nat.le_refl _ | exact Nat.zero_le _ | (dsimp only; omega) | (omega)) (by first | with_reducible rfl | (dsimp only; rfl; done) | (exfalso; grind)) (by first | with_reducible rfl | (dsimp only; rfl; done) | (exfalso; grind)) (by first | with_reducible rfl | (dsimp only; rfl; done) | (exfalso; grind)) (by first | with_reducible rfl | (dsimp only; rfl; done) | (exfalso; grind))
theorem ct_m_monitor_w {I : jc_I} {O : jc_O} {live : jc_L → Prop} {t b n xt fn m j : Nat} {op : Int32} (hQ : QT I O live t b n xt fn m) (hf : qf O t j) (h1 : 1 ≤ I (12, t, j) 4) (h2 : I (12, t, j) 4 ≤ 12) (hx1 : 1 ≤ q_tp I t j) (hx2 : (q_tp I t j - 1).toNatClampNeg < n) (ho : op = 20) (hh : 0 < I (13, b + (q_tp I t j - 1).toNatClampNeg, 0) 3 ∧ I (13, b + (q_tp I t j - 1).toNatClampNeg, 0) 2 ≠ I (14, t, 0) 0) : jc_Ct y_m_monitor [.inr (some (10, 0, 0)), .inr (some (14, t, 0)), .inr (some (12, t, j)), .inl op] I O live (none, jc_up I (14, t, 0) 6 (q_tp I t j), O, live, 0, 0) := by
  obtain ⟨m0, m2, m4, m6, m7⟩ := id hQ.M
  refine jc_Ct.of (by decide +kernel) (rfl) (Nat.le_of_ble_eq_true rfl) ?_
  refine jr_aload_n d_m_monitor_0 rfl rfl ?_
  refine jv_V0r d_m_monitor_1 l_m_213 k_mF_top ⟨Nat.le_of_ble_eq_true rfl, Nat.le_of_ble_eq_true rfl⟩ rfl rfl (Nat.le_of_ble_eq_true rfl) (ct_mF_top hf h1 h2) (by first | decide | exact Nat.zero_le _ | (dsimp only; omega) | (dsimp only; grind)) (by first | decide | exact Nat.zero_le _ | (dsimp only; omega) | (dsimp only; grind)) ?_
  refine jr_if_ne (tgt := 19) d_m_monitor_4 (by decide) (fun c4 => ?_) (fun c4 => ?_)
  · skip
    refine jr_aload_n d_m_monitor_19 rfl rfl ?_
    refine jr_getr d_m_monitor_20 f_m_19 rfl rfl ?_
    first | rw [m4] | skip
    refine jr_aload_n d_m_monitor_23 rfl rfl ?_
    refine jv_V0r d_m_monitor_24 l_m_213 k_mF_top ⟨Nat.le_of_ble_eq_true rfl, Nat.le_of_ble_eq_true rfl⟩ rfl rfl (Nat.le_of_ble_eq_true rfl) (ct_mF_top hf h1 h2) (by first | decide | exact Nat.zero_le _ | (dsimp only; omega) | (dsimp only; grind)) (by first | decide | exact Nat.zero_le _ | (dsimp only; omega) | (dsimp only; grind)) ?_
    refine jr_iconst (v := 1) d_m_monitor_27 (by decide) ?_
    refine jr_isub d_m_monitor_28 ?_
    refine jv_V1r d_m_monitor_29 l_m_126 k_aL_get ⟨Nat.le_of_ble_eq_true rfl, Nat.le_of_ble_eq_true rfl⟩ rfl rfl (Nat.le_of_ble_eq_true rfl) (ct_aL_getq hQ.ob (jex hx1 hx2 (by have := hQ.n3; omega)) hx2) (by first | decide | exact Nat.zero_le _ | (dsimp only; omega) | (dsimp only; grind)) (by first | decide | exact Nat.zero_le _ | (dsimp only; omega) | (dsimp only; grind)) ?_
    first | rw [m4] | skip
    refine jr_cast d_m_monitor_32 c_m_155 rfl ⟨_, rfl, ca_mO_mO⟩ ?_
    refine jr_astore d_m_monitor_35 (Nat.le_of_ble_eq_true rfl) ?_
    refine jr_aload d_m_monitor_37 rfl ?_
    refine jr_geti d_m_monitor_39 f_m_157 rfl ?_
    refine jr_if_le (tgt := 61) d_m_monitor_42 (by decide) (fun c42 => ?_) (fun c42 => ?_)
    · skip
      refine jr_iconst (v := 0) d_m_monitor_61 (by decide) ?_
      refine jr_istore d_m_monitor_62 (Nat.le_of_ble_eq_true rfl) ?_
      refine jr_iload_n d_m_monitor_64 rfl rfl ?_
      refine jr_bipush (v := 20) d_m_monitor_65 (by decide) ?_
      refine jr_icmp_ne (tgt := 84) d_m_monitor_67 (by decide) (fun c67 => ?_) (fun c67 => ?_)
      · skip
        exact absurd ho c67
      · skip
        refine jr_iload d_m_monitor_70 rfl ?_
        refine jr_if_eq (tgt := 84) d_m_monitor_72 (by decide) (fun c72 => ?_) (fun c72 => ?_)
        · skip
          exfalso; grind
        · skip
          refine jr_aload_n d_m_monitor_75 rfl rfl ?_
          refine jr_aload_n d_m_monitor_76 rfl rfl ?_
          refine jv_V0r d_m_monitor_77 l_m_213 k_mF_top ⟨Nat.le_of_ble_eq_true rfl, Nat.le_of_ble_eq_true rfl⟩ rfl rfl (Nat.le_of_ble_eq_true rfl) (ct_mF_top hf h1 h2) (by first | decide | exact Nat.zero_le _ | (dsimp only; omega) | (dsimp only; grind)) (by first | decide | exact Nat.zero_le _ | (dsimp only; omega) | (dsimp only; grind)) ?_
          refine jr_puti d_m_monitor_80 f_m_152 (Or.inl rfl) rfl ?_
          exact jr_retX (v := none) d_m_monitor_83 (by first | exact Nat.le_refl _ | exact Nat.zero_le _ | (dsimp only; omega)) (by first | exact Nat.le_refl _ | exact Nat.zero_le _ | (dsimp only; omega)) (by first | with_reducible rfl | (dsimp only; rfl; done) | (exfalso; grind)) (by first | with_reducible rfl | (dsimp only; rfl; done) | (exfalso; grind)) (by first | with_reducible rfl | (dsimp only; rfl; done) | (exfalso; grind)) (by first | with_reducible rfl | (dsimp only; rfl; done) | (exfalso; grind))
    · skip
      refine jr_aload d_m_monitor_45 rfl ?_
      refine jr_geti d_m_monitor_47 f_m_160 rfl ?_
      refine jr_aload_n d_m_monitor_50 rfl rfl ?_
      refine jr_geti d_m_monitor_51 f_m_149 rfl ?_
      refine jr_icmp_eq (tgt := 61) d_m_monitor_54 (by decide) (fun c54 => ?_) (fun c54 => ?_)
      · skip
        refine jr_iconst (v := 0) d_m_monitor_61 (by decide) ?_
        refine jr_istore d_m_monitor_62 (Nat.le_of_ble_eq_true rfl) ?_
        refine jr_iload_n d_m_monitor_64 rfl rfl ?_
        refine jr_bipush (v := 20) d_m_monitor_65 (by decide) ?_
        refine jr_icmp_ne (tgt := 84) d_m_monitor_67 (by decide) (fun c67 => ?_) (fun c67 => ?_)
        · skip
          exact absurd ho c67
        · skip
          refine jr_iload d_m_monitor_70 rfl ?_
          refine jr_if_eq (tgt := 84) d_m_monitor_72 (by decide) (fun c72 => ?_) (fun c72 => ?_)
          · skip
            exfalso; grind
          · skip
            refine jr_aload_n d_m_monitor_75 rfl rfl ?_
            refine jr_aload_n d_m_monitor_76 rfl rfl ?_
            refine jv_V0r d_m_monitor_77 l_m_213 k_mF_top ⟨Nat.le_of_ble_eq_true rfl, Nat.le_of_ble_eq_true rfl⟩ rfl rfl (Nat.le_of_ble_eq_true rfl) (ct_mF_top hf h1 h2) (by first | decide | exact Nat.zero_le _ | (dsimp only; omega) | (dsimp only; grind)) (by first | decide | exact Nat.zero_le _ | (dsimp only; omega) | (dsimp only; grind)) ?_
            refine jr_puti d_m_monitor_80 f_m_152 (Or.inl rfl) rfl ?_
            exact jr_retX (v := none) d_m_monitor_83 (by first | exact Nat.le_refl _ | exact Nat.zero_le _ | (dsimp only; omega)) (by first | exact Nat.le_refl _ | exact Nat.zero_le _ | (dsimp only; omega)) (by first | with_reducible rfl | (dsimp only; rfl; done) | (exfalso; grind)) (by first | with_reducible rfl | (dsimp only; rfl; done) | (exfalso; grind)) (by first | with_reducible rfl | (dsimp only; rfl; done) | (exfalso; grind)) (by first | with_reducible rfl | (dsimp only; rfl; done) | (exfalso; grind))
      · skip
        refine jr_iconst (v := 1) d_m_monitor_57 (by decide) ?_
        refine jr_goto (tgt := 62) d_m_monitor_58 (by decide) ?_
        refine jr_istore d_m_monitor_62 (Nat.le_of_ble_eq_true rfl) ?_
        refine jr_iload_n d_m_monitor_64 rfl rfl ?_
        refine jr_bipush (v := 20) d_m_monitor_65 (by decide) ?_
        refine jr_icmp_ne (tgt := 84) d_m_monitor_67 (by decide) (fun c67 => ?_) (fun c67 => ?_)
        · skip
          exact absurd ho c67
        · skip
          refine jr_iload d_m_monitor_70 rfl ?_
          refine jr_if_eq (tgt := 84) d_m_monitor_72 (by decide) (fun c72 => ?_) (fun c72 => ?_)
          · skip
            exfalso; grind
          · skip
            refine jr_aload_n d_m_monitor_75 rfl rfl ?_
            refine jr_aload_n d_m_monitor_76 rfl rfl ?_
            refine jv_V0r d_m_monitor_77 l_m_213 k_mF_top ⟨Nat.le_of_ble_eq_true rfl, Nat.le_of_ble_eq_true rfl⟩ rfl rfl (Nat.le_of_ble_eq_true rfl) (ct_mF_top hf h1 h2) (by first | decide | exact Nat.zero_le _ | (dsimp only; omega) | (dsimp only; grind)) (by first | decide | exact Nat.zero_le _ | (dsimp only; omega) | (dsimp only; grind)) ?_
            refine jr_puti d_m_monitor_80 f_m_152 (Or.inl rfl) rfl ?_
            exact jr_retX (v := none) d_m_monitor_83 (by first | exact Nat.le_refl _ | exact Nat.zero_le _ | (dsimp only; omega)) (by first | exact Nat.le_refl _ | exact Nat.zero_le _ | (dsimp only; omega)) (by first | with_reducible rfl | (dsimp only; rfl; done) | (exfalso; grind)) (by first | with_reducible rfl | (dsimp only; rfl; done) | (exfalso; grind)) (by first | with_reducible rfl | (dsimp only; rfl; done) | (exfalso; grind)) (by first | with_reducible rfl | (dsimp only; rfl; done) | (exfalso; grind))
  · skip
    exfalso; grind
theorem ct_m_monitor_f {I : jc_I} {O : jc_O} {live : jc_L → Prop} {t b n xt fn m j : Nat} {op : Int32} (hQ : QT I O live t b n xt fn m) (hf : qf O t j) (h1 : 1 ≤ I (12, t, j) 4) (h2 : I (12, t, j) 4 ≤ 12) (hx1 : 1 ≤ q_tp I t j) (hx2 : (q_tp I t j - 1).toNatClampNeg < n) (ho : op = 21) (hh : (0 < I (13, b + (q_tp I t j - 1).toNatClampNeg, 0) 3 ∧ I (13, b + (q_tp I t j - 1).toNatClampNeg, 0) 2 ≠ I (14, t, 0) 0) ∨ I (13, b + (q_tp I t j - 1).toNatClampNeg, 0) 3 = 0) : jc_Ct y_m_monitor [.inr (some (10, 0, 0)), .inr (some (14, t, 0)), .inr (some (12, t, j)), .inl op] I O live (none, q_fI I O live t b n m 8, (q_mk I O live 8).2.2.1, (q_mk I O live 8).2.2.2.1, (q_mk I O live 8).2.2.2.2.1, (q_mk I O live 8).2.2.2.2.2) := by
  obtain ⟨m0, m2, m4, m6, m7⟩ := id hQ.M
  refine jc_Ct.of (by decide +kernel) (rfl) (Nat.le_of_ble_eq_true rfl) ?_
  refine jr_aload_n d_m_monitor_0 rfl rfl ?_
  refine jv_V0r d_m_monitor_1 l_m_213 k_mF_top ⟨Nat.le_of_ble_eq_true rfl, Nat.le_of_ble_eq_true rfl⟩ rfl rfl (Nat.le_of_ble_eq_true rfl) (ct_mF_top hf h1 h2) (by first | decide | exact Nat.zero_le _ | (dsimp only; omega) | (dsimp only; grind) | (omega)) (by first | decide | exact Nat.zero_le _ | (dsimp only; omega) | (dsimp only; grind) | (omega)) ?_
  refine jr_if_ne (tgt := 19) d_m_monitor_4 (by decide) (fun c4 => ?_) (fun c4 => ?_)
  · skip
    refine jr_aload_n d_m_monitor_19 rfl rfl ?_
    refine jr_getr d_m_monitor_20 f_m_19 rfl rfl ?_
    first | rw [m4] | skip
    refine jr_aload_n d_m_monitor_23 rfl rfl ?_
    refine jv_V0r d_m_monitor_24 l_m_213 k_mF_top ⟨Nat.le_of_ble_eq_true rfl, Nat.le_of_ble_eq_true rfl⟩ rfl rfl (Nat.le_of_ble_eq_true rfl) (ct_mF_top hf h1 h2) (by first | decide | exact Nat.zero_le _ | (dsimp only; omega) | (dsimp only; grind) | (omega)) (by first | decide | exact Nat.zero_le _ | (dsimp only; omega) | (dsimp only; grind) | (omega)) ?_
    refine jr_iconst (v := 1) d_m_monitor_27 (by decide) ?_
    refine jr_isub d_m_monitor_28 ?_
    refine jv_V1r d_m_monitor_29 l_m_126 k_aL_get ⟨Nat.le_of_ble_eq_true rfl, Nat.le_of_ble_eq_true rfl⟩ rfl rfl (Nat.le_of_ble_eq_true rfl) (ct_aL_getq hQ.ob (jex hx1 hx2 (by have := hQ.n3; omega)) hx2) (by first | decide | exact Nat.zero_le _ | (dsimp only; omega) | (dsimp only; grind) | (omega)) (by first | decide | exact Nat.zero_le _ | (dsimp only; omega) | (dsimp only; grind) | (omega)) ?_
    first | rw [m4] | skip
    refine jr_cast d_m_monitor_32 c_m_155 rfl ⟨_, rfl, ca_mO_mO⟩ ?_
    refine jr_astore d_m_monitor_35 (Nat.le_of_ble_eq_true rfl) ?_
    refine jr_aload d_m_monitor_37 rfl ?_
    refine jr_geti d_m_monitor_39 f_m_157 rfl ?_
    refine jr_if_le (tgt := 61) d_m_monitor_42 (by decide) (fun c42 => ?_) (fun c42 => ?_)
    · skip
      refine jr_iconst (v := 0) d_m_monitor_61 (by decide) ?_
      refine jr_istore d_m_monitor_62 (Nat.le_of_ble_eq_true rfl) ?_
      refine jr_iload_n d_m_monitor_64 rfl rfl ?_
      refine jr_bipush (v := 20) d_m_monitor_65 (by decide) ?_
      refine jr_icmp_ne (tgt := 84) d_m_monitor_67 (by decide) (fun c67 => ?_) (fun c67 => ?_)
      · skip
        refine jr_iload_n d_m_monitor_84 rfl rfl ?_
        refine jr_bipush (v := 21) d_m_monitor_85 (by decide) ?_
        refine jr_icmp_ne (tgt := 115) d_m_monitor_87 (by decide) (fun c87 => ?_) (fun c87 => ?_)
        · skip
          exact absurd ho c87
        · skip
          refine jr_iload d_m_monitor_90 rfl ?_
          refine jr_if_ne (tgt := 103) d_m_monitor_92 (by decide) (fun c92 => ?_) (fun c92 => ?_)
          · skip
            refine jr_aload_n d_m_monitor_103 rfl rfl ?_
            refine jr_aload_n d_m_monitor_104 rfl rfl ?_
            refine jr_aload_n d_m_monitor_105 rfl rfl ?_
            refine jr_bipush (v := 8) d_m_monitor_106 (by decide) ?_
            refine jv_V1rA d_m_monitor_108 l_m_215 k_m_fresh ⟨Nat.le_of_ble_eq_true rfl, Nat.le_of_ble_eq_true rfl⟩ rfl rfl (Nat.le_of_ble_eq_true rfl) ((ct_fail (x := 8) hQ).1) (fun q9 h9 => q_mk_live q9 h9) (by first | decide | exact Nat.zero_le _ | (dsimp only; omega) | (dsimp only; grind) | (omega)) (by first | decide | exact Nat.zero_le _ | (dsimp only; omega) | (dsimp only; grind) | (omega)) ?_
            refine jv_V2v d_m_monitor_111 l_m_219 k_m_flies ⟨Nat.le_of_ble_eq_true rfl, Nat.le_of_ble_eq_true rfl⟩ rfl rfl (Nat.le_of_ble_eq_true rfl) ((ct_fail (x := 8) hQ).2) (by first | decide | exact Nat.zero_le _ | (dsimp only; omega) | (dsimp only; grind) | (omega)) (by first | decide | exact Nat.zero_le _ | (dsimp only; omega) | (dsimp only; grind) | (omega)) ?_
            exact jr_retX (v := none) d_m_monitor_114 (by first | exact Nat.le_refl _ | exact Nat.zero_le _ | (dsimp only; omega) | (omega)) (by first | exact Nat.le_refl _ | exact Nat.zero_le _ | (dsimp only; omega) | (omega)) (by first | with_reducible rfl | (dsimp only; rfl; done) | (exfalso; grind)) (by first | with_reducible rfl | (dsimp only; rfl; done) | (exfalso; grind)) (by first | with_reducible rfl | (dsimp only; rfl; done) | (exfalso; grind)) (by first | with_reducible rfl | (dsimp only; rfl; done) | (exfalso; grind))
          · skip
            refine jr_aload d_m_monitor_95 rfl ?_
            refine jr_geti d_m_monitor_97 f_m_157 rfl ?_
            refine jr_if_ne (tgt := 115) d_m_monitor_100 (by decide) (fun c100 => ?_) (fun c100 => ?_)
            · skip
              exfalso; grind
            · skip
              refine jr_aload_n d_m_monitor_103 rfl rfl ?_
              refine jr_aload_n d_m_monitor_104 rfl rfl ?_
              refine jr_aload_n d_m_monitor_105 rfl rfl ?_
              refine jr_bipush (v := 8) d_m_monitor_106 (by decide) ?_
              refine jv_V1rA d_m_monitor_108 l_m_215 k_m_fresh ⟨Nat.le_of_ble_eq_true rfl, Nat.le_of_ble_eq_true rfl⟩ rfl rfl (Nat.le_of_ble_eq_true rfl) ((ct_fail (x := 8) hQ).1) (fun q9 h9 => q_mk_live q9 h9) (by first | decide | exact Nat.zero_le _ | (dsimp only; omega) | (dsimp only; grind) | (omega)) (by first | decide | exact Nat.zero_le _ | (dsimp only; omega) | (dsimp only; grind) | (omega)) ?_
              refine jv_V2v d_m_monitor_111 l_m_219 k_m_flies ⟨Nat.le_of_ble_eq_true rfl, Nat.le_of_ble_eq_true rfl⟩ rfl rfl (Nat.le_of_ble_eq_true rfl) ((ct_fail (x := 8) hQ).2) (by first | decide | exact Nat.zero_le _ | (dsimp only; omega) | (dsimp only; grind) | (omega)) (by first | decide | exact Nat.zero_le _ | (dsimp only; omega) | (dsimp only; grind) | (omega)) ?_
              exact jr_retX (v := none) d_m_monitor_114 (by first | exact Nat.le_refl _ | exact Nat.zero_le _ | (dsimp only; omega) | (omega)) (by first | exact Nat.le_refl _ | exact Nat.zero_le _ | (dsimp only; omega) | (omega)) (by first | with_reducible rfl | (dsimp only; rfl; done) | (exfalso; grind)) (by first | with_reducible rfl | (dsimp only; rfl; done) | (exfalso; grind)) (by first | with_reducible rfl | (dsimp only; rfl; done) | (exfalso; grind)) (by first | with_reducible rfl | (dsimp only; rfl; done) | (exfalso; grind))
      · skip
        exfalso; grind
    · skip
      refine jr_aload d_m_monitor_45 rfl ?_
      refine jr_geti d_m_monitor_47 f_m_160 rfl ?_
      refine jr_aload_n d_m_monitor_50 rfl rfl ?_
      refine jr_geti d_m_monitor_51 f_m_149 rfl ?_
      refine jr_icmp_eq (tgt := 61) d_m_monitor_54 (by decide) (fun c54 => ?_) (fun c54 => ?_)
      · skip
        refine jr_iconst (v := 0) d_m_monitor_61 (by decide) ?_
        refine jr_istore d_m_monitor_62 (Nat.le_of_ble_eq_true rfl) ?_
        refine jr_iload_n d_m_monitor_64 rfl rfl ?_
        refine jr_bipush (v := 20) d_m_monitor_65 (by decide) ?_
        refine jr_icmp_ne (tgt := 84) d_m_monitor_67 (by decide) (fun c67 => ?_) (fun c67 => ?_)
        · skip
          refine jr_iload_n d_m_monitor_84 rfl rfl ?_
          refine jr_bipush (v := 21) d_m_monitor_85 (by decide) ?_
          refine jr_icmp_ne (tgt := 115) d_m_monitor_87 (by decide) (fun c87 => ?_) (fun c87 => ?_)
          · skip
            exact absurd ho c87
          · skip
            refine jr_iload d_m_monitor_90 rfl ?_
            refine jr_if_ne (tgt := 103) d_m_monitor_92 (by decide) (fun c92 => ?_) (fun c92 => ?_)
            · skip
              refine jr_aload_n d_m_monitor_103 rfl rfl ?_
              refine jr_aload_n d_m_monitor_104 rfl rfl ?_
              refine jr_aload_n d_m_monitor_105 rfl rfl ?_
              refine jr_bipush (v := 8) d_m_monitor_106 (by decide) ?_
              refine jv_V1rA d_m_monitor_108 l_m_215 k_m_fresh ⟨Nat.le_of_ble_eq_true rfl, Nat.le_of_ble_eq_true rfl⟩ rfl rfl (Nat.le_of_ble_eq_true rfl) ((ct_fail (x := 8) hQ).1) (fun q9 h9 => q_mk_live q9 h9) (by first | decide | exact Nat.zero_le _ | (dsimp only; omega) | (dsimp only; grind) | (omega)) (by first | decide | exact Nat.zero_le _ | (dsimp only; omega) | (dsimp only; grind) | (omega)) ?_
              refine jv_V2v d_m_monitor_111 l_m_219 k_m_flies ⟨Nat.le_of_ble_eq_true rfl, Nat.le_of_ble_eq_true rfl⟩ rfl rfl (Nat.le_of_ble_eq_true rfl) ((ct_fail (x := 8) hQ).2) (by first | decide | exact Nat.zero_le _ | (dsimp only; omega) | (dsimp only; grind) | (omega)) (by first | decide | exact Nat.zero_le _ | (dsimp only; omega) | (dsimp only; grind) | (omega)) ?_
              exact jr_retX (v := none) d_m_monitor_114 (by first | exact Nat.le_refl _ | exact Nat.zero_le _ | (dsimp only; omega) | (omega)) (by first | exact Nat.le_refl _ | exact Nat.zero_le _ | (dsimp only; omega) | (omega)) (by first | with_reducible rfl | (dsimp only; rfl; done) | (exfalso; grind)) (by first | with_reducible rfl | (dsimp only; rfl; done) | (exfalso; grind)) (by first | with_reducible rfl | (dsimp only; rfl; done) | (exfalso; grind)) (by first | with_reducible rfl | (dsimp only; rfl; done) | (exfalso; grind))
            · skip
              refine jr_aload d_m_monitor_95 rfl ?_
              refine jr_geti d_m_monitor_97 f_m_157 rfl ?_
              refine jr_if_ne (tgt := 115) d_m_monitor_100 (by decide) (fun c100 => ?_) (fun c100 => ?_)
              · skip
                exfalso; grind
              · skip
                refine jr_aload_n d_m_monitor_103 rfl rfl ?_
                refine jr_aload_n d_m_monitor_104 rfl rfl ?_
                refine jr_aload_n d_m_monitor_105 rfl rfl ?_
                refine jr_bipush (v := 8) d_m_monitor_106 (by decide) ?_
                refine jv_V1rA d_m_monitor_108 l_m_215 k_m_fresh ⟨Nat.le_of_ble_eq_true rfl, Nat.le_of_ble_eq_true rfl⟩ rfl rfl (Nat.le_of_ble_eq_true rfl) ((ct_fail (x := 8) hQ).1) (fun q9 h9 => q_mk_live q9 h9) (by first | decide | exact Nat.zero_le _ | (dsimp only; omega) | (dsimp only; grind) | (omega)) (by first | decide | exact Nat.zero_le _ | (dsimp only; omega) | (dsimp only; grind) | (omega)) ?_
                refine jv_V2v d_m_monitor_111 l_m_219 k_m_flies ⟨Nat.le_of_ble_eq_true rfl, Nat.le_of_ble_eq_true rfl⟩ rfl rfl (Nat.le_of_ble_eq_true rfl) ((ct_fail (x := 8) hQ).2) (by first | decide | exact Nat.zero_le _ | (dsimp only; omega) | (dsimp only; grind) | (omega)) (by first | decide | exact Nat.zero_le _ | (dsimp only; omega) | (dsimp only; grind) | (omega)) ?_
                exact jr_retX (v := none) d_m_monitor_114 (by first | exact Nat.le_refl _ | exact Nat.zero_le _ | (dsimp only; omega) | (omega)) (by first | exact Nat.le_refl _ | exact Nat.zero_le _ | (dsimp only; omega) | (omega)) (by first | with_reducible rfl | (dsimp only; rfl; done) | (exfalso; grind)) (by first | with_reducible rfl | (dsimp only; rfl; done) | (exfalso; grind)) (by first | with_reducible rfl | (dsimp only; rfl; done) | (exfalso; grind)) (by first | with_reducible rfl | (dsimp only; rfl; done) | (exfalso; grind))
        · skip
          exfalso; grind
      · skip
        refine jr_iconst (v := 1) d_m_monitor_57 (by decide) ?_
        refine jr_goto (tgt := 62) d_m_monitor_58 (by decide) ?_
        refine jr_istore d_m_monitor_62 (Nat.le_of_ble_eq_true rfl) ?_
        refine jr_iload_n d_m_monitor_64 rfl rfl ?_
        refine jr_bipush (v := 20) d_m_monitor_65 (by decide) ?_
        refine jr_icmp_ne (tgt := 84) d_m_monitor_67 (by decide) (fun c67 => ?_) (fun c67 => ?_)
        · skip
          refine jr_iload_n d_m_monitor_84 rfl rfl ?_
          refine jr_bipush (v := 21) d_m_monitor_85 (by decide) ?_
          refine jr_icmp_ne (tgt := 115) d_m_monitor_87 (by decide) (fun c87 => ?_) (fun c87 => ?_)
          · skip
            exact absurd ho c87
          · skip
            refine jr_iload d_m_monitor_90 rfl ?_
            refine jr_if_ne (tgt := 103) d_m_monitor_92 (by decide) (fun c92 => ?_) (fun c92 => ?_)
            · skip
              refine jr_aload_n d_m_monitor_103 rfl rfl ?_
              refine jr_aload_n d_m_monitor_104 rfl rfl ?_
              refine jr_aload_n d_m_monitor_105 rfl rfl ?_
              refine jr_bipush (v := 8) d_m_monitor_106 (by decide) ?_
              refine jv_V1rA d_m_monitor_108 l_m_215 k_m_fresh ⟨Nat.le_of_ble_eq_true rfl, Nat.le_of_ble_eq_true rfl⟩ rfl rfl (Nat.le_of_ble_eq_true rfl) ((ct_fail (x := 8) hQ).1) (fun q9 h9 => q_mk_live q9 h9) (by first | decide | exact Nat.zero_le _ | (dsimp only; omega) | (dsimp only; grind) | (omega)) (by first | decide | exact Nat.zero_le _ | (dsimp only; omega) | (dsimp only; grind) | (omega)) ?_
              refine jv_V2v d_m_monitor_111 l_m_219 k_m_flies ⟨Nat.le_of_ble_eq_true rfl, Nat.le_of_ble_eq_true rfl⟩ rfl rfl (Nat.le_of_ble_eq_true rfl) ((ct_fail (x := 8) hQ).2) (by first | decide | exact Nat.zero_le _ | (dsimp only; omega) | (dsimp only; grind) | (omega)) (by first | decide | exact Nat.zero_le _ | (dsimp only; omega) | (dsimp only; grind) | (omega)) ?_
              exact jr_retX (v := none) d_m_monitor_114 (by first | exact Nat.le_refl _ | exact Nat.zero_le _ | (dsimp only; omega) | (omega)) (by first | exact Nat.le_refl _ | exact Nat.zero_le _ | (dsimp only; omega) | (omega)) (by first | with_reducible rfl | (dsimp only; rfl; done) | (exfalso; grind)) (by first | with_reducible rfl | (dsimp only; rfl; done) | (exfalso; grind)) (by first | with_reducible rfl | (dsimp only; rfl; done) | (exfalso; grind)) (by first | with_reducible rfl | (dsimp only; rfl; done) | (exfalso; grind))
            · skip
              refine jr_aload d_m_monitor_95 rfl ?_
              refine jr_geti d_m_monitor_97 f_m_157 rfl ?_
              refine jr_if_ne (tgt := 115) d_m_monitor_100 (by decide) (fun c100 => ?_) (fun c100 => ?_)
              · skip
                exfalso; grind
              · skip
                refine jr_aload_n d_m_monitor_103 rfl rfl ?_
                refine jr_aload_n d_m_monitor_104 rfl rfl ?_
                refine jr_aload_n d_m_monitor_105 rfl rfl ?_
                refine jr_bipush (v := 8) d_m_monitor_106 (by decide) ?_
                refine jv_V1rA d_m_monitor_108 l_m_215 k_m_fresh ⟨Nat.le_of_ble_eq_true rfl, Nat.le_of_ble_eq_true rfl⟩ rfl rfl (Nat.le_of_ble_eq_true rfl) ((ct_fail (x := 8) hQ).1) (fun q9 h9 => q_mk_live q9 h9) (by first | decide | exact Nat.zero_le _ | (dsimp only; omega) | (dsimp only; grind) | (omega)) (by first | decide | exact Nat.zero_le _ | (dsimp only; omega) | (dsimp only; grind) | (omega)) ?_
                refine jv_V2v d_m_monitor_111 l_m_219 k_m_flies ⟨Nat.le_of_ble_eq_true rfl, Nat.le_of_ble_eq_true rfl⟩ rfl rfl (Nat.le_of_ble_eq_true rfl) ((ct_fail (x := 8) hQ).2) (by first | decide | exact Nat.zero_le _ | (dsimp only; omega) | (dsimp only; grind) | (omega)) (by first | decide | exact Nat.zero_le _ | (dsimp only; omega) | (dsimp only; grind) | (omega)) ?_
                exact jr_retX (v := none) d_m_monitor_114 (by first | exact Nat.le_refl _ | exact Nat.zero_le _ | (dsimp only; omega) | (omega)) (by first | exact Nat.le_refl _ | exact Nat.zero_le _ | (dsimp only; omega) | (omega)) (by first | with_reducible rfl | (dsimp only; rfl; done) | (exfalso; grind)) (by first | with_reducible rfl | (dsimp only; rfl; done) | (exfalso; grind)) (by first | with_reducible rfl | (dsimp only; rfl; done) | (exfalso; grind)) (by first | with_reducible rfl | (dsimp only; rfl; done) | (exfalso; grind))
        · skip
          exfalso; grind
  · skip
    exfalso; grind
def q_mon (I : jc_I) (t j k : Nat) (d : Int32) : jc_I := jc_up (jc_up (jc_up (jc_up I (13, k, 0) 3 (I (13, k, 0) 3 + d)) (13, k, 0) 2 (if I (13, k, 0) 3 + d = 0 then -1 else I (14, t, 0) 0)) (12, t, j) 4 (I (12, t, j) 4 - 1)) (12, t, j) 5 (I (12, t, j) 5 + 1)
theorem ct_m_monitor_e {I : jc_I} {O : jc_O} {live : jc_L → Prop} {t b n xt fn m j : Nat} {op : Int32} (hQ : QT I O live t b n xt fn m) (hf : qf O t j) (h1 : 1 ≤ I (12, t, j) 4) (h2 : I (12, t, j) 4 ≤ 12) (hx1 : 1 ≤ q_tp I t j) (hx2 : (q_tp I t j - 1).toNatClampNeg < n) (ho : op = 20) (hh : ¬ (0 < I (13, b + (q_tp I t j - 1).toNatClampNeg, 0) 3 ∧ I (13, b + (q_tp I t j - 1).toNatClampNeg, 0) 2 ≠ I (14, t, 0) 0)) : jc_Ct y_m_monitor [.inr (some (10, 0, 0)), .inr (some (14, t, 0)), .inr (some (12, t, j)), .inl op] I O live (none, q_mon I t j (b + (q_tp I t j - 1).toNatClampNeg) 1, O, live, 0, 0) := by
  obtain ⟨m0, m2, m4, m6, m7⟩ := id hQ.M
  refine jc_Ct.of (by decide +kernel) (rfl) (Nat.le_of_ble_eq_true rfl) ?_
  refine jr_aload_n d_m_monitor_0 rfl rfl ?_
  refine jv_V0r d_m_monitor_1 l_m_213 k_mF_top ⟨Nat.le_of_ble_eq_true rfl, Nat.le_of_ble_eq_true rfl⟩ rfl rfl (Nat.le_of_ble_eq_true rfl) (ct_mF_top hf h1 h2) (by first | decide | exact Nat.zero_le _ | (dsimp only; omega) | (dsimp only; grind)) (by first | decide | exact Nat.zero_le _ | (dsimp only; omega) | (dsimp only; grind)) ?_
  refine jr_if_ne (tgt := 19) d_m_monitor_4 (by decide) (fun c4 => ?_) (fun c4 => ?_)
  · skip
    refine jr_aload_n d_m_monitor_19 rfl rfl ?_
    refine jr_getr d_m_monitor_20 f_m_19 rfl rfl ?_
    first | rw [m4] | skip
    refine jr_aload_n d_m_monitor_23 rfl rfl ?_
    refine jv_V0r d_m_monitor_24 l_m_213 k_mF_top ⟨Nat.le_of_ble_eq_true rfl, Nat.le_of_ble_eq_true rfl⟩ rfl rfl (Nat.le_of_ble_eq_true rfl) (ct_mF_top hf h1 h2) (by first | decide | exact Nat.zero_le _ | (dsimp only; omega) | (dsimp only; grind)) (by first | decide | exact Nat.zero_le _ | (dsimp only; omega) | (dsimp only; grind)) ?_
    refine jr_iconst (v := 1) d_m_monitor_27 (by decide) ?_
    refine jr_isub d_m_monitor_28 ?_
    refine jv_V1r d_m_monitor_29 l_m_126 k_aL_get ⟨Nat.le_of_ble_eq_true rfl, Nat.le_of_ble_eq_true rfl⟩ rfl rfl (Nat.le_of_ble_eq_true rfl) (ct_aL_getq hQ.ob (jex hx1 hx2 (by have := hQ.n3; omega)) hx2) (by first | decide | exact Nat.zero_le _ | (dsimp only; omega) | (dsimp only; grind)) (by first | decide | exact Nat.zero_le _ | (dsimp only; omega) | (dsimp only; grind)) ?_
    first | rw [m4] | skip
    refine jr_cast d_m_monitor_32 c_m_155 rfl ⟨_, rfl, ca_mO_mO⟩ ?_
    refine jr_astore d_m_monitor_35 (Nat.le_of_ble_eq_true rfl) ?_
    refine jr_aload d_m_monitor_37 rfl ?_
    refine jr_geti d_m_monitor_39 f_m_157 rfl ?_
    refine jr_if_le (tgt := 61) d_m_monitor_42 (by decide) (fun c42 => ?_) (fun c42 => ?_)
    · skip
      refine jr_iconst (v := 0) d_m_monitor_61 (by decide) ?_
      refine jr_istore d_m_monitor_62 (Nat.le_of_ble_eq_true rfl) ?_
      refine jr_iload_n d_m_monitor_64 rfl rfl ?_
      refine jr_bipush (v := 20) d_m_monitor_65 (by decide) ?_
      refine jr_icmp_ne (tgt := 84) d_m_monitor_67 (by decide) (fun c67 => ?_) (fun c67 => ?_)
      · skip
        exact absurd ho c67
      · skip
        refine jr_iload d_m_monitor_70 rfl ?_
        refine jr_if_eq (tgt := 84) d_m_monitor_72 (by decide) (fun c72 => ?_) (fun c72 => ?_)
        · skip
          refine jr_iload_n d_m_monitor_84 rfl rfl ?_
          refine jr_bipush (v := 21) d_m_monitor_85 (by decide) ?_
          refine jr_icmp_ne (tgt := 115) d_m_monitor_87 (by decide) (fun c87 => ?_) (fun c87 => ?_)
          · skip
            refine jr_aload d_m_monitor_115 rfl ?_
            refine jr_dup d_m_monitor_117 ?_
            refine jr_geti d_m_monitor_118 f_m_157 rfl ?_
            refine jr_iload_n d_m_monitor_121 rfl rfl ?_
            refine jr_bipush (v := 20) d_m_monitor_122 (by decide) ?_
            refine jr_icmp_ne (tgt := 131) d_m_monitor_124 (by decide) (fun c124 => ?_) (fun c124 => ?_)
            · skip
              exact absurd ho c124
            · skip
              refine jr_iconst (v := 1) d_m_monitor_127 (by decide) ?_
              refine jr_goto (tgt := 132) d_m_monitor_128 (by decide) ?_
              refine jr_iadd d_m_monitor_132 ?_
              refine jr_puti d_m_monitor_133 f_m_157 (Or.inl rfl) rfl ?_
              refine jr_aload d_m_monitor_136 rfl ?_
              refine jr_aload d_m_monitor_138 rfl ?_
              refine jr_geti d_m_monitor_140 f_m_157 rfl ?_
              try simp only [jc_up_s, jc_up_k, jc_up_t, jc_cl_s, jc_cl_t, ne_eq, Nat.reduceEqDiff, not_false_eq_true, Nat.reduceAdd]
              refine jr_if_ne (tgt := 150) d_m_monitor_143 (by decide) (fun c143 => ?_) (fun c143 => ?_)
              · skip
                refine jr_aload_n d_m_monitor_150 rfl rfl ?_
                refine jr_geti d_m_monitor_151 f_m_149 rfl ?_
                try simp only [jc_up_s, jc_up_k, jc_up_t, jc_cl_s, jc_cl_t, ne_eq, Nat.reduceEqDiff, not_false_eq_true, Nat.reduceAdd]
                refine jr_puti d_m_monitor_154 f_m_160 (Or.inl rfl) rfl ?_
                refine jr_aload_n d_m_monitor_157 rfl rfl ?_
                refine jr_dup d_m_monitor_158 ?_
                refine jr_geti d_m_monitor_159 f_m_199 rfl ?_
                try simp only [jc_up_s, jc_up_k, jc_up_t, jc_cl_s, jc_cl_t, ne_eq, Nat.reduceEqDiff, not_false_eq_true, Nat.reduceAdd]
                refine jr_iconst (v := 1) d_m_monitor_162 (by decide) ?_
                refine jr_isub d_m_monitor_163 ?_
                refine jr_puti d_m_monitor_164 f_m_199 (Or.inl rfl) rfl ?_
                refine jr_aload_n d_m_monitor_167 rfl rfl ?_
                refine jr_dup d_m_monitor_168 ?_
                refine jr_geti d_m_monitor_169 f_m_195 rfl ?_
                try simp only [jc_up_s, jc_up_k, jc_up_t, jc_cl_s, jc_cl_t, ne_eq, Nat.reduceEqDiff, not_false_eq_true, Nat.reduceAdd]
                refine jr_iconst (v := 1) d_m_monitor_172 (by decide) ?_
                refine jr_iadd d_m_monitor_173 ?_
                refine jr_puti d_m_monitor_174 f_m_195 (Or.inl rfl) rfl ?_
                exact jr_retX (v := none) d_m_monitor_177 (by first | exact Nat.le_refl _ | exact Nat.zero_le _ | (dsimp only; omega)) (by first | exact Nat.le_refl _ | exact Nat.zero_le _ | (dsimp only; omega)) (by first | with_reducible rfl | (dsimp only; (unfold q_mon; (first | rw [if_pos c143] | rw [if_neg c143])); done) | (exfalso; grind)) (by first | with_reducible rfl | (dsimp only; (unfold q_mon; (first | rw [if_pos c143] | rw [if_neg c143])); done) | (exfalso; grind)) (by first | with_reducible rfl | (dsimp only; (unfold q_mon; (first | rw [if_pos c143] | rw [if_neg c143])); done) | (exfalso; grind)) (by first | with_reducible rfl | (dsimp only; (unfold q_mon; (first | rw [if_pos c143] | rw [if_neg c143])); done) | (exfalso; grind))
              · skip
                refine jr_iconst (v := (-1)) d_m_monitor_146 (by decide) ?_
                refine jr_goto (tgt := 154) d_m_monitor_147 (by decide) ?_
                refine jr_puti d_m_monitor_154 f_m_160 (Or.inl rfl) rfl ?_
                refine jr_aload_n d_m_monitor_157 rfl rfl ?_
                refine jr_dup d_m_monitor_158 ?_
                refine jr_geti d_m_monitor_159 f_m_199 rfl ?_
                try simp only [jc_up_s, jc_up_k, jc_up_t, jc_cl_s, jc_cl_t, ne_eq, Nat.reduceEqDiff, not_false_eq_true, Nat.reduceAdd]
                refine jr_iconst (v := 1) d_m_monitor_162 (by decide) ?_
                refine jr_isub d_m_monitor_163 ?_
                refine jr_puti d_m_monitor_164 f_m_199 (Or.inl rfl) rfl ?_
                refine jr_aload_n d_m_monitor_167 rfl rfl ?_
                refine jr_dup d_m_monitor_168 ?_
                refine jr_geti d_m_monitor_169 f_m_195 rfl ?_
                try simp only [jc_up_s, jc_up_k, jc_up_t, jc_cl_s, jc_cl_t, ne_eq, Nat.reduceEqDiff, not_false_eq_true, Nat.reduceAdd]
                refine jr_iconst (v := 1) d_m_monitor_172 (by decide) ?_
                refine jr_iadd d_m_monitor_173 ?_
                refine jr_puti d_m_monitor_174 f_m_195 (Or.inl rfl) rfl ?_
                exact jr_retX (v := none) d_m_monitor_177 (by first | exact Nat.le_refl _ | exact Nat.zero_le _ | (dsimp only; omega)) (by first | exact Nat.le_refl _ | exact Nat.zero_le _ | (dsimp only; omega)) (by first | with_reducible rfl | (dsimp only; (unfold q_mon; (first | rw [if_pos c143] | rw [if_neg c143])); done) | (exfalso; grind)) (by first | with_reducible rfl | (dsimp only; (unfold q_mon; (first | rw [if_pos c143] | rw [if_neg c143])); done) | (exfalso; grind)) (by first | with_reducible rfl | (dsimp only; (unfold q_mon; (first | rw [if_pos c143] | rw [if_neg c143])); done) | (exfalso; grind)) (by first | with_reducible rfl | (dsimp only; (unfold q_mon; (first | rw [if_pos c143] | rw [if_neg c143])); done) | (exfalso; grind))
          · skip
            exfalso; rw [ho] at c87; exact absurd c87 (by decide)
        · skip
          exfalso; grind
    · skip
      refine jr_aload d_m_monitor_45 rfl ?_
      refine jr_geti d_m_monitor_47 f_m_160 rfl ?_
      refine jr_aload_n d_m_monitor_50 rfl rfl ?_
      refine jr_geti d_m_monitor_51 f_m_149 rfl ?_
      refine jr_icmp_eq (tgt := 61) d_m_monitor_54 (by decide) (fun c54 => ?_) (fun c54 => ?_)
      · skip
        refine jr_iconst (v := 0) d_m_monitor_61 (by decide) ?_
        refine jr_istore d_m_monitor_62 (Nat.le_of_ble_eq_true rfl) ?_
        refine jr_iload_n d_m_monitor_64 rfl rfl ?_
        refine jr_bipush (v := 20) d_m_monitor_65 (by decide) ?_
        refine jr_icmp_ne (tgt := 84) d_m_monitor_67 (by decide) (fun c67 => ?_) (fun c67 => ?_)
        · skip
          exact absurd ho c67
        · skip
          refine jr_iload d_m_monitor_70 rfl ?_
          refine jr_if_eq (tgt := 84) d_m_monitor_72 (by decide) (fun c72 => ?_) (fun c72 => ?_)
          · skip
            refine jr_iload_n d_m_monitor_84 rfl rfl ?_
            refine jr_bipush (v := 21) d_m_monitor_85 (by decide) ?_
            refine jr_icmp_ne (tgt := 115) d_m_monitor_87 (by decide) (fun c87 => ?_) (fun c87 => ?_)
            · skip
              refine jr_aload d_m_monitor_115 rfl ?_
              refine jr_dup d_m_monitor_117 ?_
              refine jr_geti d_m_monitor_118 f_m_157 rfl ?_
              refine jr_iload_n d_m_monitor_121 rfl rfl ?_
              refine jr_bipush (v := 20) d_m_monitor_122 (by decide) ?_
              refine jr_icmp_ne (tgt := 131) d_m_monitor_124 (by decide) (fun c124 => ?_) (fun c124 => ?_)
              · skip
                exact absurd ho c124
              · skip
                refine jr_iconst (v := 1) d_m_monitor_127 (by decide) ?_
                refine jr_goto (tgt := 132) d_m_monitor_128 (by decide) ?_
                refine jr_iadd d_m_monitor_132 ?_
                refine jr_puti d_m_monitor_133 f_m_157 (Or.inl rfl) rfl ?_
                refine jr_aload d_m_monitor_136 rfl ?_
                refine jr_aload d_m_monitor_138 rfl ?_
                refine jr_geti d_m_monitor_140 f_m_157 rfl ?_
                try simp only [jc_up_s, jc_up_k, jc_up_t, jc_cl_s, jc_cl_t, ne_eq, Nat.reduceEqDiff, not_false_eq_true, Nat.reduceAdd]
                refine jr_if_ne (tgt := 150) d_m_monitor_143 (by decide) (fun c143 => ?_) (fun c143 => ?_)
                · skip
                  refine jr_aload_n d_m_monitor_150 rfl rfl ?_
                  refine jr_geti d_m_monitor_151 f_m_149 rfl ?_
                  try simp only [jc_up_s, jc_up_k, jc_up_t, jc_cl_s, jc_cl_t, ne_eq, Nat.reduceEqDiff, not_false_eq_true, Nat.reduceAdd]
                  refine jr_puti d_m_monitor_154 f_m_160 (Or.inl rfl) rfl ?_
                  refine jr_aload_n d_m_monitor_157 rfl rfl ?_
                  refine jr_dup d_m_monitor_158 ?_
                  refine jr_geti d_m_monitor_159 f_m_199 rfl ?_
                  try simp only [jc_up_s, jc_up_k, jc_up_t, jc_cl_s, jc_cl_t, ne_eq, Nat.reduceEqDiff, not_false_eq_true, Nat.reduceAdd]
                  refine jr_iconst (v := 1) d_m_monitor_162 (by decide) ?_
                  refine jr_isub d_m_monitor_163 ?_
                  refine jr_puti d_m_monitor_164 f_m_199 (Or.inl rfl) rfl ?_
                  refine jr_aload_n d_m_monitor_167 rfl rfl ?_
                  refine jr_dup d_m_monitor_168 ?_
                  refine jr_geti d_m_monitor_169 f_m_195 rfl ?_
                  try simp only [jc_up_s, jc_up_k, jc_up_t, jc_cl_s, jc_cl_t, ne_eq, Nat.reduceEqDiff, not_false_eq_true, Nat.reduceAdd]
                  refine jr_iconst (v := 1) d_m_monitor_172 (by decide) ?_
                  refine jr_iadd d_m_monitor_173 ?_
                  refine jr_puti d_m_monitor_174 f_m_195 (Or.inl rfl) rfl ?_
                  exact jr_retX (v := none) d_m_monitor_177 (by first | exact Nat.le_refl _ | exact Nat.zero_le _ | (dsimp only; omega)) (by first | exact Nat.le_refl _ | exact Nat.zero_le _ | (dsimp only; omega)) (by first | with_reducible rfl | (dsimp only; (unfold q_mon; (first | rw [if_pos c143] | rw [if_neg c143])); done) | (exfalso; grind)) (by first | with_reducible rfl | (dsimp only; (unfold q_mon; (first | rw [if_pos c143] | rw [if_neg c143])); done) | (exfalso; grind)) (by first | with_reducible rfl | (dsimp only; (unfold q_mon; (first | rw [if_pos c143] | rw [if_neg c143])); done) | (exfalso; grind)) (by first | with_reducible rfl | (dsimp only; (unfold q_mon; (first | rw [if_pos c143] | rw [if_neg c143])); done) | (exfalso; grind))
                · skip
                  refine jr_iconst (v := (-1)) d_m_monitor_146 (by decide) ?_
                  refine jr_goto (tgt := 154) d_m_monitor_147 (by decide) ?_
                  refine jr_puti d_m_monitor_154 f_m_160 (Or.inl rfl) rfl ?_
                  refine jr_aload_n d_m_monitor_157 rfl rfl ?_
                  refine jr_dup d_m_monitor_158 ?_
                  refine jr_geti d_m_monitor_159 f_m_199 rfl ?_
                  try simp only [jc_up_s, jc_up_k, jc_up_t, jc_cl_s, jc_cl_t, ne_eq, Nat.reduceEqDiff, not_false_eq_true, Nat.reduceAdd]
                  refine jr_iconst (v := 1) d_m_monitor_162 (by decide) ?_
                  refine jr_isub d_m_monitor_163 ?_
                  refine jr_puti d_m_monitor_164 f_m_199 (Or.inl rfl) rfl ?_
                  refine jr_aload_n d_m_monitor_167 rfl rfl ?_
                  refine jr_dup d_m_monitor_168 ?_
                  refine jr_geti d_m_monitor_169 f_m_195 rfl ?_
                  try simp only [jc_up_s, jc_up_k, jc_up_t, jc_cl_s, jc_cl_t, ne_eq, Nat.reduceEqDiff, not_false_eq_true, Nat.reduceAdd]
                  refine jr_iconst (v := 1) d_m_monitor_172 (by decide) ?_
                  refine jr_iadd d_m_monitor_173 ?_
                  refine jr_puti d_m_monitor_174 f_m_195 (Or.inl rfl) rfl ?_
                  exact jr_retX (v := none) d_m_monitor_177 (by first | exact Nat.le_refl _ | exact Nat.zero_le _ | (dsimp only; omega)) (by first | exact Nat.le_refl _ | exact Nat.zero_le _ | (dsimp only; omega)) (by first | with_reducible rfl | (dsimp only; (unfold q_mon; (first | rw [if_pos c143] | rw [if_neg c143])); done) | (exfalso; grind)) (by first | with_reducible rfl | (dsimp only; (unfold q_mon; (first | rw [if_pos c143] | rw [if_neg c143])); done) | (exfalso; grind)) (by first | with_reducible rfl | (dsimp only; (unfold q_mon; (first | rw [if_pos c143] | rw [if_neg c143])); done) | (exfalso; grind)) (by first | with_reducible rfl | (dsimp only; (unfold q_mon; (first | rw [if_pos c143] | rw [if_neg c143])); done) | (exfalso; grind))
            · skip
              exfalso; rw [ho] at c87; exact absurd c87 (by decide)
          · skip
            exfalso; grind
      · skip
        refine jr_iconst (v := 1) d_m_monitor_57 (by decide) ?_
        refine jr_goto (tgt := 62) d_m_monitor_58 (by decide) ?_
        refine jr_istore d_m_monitor_62 (Nat.le_of_ble_eq_true rfl) ?_
        refine jr_iload_n d_m_monitor_64 rfl rfl ?_
        refine jr_bipush (v := 20) d_m_monitor_65 (by decide) ?_
        refine jr_icmp_ne (tgt := 84) d_m_monitor_67 (by decide) (fun c67 => ?_) (fun c67 => ?_)
        · skip
          exact absurd ho c67
        · skip
          refine jr_iload d_m_monitor_70 rfl ?_
          refine jr_if_eq (tgt := 84) d_m_monitor_72 (by decide) (fun c72 => ?_) (fun c72 => ?_)
          · skip
            refine jr_iload_n d_m_monitor_84 rfl rfl ?_
            refine jr_bipush (v := 21) d_m_monitor_85 (by decide) ?_
            refine jr_icmp_ne (tgt := 115) d_m_monitor_87 (by decide) (fun c87 => ?_) (fun c87 => ?_)
            · skip
              refine jr_aload d_m_monitor_115 rfl ?_
              refine jr_dup d_m_monitor_117 ?_
              refine jr_geti d_m_monitor_118 f_m_157 rfl ?_
              refine jr_iload_n d_m_monitor_121 rfl rfl ?_
              refine jr_bipush (v := 20) d_m_monitor_122 (by decide) ?_
              refine jr_icmp_ne (tgt := 131) d_m_monitor_124 (by decide) (fun c124 => ?_) (fun c124 => ?_)
              · skip
                exact absurd ho c124
              · skip
                refine jr_iconst (v := 1) d_m_monitor_127 (by decide) ?_
                refine jr_goto (tgt := 132) d_m_monitor_128 (by decide) ?_
                refine jr_iadd d_m_monitor_132 ?_
                refine jr_puti d_m_monitor_133 f_m_157 (Or.inl rfl) rfl ?_
                refine jr_aload d_m_monitor_136 rfl ?_
                refine jr_aload d_m_monitor_138 rfl ?_
                refine jr_geti d_m_monitor_140 f_m_157 rfl ?_
                try simp only [jc_up_s, jc_up_k, jc_up_t, jc_cl_s, jc_cl_t, ne_eq, Nat.reduceEqDiff, not_false_eq_true, Nat.reduceAdd]
                refine jr_if_ne (tgt := 150) d_m_monitor_143 (by decide) (fun c143 => ?_) (fun c143 => ?_)
                · skip
                  refine jr_aload_n d_m_monitor_150 rfl rfl ?_
                  refine jr_geti d_m_monitor_151 f_m_149 rfl ?_
                  try simp only [jc_up_s, jc_up_k, jc_up_t, jc_cl_s, jc_cl_t, ne_eq, Nat.reduceEqDiff, not_false_eq_true, Nat.reduceAdd]
                  refine jr_puti d_m_monitor_154 f_m_160 (Or.inl rfl) rfl ?_
                  refine jr_aload_n d_m_monitor_157 rfl rfl ?_
                  refine jr_dup d_m_monitor_158 ?_
                  refine jr_geti d_m_monitor_159 f_m_199 rfl ?_
                  try simp only [jc_up_s, jc_up_k, jc_up_t, jc_cl_s, jc_cl_t, ne_eq, Nat.reduceEqDiff, not_false_eq_true, Nat.reduceAdd]
                  refine jr_iconst (v := 1) d_m_monitor_162 (by decide) ?_
                  refine jr_isub d_m_monitor_163 ?_
                  refine jr_puti d_m_monitor_164 f_m_199 (Or.inl rfl) rfl ?_
                  refine jr_aload_n d_m_monitor_167 rfl rfl ?_
                  refine jr_dup d_m_monitor_168 ?_
                  refine jr_geti d_m_monitor_169 f_m_195 rfl ?_
                  try simp only [jc_up_s, jc_up_k, jc_up_t, jc_cl_s, jc_cl_t, ne_eq, Nat.reduceEqDiff, not_false_eq_true, Nat.reduceAdd]
                  refine jr_iconst (v := 1) d_m_monitor_172 (by decide) ?_
                  refine jr_iadd d_m_monitor_173 ?_
                  refine jr_puti d_m_monitor_174 f_m_195 (Or.inl rfl) rfl ?_
                  exact jr_retX (v := none) d_m_monitor_177 (by first | exact Nat.le_refl _ | exact Nat.zero_le _ | (dsimp only; omega)) (by first | exact Nat.le_refl _ | exact Nat.zero_le _ | (dsimp only; omega)) (by first | with_reducible rfl | (dsimp only; (unfold q_mon; (first | rw [if_pos c143] | rw [if_neg c143])); done) | (exfalso; grind)) (by first | with_reducible rfl | (dsimp only; (unfold q_mon; (first | rw [if_pos c143] | rw [if_neg c143])); done) | (exfalso; grind)) (by first | with_reducible rfl | (dsimp only; (unfold q_mon; (first | rw [if_pos c143] | rw [if_neg c143])); done) | (exfalso; grind)) (by first | with_reducible rfl | (dsimp only; (unfold q_mon; (first | rw [if_pos c143] | rw [if_neg c143])); done) | (exfalso; grind))
                · skip
                  refine jr_iconst (v := (-1)) d_m_monitor_146 (by decide) ?_
                  refine jr_goto (tgt := 154) d_m_monitor_147 (by decide) ?_
                  refine jr_puti d_m_monitor_154 f_m_160 (Or.inl rfl) rfl ?_
                  refine jr_aload_n d_m_monitor_157 rfl rfl ?_
                  refine jr_dup d_m_monitor_158 ?_
                  refine jr_geti d_m_monitor_159 f_m_199 rfl ?_
                  try simp only [jc_up_s, jc_up_k, jc_up_t, jc_cl_s, jc_cl_t, ne_eq, Nat.reduceEqDiff, not_false_eq_true, Nat.reduceAdd]
                  refine jr_iconst (v := 1) d_m_monitor_162 (by decide) ?_
                  refine jr_isub d_m_monitor_163 ?_
                  refine jr_puti d_m_monitor_164 f_m_199 (Or.inl rfl) rfl ?_
                  refine jr_aload_n d_m_monitor_167 rfl rfl ?_
                  refine jr_dup d_m_monitor_168 ?_
                  refine jr_geti d_m_monitor_169 f_m_195 rfl ?_
                  try simp only [jc_up_s, jc_up_k, jc_up_t, jc_cl_s, jc_cl_t, ne_eq, Nat.reduceEqDiff, not_false_eq_true, Nat.reduceAdd]
                  refine jr_iconst (v := 1) d_m_monitor_172 (by decide) ?_
                  refine jr_iadd d_m_monitor_173 ?_
                  refine jr_puti d_m_monitor_174 f_m_195 (Or.inl rfl) rfl ?_
                  exact jr_retX (v := none) d_m_monitor_177 (by first | exact Nat.le_refl _ | exact Nat.zero_le _ | (dsimp only; omega)) (by first | exact Nat.le_refl _ | exact Nat.zero_le _ | (dsimp only; omega)) (by first | with_reducible rfl | (dsimp only; (unfold q_mon; (first | rw [if_pos c143] | rw [if_neg c143])); done) | (exfalso; grind)) (by first | with_reducible rfl | (dsimp only; (unfold q_mon; (first | rw [if_pos c143] | rw [if_neg c143])); done) | (exfalso; grind)) (by first | with_reducible rfl | (dsimp only; (unfold q_mon; (first | rw [if_pos c143] | rw [if_neg c143])); done) | (exfalso; grind)) (by first | with_reducible rfl | (dsimp only; (unfold q_mon; (first | rw [if_pos c143] | rw [if_neg c143])); done) | (exfalso; grind))
            · skip
              exfalso; rw [ho] at c87; exact absurd c87 (by decide)
          · skip
            exfalso; grind
  · skip
    exfalso; grind
theorem ct_m_monitor_l {I : jc_I} {O : jc_O} {live : jc_L → Prop} {t b n xt fn m j : Nat} {op : Int32} (hQ : QT I O live t b n xt fn m) (hf : qf O t j) (h1 : 1 ≤ I (12, t, j) 4) (h2 : I (12, t, j) 4 ≤ 12) (hx1 : 1 ≤ q_tp I t j) (hx2 : (q_tp I t j - 1).toNatClampNeg < n) (ho : op = 21) (hh : ¬ (((0 < I (13, b + (q_tp I t j - 1).toNatClampNeg, 0) 3 ∧ I (13, b + (q_tp I t j - 1).toNatClampNeg, 0) 2 ≠ I (14, t, 0) 0)) ∨ I (13, b + (q_tp I t j - 1).toNatClampNeg, 0) 3 = 0)) : jc_Ct y_m_monitor [.inr (some (10, 0, 0)), .inr (some (14, t, 0)), .inr (some (12, t, j)), .inl op] I O live (none, q_mon I t j (b + (q_tp I t j - 1).toNatClampNeg) (-1), O, live, 0, 0) := by
  obtain ⟨m0, m2, m4, m6, m7⟩ := id hQ.M
  refine jc_Ct.of (by decide +kernel) (rfl) (Nat.le_of_ble_eq_true rfl) ?_
  refine jr_aload_n d_m_monitor_0 rfl rfl ?_
  refine jv_V0r d_m_monitor_1 l_m_213 k_mF_top ⟨Nat.le_of_ble_eq_true rfl, Nat.le_of_ble_eq_true rfl⟩ rfl rfl (Nat.le_of_ble_eq_true rfl) (ct_mF_top hf h1 h2) (by first | decide | exact Nat.zero_le _ | (dsimp only; omega) | (dsimp only; grind)) (by first | decide | exact Nat.zero_le _ | (dsimp only; omega) | (dsimp only; grind)) ?_
  refine jr_if_ne (tgt := 19) d_m_monitor_4 (by decide) (fun c4 => ?_) (fun c4 => ?_)
  · skip
    refine jr_aload_n d_m_monitor_19 rfl rfl ?_
    refine jr_getr d_m_monitor_20 f_m_19 rfl rfl ?_
    first | rw [m4] | skip
    refine jr_aload_n d_m_monitor_23 rfl rfl ?_
    refine jv_V0r d_m_monitor_24 l_m_213 k_mF_top ⟨Nat.le_of_ble_eq_true rfl, Nat.le_of_ble_eq_true rfl⟩ rfl rfl (Nat.le_of_ble_eq_true rfl) (ct_mF_top hf h1 h2) (by first | decide | exact Nat.zero_le _ | (dsimp only; omega) | (dsimp only; grind)) (by first | decide | exact Nat.zero_le _ | (dsimp only; omega) | (dsimp only; grind)) ?_
    refine jr_iconst (v := 1) d_m_monitor_27 (by decide) ?_
    refine jr_isub d_m_monitor_28 ?_
    refine jv_V1r d_m_monitor_29 l_m_126 k_aL_get ⟨Nat.le_of_ble_eq_true rfl, Nat.le_of_ble_eq_true rfl⟩ rfl rfl (Nat.le_of_ble_eq_true rfl) (ct_aL_getq hQ.ob (jex hx1 hx2 (by have := hQ.n3; omega)) hx2) (by first | decide | exact Nat.zero_le _ | (dsimp only; omega) | (dsimp only; grind)) (by first | decide | exact Nat.zero_le _ | (dsimp only; omega) | (dsimp only; grind)) ?_
    first | rw [m4] | skip
    refine jr_cast d_m_monitor_32 c_m_155 rfl ⟨_, rfl, ca_mO_mO⟩ ?_
    refine jr_astore d_m_monitor_35 (Nat.le_of_ble_eq_true rfl) ?_
    refine jr_aload d_m_monitor_37 rfl ?_
    refine jr_geti d_m_monitor_39 f_m_157 rfl ?_
    refine jr_if_le (tgt := 61) d_m_monitor_42 (by decide) (fun c42 => ?_) (fun c42 => ?_)
    · skip
      refine jr_iconst (v := 0) d_m_monitor_61 (by decide) ?_
      refine jr_istore d_m_monitor_62 (Nat.le_of_ble_eq_true rfl) ?_
      refine jr_iload_n d_m_monitor_64 rfl rfl ?_
      refine jr_bipush (v := 20) d_m_monitor_65 (by decide) ?_
      refine jr_icmp_ne (tgt := 84) d_m_monitor_67 (by decide) (fun c67 => ?_) (fun c67 => ?_)
      · skip
        refine jr_iload_n d_m_monitor_84 rfl rfl ?_
        refine jr_bipush (v := 21) d_m_monitor_85 (by decide) ?_
        refine jr_icmp_ne (tgt := 115) d_m_monitor_87 (by decide) (fun c87 => ?_) (fun c87 => ?_)
        · skip
          exact absurd ho c87
        · skip
          refine jr_iload d_m_monitor_90 rfl ?_
          refine jr_if_ne (tgt := 103) d_m_monitor_92 (by decide) (fun c92 => ?_) (fun c92 => ?_)
          · skip
            exfalso; grind
          · skip
            refine jr_aload d_m_monitor_95 rfl ?_
            refine jr_geti d_m_monitor_97 f_m_157 rfl ?_
            refine jr_if_ne (tgt := 115) d_m_monitor_100 (by decide) (fun c100 => ?_) (fun c100 => ?_)
            · skip
              refine jr_aload d_m_monitor_115 rfl ?_
              refine jr_dup d_m_monitor_117 ?_
              refine jr_geti d_m_monitor_118 f_m_157 rfl ?_
              refine jr_iload_n d_m_monitor_121 rfl rfl ?_
              refine jr_bipush (v := 20) d_m_monitor_122 (by decide) ?_
              refine jr_icmp_ne (tgt := 131) d_m_monitor_124 (by decide) (fun c124 => ?_) (fun c124 => ?_)
              · skip
                refine jr_iconst (v := (-1)) d_m_monitor_131 (by decide) ?_
                refine jr_iadd d_m_monitor_132 ?_
                refine jr_puti d_m_monitor_133 f_m_157 (Or.inl rfl) rfl ?_
                refine jr_aload d_m_monitor_136 rfl ?_
                refine jr_aload d_m_monitor_138 rfl ?_
                refine jr_geti d_m_monitor_140 f_m_157 rfl ?_
                try simp only [jc_up_s, jc_up_k, jc_up_t, jc_cl_s, jc_cl_t, ne_eq, Nat.reduceEqDiff, not_false_eq_true, Nat.reduceAdd]
                refine jr_if_ne (tgt := 150) d_m_monitor_143 (by decide) (fun c143 => ?_) (fun c143 => ?_)
                · skip
                  refine jr_aload_n d_m_monitor_150 rfl rfl ?_
                  refine jr_geti d_m_monitor_151 f_m_149 rfl ?_
                  try simp only [jc_up_s, jc_up_k, jc_up_t, jc_cl_s, jc_cl_t, ne_eq, Nat.reduceEqDiff, not_false_eq_true, Nat.reduceAdd]
                  refine jr_puti d_m_monitor_154 f_m_160 (Or.inl rfl) rfl ?_
                  refine jr_aload_n d_m_monitor_157 rfl rfl ?_
                  refine jr_dup d_m_monitor_158 ?_
                  refine jr_geti d_m_monitor_159 f_m_199 rfl ?_
                  try simp only [jc_up_s, jc_up_k, jc_up_t, jc_cl_s, jc_cl_t, ne_eq, Nat.reduceEqDiff, not_false_eq_true, Nat.reduceAdd]
                  refine jr_iconst (v := 1) d_m_monitor_162 (by decide) ?_
                  refine jr_isub d_m_monitor_163 ?_
                  refine jr_puti d_m_monitor_164 f_m_199 (Or.inl rfl) rfl ?_
                  refine jr_aload_n d_m_monitor_167 rfl rfl ?_
                  refine jr_dup d_m_monitor_168 ?_
                  refine jr_geti d_m_monitor_169 f_m_195 rfl ?_
                  try simp only [jc_up_s, jc_up_k, jc_up_t, jc_cl_s, jc_cl_t, ne_eq, Nat.reduceEqDiff, not_false_eq_true, Nat.reduceAdd]
                  refine jr_iconst (v := 1) d_m_monitor_172 (by decide) ?_
                  refine jr_iadd d_m_monitor_173 ?_
                  refine jr_puti d_m_monitor_174 f_m_195 (Or.inl rfl) rfl ?_
                  exact jr_retX (v := none) d_m_monitor_177 (by first | exact Nat.le_refl _ | exact Nat.zero_le _ | (dsimp only; omega)) (by first | exact Nat.le_refl _ | exact Nat.zero_le _ | (dsimp only; omega)) (by first | with_reducible rfl | (dsimp only; (unfold q_mon; (first | rw [if_pos c143] | rw [if_neg c143])); done) | (exfalso; grind)) (by first | with_reducible rfl | (dsimp only; (unfold q_mon; (first | rw [if_pos c143] | rw [if_neg c143])); done) | (exfalso; grind)) (by first | with_reducible rfl | (dsimp only; (unfold q_mon; (first | rw [if_pos c143] | rw [if_neg c143])); done) | (exfalso; grind)) (by first | with_reducible rfl | (dsimp only; (unfold q_mon; (first | rw [if_pos c143] | rw [if_neg c143])); done) | (exfalso; grind))
                · skip
                  refine jr_iconst (v := (-1)) d_m_monitor_146 (by decide) ?_
                  refine jr_goto (tgt := 154) d_m_monitor_147 (by decide) ?_
                  refine jr_puti d_m_monitor_154 f_m_160 (Or.inl rfl) rfl ?_
                  refine jr_aload_n d_m_monitor_157 rfl rfl ?_
                  refine jr_dup d_m_monitor_158 ?_
                  refine jr_geti d_m_monitor_159 f_m_199 rfl ?_
                  try simp only [jc_up_s, jc_up_k, jc_up_t, jc_cl_s, jc_cl_t, ne_eq, Nat.reduceEqDiff, not_false_eq_true, Nat.reduceAdd]
                  refine jr_iconst (v := 1) d_m_monitor_162 (by decide) ?_
                  refine jr_isub d_m_monitor_163 ?_
                  refine jr_puti d_m_monitor_164 f_m_199 (Or.inl rfl) rfl ?_
                  refine jr_aload_n d_m_monitor_167 rfl rfl ?_
                  refine jr_dup d_m_monitor_168 ?_
                  refine jr_geti d_m_monitor_169 f_m_195 rfl ?_
                  try simp only [jc_up_s, jc_up_k, jc_up_t, jc_cl_s, jc_cl_t, ne_eq, Nat.reduceEqDiff, not_false_eq_true, Nat.reduceAdd]
                  refine jr_iconst (v := 1) d_m_monitor_172 (by decide) ?_
                  refine jr_iadd d_m_monitor_173 ?_
                  refine jr_puti d_m_monitor_174 f_m_195 (Or.inl rfl) rfl ?_
                  exact jr_retX (v := none) d_m_monitor_177 (by first | exact Nat.le_refl _ | exact Nat.zero_le _ | (dsimp only; omega)) (by first | exact Nat.le_refl _ | exact Nat.zero_le _ | (dsimp only; omega)) (by first | with_reducible rfl | (dsimp only; (unfold q_mon; (first | rw [if_pos c143] | rw [if_neg c143])); done) | (exfalso; grind)) (by first | with_reducible rfl | (dsimp only; (unfold q_mon; (first | rw [if_pos c143] | rw [if_neg c143])); done) | (exfalso; grind)) (by first | with_reducible rfl | (dsimp only; (unfold q_mon; (first | rw [if_pos c143] | rw [if_neg c143])); done) | (exfalso; grind)) (by first | with_reducible rfl | (dsimp only; (unfold q_mon; (first | rw [if_pos c143] | rw [if_neg c143])); done) | (exfalso; grind))
              · skip
                exfalso; rw [ho] at c124; exact absurd c124 (by decide)
            · skip
              exfalso; grind
      · skip
        exfalso; rw [ho] at c67; exact absurd c67 (by decide)
    · skip
      refine jr_aload d_m_monitor_45 rfl ?_
      refine jr_geti d_m_monitor_47 f_m_160 rfl ?_
      refine jr_aload_n d_m_monitor_50 rfl rfl ?_
      refine jr_geti d_m_monitor_51 f_m_149 rfl ?_
      refine jr_icmp_eq (tgt := 61) d_m_monitor_54 (by decide) (fun c54 => ?_) (fun c54 => ?_)
      · skip
        refine jr_iconst (v := 0) d_m_monitor_61 (by decide) ?_
        refine jr_istore d_m_monitor_62 (Nat.le_of_ble_eq_true rfl) ?_
        refine jr_iload_n d_m_monitor_64 rfl rfl ?_
        refine jr_bipush (v := 20) d_m_monitor_65 (by decide) ?_
        refine jr_icmp_ne (tgt := 84) d_m_monitor_67 (by decide) (fun c67 => ?_) (fun c67 => ?_)
        · skip
          refine jr_iload_n d_m_monitor_84 rfl rfl ?_
          refine jr_bipush (v := 21) d_m_monitor_85 (by decide) ?_
          refine jr_icmp_ne (tgt := 115) d_m_monitor_87 (by decide) (fun c87 => ?_) (fun c87 => ?_)
          · skip
            exact absurd ho c87
          · skip
            refine jr_iload d_m_monitor_90 rfl ?_
            refine jr_if_ne (tgt := 103) d_m_monitor_92 (by decide) (fun c92 => ?_) (fun c92 => ?_)
            · skip
              exfalso; grind
            · skip
              refine jr_aload d_m_monitor_95 rfl ?_
              refine jr_geti d_m_monitor_97 f_m_157 rfl ?_
              refine jr_if_ne (tgt := 115) d_m_monitor_100 (by decide) (fun c100 => ?_) (fun c100 => ?_)
              · skip
                refine jr_aload d_m_monitor_115 rfl ?_
                refine jr_dup d_m_monitor_117 ?_
                refine jr_geti d_m_monitor_118 f_m_157 rfl ?_
                refine jr_iload_n d_m_monitor_121 rfl rfl ?_
                refine jr_bipush (v := 20) d_m_monitor_122 (by decide) ?_
                refine jr_icmp_ne (tgt := 131) d_m_monitor_124 (by decide) (fun c124 => ?_) (fun c124 => ?_)
                · skip
                  refine jr_iconst (v := (-1)) d_m_monitor_131 (by decide) ?_
                  refine jr_iadd d_m_monitor_132 ?_
                  refine jr_puti d_m_monitor_133 f_m_157 (Or.inl rfl) rfl ?_
                  refine jr_aload d_m_monitor_136 rfl ?_
                  refine jr_aload d_m_monitor_138 rfl ?_
                  refine jr_geti d_m_monitor_140 f_m_157 rfl ?_
                  try simp only [jc_up_s, jc_up_k, jc_up_t, jc_cl_s, jc_cl_t, ne_eq, Nat.reduceEqDiff, not_false_eq_true, Nat.reduceAdd]
                  refine jr_if_ne (tgt := 150) d_m_monitor_143 (by decide) (fun c143 => ?_) (fun c143 => ?_)
                  · skip
                    refine jr_aload_n d_m_monitor_150 rfl rfl ?_
                    refine jr_geti d_m_monitor_151 f_m_149 rfl ?_
                    try simp only [jc_up_s, jc_up_k, jc_up_t, jc_cl_s, jc_cl_t, ne_eq, Nat.reduceEqDiff, not_false_eq_true, Nat.reduceAdd]
                    refine jr_puti d_m_monitor_154 f_m_160 (Or.inl rfl) rfl ?_
                    refine jr_aload_n d_m_monitor_157 rfl rfl ?_
                    refine jr_dup d_m_monitor_158 ?_
                    refine jr_geti d_m_monitor_159 f_m_199 rfl ?_
                    try simp only [jc_up_s, jc_up_k, jc_up_t, jc_cl_s, jc_cl_t, ne_eq, Nat.reduceEqDiff, not_false_eq_true, Nat.reduceAdd]
                    refine jr_iconst (v := 1) d_m_monitor_162 (by decide) ?_
                    refine jr_isub d_m_monitor_163 ?_
                    refine jr_puti d_m_monitor_164 f_m_199 (Or.inl rfl) rfl ?_
                    refine jr_aload_n d_m_monitor_167 rfl rfl ?_
                    refine jr_dup d_m_monitor_168 ?_
                    refine jr_geti d_m_monitor_169 f_m_195 rfl ?_
                    try simp only [jc_up_s, jc_up_k, jc_up_t, jc_cl_s, jc_cl_t, ne_eq, Nat.reduceEqDiff, not_false_eq_true, Nat.reduceAdd]
                    refine jr_iconst (v := 1) d_m_monitor_172 (by decide) ?_
                    refine jr_iadd d_m_monitor_173 ?_
                    refine jr_puti d_m_monitor_174 f_m_195 (Or.inl rfl) rfl ?_
                    exact jr_retX (v := none) d_m_monitor_177 (by first | exact Nat.le_refl _ | exact Nat.zero_le _ | (dsimp only; omega)) (by first | exact Nat.le_refl _ | exact Nat.zero_le _ | (dsimp only; omega)) (by first | with_reducible rfl | (dsimp only; (unfold q_mon; (first | rw [if_pos c143] | rw [if_neg c143])); done) | (exfalso; grind)) (by first | with_reducible rfl | (dsimp only; (unfold q_mon; (first | rw [if_pos c143] | rw [if_neg c143])); done) | (exfalso; grind)) (by first | with_reducible rfl | (dsimp only; (unfold q_mon; (first | rw [if_pos c143] | rw [if_neg c143])); done) | (exfalso; grind)) (by first | with_reducible rfl | (dsimp only; (unfold q_mon; (first | rw [if_pos c143] | rw [if_neg c143])); done) | (exfalso; grind))
                  · skip
                    refine jr_iconst (v := (-1)) d_m_monitor_146 (by decide) ?_
                    refine jr_goto (tgt := 154) d_m_monitor_147 (by decide) ?_
                    refine jr_puti d_m_monitor_154 f_m_160 (Or.inl rfl) rfl ?_
                    refine jr_aload_n d_m_monitor_157 rfl rfl ?_
                    refine jr_dup d_m_monitor_158 ?_
                    refine jr_geti d_m_monitor_159 f_m_199 rfl ?_
                    try simp only [jc_up_s, jc_up_k, jc_up_t, jc_cl_s, jc_cl_t, ne_eq, Nat.reduceEqDiff, not_false_eq_true, Nat.reduceAdd]
                    refine jr_iconst (v := 1) d_m_monitor_162 (by decide) ?_
                    refine jr_isub d_m_monitor_163 ?_
                    refine jr_puti d_m_monitor_164 f_m_199 (Or.inl rfl) rfl ?_
                    refine jr_aload_n d_m_monitor_167 rfl rfl ?_
                    refine jr_dup d_m_monitor_168 ?_
                    refine jr_geti d_m_monitor_169 f_m_195 rfl ?_
                    try simp only [jc_up_s, jc_up_k, jc_up_t, jc_cl_s, jc_cl_t, ne_eq, Nat.reduceEqDiff, not_false_eq_true, Nat.reduceAdd]
                    refine jr_iconst (v := 1) d_m_monitor_172 (by decide) ?_
                    refine jr_iadd d_m_monitor_173 ?_
                    refine jr_puti d_m_monitor_174 f_m_195 (Or.inl rfl) rfl ?_
                    exact jr_retX (v := none) d_m_monitor_177 (by first | exact Nat.le_refl _ | exact Nat.zero_le _ | (dsimp only; omega)) (by first | exact Nat.le_refl _ | exact Nat.zero_le _ | (dsimp only; omega)) (by first | with_reducible rfl | (dsimp only; (unfold q_mon; (first | rw [if_pos c143] | rw [if_neg c143])); done) | (exfalso; grind)) (by first | with_reducible rfl | (dsimp only; (unfold q_mon; (first | rw [if_pos c143] | rw [if_neg c143])); done) | (exfalso; grind)) (by first | with_reducible rfl | (dsimp only; (unfold q_mon; (first | rw [if_pos c143] | rw [if_neg c143])); done) | (exfalso; grind)) (by first | with_reducible rfl | (dsimp only; (unfold q_mon; (first | rw [if_pos c143] | rw [if_neg c143])); done) | (exfalso; grind))
                · skip
                  exfalso; rw [ho] at c124; exact absurd c124 (by decide)
              · skip
                exfalso; grind
        · skip
          exfalso; rw [ho] at c67; exact absurd c67 (by decide)
      · skip
        refine jr_iconst (v := 1) d_m_monitor_57 (by decide) ?_
        refine jr_goto (tgt := 62) d_m_monitor_58 (by decide) ?_
        refine jr_istore d_m_monitor_62 (Nat.le_of_ble_eq_true rfl) ?_
        refine jr_iload_n d_m_monitor_64 rfl rfl ?_
        refine jr_bipush (v := 20) d_m_monitor_65 (by decide) ?_
        refine jr_icmp_ne (tgt := 84) d_m_monitor_67 (by decide) (fun c67 => ?_) (fun c67 => ?_)
        · skip
          refine jr_iload_n d_m_monitor_84 rfl rfl ?_
          refine jr_bipush (v := 21) d_m_monitor_85 (by decide) ?_
          refine jr_icmp_ne (tgt := 115) d_m_monitor_87 (by decide) (fun c87 => ?_) (fun c87 => ?_)
          · skip
            exact absurd ho c87
          · skip
            refine jr_iload d_m_monitor_90 rfl ?_
            refine jr_if_ne (tgt := 103) d_m_monitor_92 (by decide) (fun c92 => ?_) (fun c92 => ?_)
            · skip
              exfalso; grind
            · skip
              refine jr_aload d_m_monitor_95 rfl ?_
              refine jr_geti d_m_monitor_97 f_m_157 rfl ?_
              refine jr_if_ne (tgt := 115) d_m_monitor_100 (by decide) (fun c100 => ?_) (fun c100 => ?_)
              · skip
                refine jr_aload d_m_monitor_115 rfl ?_
                refine jr_dup d_m_monitor_117 ?_
                refine jr_geti d_m_monitor_118 f_m_157 rfl ?_
                refine jr_iload_n d_m_monitor_121 rfl rfl ?_
                refine jr_bipush (v := 20) d_m_monitor_122 (by decide) ?_
                refine jr_icmp_ne (tgt := 131) d_m_monitor_124 (by decide) (fun c124 => ?_) (fun c124 => ?_)
                · skip
                  refine jr_iconst (v := (-1)) d_m_monitor_131 (by decide) ?_
                  refine jr_iadd d_m_monitor_132 ?_
                  refine jr_puti d_m_monitor_133 f_m_157 (Or.inl rfl) rfl ?_
                  refine jr_aload d_m_monitor_136 rfl ?_
                  refine jr_aload d_m_monitor_138 rfl ?_
                  refine jr_geti d_m_monitor_140 f_m_157 rfl ?_
                  try simp only [jc_up_s, jc_up_k, jc_up_t, jc_cl_s, jc_cl_t, ne_eq, Nat.reduceEqDiff, not_false_eq_true, Nat.reduceAdd]
                  refine jr_if_ne (tgt := 150) d_m_monitor_143 (by decide) (fun c143 => ?_) (fun c143 => ?_)
                  · skip
                    refine jr_aload_n d_m_monitor_150 rfl rfl ?_
                    refine jr_geti d_m_monitor_151 f_m_149 rfl ?_
                    try simp only [jc_up_s, jc_up_k, jc_up_t, jc_cl_s, jc_cl_t, ne_eq, Nat.reduceEqDiff, not_false_eq_true, Nat.reduceAdd]
                    refine jr_puti d_m_monitor_154 f_m_160 (Or.inl rfl) rfl ?_
                    refine jr_aload_n d_m_monitor_157 rfl rfl ?_
                    refine jr_dup d_m_monitor_158 ?_
                    refine jr_geti d_m_monitor_159 f_m_199 rfl ?_
                    try simp only [jc_up_s, jc_up_k, jc_up_t, jc_cl_s, jc_cl_t, ne_eq, Nat.reduceEqDiff, not_false_eq_true, Nat.reduceAdd]
                    refine jr_iconst (v := 1) d_m_monitor_162 (by decide) ?_
                    refine jr_isub d_m_monitor_163 ?_
                    refine jr_puti d_m_monitor_164 f_m_199 (Or.inl rfl) rfl ?_
                    refine jr_aload_n d_m_monitor_167 rfl rfl ?_
                    refine jr_dup d_m_monitor_168 ?_
                    refine jr_geti d_m_monitor_169 f_m_195 rfl ?_
                    try simp only [jc_up_s, jc_up_k, jc_up_t, jc_cl_s, jc_cl_t, ne_eq, Nat.reduceEqDiff, not_false_eq_true, Nat.reduceAdd]
                    refine jr_iconst (v := 1) d_m_monitor_172 (by decide) ?_
                    refine jr_iadd d_m_monitor_173 ?_
                    refine jr_puti d_m_monitor_174 f_m_195 (Or.inl rfl) rfl ?_
                    exact jr_retX (v := none) d_m_monitor_177 (by first | exact Nat.le_refl _ | exact Nat.zero_le _ | (dsimp only; omega)) (by first | exact Nat.le_refl _ | exact Nat.zero_le _ | (dsimp only; omega)) (by first | with_reducible rfl | (dsimp only; (unfold q_mon; (first | rw [if_pos c143] | rw [if_neg c143])); done) | (exfalso; grind)) (by first | with_reducible rfl | (dsimp only; (unfold q_mon; (first | rw [if_pos c143] | rw [if_neg c143])); done) | (exfalso; grind)) (by first | with_reducible rfl | (dsimp only; (unfold q_mon; (first | rw [if_pos c143] | rw [if_neg c143])); done) | (exfalso; grind)) (by first | with_reducible rfl | (dsimp only; (unfold q_mon; (first | rw [if_pos c143] | rw [if_neg c143])); done) | (exfalso; grind))
                  · skip
                    refine jr_iconst (v := (-1)) d_m_monitor_146 (by decide) ?_
                    refine jr_goto (tgt := 154) d_m_monitor_147 (by decide) ?_
                    refine jr_puti d_m_monitor_154 f_m_160 (Or.inl rfl) rfl ?_
                    refine jr_aload_n d_m_monitor_157 rfl rfl ?_
                    refine jr_dup d_m_monitor_158 ?_
                    refine jr_geti d_m_monitor_159 f_m_199 rfl ?_
                    try simp only [jc_up_s, jc_up_k, jc_up_t, jc_cl_s, jc_cl_t, ne_eq, Nat.reduceEqDiff, not_false_eq_true, Nat.reduceAdd]
                    refine jr_iconst (v := 1) d_m_monitor_162 (by decide) ?_
                    refine jr_isub d_m_monitor_163 ?_
                    refine jr_puti d_m_monitor_164 f_m_199 (Or.inl rfl) rfl ?_
                    refine jr_aload_n d_m_monitor_167 rfl rfl ?_
                    refine jr_dup d_m_monitor_168 ?_
                    refine jr_geti d_m_monitor_169 f_m_195 rfl ?_
                    try simp only [jc_up_s, jc_up_k, jc_up_t, jc_cl_s, jc_cl_t, ne_eq, Nat.reduceEqDiff, not_false_eq_true, Nat.reduceAdd]
                    refine jr_iconst (v := 1) d_m_monitor_172 (by decide) ?_
                    refine jr_iadd d_m_monitor_173 ?_
                    refine jr_puti d_m_monitor_174 f_m_195 (Or.inl rfl) rfl ?_
                    exact jr_retX (v := none) d_m_monitor_177 (by first | exact Nat.le_refl _ | exact Nat.zero_le _ | (dsimp only; omega)) (by first | exact Nat.le_refl _ | exact Nat.zero_le _ | (dsimp only; omega)) (by first | with_reducible rfl | (dsimp only; (unfold q_mon; (first | rw [if_pos c143] | rw [if_neg c143])); done) | (exfalso; grind)) (by first | with_reducible rfl | (dsimp only; (unfold q_mon; (first | rw [if_pos c143] | rw [if_neg c143])); done) | (exfalso; grind)) (by first | with_reducible rfl | (dsimp only; (unfold q_mon; (first | rw [if_pos c143] | rw [if_neg c143])); done) | (exfalso; grind)) (by first | with_reducible rfl | (dsimp only; (unfold q_mon; (first | rw [if_pos c143] | rw [if_neg c143])); done) | (exfalso; grind))
                · skip
                  exfalso; rw [ho] at c124; exact absurd c124 (by decide)
              · skip
                exfalso; grind
        · skip
          exfalso; rw [ho] at c67; exact absurd c67 (by decide)
  · skip
    exfalso; grind
