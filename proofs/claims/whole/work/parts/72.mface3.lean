theorem ct_m_thread_n {I : jc_I} {O : jc_O} {live : jc_L → Prop} {x : Int32} (hM : qM O) (hx : ¬ (0 ≤ x ∧ x < I (15, 0, 0) 1)) : jc_Ct y_m_thread [.inr (some (10, 0, 0)), .inl x] I O live (some (.inl (-14)), I, O, live, 0, 0) := by
  obtain ⟨m0, m2, m4, m6, m7⟩ := id hM
  refine jc_Ct.of (by decide +kernel) (Or.inl rfl) (Nat.le_of_ble_eq_true rfl) ?_
  refine jr_aload_n d_m_thread_0 rfl rfl ?_
  refine jr_iload_n d_m_thread_1 rfl rfl ?_
  refine jv_V1r d_m_thread_2 l_m_123 k_m_isCode ⟨Nat.le_of_ble_eq_true rfl, Nat.le_of_ble_eq_true rfl⟩ rfl rfl (Nat.le_of_ble_eq_true rfl) (ct_m_isCode m0) (by first | decide | exact Nat.zero_le _ | (dsimp only; omega) | (dsimp only; grind)) (by first | decide | exact Nat.zero_le _ | (dsimp only; omega) | (dsimp only; grind)) ?_
  refine jr_if_ne (tgt := 11) d_m_thread_5 (by decide) (fun c5 => ?_) (fun c5 => ?_)
  · skip
    exfalso; clear hM; grind
  · skip
    refine jr_bipush (v := (-14)) d_m_thread_8 (by decide) ?_
    exact jr_retX (v := some _) d_m_thread_10 (by first | exact Nat.le_refl _ | exact Nat.zero_le _ | (dsimp only; omega)) (by first | exact Nat.le_refl _ | exact Nat.zero_le _ | (dsimp only; omega)) (by first | with_reducible rfl | (dsimp only; rfl; done) | (rfl; done) | (exfalso; grind)) (by first | with_reducible rfl | (dsimp only; rfl; done) | (rfl; done) | (exfalso; grind)) (by first | with_reducible rfl | (dsimp only; rfl; done) | (rfl; done) | (exfalso; grind)) (by first | with_reducible rfl | (dsimp only; rfl; done) | (rfl; done) | (exfalso; grind))
theorem ct_m_thread_p {I : jc_I} {O : jc_O} {live : jc_L → Prop} {x : Int32} {cn d : Nat} (hM : qM O) (hb : 0 ≤ x ∧ x < I (15, 0, 0) 1) (hl : ql I O live 0 cn qCo) (hx : x = Int32.ofNat d) (hd : d < cn) (hp : 0 < I (11, d, 0) 0) : jc_Ct y_m_thread [.inr (some (10, 0, 0)), .inl x] I O live (some (.inl (-1)), I, O, live, 0, 0) := by
  obtain ⟨m0, m2, m4, m6, m7⟩ := id hM
  refine jc_Ct.of (by decide +kernel) (Or.inl rfl) (Nat.le_of_ble_eq_true rfl) ?_
  refine jr_aload_n d_m_thread_0 rfl rfl ?_
  refine jr_iload_n d_m_thread_1 rfl rfl ?_
  refine jv_V1r d_m_thread_2 l_m_123 k_m_isCode ⟨Nat.le_of_ble_eq_true rfl, Nat.le_of_ble_eq_true rfl⟩ rfl rfl (Nat.le_of_ble_eq_true rfl) (ct_m_isCode m0) (by first | decide | exact Nat.zero_le _ | (dsimp only; omega) | (dsimp only; grind)) (by first | decide | exact Nat.zero_le _ | (dsimp only; omega) | (dsimp only; grind)) ?_
  refine jr_if_ne (tgt := 11) d_m_thread_5 (by decide) (fun c5 => ?_) (fun c5 => ?_)
  · skip
    refine jr_aload_n d_m_thread_11 rfl rfl ?_
    refine jr_getr d_m_thread_12 f_m_10 rfl rfl ?_
    first | rw [m0] | skip
    refine jr_iload_n d_m_thread_15 rfl rfl ?_
    refine jv_V1r d_m_thread_16 l_m_126 k_aL_get ⟨Nat.le_of_ble_eq_true rfl, Nat.le_of_ble_eq_true rfl⟩ rfl rfl (Nat.le_of_ble_eq_true rfl) (ct_aL_getq hl hx hd) (by first | decide | exact Nat.zero_le _ | (dsimp only; omega) | (dsimp only; grind)) (by first | decide | exact Nat.zero_le _ | (dsimp only; omega) | (dsimp only; grind)) ?_
    first | rw [m0] | skip
    refine jr_cast d_m_thread_19 c_m_37 rfl ⟨_, rfl, ca_mC_mC⟩ ?_
    refine jr_geti d_m_thread_22 f_m_87 rfl ?_
    refine jr_if_gt (tgt := 36) d_m_thread_25 (by decide) (fun c25 => ?_) (fun c25 => ?_)
    · skip
      refine jr_iconst (v := (-1)) d_m_thread_36 (by decide) ?_
      exact jr_retX (v := some _) d_m_thread_37 (by first | exact Nat.le_refl _ | exact Nat.zero_le _ | (dsimp only; omega)) (by first | exact Nat.le_refl _ | exact Nat.zero_le _ | (dsimp only; omega)) (by first | with_reducible rfl | (dsimp only; rfl; done) | (rfl; done) | (exfalso; grind)) (by first | with_reducible rfl | (dsimp only; rfl; done) | (rfl; done) | (exfalso; grind)) (by first | with_reducible rfl | (dsimp only; rfl; done) | (rfl; done) | (exfalso; grind)) (by first | with_reducible rfl | (dsimp only; rfl; done) | (rfl; done) | (exfalso; grind))
    · skip
      exact absurd hp c25
  · skip
    exfalso; clear hM hl; grind
theorem ct_m_thread_b {I : jc_I} {O : jc_O} {live : jc_L → Prop} {x v : Int32} {cn d z : Nat} {K : jc_I} (hM : qM O) (hb : 0 ≤ x ∧ x < I (15, 0, 0) 1) (hl : ql I O live 0 cn qCo) (hx : x = Int32.ofNat d) (hd : d < cn) (hp : ¬ 0 < I (11, d, 0) 0) (hG : jc_Ct y_m_isAllGood [.inr (some (10, 0, 0)), .inl x] I O live (some (.inl v), K, (jc_cl O (52, z, 0) none), (jadd (52, z, 0) live), 1, 40)) (hv : v = 0) : jc_Ct y_m_thread [.inr (some (10, 0, 0)), .inl x] I O live (some (.inl (-1)), K, (jc_cl O (52, z, 0) none), (jadd (52, z, 0) live), 1, 40) := by
  obtain ⟨m0, m2, m4, m6, m7⟩ := id hM
  refine jc_Ct.of (by decide +kernel) (Or.inl rfl) (Nat.le_of_ble_eq_true rfl) ?_
  refine jr_aload_n d_m_thread_0 rfl rfl ?_
  refine jr_iload_n d_m_thread_1 rfl rfl ?_
  refine jv_V1r d_m_thread_2 l_m_123 k_m_isCode ⟨Nat.le_of_ble_eq_true rfl, Nat.le_of_ble_eq_true rfl⟩ rfl rfl (Nat.le_of_ble_eq_true rfl) (ct_m_isCode m0) (by first | decide | exact Nat.zero_le _ | (dsimp only; omega) | (dsimp only; grind)) (by first | decide | exact Nat.zero_le _ | (dsimp only; omega) | (dsimp only; grind)) ?_
  refine jr_if_ne (tgt := 11) d_m_thread_5 (by decide) (fun c5 => ?_) (fun c5 => ?_)
  · skip
    refine jr_aload_n d_m_thread_11 rfl rfl ?_
    refine jr_getr d_m_thread_12 f_m_10 rfl rfl ?_
    first | rw [m0] | skip
    refine jr_iload_n d_m_thread_15 rfl rfl ?_
    refine jv_V1r d_m_thread_16 l_m_126 k_aL_get ⟨Nat.le_of_ble_eq_true rfl, Nat.le_of_ble_eq_true rfl⟩ rfl rfl (Nat.le_of_ble_eq_true rfl) (ct_aL_getq hl hx hd) (by first | decide | exact Nat.zero_le _ | (dsimp only; omega) | (dsimp only; grind)) (by first | decide | exact Nat.zero_le _ | (dsimp only; omega) | (dsimp only; grind)) ?_
    first | rw [m0] | skip
    refine jr_cast d_m_thread_19 c_m_37 rfl ⟨_, rfl, ca_mC_mC⟩ ?_
    refine jr_geti d_m_thread_22 f_m_87 rfl ?_
    refine jr_if_gt (tgt := 36) d_m_thread_25 (by decide) (fun c25 => ?_) (fun c25 => ?_)
    · skip
      exact absurd c25 hp
    · skip
      refine jr_aload_n d_m_thread_28 rfl rfl ?_
      refine jr_iload_n d_m_thread_29 rfl rfl ?_
      refine jv_V1rA d_m_thread_30 l_m_134 k_m_isAllGood ⟨Nat.le_of_ble_eq_true rfl, Nat.le_of_ble_eq_true rfl⟩ rfl rfl (Nat.le_of_ble_eq_true rfl) (hG) (fun q9 h9 => Or.inr h9) (by first | decide | exact Nat.zero_le _ | (dsimp only; omega) | (dsimp only; grind)) (by first | decide | exact Nat.zero_le _ | (dsimp only; omega) | (dsimp only; grind)) ?_
      refine jr_if_ne (tgt := 38) d_m_thread_33 (by decide) (fun c33 => ?_) (fun c33 => ?_)
      · skip
        exact absurd hv c33
      · skip
        refine jr_iconst (v := (-1)) d_m_thread_36 (by decide) ?_
        exact jr_retX (v := some _) d_m_thread_37 (by first | exact Nat.le_refl _ | exact Nat.zero_le _ | (dsimp only; omega)) (by first | exact Nat.le_refl _ | exact Nat.zero_le _ | (dsimp only; omega)) (by first | with_reducible rfl | (dsimp only; rfl; done) | (rfl; done) | (exfalso; grind)) (by first | with_reducible rfl | (dsimp only; rfl; done) | (rfl; done) | (exfalso; grind)) (by first | with_reducible rfl | (dsimp only; rfl; done) | (rfl; done) | (exfalso; grind)) (by first | with_reducible rfl | (dsimp only; rfl; done) | (rfl; done) | (exfalso; grind))
  · skip
    exfalso; clear hM hl; grind
theorem ct_m_thread_f {I : jc_I} {O : jc_O} {live : jc_L → Prop} {x v : Int32} {cn d z : Nat} {K : jc_I} (hM : qM O) (hb : 0 ≤ x ∧ x < I (15, 0, 0) 1) (hl : ql I O live 0 cn qCo) (hx : x = Int32.ofNat d) (hd : d < cn) (hp : ¬ 0 < I (11, d, 0) 0) (hG : jc_Ct y_m_isAllGood [.inr (some (10, 0, 0)), .inl x] I O live (some (.inl v), K, (jc_cl O (52, z, 0) none), (jadd (52, z, 0) live), 1, 40)) (hv : ¬ v = 0) (h8 : K (10, 0, 0) 3 = 8) : jc_Ct y_m_thread [.inr (some (10, 0, 0)), .inl x] I O live (some (.inl (-12)), K, (jc_cl O (52, z, 0) none), (jadd (52, z, 0) live), 1, 40) := by
  obtain ⟨m0, m2, m4, m6, m7⟩ := id hM
  refine jc_Ct.of (by decide +kernel) (Or.inl rfl) (Nat.le_of_ble_eq_true rfl) ?_
  refine jr_aload_n d_m_thread_0 rfl rfl ?_
  refine jr_iload_n d_m_thread_1 rfl rfl ?_
  refine jv_V1r d_m_thread_2 l_m_123 k_m_isCode ⟨Nat.le_of_ble_eq_true rfl, Nat.le_of_ble_eq_true rfl⟩ rfl rfl (Nat.le_of_ble_eq_true rfl) (ct_m_isCode m0) (by first | decide | exact Nat.zero_le _ | (dsimp only; omega) | (dsimp only; grind)) (by first | decide | exact Nat.zero_le _ | (dsimp only; omega) | (dsimp only; grind)) ?_
  refine jr_if_ne (tgt := 11) d_m_thread_5 (by decide) (fun c5 => ?_) (fun c5 => ?_)
  · skip
    refine jr_aload_n d_m_thread_11 rfl rfl ?_
    refine jr_getr d_m_thread_12 f_m_10 rfl rfl ?_
    first | rw [m0] | skip
    refine jr_iload_n d_m_thread_15 rfl rfl ?_
    refine jv_V1r d_m_thread_16 l_m_126 k_aL_get ⟨Nat.le_of_ble_eq_true rfl, Nat.le_of_ble_eq_true rfl⟩ rfl rfl (Nat.le_of_ble_eq_true rfl) (ct_aL_getq hl hx hd) (by first | decide | exact Nat.zero_le _ | (dsimp only; omega) | (dsimp only; grind)) (by first | decide | exact Nat.zero_le _ | (dsimp only; omega) | (dsimp only; grind)) ?_
    first | rw [m0] | skip
    refine jr_cast d_m_thread_19 c_m_37 rfl ⟨_, rfl, ca_mC_mC⟩ ?_
    refine jr_geti d_m_thread_22 f_m_87 rfl ?_
    refine jr_if_gt (tgt := 36) d_m_thread_25 (by decide) (fun c25 => ?_) (fun c25 => ?_)
    · skip
      exact absurd c25 hp
    · skip
      refine jr_aload_n d_m_thread_28 rfl rfl ?_
      refine jr_iload_n d_m_thread_29 rfl rfl ?_
      refine jv_V1rA d_m_thread_30 l_m_134 k_m_isAllGood ⟨Nat.le_of_ble_eq_true rfl, Nat.le_of_ble_eq_true rfl⟩ rfl rfl (Nat.le_of_ble_eq_true rfl) (hG) (fun q9 h9 => Or.inr h9) (by first | decide | exact Nat.zero_le _ | (dsimp only; omega) | (dsimp only; grind)) (by first | decide | exact Nat.zero_le _ | (dsimp only; omega) | (dsimp only; grind)) ?_
      refine jr_if_ne (tgt := 38) d_m_thread_33 (by decide) (fun c33 => ?_) (fun c33 => ?_)
      · skip
        refine jr_aload_n d_m_thread_38 rfl rfl ?_
        refine jr_geti d_m_thread_39 f_m_29 rfl ?_
        refine jr_bipush (v := 8) d_m_thread_42 (by decide) ?_
        refine jr_icmp_ne (tgt := 50) d_m_thread_44 (by decide) (fun c44 => ?_) (fun c44 => ?_)
        · skip
          exact absurd h8 c44
        · skip
          refine jr_bipush (v := (-12)) d_m_thread_47 (by decide) ?_
          exact jr_retX (v := some _) d_m_thread_49 (by first | exact Nat.le_refl _ | exact Nat.zero_le _ | (dsimp only; omega)) (by first | exact Nat.le_refl _ | exact Nat.zero_le _ | (dsimp only; omega)) (by first | with_reducible rfl | (dsimp only; rfl; done) | (rfl; done) | (exfalso; grind)) (by first | with_reducible rfl | (dsimp only; rfl; done) | (rfl; done) | (exfalso; grind)) (by first | with_reducible rfl | (dsimp only; rfl; done) | (rfl; done) | (exfalso; grind)) (by first | with_reducible rfl | (dsimp only; rfl; done) | (rfl; done) | (exfalso; grind))
      · skip
        exact absurd c33 hv
  · skip
    exfalso; clear hM hl; grind
theorem qt_bg_t {I : jc_I} {t a : Nat} {u : Nat × Nat} {k : Nat} (h : a ≠ 14) : qt_bg I t (a, u) k = I (a, u) k := by
  unfold qt_bg
  simp only [jc_up_t _ _ _ _ _ _ _ _ h]
theorem ct_m_thread_o {I : jc_I} {O : jc_O} {live : jc_L → Prop} {x v : Int32} {cn d z : Nat} {K : jc_I} {t tn xt fn : Nat} (hM : qM O) (hb : 0 ≤ x ∧ x < I (15, 0, 0) 1) (hl : ql I O live 0 cn qCo) (hx : x = Int32.ofNat d) (hd : d < cn) (hp : ¬ 0 < I (11, d, 0) 0) (hG : jc_Ct y_m_isAllGood [.inr (some (10, 0, 0)), .inl x] I O live (some (.inl v), K, (jc_cl O (52, z, 0) none), (jadd (52, z, 0) live), 1, 40)) (hv : ¬ v = 0) (h8 : K (10, 0, 0) 3 = Int32.ofNat t) (ht8 : t < 8) (hlK : ql K (jc_up (jc_cl O (52, z, 0) none) (10, 0, 0) 1 none) (jadd (52, z, 0) live) 0 cn qCo) (hth : ql K (jc_up (jc_cl O (52, z, 0) none) (10, 0, 0) 1 none) (jadd (52, z, 0) live) 1 tn qTh) (htn : t < tn) (hP : PU (qt_bg (jc_up K (10, 0, 0) 3 (K (10, 0, 0) 3 + 1)) t) (jc_up (jc_cl O (52, z, 0) none) (10, 0, 0) 1 none) (jadd (52, z, 0) live) t xt fn 0) : jc_Ct y_m_thread [.inr (some (10, 0, 0)), .inl x] I O live (some (.inl ((q_pu (qt_bg (jc_up K (10, 0, 0) 3 (K (10, 0, 0) 3 + 1)) t) (jc_up (jc_cl O (52, z, 0) none) (10, 0, 0) 1 none) (jadd (52, z, 0) live) t xt 0 x (11, d, 0)).1 (14, t, 0) 0)), (q_pu (qt_bg (jc_up K (10, 0, 0) 3 (K (10, 0, 0) 3 + 1)) t) (jc_up (jc_cl O (52, z, 0) none) (10, 0, 0) 1 none) (jadd (52, z, 0) live) t xt 0 x (11, d, 0)).1, (q_pu (qt_bg (jc_up K (10, 0, 0) 3 (K (10, 0, 0) 3 + 1)) t) (jc_up (jc_cl O (52, z, 0) none) (10, 0, 0) 1 none) (jadd (52, z, 0) live) t xt 0 x (11, d, 0)).2.1, (q_pu (qt_bg (jc_up K (10, 0, 0) 3 (K (10, 0, 0) 3 + 1)) t) (jc_up (jc_cl O (52, z, 0) none) (10, 0, 0) 1 none) (jadd (52, z, 0) live) t xt 0 x (11, d, 0)).2.2.1, (q_pu (qt_bg (jc_up K (10, 0, 0) 3 (K (10, 0, 0) 3 + 1)) t) (jc_up (jc_cl O (52, z, 0) none) (10, 0, 0) 1 none) (jadd (52, z, 0) live) t xt 0 x (11, d, 0)).2.2.2.1 + 1, (q_pu (qt_bg (jc_up K (10, 0, 0) 3 (K (10, 0, 0) 3 + 1)) t) (jc_up (jc_cl O (52, z, 0) none) (10, 0, 0) 1 none) (jadd (52, z, 0) live) t xt 0 x (11, d, 0)).2.2.2.2 + 40) := by
  obtain ⟨m0, m2, m4, m6, m7⟩ := id hM
  have o0 : (jc_up (jc_cl O (52, z, 0) none) (10, 0, 0) 1 none) (10, 0, 0) 0 = some (15, 0, 0) := by rw [jc_up_k _ _ _ _ _ _ (by decide), jc_cl_t _ _ _ _ _ _ _ (by decide)]; exact m0
  have o2 : (jc_up (jc_cl O (52, z, 0) none) (10, 0, 0) 1 none) (10, 0, 0) 2 = some (15, 1, 0) := by rw [jc_up_k _ _ _ _ _ _ (by decide), jc_cl_t _ _ _ _ _ _ _ (by decide)]; exact m2
  have htc := hth.le
  have htp := hth.cp
  refine jc_Ct.of (by decide +kernel) (Or.inl rfl) (Nat.le_of_ble_eq_true rfl) ?_
  refine jr_aload_n d_m_thread_0 rfl rfl ?_
  refine jr_iload_n d_m_thread_1 rfl rfl ?_
  refine jv_V1r d_m_thread_2 l_m_123 k_m_isCode ⟨Nat.le_of_ble_eq_true rfl, Nat.le_of_ble_eq_true rfl⟩ rfl rfl (Nat.le_of_ble_eq_true rfl) (ct_m_isCode m0) (by first | decide | exact Nat.zero_le _ | (dsimp only; omega) | (dsimp only; grind) | (omega)) (by first | decide | exact Nat.zero_le _ | (dsimp only; omega) | (dsimp only; grind) | (omega)) ?_
  refine jr_if_ne (tgt := 11) d_m_thread_5 (by decide) (fun c5 => ?_) (fun c5 => ?_)
  · skip
    refine jr_aload_n d_m_thread_11 rfl rfl ?_
    refine jr_getr d_m_thread_12 f_m_10 rfl rfl ?_
    first | rw [m0] | rw [o0] | rw [o2] | skip
    refine jr_iload_n d_m_thread_15 rfl rfl ?_
    refine jv_V1r d_m_thread_16 l_m_126 k_aL_get ⟨Nat.le_of_ble_eq_true rfl, Nat.le_of_ble_eq_true rfl⟩ rfl rfl (Nat.le_of_ble_eq_true rfl) (ct_aL_getq hl hx hd) (by first | decide | exact Nat.zero_le _ | (dsimp only; omega) | (dsimp only; grind) | (omega)) (by first | decide | exact Nat.zero_le _ | (dsimp only; omega) | (dsimp only; grind) | (omega)) ?_
    first | rw [m0] | rw [o0] | rw [o2] | skip
    refine jr_cast d_m_thread_19 c_m_37 rfl ⟨_, rfl, ca_mC_mC⟩ ?_
    refine jr_geti d_m_thread_22 f_m_87 rfl ?_
    refine jr_if_gt (tgt := 36) d_m_thread_25 (by decide) (fun c25 => ?_) (fun c25 => ?_)
    · skip
      exact absurd c25 hp
    · skip
      refine jr_aload_n d_m_thread_28 rfl rfl ?_
      refine jr_iload_n d_m_thread_29 rfl rfl ?_
      refine jv_V1rA d_m_thread_30 l_m_134 k_m_isAllGood ⟨Nat.le_of_ble_eq_true rfl, Nat.le_of_ble_eq_true rfl⟩ rfl rfl (Nat.le_of_ble_eq_true rfl) (hG) (fun q9 h9 => Or.inr h9) (by first | decide | exact Nat.zero_le _ | (dsimp only; omega) | (dsimp only; grind) | (omega)) (by first | decide | exact Nat.zero_le _ | (dsimp only; omega) | (dsimp only; grind) | (omega)) ?_
      refine jr_if_ne (tgt := 38) d_m_thread_33 (by decide) (fun c33 => ?_) (fun c33 => ?_)
      · skip
        refine jr_aload_n d_m_thread_38 rfl rfl ?_
        refine jr_geti d_m_thread_39 f_m_29 rfl ?_
        refine jr_bipush (v := 8) d_m_thread_42 (by decide) ?_
        refine jr_icmp_ne (tgt := 50) d_m_thread_44 (by decide) (fun c44 => ?_) (fun c44 => ?_)
        · skip
          refine jr_aload_n d_m_thread_50 rfl rfl ?_
          refine jr_null d_m_thread_51 ?_
          refine jr_putr d_m_thread_52 f_m_42 (Or.inl rfl) rfl rfl ?_
          refine jr_aload_n d_m_thread_55 rfl rfl ?_
          refine jr_geti d_m_thread_56 f_m_29 rfl ?_
          skip
          refine jr_aload_n d_m_thread_59 rfl rfl ?_
          refine jr_getr d_m_thread_60 f_m_16 rfl rfl ?_
          skip
          first | rw [m0] | rw [o0] | rw [o2] | skip
          refine jv_V0r d_m_thread_63 l_m_33 k_aL_size ⟨Nat.le_of_ble_eq_true rfl, Nat.le_of_ble_eq_true rfl⟩ rfl rfl (Nat.le_of_ble_eq_true rfl) (ct_aL_size) (by first | decide | exact Nat.zero_le _ | (dsimp only; omega) | (dsimp only; grind) | (omega)) (by first | decide | exact Nat.zero_le _ | (dsimp only; omega) | (dsimp only; grind) | (omega)) ?_
          refine jr_icmp_ne (tgt := 88) d_m_thread_66 (by decide) (fun c66 => ?_) (fun c66 => ?_)
          · skip
            refine jr_aload_n d_m_thread_88 rfl rfl ?_
            refine jr_getr d_m_thread_89 f_m_16 rfl rfl ?_
            skip
            first | rw [m0] | rw [o0] | rw [o2] | skip
            refine jr_aload_n d_m_thread_92 rfl rfl ?_
            refine jr_geti d_m_thread_93 f_m_29 rfl ?_
            skip
            refine jv_V1r d_m_thread_96 l_m_126 k_aL_get ⟨Nat.le_of_ble_eq_true rfl, Nat.le_of_ble_eq_true rfl⟩ rfl rfl (Nat.le_of_ble_eq_true rfl) (show jc_Ct y_aL_get _ _ _ _ (some (.inr (some (14, t, 0))), _, _, _, 0, 0) from ct_aL_getq hth h8 htn) (by first | decide | exact Nat.zero_le _ | (dsimp only; omega) | (dsimp only; grind) | (omega)) (by first | decide | exact Nat.zero_le _ | (dsimp only; omega) | (dsimp only; grind) | (omega)) ?_
            first | rw [m0] | rw [o0] | rw [o2] | skip
            refine jr_cast d_m_thread_99 c_m_137 rfl ⟨_, rfl, ca_mT_mT⟩ ?_
            refine jr_astore_n d_m_thread_102 rfl (Nat.le_of_ble_eq_true rfl) ?_
            refine jr_aload_n d_m_thread_103 rfl rfl ?_
            refine jr_dup d_m_thread_104 ?_
            refine jr_geti d_m_thread_105 f_m_29 rfl ?_
            skip
            refine jr_iconst (v := 1) d_m_thread_108 (by decide) ?_
            refine jr_iadd d_m_thread_109 ?_
            refine jr_puti d_m_thread_110 f_m_29 (Or.inl rfl) rfl ?_
            refine jr_aload_n d_m_thread_113 rfl rfl ?_
            refine jv_V0v d_m_thread_114 l_m_142 k_mT_begin ⟨Nat.le_of_ble_eq_true rfl, Nat.le_of_ble_eq_true rfl⟩ rfl rfl (Nat.le_of_ble_eq_true rfl) (ct_mT_begin) (by first | decide | exact Nat.zero_le _ | (dsimp only; omega) | (dsimp only; grind) | (omega)) (by first | decide | exact Nat.zero_le _ | (dsimp only; omega) | (dsimp only; grind) | (omega)) ?_
            refine jr_aload_n d_m_thread_117 rfl rfl ?_
            refine jr_aload_n d_m_thread_118 rfl rfl ?_
            refine jr_getr d_m_thread_119 f_m_10 rfl rfl ?_
            skip
            first | rw [m0] | rw [o0] | rw [o2] | skip
            refine jr_iload_n d_m_thread_122 rfl rfl ?_
            refine jv_V1r d_m_thread_123 l_m_126 k_aL_get ⟨Nat.le_of_ble_eq_true rfl, Nat.le_of_ble_eq_true rfl⟩ rfl rfl (Nat.le_of_ble_eq_true rfl) (show jc_Ct y_aL_get _ _ _ _ (some (.inr (some (11, d, 0))), _, _, _, 0, 0) from ct_aL_getq (hlK.to (I' := (qt_bg (jc_up K (10, 0, 0) 3 (K (10, 0, 0) 3 + 1)) t)) (by rw [qt_bg_t (by decide), jc_up_t _ _ _ _ _ _ _ _ (by decide)]) rfl (fun _ _ => rfl) (fun _ h => h)) hx hd) (by first | decide | exact Nat.zero_le _ | (dsimp only; omega) | (dsimp only; grind) | (omega)) (by first | decide | exact Nat.zero_le _ | (dsimp only; omega) | (dsimp only; grind) | (omega)) ?_
            first | rw [m0] | rw [o0] | rw [o2] | skip
            refine jr_cast d_m_thread_126 c_m_37 rfl ⟨_, rfl, ca_mC_mC⟩ ?_
            refine jr_iload_n d_m_thread_129 rfl rfl ?_
            refine jv_V2rA d_m_thread_130 l_m_145 k_mT_push ⟨Nat.le_of_ble_eq_true rfl, Nat.le_of_ble_eq_true rfl⟩ rfl rfl (Nat.le_of_ble_eq_true rfl) (ct_mT_push hP) (fun q9 h9 => q_pu_live q9 h9) (by first | decide | exact Nat.zero_le _ | (dsimp only; omega) | (dsimp only; grind) | (omega)) (by first | decide | exact Nat.zero_le _ | (dsimp only; omega) | (dsimp only; grind) | (omega)) ?_
            first | rw [m0] | rw [o0] | rw [o2] | skip
            refine jr_astore_n d_m_thread_133 rfl (Nat.le_of_ble_eq_true rfl) ?_
            refine jr_aload_n d_m_thread_134 rfl rfl ?_
            refine jr_geti d_m_thread_135 f_m_149 rfl ?_
            skip
            exact jr_retX (v := some _) d_m_thread_138 (by first | exact Nat.le_refl _ | exact Nat.zero_le _ | (dsimp only; omega) | (omega)) (by first | exact Nat.le_refl _ | exact Nat.zero_le _ | (dsimp only; omega) | (omega)) (by first | with_reducible rfl | (dsimp only; rfl; done) | (rfl; done) | (exfalso; grind)) (by first | with_reducible rfl | (dsimp only; rfl; done) | (rfl; done) | (exfalso; grind)) (by first | with_reducible rfl | (dsimp only; rfl; done) | (rfl; done) | (exfalso; grind)) (by first | with_reducible rfl | (dsimp only; rfl; done) | (rfl; done) | (exfalso; grind))
          · skip
            exfalso; rw [h8, hth.sz] at c66; have c66 := congrArg Int32.toInt c66; rw [jofI (by omega), jofI (by omega)] at c66; omega
        · skip
          exfalso; rw [h8] at c44; have c44 := congrArg Int32.toInt c44; rw [jofI (by omega), show (8 : Int32).toInt = 8 from by decide] at c44; omega
      · skip
        exact absurd c33 hv
  · skip
    exfalso; clear hM hl; grind
def q_t1 (K : jc_I) (t xt : Nat) (n : Int32) : jc_I := jc_up (jc_up (jc_cl (jc_cl K (14, t, 0) 0) (15, xt, 0) 0) (15, xt, 0) 2 0) (14, t, 0) 0 n
def q_t1O (O : jc_O) (t xt : Nat) : jc_O := jc_up (jc_up (jc_cl (jc_cl O (14, t, 0) none) (15, xt, 0) none) (15, xt, 0) 0 (some (97, 0, 0))) (14, t, 0) 1 (some (15, xt, 0))
def q_t1l (live : jc_L → Prop) (t xt : Nat) : jc_L → Prop := jadd (15, xt, 0) (jadd (14, t, 0) live)
theorem ct_m_thread_w {I : jc_I} {O : jc_O} {live : jc_L → Prop} {x v : Int32} {cn d z : Nat} {K : jc_I} {t xt fn : Nat} (hM : qM O) (hb : 0 ≤ x ∧ x < I (15, 0, 0) 1) (hl : ql I O live 0 cn qCo) (hx : x = Int32.ofNat d) (hd : d < cn) (hp : ¬ 0 < I (11, d, 0) 0) (hG : jc_Ct y_m_isAllGood [.inr (some (10, 0, 0)), .inl x] I O live (some (.inl v), K, (jc_cl O (52, z, 0) none), (jadd (52, z, 0) live), 1, 40)) (hv : ¬ v = 0) (h8 : K (10, 0, 0) 3 = Int32.ofNat t) (ht8 : t < 8) (hth : ql K (jc_up (jc_cl O (52, z, 0) none) (10, 0, 0) 1 none) (jadd (52, z, 0) live) 1 t qTh) (hth1 : ql (q_t1 K t xt (K (10, 0, 0) 3)) (q_t1O (jc_up (jc_cl O (52, z, 0) none) (10, 0, 0) 1 none) t xt) (q_t1l (jadd (52, z, 0) live) t xt) 1 t qTh) (ft : ¬ (jadd (52, z, 0) live) (14, t, 0)) (fx : ¬ (jadd (52, z, 0) live) (15, xt, 0)) (hlK : ql (l_add (q_t1 K t xt (K (10, 0, 0) 3)) (q_t1O (jc_up (jc_cl O (52, z, 0) none) (10, 0, 0) 1 none) t xt) (q_t1l (jadd (52, z, 0) live) t xt) 1 (14, t, 0)).1 (l_add (q_t1 K t xt (K (10, 0, 0) 3)) (q_t1O (jc_up (jc_cl O (52, z, 0) none) (10, 0, 0) 1 none) t xt) (q_t1l (jadd (52, z, 0) live) t xt) 1 (14, t, 0)).2.1 (l_add (q_t1 K t xt (K (10, 0, 0) 3)) (q_t1O (jc_up (jc_cl O (52, z, 0) none) (10, 0, 0) 1 none) t xt) (q_t1l (jadd (52, z, 0) live) t xt) 1 (14, t, 0)).2.2.1 0 cn qCo) (hP : PU (qt_bg (jc_up (l_add (q_t1 K t xt (K (10, 0, 0) 3)) (q_t1O (jc_up (jc_cl O (52, z, 0) none) (10, 0, 0) 1 none) t xt) (q_t1l (jadd (52, z, 0) live) t xt) 1 (14, t, 0)).1 (10, 0, 0) 3 ((l_add (q_t1 K t xt (K (10, 0, 0) 3)) (q_t1O (jc_up (jc_cl O (52, z, 0) none) (10, 0, 0) 1 none) t xt) (q_t1l (jadd (52, z, 0) live) t xt) 1 (14, t, 0)).1 (10, 0, 0) 3 + 1)) t) (l_add (q_t1 K t xt (K (10, 0, 0) 3)) (q_t1O (jc_up (jc_cl O (52, z, 0) none) (10, 0, 0) 1 none) t xt) (q_t1l (jadd (52, z, 0) live) t xt) 1 (14, t, 0)).2.1 (l_add (q_t1 K t xt (K (10, 0, 0) 3)) (q_t1O (jc_up (jc_cl O (52, z, 0) none) (10, 0, 0) 1 none) t xt) (q_t1l (jadd (52, z, 0) live) t xt) 1 (14, t, 0)).2.2.1 t xt fn 0) : jc_Ct y_m_thread [.inr (some (10, 0, 0)), .inl x] I O live (some (.inl ((q_pu (qt_bg (jc_up (l_add (q_t1 K t xt (K (10, 0, 0) 3)) (q_t1O (jc_up (jc_cl O (52, z, 0) none) (10, 0, 0) 1 none) t xt) (q_t1l (jadd (52, z, 0) live) t xt) 1 (14, t, 0)).1 (10, 0, 0) 3 ((l_add (q_t1 K t xt (K (10, 0, 0) 3)) (q_t1O (jc_up (jc_cl O (52, z, 0) none) (10, 0, 0) 1 none) t xt) (q_t1l (jadd (52, z, 0) live) t xt) 1 (14, t, 0)).1 (10, 0, 0) 3 + 1)) t) (l_add (q_t1 K t xt (K (10, 0, 0) 3)) (q_t1O (jc_up (jc_cl O (52, z, 0) none) (10, 0, 0) 1 none) t xt) (q_t1l (jadd (52, z, 0) live) t xt) 1 (14, t, 0)).2.1 (l_add (q_t1 K t xt (K (10, 0, 0) 3)) (q_t1O (jc_up (jc_cl O (52, z, 0) none) (10, 0, 0) 1 none) t xt) (q_t1l (jadd (52, z, 0) live) t xt) 1 (14, t, 0)).2.2.1 t xt 0 x (11, d, 0)).1 (14, t, 0) 0)), (q_pu (qt_bg (jc_up (l_add (q_t1 K t xt (K (10, 0, 0) 3)) (q_t1O (jc_up (jc_cl O (52, z, 0) none) (10, 0, 0) 1 none) t xt) (q_t1l (jadd (52, z, 0) live) t xt) 1 (14, t, 0)).1 (10, 0, 0) 3 ((l_add (q_t1 K t xt (K (10, 0, 0) 3)) (q_t1O (jc_up (jc_cl O (52, z, 0) none) (10, 0, 0) 1 none) t xt) (q_t1l (jadd (52, z, 0) live) t xt) 1 (14, t, 0)).1 (10, 0, 0) 3 + 1)) t) (l_add (q_t1 K t xt (K (10, 0, 0) 3)) (q_t1O (jc_up (jc_cl O (52, z, 0) none) (10, 0, 0) 1 none) t xt) (q_t1l (jadd (52, z, 0) live) t xt) 1 (14, t, 0)).2.1 (l_add (q_t1 K t xt (K (10, 0, 0) 3)) (q_t1O (jc_up (jc_cl O (52, z, 0) none) (10, 0, 0) 1 none) t xt) (q_t1l (jadd (52, z, 0) live) t xt) 1 (14, t, 0)).2.2.1 t xt 0 x (11, d, 0)).1, (q_pu (qt_bg (jc_up (l_add (q_t1 K t xt (K (10, 0, 0) 3)) (q_t1O (jc_up (jc_cl O (52, z, 0) none) (10, 0, 0) 1 none) t xt) (q_t1l (jadd (52, z, 0) live) t xt) 1 (14, t, 0)).1 (10, 0, 0) 3 ((l_add (q_t1 K t xt (K (10, 0, 0) 3)) (q_t1O (jc_up (jc_cl O (52, z, 0) none) (10, 0, 0) 1 none) t xt) (q_t1l (jadd (52, z, 0) live) t xt) 1 (14, t, 0)).1 (10, 0, 0) 3 + 1)) t) (l_add (q_t1 K t xt (K (10, 0, 0) 3)) (q_t1O (jc_up (jc_cl O (52, z, 0) none) (10, 0, 0) 1 none) t xt) (q_t1l (jadd (52, z, 0) live) t xt) 1 (14, t, 0)).2.1 (l_add (q_t1 K t xt (K (10, 0, 0) 3)) (q_t1O (jc_up (jc_cl O (52, z, 0) none) (10, 0, 0) 1 none) t xt) (q_t1l (jadd (52, z, 0) live) t xt) 1 (14, t, 0)).2.2.1 t xt 0 x (11, d, 0)).2.1, (q_pu (qt_bg (jc_up (l_add (q_t1 K t xt (K (10, 0, 0) 3)) (q_t1O (jc_up (jc_cl O (52, z, 0) none) (10, 0, 0) 1 none) t xt) (q_t1l (jadd (52, z, 0) live) t xt) 1 (14, t, 0)).1 (10, 0, 0) 3 ((l_add (q_t1 K t xt (K (10, 0, 0) 3)) (q_t1O (jc_up (jc_cl O (52, z, 0) none) (10, 0, 0) 1 none) t xt) (q_t1l (jadd (52, z, 0) live) t xt) 1 (14, t, 0)).1 (10, 0, 0) 3 + 1)) t) (l_add (q_t1 K t xt (K (10, 0, 0) 3)) (q_t1O (jc_up (jc_cl O (52, z, 0) none) (10, 0, 0) 1 none) t xt) (q_t1l (jadd (52, z, 0) live) t xt) 1 (14, t, 0)).2.1 (l_add (q_t1 K t xt (K (10, 0, 0) 3)) (q_t1O (jc_up (jc_cl O (52, z, 0) none) (10, 0, 0) 1 none) t xt) (q_t1l (jadd (52, z, 0) live) t xt) 1 (14, t, 0)).2.2.1 t xt 0 x (11, d, 0)).2.2.1, (q_pu (qt_bg (jc_up (l_add (q_t1 K t xt (K (10, 0, 0) 3)) (q_t1O (jc_up (jc_cl O (52, z, 0) none) (10, 0, 0) 1 none) t xt) (q_t1l (jadd (52, z, 0) live) t xt) 1 (14, t, 0)).1 (10, 0, 0) 3 ((l_add (q_t1 K t xt (K (10, 0, 0) 3)) (q_t1O (jc_up (jc_cl O (52, z, 0) none) (10, 0, 0) 1 none) t xt) (q_t1l (jadd (52, z, 0) live) t xt) 1 (14, t, 0)).1 (10, 0, 0) 3 + 1)) t) (l_add (q_t1 K t xt (K (10, 0, 0) 3)) (q_t1O (jc_up (jc_cl O (52, z, 0) none) (10, 0, 0) 1 none) t xt) (q_t1l (jadd (52, z, 0) live) t xt) 1 (14, t, 0)).2.1 (l_add (q_t1 K t xt (K (10, 0, 0) 3)) (q_t1O (jc_up (jc_cl O (52, z, 0) none) (10, 0, 0) 1 none) t xt) (q_t1l (jadd (52, z, 0) live) t xt) 1 (14, t, 0)).2.2.1 t xt 0 x (11, d, 0)).2.2.2.1 + (l_add (q_t1 K t xt (K (10, 0, 0) 3)) (q_t1O (jc_up (jc_cl O (52, z, 0) none) (10, 0, 0) 1 none) t xt) (q_t1l (jadd (52, z, 0) live) t xt) 1 (14, t, 0)).2.2.2.1 + 3, (q_pu (qt_bg (jc_up (l_add (q_t1 K t xt (K (10, 0, 0) 3)) (q_t1O (jc_up (jc_cl O (52, z, 0) none) (10, 0, 0) 1 none) t xt) (q_t1l (jadd (52, z, 0) live) t xt) 1 (14, t, 0)).1 (10, 0, 0) 3 ((l_add (q_t1 K t xt (K (10, 0, 0) 3)) (q_t1O (jc_up (jc_cl O (52, z, 0) none) (10, 0, 0) 1 none) t xt) (q_t1l (jadd (52, z, 0) live) t xt) 1 (14, t, 0)).1 (10, 0, 0) 3 + 1)) t) (l_add (q_t1 K t xt (K (10, 0, 0) 3)) (q_t1O (jc_up (jc_cl O (52, z, 0) none) (10, 0, 0) 1 none) t xt) (q_t1l (jadd (52, z, 0) live) t xt) 1 (14, t, 0)).2.1 (l_add (q_t1 K t xt (K (10, 0, 0) 3)) (q_t1O (jc_up (jc_cl O (52, z, 0) none) (10, 0, 0) 1 none) t xt) (q_t1l (jadd (52, z, 0) live) t xt) 1 (14, t, 0)).2.2.1 t xt 0 x (11, d, 0)).2.2.2.2 + (l_add (q_t1 K t xt (K (10, 0, 0) 3)) (q_t1O (jc_up (jc_cl O (52, z, 0) none) (10, 0, 0) 1 none) t xt) (q_t1l (jadd (52, z, 0) live) t xt) 1 (14, t, 0)).2.2.2.2 + 50) := by
  obtain ⟨m0, m2, m4, m6, m7⟩ := id hM
  have o0 : (jc_up (jc_cl O (52, z, 0) none) (10, 0, 0) 1 none) (10, 0, 0) 0 = some (15, 0, 0) := by rw [jc_up_k _ _ _ _ _ _ (by decide), jc_cl_t _ _ _ _ _ _ _ (by decide)]; exact m0
  have o2 : (jc_up (jc_cl O (52, z, 0) none) (10, 0, 0) 1 none) (10, 0, 0) 2 = some (15, 1, 0) := by rw [jc_up_k _ _ _ _ _ _ (by decide), jc_cl_t _ _ _ _ _ _ _ (by decide)]; exact m2
  have p0 : (l_add (q_t1 K t xt (K (10, 0, 0) 3)) (q_t1O (jc_up (jc_cl O (52, z, 0) none) (10, 0, 0) 1 none) t xt) (q_t1l (jadd (52, z, 0) live) t xt) 1 (14, t, 0)).2.1 (10, 0, 0) 0 = some (15, 0, 0) := by rw [l_add_O (by decide) (by decide)]; unfold q_t1O; rw [jc_up_t _ _ _ _ _ _ _ _ (by decide), jc_up_t _ _ _ _ _ _ _ _ (by decide), jc_cl_t _ _ _ _ _ _ _ (by decide), jc_cl_t _ _ _ _ _ _ _ (by decide)]; exact o0
  have p2 : (l_add (q_t1 K t xt (K (10, 0, 0) 3)) (q_t1O (jc_up (jc_cl O (52, z, 0) none) (10, 0, 0) 1 none) t xt) (q_t1l (jadd (52, z, 0) live) t xt) 1 (14, t, 0)).2.1 (10, 0, 0) 2 = some (15, 1, 0) := by rw [l_add_O (by decide) (by decide)]; unfold q_t1O; rw [jc_up_t _ _ _ _ _ _ _ _ (by decide), jc_up_t _ _ _ _ _ _ _ _ (by decide), jc_cl_t _ _ _ _ _ _ _ (by decide), jc_cl_t _ _ _ _ _ _ _ (by decide)]; exact o2
  have p3 : (l_add (q_t1 K t xt (K (10, 0, 0) 3)) (q_t1O (jc_up (jc_cl O (52, z, 0) none) (10, 0, 0) 1 none) t xt) (q_t1l (jadd (52, z, 0) live) t xt) 1 (14, t, 0)).1 (10, 0, 0) 3 = Int32.ofNat t := by rw [l_add_I (by decide) (by decide)]; unfold q_t1; rw [jc_up_t _ _ _ _ _ _ _ _ (by decide), jc_up_t _ _ _ _ _ _ _ _ (by decide), jc_cl_t _ _ _ _ _ _ _ (by decide), jc_cl_t _ _ _ _ _ _ _ (by decide)]; exact h8
  have hst : jc_sto "java/lang/Object" (some (14, t, 0)) := fun q9 e9 => by cases e9; exact ⟨_, _, rfl, rfl, Or.inr ca_mT_oO⟩
  have hth2 := hth1.add (by omega) hst
  have htc := hth.le
  have htp := hth.cp
  refine jc_Ct.of (by decide +kernel) (Or.inl rfl) (Nat.le_of_ble_eq_true rfl) ?_
  refine jr_aload_n d_m_thread_0 rfl rfl ?_
  refine jr_iload_n d_m_thread_1 rfl rfl ?_
  refine jv_V1r d_m_thread_2 l_m_123 k_m_isCode ⟨Nat.le_of_ble_eq_true rfl, Nat.le_of_ble_eq_true rfl⟩ rfl rfl (Nat.le_of_ble_eq_true rfl) (ct_m_isCode m0) (by first | decide | exact Nat.zero_le _ | (dsimp only; omega) | (dsimp only; grind) | (omega)) (by first | decide | exact Nat.zero_le _ | (dsimp only; omega) | (dsimp only; grind) | (omega)) ?_
  refine jr_if_ne (tgt := 11) d_m_thread_5 (by decide) (fun c5 => ?_) (fun c5 => ?_)
  · skip
    refine jr_aload_n d_m_thread_11 rfl rfl ?_
    refine jr_getr d_m_thread_12 f_m_10 rfl rfl ?_
    first | rw [m0] | rw [o0] | rw [o2] | rw [p0] | rw [p2] | skip
    refine jr_iload_n d_m_thread_15 rfl rfl ?_
    refine jv_V1r d_m_thread_16 l_m_126 k_aL_get ⟨Nat.le_of_ble_eq_true rfl, Nat.le_of_ble_eq_true rfl⟩ rfl rfl (Nat.le_of_ble_eq_true rfl) (ct_aL_getq hl hx hd) (by first | decide | exact Nat.zero_le _ | (dsimp only; omega) | (dsimp only; grind) | (omega)) (by first | decide | exact Nat.zero_le _ | (dsimp only; omega) | (dsimp only; grind) | (omega)) ?_
    first | rw [m0] | rw [o0] | rw [o2] | rw [p0] | rw [p2] | skip
    refine jr_cast d_m_thread_19 c_m_37 rfl ⟨_, rfl, ca_mC_mC⟩ ?_
    refine jr_geti d_m_thread_22 f_m_87 rfl ?_
    refine jr_if_gt (tgt := 36) d_m_thread_25 (by decide) (fun c25 => ?_) (fun c25 => ?_)
    · skip
      exact absurd c25 hp
    · skip
      refine jr_aload_n d_m_thread_28 rfl rfl ?_
      refine jr_iload_n d_m_thread_29 rfl rfl ?_
      refine jv_V1rA d_m_thread_30 l_m_134 k_m_isAllGood ⟨Nat.le_of_ble_eq_true rfl, Nat.le_of_ble_eq_true rfl⟩ rfl rfl (Nat.le_of_ble_eq_true rfl) (hG) (fun q9 h9 => Or.inr h9) (by first | decide | exact Nat.zero_le _ | (dsimp only; omega) | (dsimp only; grind) | (omega)) (by first | decide | exact Nat.zero_le _ | (dsimp only; omega) | (dsimp only; grind) | (omega)) ?_
      refine jr_if_ne (tgt := 38) d_m_thread_33 (by decide) (fun c33 => ?_) (fun c33 => ?_)
      · skip
        refine jr_aload_n d_m_thread_38 rfl rfl ?_
        refine jr_geti d_m_thread_39 f_m_29 rfl ?_
        refine jr_bipush (v := 8) d_m_thread_42 (by decide) ?_
        refine jr_icmp_ne (tgt := 50) d_m_thread_44 (by decide) (fun c44 => ?_) (fun c44 => ?_)
        · skip
          refine jr_aload_n d_m_thread_50 rfl rfl ?_
          refine jr_null d_m_thread_51 ?_
          refine jr_putr d_m_thread_52 f_m_42 (Or.inl rfl) rfl rfl ?_
          refine jr_aload_n d_m_thread_55 rfl rfl ?_
          refine jr_geti d_m_thread_56 f_m_29 rfl ?_
          skip
          refine jr_aload_n d_m_thread_59 rfl rfl ?_
          refine jr_getr d_m_thread_60 f_m_16 rfl rfl ?_
          skip
          first | rw [m0] | rw [o0] | rw [o2] | rw [p0] | rw [p2] | skip
          refine jv_V0r d_m_thread_63 l_m_33 k_aL_size ⟨Nat.le_of_ble_eq_true rfl, Nat.le_of_ble_eq_true rfl⟩ rfl rfl (Nat.le_of_ble_eq_true rfl) (ct_aL_size) (by first | decide | exact Nat.zero_le _ | (dsimp only; omega) | (dsimp only; grind) | (omega)) (by first | decide | exact Nat.zero_le _ | (dsimp only; omega) | (dsimp only; grind) | (omega)) ?_
          refine jr_icmp_ne (tgt := 88) d_m_thread_66 (by decide) (fun c66 => ?_) (fun c66 => ?_)
          · skip
            exfalso; exact c66 (by rw [h8, hth.sz])
          · skip
            refine jr_aload_n d_m_thread_69 rfl rfl ?_
            refine jr_getr d_m_thread_70 f_m_16 rfl rfl ?_
            skip
            first | rw [m0] | rw [o0] | rw [o2] | rw [p0] | rw [p2] | skip
            refine jr_new (14, t, 0) d_m_thread_73 n_m_137 rfl (ft) (by first | decide | (dsimp only; omega)) (by first | decide | (dsimp only; omega)) ?_
            refine jr_dup d_m_thread_76 ?_
            refine jr_aload_n d_m_thread_77 rfl rfl ?_
            refine jr_geti d_m_thread_78 f_m_29 rfl ?_
            skip
            rw [show jc_cl K (14, t, 0) 0 (10, 0, 0) 3 = K (10, 0, 0) 3 from jc_cl_t _ _ _ _ _ _ _ (by decide)]
            refine jv_I1vA d_m_thread_81 l_m_139 k_mT_init ⟨Nat.le_of_ble_eq_true rfl, Nat.le_of_ble_eq_true rfl⟩ (Nat.le_of_ble_eq_true rfl) (show jc_Ct y_mT_init _ _ _ _ (none, q_t1 K t xt (K (10, 0, 0) 3), q_t1O (jc_up (jc_cl O (52, z, 0) none) (10, 0, 0) 1 none) t xt, q_t1l (jadd (52, z, 0) live) t xt, 1, 3) from ct_mT_init (t := t) (x := xt) (fun g => g.elim (fun g => by cases g) fx)) (fun q9 h9 => Or.inr h9) (by first | decide | exact Nat.zero_le _ | (dsimp only; omega) | (dsimp only; grind) | (omega)) (by first | decide | exact Nat.zero_le _ | (dsimp only; omega) | (dsimp only; grind) | (omega)) ?_
            refine jv_V1rA d_m_thread_84 l_m_46 k_aL_add1 ⟨Nat.le_of_ble_eq_true rfl, Nat.le_of_ble_eq_true rfl⟩ rfl rfl (Nat.le_of_ble_eq_true rfl) (ct_aL_add (x := 1) hth1 hst) (fun q9 h9 => l_add_live q9 h9) (by first | decide | exact Nat.zero_le _ | (dsimp only; omega) | (dsimp only; grind) | (omega)) (by first | decide | exact Nat.zero_le _ | (dsimp only; omega) | (dsimp only; grind) | (omega)) ?_
            refine jr_pop d_m_thread_87 ?_
            refine jr_aload_n d_m_thread_88 rfl rfl ?_
            refine jr_getr d_m_thread_89 f_m_16 rfl rfl ?_
            skip
            first | rw [m0] | rw [o0] | rw [o2] | rw [p0] | rw [p2] | skip
            refine jr_aload_n d_m_thread_92 rfl rfl ?_
            refine jr_geti d_m_thread_93 f_m_29 rfl ?_
            skip
            refine jv_V1r d_m_thread_96 l_m_126 k_aL_get ⟨Nat.le_of_ble_eq_true rfl, Nat.le_of_ble_eq_true rfl⟩ rfl rfl (Nat.le_of_ble_eq_true rfl) (show jc_Ct y_aL_get _ _ _ _ (some (.inr (some (14, t, 0))), _, _, _, 0, 0) from ct_aL_getq hth2 p3 (by omega)) (by first | decide | exact Nat.zero_le _ | (dsimp only; omega) | (dsimp only; grind) | (omega)) (by first | decide | exact Nat.zero_le _ | (dsimp only; omega) | (dsimp only; grind) | (omega)) ?_
            first | rw [m0] | rw [o0] | rw [o2] | rw [p0] | rw [p2] | skip
            refine jr_cast d_m_thread_99 c_m_137 rfl ⟨_, rfl, ca_mT_mT⟩ ?_
            refine jr_astore_n d_m_thread_102 rfl (Nat.le_of_ble_eq_true rfl) ?_
            refine jr_aload_n d_m_thread_103 rfl rfl ?_
            refine jr_dup d_m_thread_104 ?_
            refine jr_geti d_m_thread_105 f_m_29 rfl ?_
            skip
            refine jr_iconst (v := 1) d_m_thread_108 (by decide) ?_
            refine jr_iadd d_m_thread_109 ?_
            refine jr_puti d_m_thread_110 f_m_29 (Or.inl rfl) rfl ?_
            refine jr_aload_n d_m_thread_113 rfl rfl ?_
            refine jv_V0v d_m_thread_114 l_m_142 k_mT_begin ⟨Nat.le_of_ble_eq_true rfl, Nat.le_of_ble_eq_true rfl⟩ rfl rfl (Nat.le_of_ble_eq_true rfl) (ct_mT_begin) (by first | decide | exact Nat.zero_le _ | (dsimp only; omega) | (dsimp only; grind) | (omega)) (by first | decide | exact Nat.zero_le _ | (dsimp only; omega) | (dsimp only; grind) | (omega)) ?_
            refine jr_aload_n d_m_thread_117 rfl rfl ?_
            refine jr_aload_n d_m_thread_118 rfl rfl ?_
            refine jr_getr d_m_thread_119 f_m_10 rfl rfl ?_
            skip
            first | rw [m0] | rw [o0] | rw [o2] | rw [p0] | rw [p2] | skip
            refine jr_iload_n d_m_thread_122 rfl rfl ?_
            refine jv_V1r d_m_thread_123 l_m_126 k_aL_get ⟨Nat.le_of_ble_eq_true rfl, Nat.le_of_ble_eq_true rfl⟩ rfl rfl (Nat.le_of_ble_eq_true rfl) (show jc_Ct y_aL_get _ _ _ _ (some (.inr (some (11, d, 0))), _, _, _, 0, 0) from ct_aL_getq (hlK.to (I' := (qt_bg (jc_up (l_add (q_t1 K t xt (K (10, 0, 0) 3)) (q_t1O (jc_up (jc_cl O (52, z, 0) none) (10, 0, 0) 1 none) t xt) (q_t1l (jadd (52, z, 0) live) t xt) 1 (14, t, 0)).1 (10, 0, 0) 3 ((l_add (q_t1 K t xt (K (10, 0, 0) 3)) (q_t1O (jc_up (jc_cl O (52, z, 0) none) (10, 0, 0) 1 none) t xt) (q_t1l (jadd (52, z, 0) live) t xt) 1 (14, t, 0)).1 (10, 0, 0) 3 + 1)) t)) (by rw [qt_bg_t (by decide), jc_up_t _ _ _ _ _ _ _ _ (by decide)]) rfl (fun _ _ => rfl) (fun _ h => h)) hx hd) (by first | decide | exact Nat.zero_le _ | (dsimp only; omega) | (dsimp only; grind) | (omega)) (by first | decide | exact Nat.zero_le _ | (dsimp only; omega) | (dsimp only; grind) | (omega)) ?_
            first | rw [m0] | rw [o0] | rw [o2] | rw [p0] | rw [p2] | skip
            refine jr_cast d_m_thread_126 c_m_37 rfl ⟨_, rfl, ca_mC_mC⟩ ?_
            refine jr_iload_n d_m_thread_129 rfl rfl ?_
            refine jv_V2rA d_m_thread_130 l_m_145 k_mT_push ⟨Nat.le_of_ble_eq_true rfl, Nat.le_of_ble_eq_true rfl⟩ rfl rfl (Nat.le_of_ble_eq_true rfl) (ct_mT_push hP) (fun q9 h9 => q_pu_live q9 h9) (by first | decide | exact Nat.zero_le _ | (dsimp only; omega) | (dsimp only; grind) | (omega)) (by first | decide | exact Nat.zero_le _ | (dsimp only; omega) | (dsimp only; grind) | (omega)) ?_
            first | rw [m0] | rw [o0] | rw [o2] | rw [p0] | rw [p2] | skip
            refine jr_astore_n d_m_thread_133 rfl (Nat.le_of_ble_eq_true rfl) ?_
            refine jr_aload_n d_m_thread_134 rfl rfl ?_
            refine jr_geti d_m_thread_135 f_m_149 rfl ?_
            skip
            exact jr_retX (v := some _) d_m_thread_138 (by first | exact Nat.le_refl _ | exact Nat.zero_le _ | (dsimp only; omega) | (omega)) (by first | exact Nat.le_refl _ | exact Nat.zero_le _ | (dsimp only; omega) | (omega)) (by first | with_reducible rfl | (dsimp only; rfl; done) | (rfl; done) | (exfalso; grind)) (by first | with_reducible rfl | (dsimp only; rfl; done) | (rfl; done) | (exfalso; grind)) (by first | with_reducible rfl | (dsimp only; rfl; done) | (rfl; done) | (exfalso; grind)) (by first | with_reducible rfl | (dsimp only; rfl; done) | (rfl; done) | (exfalso; grind))
        · skip
          exfalso; rw [h8] at c44; have c44 := congrArg Int32.toInt c44; rw [jofI (by omega), show (8 : Int32).toInt = 8 from by decide] at c44; omega
      · skip
        exact absurd c33 hv
  · skip
    exfalso; clear hM hl; grind
