theorem ct_M_begin_n {I : jc_I} {O : jc_O} {live : jc_L → Prop} {x : Int32} (hM : jw_M O) (hA : jw_A I O) (hx : ¬ (0 ≤ x ∧ x < I (1, 0, 0) 1)) : jc_Ct y_M_begin [.inr (some (4, 0, 0)), .inl x] I O live (some (.inl (-14)), I, O, live, 0, 0) := by
  obtain ⟨m0, m1, m2, m3⟩ := id hM
  refine jc_Ct.of (by decide +kernel) (Or.inl rfl) (Nat.le_of_ble_eq_true rfl) ?_
  refine jr_aload_n d_M_begin_0 rfl rfl ?_
  refine jr_getr d_M_begin_1 f_M_17 rfl rfl ?_
  first | rw [m0] | rw [m1] | rw [m2] | rw [m3] | skip
  refine jr_iload_n d_M_begin_4 rfl rfl ?_
  refine jv_V1r d_M_begin_5 l_M_33 k_Cs_find ⟨Nat.le_of_ble_eq_true rfl, Nat.le_of_ble_eq_true rfl⟩ rfl rfl (Nat.le_of_ble_eq_true rfl) (ct_Cs_find hA.1 hA.2.2.1) (by first | decide | exact Nat.zero_le _ | (dsimp only; omega) | (dsimp only; grind)) (by first | decide | exact Nat.zero_le _ | (dsimp only; omega) | (dsimp only; grind)) ?_
  first | rw [m0] | rw [m1] | rw [m2] | rw [m3] | skip
  rw [if_neg hx]
  refine jr_astore_n d_M_begin_8 rfl (Nat.le_of_ble_eq_true rfl) ?_
  refine jr_aload_n d_M_begin_9 rfl rfl ?_
  refine jr_ifnonnull (tgt := 16) d_M_begin_10 (by decide) (fun q10 c10 => by cases c10) (fun c10 => ?_)
  refine jr_bipush (v := (-14)) d_M_begin_13 (by decide) ?_
  exact jr_retX (v := some _) d_M_begin_15 (by first | exact Nat.le_refl _ | exact Nat.zero_le _ | (dsimp only; omega)) (by first | exact Nat.le_refl _ | exact Nat.zero_le _ | (dsimp only; omega)) (by first | with_reducible rfl | (dsimp only; rfl; done) | (rfl; done) | (exfalso; grind)) (by first | with_reducible rfl | (dsimp only; rfl; done) | (rfl; done) | (exfalso; grind)) (by first | with_reducible rfl | (dsimp only; rfl; done) | (rfl; done) | (exfalso; grind)) (by first | with_reducible rfl | (dsimp only; rfl; done) | (rfl; done) | (exfalso; grind))
theorem ct_M_begin_p {I : jc_I} {O : jc_O} {live : jc_L → Prop} {x : Int32} {c : Nat} (hM : jw_M O) (hA : jw_A I O) (hx : 0 ≤ x ∧ x < I (1, 0, 0) 1) (hxc : x.toNatClampNeg = c) (hp : 0 < I (6, c, 0) 1) : jc_Ct y_M_begin [.inr (some (4, 0, 0)), .inl x] I O live (some (.inl (-1)), I, O, live, 0, 0) := by
  obtain ⟨m0, m1, m2, m3⟩ := id hM
  have hin : jw_in I c := by unfold jw_in; rw [← hxc]; exact jlN hx.1 hx.2
  refine jc_Ct.of (by decide +kernel) (Or.inl rfl) (Nat.le_of_ble_eq_true rfl) ?_
  refine jr_aload_n d_M_begin_0 rfl rfl ?_
  refine jr_getr d_M_begin_1 f_M_17 rfl rfl ?_
  first | rw [m0] | rw [m1] | rw [m2] | rw [m3] | skip
  refine jr_iload_n d_M_begin_4 rfl rfl ?_
  refine jv_V1r d_M_begin_5 l_M_33 k_Cs_find ⟨Nat.le_of_ble_eq_true rfl, Nat.le_of_ble_eq_true rfl⟩ rfl rfl (Nat.le_of_ble_eq_true rfl) (ct_Cs_find hA.1 hA.2.2.1) (by first | decide | exact Nat.zero_le _ | (dsimp only; omega) | (dsimp only; grind)) (by first | decide | exact Nat.zero_le _ | (dsimp only; omega) | (dsimp only; grind)) ?_
  first | rw [m0] | rw [m1] | rw [m2] | rw [m3] | skip
  rw [if_pos hx, hxc, (hA.2.2.2 c hin).1]
  refine jr_astore_n d_M_begin_8 rfl (Nat.le_of_ble_eq_true rfl) ?_
  refine jr_aload_n d_M_begin_9 rfl rfl ?_
  refine jr_ifnonnull (tgt := 16) d_M_begin_10 (by decide) (fun q10 c10 => ?_) (fun c10 => by cases c10)
  refine jr_aload_n d_M_begin_16 rfl rfl ?_
  refine jr_geti d_M_begin_17 f_M_39 rfl ?_
  refine jr_if_gt (tgt := 34) d_M_begin_20 (by decide) (fun c20 => ?_) (fun c20 => ?_)
  · skip
    refine jr_iconst (v := (-1)) d_M_begin_34 (by decide) ?_
    exact jr_retX (v := some _) d_M_begin_35 (by first | exact Nat.le_refl _ | exact Nat.zero_le _ | (dsimp only; omega)) (by first | exact Nat.le_refl _ | exact Nat.zero_le _ | (dsimp only; omega)) (by first | with_reducible rfl | (dsimp only; rfl; done) | (rfl; done) | (exfalso; grind)) (by first | with_reducible rfl | (dsimp only; rfl; done) | (rfl; done) | (exfalso; grind)) (by first | with_reducible rfl | (dsimp only; rfl; done) | (rfl; done) | (exfalso; grind)) (by first | with_reducible rfl | (dsimp only; rfl; done) | (rfl; done) | (exfalso; grind))
  · skip
    exact absurd hp c20
theorem ct_M_begin_b {I : jc_I} {O : jc_O} {live : jc_L → Prop} {x : Int32} {c : Nat} (hM : jw_M O) (hA : jw_A I O) (hG : jw_G O) (hx : 0 ≤ x ∧ x < I (1, 0, 0) 1) (hxc : x.toNatClampNeg = c) (hp : ¬ 0 < I (6, c, 0) 1) (hv : (g_thr I c).1 = 0) : jc_Ct y_M_begin [.inr (some (4, 0, 0)), .inl x] I O live (some (.inl (-1)), (g_thr I c).2, O, live, 0, 0) := by
  obtain ⟨m0, m1, m2, m3⟩ := id hM
  have hin : jw_in I c := by unfold jw_in; rw [← hxc]; exact jlN hx.1 hx.2
  refine jc_Ct.of (by decide +kernel) (Or.inl rfl) (Nat.le_of_ble_eq_true rfl) ?_
  refine jr_aload_n d_M_begin_0 rfl rfl ?_
  refine jr_getr d_M_begin_1 f_M_17 rfl rfl ?_
  first | rw [m0] | rw [m1] | rw [m2] | rw [m3] | skip
  refine jr_iload_n d_M_begin_4 rfl rfl ?_
  refine jv_V1r d_M_begin_5 l_M_33 k_Cs_find ⟨Nat.le_of_ble_eq_true rfl, Nat.le_of_ble_eq_true rfl⟩ rfl rfl (Nat.le_of_ble_eq_true rfl) (ct_Cs_find hA.1 hA.2.2.1) (by first | decide | exact Nat.zero_le _ | (dsimp only; omega) | (dsimp only; grind)) (by first | decide | exact Nat.zero_le _ | (dsimp only; omega) | (dsimp only; grind)) ?_
  first | rw [m0] | rw [m1] | rw [m2] | rw [m3] | skip
  rw [if_pos hx, hxc, (hA.2.2.2 c hin).1]
  refine jr_astore_n d_M_begin_8 rfl (Nat.le_of_ble_eq_true rfl) ?_
  refine jr_aload_n d_M_begin_9 rfl rfl ?_
  refine jr_ifnonnull (tgt := 16) d_M_begin_10 (by decide) (fun q10 c10 => ?_) (fun c10 => by cases c10)
  refine jr_aload_n d_M_begin_16 rfl rfl ?_
  refine jr_geti d_M_begin_17 f_M_39 rfl ?_
  refine jr_if_gt (tgt := 34) d_M_begin_20 (by decide) (fun c20 => ?_) (fun c20 => ?_)
  · skip
    exact absurd c20 hp
  · skip
    refine jr_aload_n d_M_begin_23 rfl rfl ?_
    refine jr_getr d_M_begin_24 f_M_21 rfl rfl ?_
    first | rw [m0] | rw [m1] | rw [m2] | rw [m3] | skip
    refine jr_aload_n d_M_begin_27 rfl rfl ?_
    refine jv_V1r d_M_begin_28 l_M_44 k_G_isGoodThroughout ⟨Nat.le_of_ble_eq_true rfl, Nat.le_of_ble_eq_true rfl⟩ rfl rfl (Nat.le_of_ble_eq_true rfl) (ct_G_isGoodThroughout hG hA hin) (by first | decide | exact Nat.zero_le _ | (dsimp only; omega) | (dsimp only; grind)) (by first | decide | exact Nat.zero_le _ | (dsimp only; omega) | (dsimp only; grind)) ?_
    refine jr_if_ne (tgt := 36) d_M_begin_31 (by decide) (fun c31 => ?_) (fun c31 => ?_)
    · skip
      exact absurd hv c31
    · skip
      refine jr_iconst (v := (-1)) d_M_begin_34 (by decide) ?_
      exact jr_retX (v := some _) d_M_begin_35 (by first | exact Nat.le_refl _ | exact Nat.zero_le _ | (dsimp only; omega)) (by first | exact Nat.le_refl _ | exact Nat.zero_le _ | (dsimp only; omega)) (by first | with_reducible rfl | (dsimp only; rfl; done) | (rfl; done) | (exfalso; grind)) (by first | with_reducible rfl | (dsimp only; rfl; done) | (rfl; done) | (exfalso; grind)) (by first | with_reducible rfl | (dsimp only; rfl; done) | (rfl; done) | (exfalso; grind)) (by first | with_reducible rfl | (dsimp only; rfl; done) | (rfl; done) | (exfalso; grind))
theorem ct_M_begin_f {I : jc_I} {O : jc_O} {live : jc_L → Prop} {x : Int32} {c : Nat} (hM : jw_M O) (hA : jw_A I O) (hG : jw_G O) (hx : 0 ≤ x ∧ x < I (1, 0, 0) 1) (hxc : x.toNatClampNeg = c) (hp : ¬ 0 < I (6, c, 0) 1) (hv : ¬ (g_thr I c).1 = 0) (h8 : 8 ≤ (g_thr I c).2 (4, 0, 0) 4) : jc_Ct y_M_begin [.inr (some (4, 0, 0)), .inl x] I O live (some (.inl (-12)), (g_thr I c).2, O, live, 0, 0) := by
  obtain ⟨m0, m1, m2, m3⟩ := id hM
  have hin : jw_in I c := by unfold jw_in; rw [← hxc]; exact jlN hx.1 hx.2
  refine jc_Ct.of (by decide +kernel) (Or.inl rfl) (Nat.le_of_ble_eq_true rfl) ?_
  refine jr_aload_n d_M_begin_0 rfl rfl ?_
  refine jr_getr d_M_begin_1 f_M_17 rfl rfl ?_
  first | rw [m0] | rw [m1] | rw [m2] | rw [m3] | skip
  refine jr_iload_n d_M_begin_4 rfl rfl ?_
  refine jv_V1r d_M_begin_5 l_M_33 k_Cs_find ⟨Nat.le_of_ble_eq_true rfl, Nat.le_of_ble_eq_true rfl⟩ rfl rfl (Nat.le_of_ble_eq_true rfl) (ct_Cs_find hA.1 hA.2.2.1) (by first | decide | exact Nat.zero_le _ | (dsimp only; omega) | (dsimp only; grind)) (by first | decide | exact Nat.zero_le _ | (dsimp only; omega) | (dsimp only; grind)) ?_
  first | rw [m0] | rw [m1] | rw [m2] | rw [m3] | skip
  rw [if_pos hx, hxc, (hA.2.2.2 c hin).1]
  refine jr_astore_n d_M_begin_8 rfl (Nat.le_of_ble_eq_true rfl) ?_
  refine jr_aload_n d_M_begin_9 rfl rfl ?_
  refine jr_ifnonnull (tgt := 16) d_M_begin_10 (by decide) (fun q10 c10 => ?_) (fun c10 => by cases c10)
  refine jr_aload_n d_M_begin_16 rfl rfl ?_
  refine jr_geti d_M_begin_17 f_M_39 rfl ?_
  refine jr_if_gt (tgt := 34) d_M_begin_20 (by decide) (fun c20 => ?_) (fun c20 => ?_)
  · skip
    exact absurd c20 hp
  · skip
    refine jr_aload_n d_M_begin_23 rfl rfl ?_
    refine jr_getr d_M_begin_24 f_M_21 rfl rfl ?_
    first | rw [m0] | rw [m1] | rw [m2] | rw [m3] | skip
    refine jr_aload_n d_M_begin_27 rfl rfl ?_
    refine jv_V1r d_M_begin_28 l_M_44 k_G_isGoodThroughout ⟨Nat.le_of_ble_eq_true rfl, Nat.le_of_ble_eq_true rfl⟩ rfl rfl (Nat.le_of_ble_eq_true rfl) (ct_G_isGoodThroughout hG hA hin) (by first | decide | exact Nat.zero_le _ | (dsimp only; omega) | (dsimp only; grind)) (by first | decide | exact Nat.zero_le _ | (dsimp only; omega) | (dsimp only; grind)) ?_
    refine jr_if_ne (tgt := 36) d_M_begin_31 (by decide) (fun c31 => ?_) (fun c31 => ?_)
    · skip
      refine jr_aload_n d_M_begin_36 rfl rfl ?_
      refine jr_geti d_M_begin_37 f_M_29 rfl ?_
      refine jr_bipush (v := 8) d_M_begin_40 (by decide) ?_
      refine jr_icmp_lt (tgt := 48) d_M_begin_42 (by decide) (fun c42 => ?_) (fun c42 => ?_)
      · skip
        exfalso; clear hA hG hM; grind
      · skip
        refine jr_bipush (v := (-12)) d_M_begin_45 (by decide) ?_
        exact jr_retX (v := some _) d_M_begin_47 (by first | exact Nat.le_refl _ | exact Nat.zero_le _ | (dsimp only; omega)) (by first | exact Nat.le_refl _ | exact Nat.zero_le _ | (dsimp only; omega)) (by first | with_reducible rfl | (dsimp only; rfl; done) | (rfl; done) | (exfalso; grind)) (by first | with_reducible rfl | (dsimp only; rfl; done) | (rfl; done) | (exfalso; grind)) (by first | with_reducible rfl | (dsimp only; rfl; done) | (rfl; done) | (exfalso; grind)) (by first | with_reducible rfl | (dsimp only; rfl; done) | (rfl; done) | (exfalso; grind))
    · skip
      exact absurd c31 hv
def j_bg (K : jc_I) (t : Nat) : jc_I := jc_up (s_bg K t) (4, 0, 0) 4 (s_bg K t (4, 0, 0) 4 + 1)
theorem ct_M_begin_o {I : jc_I} {O : jc_O} {live : jc_L → Prop} {x : Int32} {c t : Nat} (hM : jw_M O) (hA : jw_A I O) (hG : jw_G O) (hx : 0 ≤ x ∧ x < I (1, 0, 0) 1) (hxc : x.toNatClampNeg = c) (hp : ¬ 0 < I (6, c, 0) 1) (hv : ¬ (g_thr I c).1 = 0) (ht : (g_thr I c).2 (4, 0, 0) 4 = Int32.ofNat t) (ht8 : t < 8) (hs : O (35, 0, 0) t = some (9, t, 0)) (h1 : O (9, t, 0) 1 = some (34, t, 0)) (hj : O (34, t, 0) 0 = some (8, t, 0)) (hl : O (8, t, 0) 1 = some (33, t, 0)) : jc_Ct y_M_begin [.inr (some (4, 0, 0)), .inl x] I O live (some (.inl (s_bg (g_thr I c).2 t (4, 0, 0) 4 + 1 - 1)), j_bg (g_thr I c).2 t, (jc_up (jc_up O (8, t, 0) 2 (some (6, c, 0))) (1, 0, 0) 2 none), live, 0, 0) := by
  obtain ⟨m0, m1, m2, m3⟩ := id hM
  have hin : jw_in I c := by unfold jw_in; rw [← hxc]; exact jlN hx.1 hx.2
  have hq0 : jc_up O (8, t, 0) 2 (some (6, c, 0)) (4, 0, 0) 0 = some (1, 0, 0) := by rw [jc_up_t _ _ _ _ _ _ _ _ (by decide)]; exact m0
  refine jc_Ct.of (by decide +kernel) (Or.inl rfl) (Nat.le_of_ble_eq_true rfl) ?_
  refine jr_aload_n d_M_begin_0 rfl rfl ?_
  refine jr_getr d_M_begin_1 f_M_17 rfl rfl ?_
  first | rw [m0] | rw [m1] | rw [m2] | rw [m3] | rw [hs] | rw [hq0] | skip
  refine jr_iload_n d_M_begin_4 rfl rfl ?_
  refine jv_V1r d_M_begin_5 l_M_33 k_Cs_find ⟨Nat.le_of_ble_eq_true rfl, Nat.le_of_ble_eq_true rfl⟩ rfl rfl (Nat.le_of_ble_eq_true rfl) (ct_Cs_find hA.1 hA.2.2.1) (by first | decide | exact Nat.zero_le _ | (dsimp only; omega) | (dsimp only; grind)) (by first | decide | exact Nat.zero_le _ | (dsimp only; omega) | (dsimp only; grind)) ?_
  first | rw [m0] | rw [m1] | rw [m2] | rw [m3] | rw [hs] | rw [hq0] | skip
  rw [if_pos hx, hxc, (hA.2.2.2 c hin).1]
  refine jr_astore_n d_M_begin_8 rfl (Nat.le_of_ble_eq_true rfl) ?_
  refine jr_aload_n d_M_begin_9 rfl rfl ?_
  refine jr_ifnonnull (tgt := 16) d_M_begin_10 (by decide) (fun q10 c10 => ?_) (fun c10 => by cases c10)
  refine jr_aload_n d_M_begin_16 rfl rfl ?_
  refine jr_geti d_M_begin_17 f_M_39 rfl ?_
  refine jr_if_gt (tgt := 34) d_M_begin_20 (by decide) (fun c20 => ?_) (fun c20 => ?_)
  · skip
    exact absurd c20 hp
  · skip
    refine jr_aload_n d_M_begin_23 rfl rfl ?_
    refine jr_getr d_M_begin_24 f_M_21 rfl rfl ?_
    first | rw [m0] | rw [m1] | rw [m2] | rw [m3] | rw [hs] | rw [hq0] | skip
    refine jr_aload_n d_M_begin_27 rfl rfl ?_
    refine jv_V1r d_M_begin_28 l_M_44 k_G_isGoodThroughout ⟨Nat.le_of_ble_eq_true rfl, Nat.le_of_ble_eq_true rfl⟩ rfl rfl (Nat.le_of_ble_eq_true rfl) (ct_G_isGoodThroughout hG hA hin) (by first | decide | exact Nat.zero_le _ | (dsimp only; omega) | (dsimp only; grind)) (by first | decide | exact Nat.zero_le _ | (dsimp only; omega) | (dsimp only; grind)) ?_
    refine jr_if_ne (tgt := 36) d_M_begin_31 (by decide) (fun c31 => ?_) (fun c31 => ?_)
    · skip
      refine jr_aload_n d_M_begin_36 rfl rfl ?_
      refine jr_geti d_M_begin_37 f_M_29 rfl ?_
      refine jr_bipush (v := 8) d_M_begin_40 (by decide) ?_
      refine jr_icmp_lt (tgt := 48) d_M_begin_42 (by decide) (fun c42 => ?_) (fun c42 => ?_)
      · skip
        refine jr_aload_n d_M_begin_48 rfl rfl ?_
        refine jr_getr d_M_begin_49 f_M_11 rfl rfl ?_
        first | rw [m0] | rw [m1] | rw [m2] | rw [m3] | rw [hs] | rw [hq0] | skip
        refine jr_aload_n d_M_begin_52 rfl rfl ?_
        refine jr_geti d_M_begin_53 f_M_29 rfl ?_
        refine jr_aald d_M_begin_56 rfl rfl rfl (jinv (by rw [ht, jle, jofI (by omega), j0I]; omega) (by rw [ht, jofN (by omega)]; show t < 8; omega)) ?_
        first | rw [m0] | rw [m1] | rw [m2] | rw [m3] | rw [hs] | rw [hq0] | skip
        rw [ht, jofN (by omega), hs]
        refine jr_ifnonnull (tgt := 80) d_M_begin_57 (by decide) (fun q57 c57 => ?_) (fun c57 => by cases c57)
        refine jr_aload_n d_M_begin_80 rfl rfl ?_
        refine jr_getr d_M_begin_81 f_M_11 rfl rfl ?_
        first | rw [m0] | rw [m1] | rw [m2] | rw [m3] | rw [hs] | rw [hq0] | skip
        refine jr_aload_n d_M_begin_84 rfl rfl ?_
        refine jr_geti d_M_begin_85 f_M_29 rfl ?_
        refine jr_aald d_M_begin_88 rfl rfl rfl (jinv (by rw [ht, jle, jofI (by omega), j0I]; omega) (by rw [ht, jofN (by omega)]; show t < 8; omega)) ?_
        first | rw [m0] | rw [m1] | rw [m2] | rw [m3] | rw [hs] | rw [hq0] | skip
        rw [ht, jofN (by omega), hs]
        refine jr_aload_n d_M_begin_89 rfl rfl ?_
        refine jv_V1v d_M_begin_90 l_M_53 k_S_begin ⟨Nat.le_of_ble_eq_true rfl, Nat.le_of_ble_eq_true rfl⟩ rfl rfl (Nat.le_of_ble_eq_true rfl) (ct_S_begin h1 hj hl) (by first | decide | exact Nat.zero_le _ | (dsimp only; omega) | (dsimp only; grind)) (by first | decide | exact Nat.zero_le _ | (dsimp only; omega) | (dsimp only; grind)) ?_
        refine jr_aload_n d_M_begin_93 rfl rfl ?_
        refine jr_getr d_M_begin_94 f_M_17 rfl rfl ?_
        first | rw [m0] | rw [m1] | rw [m2] | rw [m3] | rw [hs] | rw [hq0] | skip
        refine jv_V0v d_M_begin_97 l_M_57 k_Cs_close ⟨Nat.le_of_ble_eq_true rfl, Nat.le_of_ble_eq_true rfl⟩ rfl rfl (Nat.le_of_ble_eq_true rfl) (ct_Cs_close) (by first | decide | exact Nat.zero_le _ | (dsimp only; omega) | (dsimp only; grind)) (by first | decide | exact Nat.zero_le _ | (dsimp only; omega) | (dsimp only; grind)) ?_
        refine jr_aload_n d_M_begin_100 rfl rfl ?_
        refine jr_dup d_M_begin_101 ?_
        refine jr_geti d_M_begin_102 f_M_29 rfl ?_
        skip
        refine jr_iconst (v := 1) d_M_begin_105 (by decide) ?_
        refine jr_iadd d_M_begin_106 ?_
        refine jr_puti d_M_begin_107 f_M_29 (Or.inl rfl) rfl ?_
        refine jr_aload_n d_M_begin_110 rfl rfl ?_
        refine jr_geti d_M_begin_111 f_M_29 rfl ?_
        try simp only [jc_up_s, jc_up_k, jc_up_t, jc_cl_s, jc_cl_t, ne_eq, Nat.reduceEqDiff, not_false_eq_true, Nat.reduceAdd]
        refine jr_iconst (v := 1) d_M_begin_114 (by decide) ?_
        refine jr_isub d_M_begin_115 ?_
        exact jr_retX (v := some _) d_M_begin_116 (by first | exact Nat.le_refl _ | exact Nat.zero_le _ | (dsimp only; omega)) (by first | exact Nat.le_refl _ | exact Nat.zero_le _ | (dsimp only; omega)) (by first | with_reducible rfl | (dsimp only; (unfold j_bg; rfl); done) | ((unfold j_bg; rfl); done) | (exfalso; grind)) (by first | with_reducible rfl | (dsimp only; (unfold j_bg; rfl); done) | ((unfold j_bg; rfl); done) | (exfalso; grind)) (by first | with_reducible rfl | (dsimp only; (unfold j_bg; rfl); done) | ((unfold j_bg; rfl); done) | (exfalso; grind)) (by first | with_reducible rfl | (dsimp only; (unfold j_bg; rfl); done) | ((unfold j_bg; rfl); done) | (exfalso; grind))
      · skip
        exfalso; rw [ht, jlt, jofI (by omega), show (8 : Int32).toInt = 8 from by decide] at c42; omega
    · skip
      exact absurd c31 hv
def s_nI (K : jc_I) (t : Nat) : jc_I := s_mkI (jc_up (jc_cl (jc_cl K (9, t, 0) 0) (34, t, 0) 0) (9, t, 0) 0 (K (4, 0, 0) 4)) t 30
def s_nO (O : jc_O) (t : Nat) : jc_O := jc_up (s_mkO (jc_up (jc_cl (jc_cl O (9, t, 0) none) (34, t, 0) none) (9, t, 0) 1 (some (34, t, 0))) t 30) (35, 0, 0) t (some (9, t, 0))
def s_nl (live : jc_L → Prop) (t : Nat) : jc_L → Prop := s_mkl (jadd (34, t, 0) (jadd (9, t, 0) live)) t 30
theorem s_mkI_9 {I : jc_I} {t a : Nat} {u : Nat × Nat} {k : Nat} (h1 : a ≠ 8) (h2 : a ≠ 32) (h3 : a ≠ 33) : ∀ n, s_mkI I t n (a, u) k = I (a, u) k
  | 0 => rfl
  | n + 1 => by rw [s_mkI, jc_cl_t _ _ _ _ _ _ _ h3, jc_cl_t _ _ _ _ _ _ _ h2, jc_cl_t _ _ _ _ _ _ _ h1, s_mkI_9 h1 h2 h3 n]
theorem s_mkO_f {O : jc_O} {t : Nat} : ∀ n j, j < n → s_mkO O t n (8, t, j) 0 = some (32, t, j) ∧ s_mkO O t n (8, t, j) 1 = some (33, t, j) ∧ s_mkO O t n (34, t, 0) j = some (8, t, j)
  | 0, j, h => absurd h (Nat.not_lt_zero _)
  | n + 1, j, h => by
    rw [s_mkO]
    by_cases e : j = n
    · subst e
      refine ⟨?_, ?_, jc_up_s _ _ _ _⟩
      · rw [jc_up_t _ _ _ _ _ _ _ _ (by decide), jc_up_k _ _ _ _ _ _ (by decide), jc_cl_t _ _ _ _ _ _ _ (by decide), jc_up_s]
      · rw [jc_up_t _ _ _ _ _ _ _ _ (by decide), jc_up_s]
    · obtain ⟨a, b, c⟩ := s_mkO_f (O := O) (t := t) n j (by omega)
      have hq : ((8, t, j) : jc_L) ≠ (8, t, n) := by simp [e]
      refine ⟨?_, ?_, ?_⟩
      · rw [jc_up_t _ _ _ _ _ _ _ _ (by decide), jc_up_q _ _ _ _ _ _ hq, jc_cl_t _ _ _ _ _ _ _ (by decide), jc_up_q _ _ _ _ _ _ hq, jc_cl_t _ _ _ _ _ _ _ (by decide)]
        exact (if_neg hq).trans a
      · rw [jc_up_t _ _ _ _ _ _ _ _ (by decide), jc_up_q _ _ _ _ _ _ hq, jc_cl_t _ _ _ _ _ _ _ (by decide), jc_up_q _ _ _ _ _ _ hq, jc_cl_t _ _ _ _ _ _ _ (by decide)]
        exact (if_neg hq).trans b
      · rw [jc_up_k _ _ _ _ _ _ e, jc_up_t _ _ _ _ _ _ _ _ (by decide), jc_cl_t _ _ _ _ _ _ _ (by decide), jc_up_t _ _ _ _ _ _ _ _ (by decide), jc_cl_t _ _ _ _ _ _ _ (by decide), jc_cl_t _ _ _ _ _ _ _ (by decide)]
        exact c
theorem s_mkl_in {live : jc_L → Prop} {t : Nat} {q : jc_L} : ∀ n, live q → s_mkl live t n q
  | 0, h => h
  | n + 1, h => Or.inr (Or.inr (Or.inr (s_mkl_in n h)))
theorem ct_M_begin_w {I : jc_I} {O : jc_O} {live : jc_L → Prop} {x : Int32} {c t : Nat} (hM : jw_M O) (hA : jw_A I O) (hG : jw_G O) (hx : 0 ≤ x ∧ x < I (1, 0, 0) 1) (hxc : x.toNatClampNeg = c) (hp : ¬ 0 < I (6, c, 0) 1) (hv : ¬ (g_thr I c).1 = 0) (ht : (g_thr I c).2 (4, 0, 0) 4 = Int32.ofNat t) (ht8 : t < 8) (hs : O (35, 0, 0) t = none) (f0 : ¬ live (9, t, 0)) (f1 : ¬ live (34, t, 0)) (hf : ∀ j, j < 30 → ¬ live (8, t, j) ∧ ¬ live (32, t, j) ∧ ¬ live (33, t, j)) : jc_Ct y_M_begin [.inr (some (4, 0, 0)), .inl x] I O live (some (.inl (s_bg (s_nI (g_thr I c).2 t) t (4, 0, 0) 4 + 1 - 1)), j_bg (s_nI (g_thr I c).2 t) t, (jc_up (jc_up (s_nO O t) (8, t, 0) 2 (some (6, c, 0))) (1, 0, 0) 2 none), s_nl live t, 92, 787) := by
  obtain ⟨m0, m1, m2, m3⟩ := id hM
  have hin : jw_in I c := by unfold jw_in; rw [← hxc]; exact jlN hx.1 hx.2
  have n35 : s_nO O t (35, 0, 0) t = some (9, t, 0) := jc_up_s _ _ _ _
  have n3 : s_nO O t (4, 0, 0) 3 = some (35, 0, 0) := by unfold s_nO; rw [jc_up_t _ _ _ _ _ _ _ _ (by decide), s_mkO_9 (by decide) (by decide) (by decide) (by decide), jc_up_t _ _ _ _ _ _ _ _ (by decide), jc_cl_t _ _ _ _ _ _ _ (by decide), jc_cl_t _ _ _ _ _ _ _ (by decide)]; exact m3
  have n0 : s_nO O t (4, 0, 0) 0 = some (1, 0, 0) := by unfold s_nO; rw [jc_up_t _ _ _ _ _ _ _ _ (by decide), s_mkO_9 (by decide) (by decide) (by decide) (by decide), jc_up_t _ _ _ _ _ _ _ _ (by decide), jc_cl_t _ _ _ _ _ _ _ (by decide), jc_cl_t _ _ _ _ _ _ _ (by decide)]; exact m0
  have n91 : s_nO O t (9, t, 0) 1 = some (34, t, 0) := by unfold s_nO; rw [jc_up_t _ _ _ _ _ _ _ _ (by decide), s_mkO_9 (by decide) (by decide) (by decide) (by decide), jc_up_s]
  have nf := s_mkO_f (O := jc_up (jc_cl (jc_cl O (9, t, 0) none) (34, t, 0) none) (9, t, 0) 1 (some (34, t, 0))) (t := t) 30 0 (by omega)
  have n34 : s_nO O t (34, t, 0) 0 = some (8, t, 0) := by unfold s_nO; rw [jc_up_t _ _ _ _ _ _ _ _ (by decide)]; exact nf.2.2
  have n81 : s_nO O t (8, t, 0) 1 = some (33, t, 0) := by unfold s_nO; rw [jc_up_t _ _ _ _ _ _ _ _ (by decide)]; exact nf.2.1
  have nt : s_nI (g_thr I c).2 t (4, 0, 0) 4 = Int32.ofNat t := by unfold s_nI; rw [s_mkI_9 (by decide) (by decide) (by decide), jc_up_t _ _ _ _ _ _ _ _ (by decide), jc_cl_t _ _ _ _ _ _ _ (by decide), jc_cl_t _ _ _ _ _ _ _ (by decide)]; exact ht
  have wq0 : jc_up (s_nO O t) (8, t, 0) 2 (some (6, c, 0)) (4, 0, 0) 0 = some (1, 0, 0) := by rw [jc_up_t _ _ _ _ _ _ _ _ (by decide)]; exact n0
  refine jc_Ct.of (by decide +kernel) (Or.inl rfl) (Nat.le_of_ble_eq_true rfl) ?_
  refine jr_aload_n d_M_begin_0 rfl rfl ?_
  refine jr_getr d_M_begin_1 f_M_17 rfl rfl ?_
  first | rw [m0] | rw [m1] | rw [m2] | rw [m3] | rw [hs] | rw [n3] | rw [n0] | rw [wq0] | skip
  refine jr_iload_n d_M_begin_4 rfl rfl ?_
  refine jv_V1r d_M_begin_5 l_M_33 k_Cs_find ⟨Nat.le_of_ble_eq_true rfl, Nat.le_of_ble_eq_true rfl⟩ rfl rfl (Nat.le_of_ble_eq_true rfl) (ct_Cs_find hA.1 hA.2.2.1) (by first | decide | exact Nat.zero_le _ | (dsimp only; omega) | (dsimp only; grind) | (omega)) (by first | decide | exact Nat.zero_le _ | (dsimp only; omega) | (dsimp only; grind) | (omega)) ?_
  first | rw [m0] | rw [m1] | rw [m2] | rw [m3] | rw [hs] | rw [n3] | rw [n0] | rw [wq0] | skip
  rw [if_pos hx, hxc, (hA.2.2.2 c hin).1]
  refine jr_astore_n d_M_begin_8 rfl (Nat.le_of_ble_eq_true rfl) ?_
  refine jr_aload_n d_M_begin_9 rfl rfl ?_
  refine jr_ifnonnull (tgt := 16) d_M_begin_10 (by decide) (fun q10 c10 => ?_) (fun c10 => by cases c10)
  refine jr_aload_n d_M_begin_16 rfl rfl ?_
  refine jr_geti d_M_begin_17 f_M_39 rfl ?_
  refine jr_if_gt (tgt := 34) d_M_begin_20 (by decide) (fun c20 => ?_) (fun c20 => ?_)
  · skip
    exact absurd c20 hp
  · skip
    refine jr_aload_n d_M_begin_23 rfl rfl ?_
    refine jr_getr d_M_begin_24 f_M_21 rfl rfl ?_
    first | rw [m0] | rw [m1] | rw [m2] | rw [m3] | rw [hs] | rw [n3] | rw [n0] | rw [wq0] | skip
    refine jr_aload_n d_M_begin_27 rfl rfl ?_
    refine jv_V1r d_M_begin_28 l_M_44 k_G_isGoodThroughout ⟨Nat.le_of_ble_eq_true rfl, Nat.le_of_ble_eq_true rfl⟩ rfl rfl (Nat.le_of_ble_eq_true rfl) (ct_G_isGoodThroughout hG hA hin) (by first | decide | exact Nat.zero_le _ | (dsimp only; omega) | (dsimp only; grind) | (omega)) (by first | decide | exact Nat.zero_le _ | (dsimp only; omega) | (dsimp only; grind) | (omega)) ?_
    refine jr_if_ne (tgt := 36) d_M_begin_31 (by decide) (fun c31 => ?_) (fun c31 => ?_)
    · skip
      refine jr_aload_n d_M_begin_36 rfl rfl ?_
      refine jr_geti d_M_begin_37 f_M_29 rfl ?_
      refine jr_bipush (v := 8) d_M_begin_40 (by decide) ?_
      refine jr_icmp_lt (tgt := 48) d_M_begin_42 (by decide) (fun c42 => ?_) (fun c42 => ?_)
      · skip
        refine jr_aload_n d_M_begin_48 rfl rfl ?_
        refine jr_getr d_M_begin_49 f_M_11 rfl rfl ?_
        first | rw [m0] | rw [m1] | rw [m2] | rw [m3] | rw [hs] | rw [n3] | rw [n0] | rw [wq0] | skip
        refine jr_aload_n d_M_begin_52 rfl rfl ?_
        refine jr_geti d_M_begin_53 f_M_29 rfl ?_
        refine jr_aald d_M_begin_56 rfl rfl rfl (jinv (by rw [ht, jle, jofI (by omega), j0I]; omega) (by rw [ht, jofN (by omega)]; show t < 8; omega)) ?_
        first | rw [m0] | rw [m1] | rw [m2] | rw [m3] | rw [hs] | rw [n3] | rw [n0] | rw [wq0] | skip
        rw [ht, jofN (by omega), hs]
        refine jr_ifnonnull (tgt := 80) d_M_begin_57 (by decide) (fun q57 c57 => by cases c57) (fun c57 => ?_)
        refine jr_aload_n d_M_begin_60 rfl rfl ?_
        refine jr_getr d_M_begin_61 f_M_11 rfl rfl ?_
        first | rw [m0] | rw [m1] | rw [m2] | rw [m3] | rw [hs] | rw [n3] | rw [n0] | rw [wq0] | skip
        refine jr_aload_n d_M_begin_64 rfl rfl ?_
        refine jr_geti d_M_begin_65 f_M_29 rfl ?_
        refine jr_new (9, t, 0) d_M_begin_68 n_M_9 rfl (f0) (by first | decide | (dsimp only; omega)) (by first | decide | (dsimp only; omega)) ?_
        refine jr_dup d_M_begin_71 ?_
        refine jr_aload_n d_M_begin_72 rfl rfl ?_
        refine jr_geti d_M_begin_73 f_M_29 rfl ?_
        skip
        rw [show jc_cl (g_thr I c).2 (9, t, 0) 0 (4, 0, 0) 4 = (g_thr I c).2 (4, 0, 0) 4 from jc_cl_t _ _ _ _ _ _ _ (by decide)]
        refine jv_I1vA d_M_begin_76 l_M_50 k_S_init ⟨Nat.le_of_ble_eq_true rfl, Nat.le_of_ble_eq_true rfl⟩ (Nat.le_of_ble_eq_true rfl) (ct_S_init (t := t) (fun g => g.elim (fun e => by cases e) f1) (fun j hj => ⟨fun g => g.elim (fun e => by cases e) (hf j hj).1, fun g => g.elim (fun e => by cases e) (hf j hj).2.1, fun g => g.elim (fun e => by cases e) (hf j hj).2.2⟩)) (fun q9 h9 => s_mkl_in 30 (Or.inr h9)) (by first | decide | exact Nat.zero_le _ | (dsimp only; omega) | (dsimp only; grind) | (omega)) (by first | decide | exact Nat.zero_le _ | (dsimp only; omega) | (dsimp only; grind) | (omega)) ?_
        refine jr_aast d_M_begin_79 rfl rfl rfl (jinv (by rw [ht, jle, jofI (by omega), j0I]; omega) (by rw [ht, jofN (by omega)]; show t < 8; omega)) (fun q9 e9 => by cases e9; exact ⟨_, _, rfl, rfl, Or.inl rfl⟩) ?_
        rw [ht, jofN (by omega)]; rw [← ht]; change jc_R _ _ _ _ (s_nI (g_thr I c).2 t) (s_nO O t) (s_nl live t) _ _ _
        refine jr_aload_n d_M_begin_80 rfl rfl ?_
        refine jr_getr d_M_begin_81 f_M_11 rfl rfl ?_
        skip
        first | rw [m0] | rw [m1] | rw [m2] | rw [m3] | rw [hs] | rw [n3] | rw [n0] | rw [wq0] | skip
        refine jr_aload_n d_M_begin_84 rfl rfl ?_
        refine jr_geti d_M_begin_85 f_M_29 rfl ?_
        skip
        refine jr_aald d_M_begin_88 rfl rfl rfl (jinv (by rw [nt, jle, jofI (by omega), j0I]; omega) (by rw [nt, jofN (by omega)]; show t < 8; omega)) ?_
        skip
        first | rw [m0] | rw [m1] | rw [m2] | rw [m3] | rw [hs] | rw [n3] | rw [n0] | rw [wq0] | skip
        rw [nt, jofN (by omega), n35]
        refine jr_aload_n d_M_begin_89 rfl rfl ?_
        refine jv_V1v d_M_begin_90 l_M_53 k_S_begin ⟨Nat.le_of_ble_eq_true rfl, Nat.le_of_ble_eq_true rfl⟩ rfl rfl (Nat.le_of_ble_eq_true rfl) (ct_S_begin n91 n34 n81) (by first | decide | exact Nat.zero_le _ | (dsimp only; omega) | (dsimp only; grind) | (omega)) (by first | decide | exact Nat.zero_le _ | (dsimp only; omega) | (dsimp only; grind) | (omega)) ?_
        refine jr_aload_n d_M_begin_93 rfl rfl ?_
        refine jr_getr d_M_begin_94 f_M_17 rfl rfl ?_
        skip
        first | rw [m0] | rw [m1] | rw [m2] | rw [m3] | rw [hs] | rw [n3] | rw [n0] | rw [wq0] | skip
        refine jv_V0v d_M_begin_97 l_M_57 k_Cs_close ⟨Nat.le_of_ble_eq_true rfl, Nat.le_of_ble_eq_true rfl⟩ rfl rfl (Nat.le_of_ble_eq_true rfl) (ct_Cs_close) (by first | decide | exact Nat.zero_le _ | (dsimp only; omega) | (dsimp only; grind) | (omega)) (by first | decide | exact Nat.zero_le _ | (dsimp only; omega) | (dsimp only; grind) | (omega)) ?_
        refine jr_aload_n d_M_begin_100 rfl rfl ?_
        refine jr_dup d_M_begin_101 ?_
        refine jr_geti d_M_begin_102 f_M_29 rfl ?_
        skip
        refine jr_iconst (v := 1) d_M_begin_105 (by decide) ?_
        refine jr_iadd d_M_begin_106 ?_
        refine jr_puti d_M_begin_107 f_M_29 (Or.inl rfl) rfl ?_
        refine jr_aload_n d_M_begin_110 rfl rfl ?_
        refine jr_geti d_M_begin_111 f_M_29 rfl ?_
        skip
        refine jr_iconst (v := 1) d_M_begin_114 (by decide) ?_
        refine jr_isub d_M_begin_115 ?_
        exact jr_retX (v := some _) d_M_begin_116 (by first | exact Nat.le_refl _ | exact Nat.zero_le _ | (dsimp only; omega) | (omega)) (by first | exact Nat.le_refl _ | exact Nat.zero_le _ | (dsimp only; omega) | (omega)) (by first | with_reducible rfl | (dsimp only; (unfold j_bg; rfl); done) | ((unfold j_bg; rfl); done) | (exfalso; grind)) (by first | with_reducible rfl | (dsimp only; (unfold j_bg; rfl); done) | ((unfold j_bg; rfl); done) | (exfalso; grind)) (by first | with_reducible rfl | (dsimp only; (unfold j_bg; rfl); done) | ((unfold j_bg; rfl); done) | (exfalso; grind)) (by first | with_reducible rfl | (dsimp only; (unfold j_bg; rfl); done) | ((unfold j_bg; rfl); done) | (exfalso; grind))
      · skip
        exfalso; rw [ht, jlt, jofI (by omega), show (8 : Int32).toInt = 8 from by decide] at c42; omega
    · skip
      exact absurd c31 hv
def jw_J (O : jc_O) : Prop := O (0, 0, 0) 0 = some (1, 0, 0) ∧ O (0, 0, 0) 1 = some (2, 0, 0) ∧ O (0, 0, 0) 2 = some (3, 0, 0) ∧ O (0, 0, 0) 3 = some (4, 0, 0)
theorem ct_J_thread {I : jc_I} {O : jc_O} {live : jc_L → Prop} {x : Int32} {I1 : jc_I} {O1 : jc_O} {live1 : jc_L → Prop} {mc1 ms1 : Nat} {v1 : Int32} (hJ : jw_J O) (hlv : ∀ q, live q → live1 q) (hC : jc_Ct y_M_begin [.inr (some (4, 0, 0)), .inl x] I O live (some (.inl v1), I1, O1, live1, mc1, ms1)) : jc_Ct y_J_thread [.inr (some (0, 0, 0)), .inl x] I O live (some (.inl v1), I1, O1, live1, mc1, ms1) := by
  obtain ⟨j0, j1, j2, j3⟩ := id hJ
  refine jc_Ct.of (by decide +kernel) (Or.inl rfl) (Nat.le_of_ble_eq_true rfl) ?_
  refine jr_aload_n d_J_thread_0 rfl rfl ?_
  refine jr_getr d_J_thread_1 f_J_37 rfl rfl ?_
  first | rw [j0] | rw [j1] | rw [j2] | rw [j3] | skip
  refine jr_iload_n d_J_thread_4 rfl rfl ?_
  refine jv_V1rA d_J_thread_5 l_J_82 k_M_begin ⟨Nat.le_of_ble_eq_true rfl, Nat.le_of_ble_eq_true rfl⟩ rfl rfl (Nat.le_of_ble_eq_true rfl) (hC) hlv (by first | decide | exact Nat.zero_le _ | (dsimp only; omega) | (dsimp only; grind) | (omega)) (by first | decide | exact Nat.zero_le _ | (dsimp only; omega) | (dsimp only; grind) | (omega)) ?_
  exact jr_retX (v := some _) d_J_thread_8 (by first | exact Nat.le_refl _ | exact Nat.zero_le _ | (dsimp only; omega) | (omega)) (by first | exact Nat.le_refl _ | exact Nat.zero_le _ | (dsimp only; omega) | (omega)) (by first | with_reducible rfl | (dsimp only; rfl; done) | (rfl; done) | (exfalso; grind)) (by first | with_reducible rfl | (dsimp only; rfl; done) | (rfl; done) | (exfalso; grind)) (by first | with_reducible rfl | (dsimp only; rfl; done) | (rfl; done) | (exfalso; grind)) (by first | with_reducible rfl | (dsimp only; rfl; done) | (rfl; done) | (exfalso; grind))
theorem ct_J_judge_n {I : jc_I} {O : jc_O} {live : jc_L → Prop} {x : Int32} (hJ : jw_J O) (hA : jw_A I O) (hx : ¬ (0 ≤ x ∧ x < I (1, 0, 0) 1)) : jc_Ct y_J_judge [.inr (some (0, 0, 0)), .inl x] I O live (some (.inl (-14)), I, O, live, 0, 0) := by
  obtain ⟨j0, j1, j2, j3⟩ := id hJ
  refine jc_Ct.of (by decide +kernel) (Or.inl rfl) (Nat.le_of_ble_eq_true rfl) ?_
  refine jr_aload_n d_J_judge_0 rfl rfl ?_
  refine jr_getr d_J_judge_1 f_J_10 rfl rfl ?_
  first | rw [j0] | rw [j1] | rw [j2] | rw [j3] | skip
  refine jr_iload_n d_J_judge_4 rfl rfl ?_
  refine jv_V1r d_J_judge_5 l_J_74 k_Cs_find ⟨Nat.le_of_ble_eq_true rfl, Nat.le_of_ble_eq_true rfl⟩ rfl rfl (Nat.le_of_ble_eq_true rfl) (ct_Cs_find hA.1 hA.2.2.1) (by first | decide | exact Nat.zero_le _ | (dsimp only; omega) | (dsimp only; grind)) (by first | decide | exact Nat.zero_le _ | (dsimp only; omega) | (dsimp only; grind)) ?_
  first | rw [j0] | rw [j1] | rw [j2] | rw [j3] | skip
  rw [if_neg hx]
  refine jr_astore_n d_J_judge_8 rfl (Nat.le_of_ble_eq_true rfl) ?_
  refine jr_aload_n d_J_judge_9 rfl rfl ?_
  refine jr_ifnonnull (tgt := 16) d_J_judge_10 (by decide) (fun q10 c10 => by cases c10) (fun c10 => ?_)
  refine jr_bipush (v := (-14)) d_J_judge_13 (by decide) ?_
  exact jr_retX (v := some _) d_J_judge_15 (by first | exact Nat.le_refl _ | exact Nat.zero_le _ | (dsimp only; omega)) (by first | exact Nat.le_refl _ | exact Nat.zero_le _ | (dsimp only; omega)) (by first | with_reducible rfl | (dsimp only; rfl; done) | (rfl; done) | (exfalso; grind)) (by first | with_reducible rfl | (dsimp only; rfl; done) | (rfl; done) | (exfalso; grind)) (by first | with_reducible rfl | (dsimp only; rfl; done) | (rfl; done) | (exfalso; grind)) (by first | with_reducible rfl | (dsimp only; rfl; done) | (rfl; done) | (exfalso; grind))
theorem ct_J_judge_y {I : jc_I} {O : jc_O} {live : jc_L → Prop} {x : Int32} {c : Nat} (hJ : jw_J O) (hA : jw_A I O) (hG : jw_G O) (hx : 0 ≤ x ∧ x < I (1, 0, 0) 1) (hxc : x.toNatClampNeg = c) : jc_Ct y_J_judge [.inr (some (0, 0, 0)), .inl x] I O live (some (.inl (g_good I c (2, 0, 0) 7)), g_good I c, O, live, 0, 0) := by
  obtain ⟨j0, j1, j2, j3⟩ := id hJ
  have hin : jw_in I c := by unfold jw_in; rw [← hxc]; exact jlN hx.1 hx.2
  refine jc_Ct.of (by decide +kernel) (Or.inl rfl) (Nat.le_of_ble_eq_true rfl) ?_
  refine jr_aload_n d_J_judge_0 rfl rfl ?_
  refine jr_getr d_J_judge_1 f_J_10 rfl rfl ?_
  first | rw [j0] | rw [j1] | rw [j2] | rw [j3] | skip
  refine jr_iload_n d_J_judge_4 rfl rfl ?_
  refine jv_V1r d_J_judge_5 l_J_74 k_Cs_find ⟨Nat.le_of_ble_eq_true rfl, Nat.le_of_ble_eq_true rfl⟩ rfl rfl (Nat.le_of_ble_eq_true rfl) (ct_Cs_find hA.1 hA.2.2.1) (by first | decide | exact Nat.zero_le _ | (dsimp only; omega) | (dsimp only; grind)) (by first | decide | exact Nat.zero_le _ | (dsimp only; omega) | (dsimp only; grind)) ?_
  first | rw [j0] | rw [j1] | rw [j2] | rw [j3] | skip
  rw [if_pos hx, hxc, (hA.2.2.2 c hin).1]
  refine jr_astore_n d_J_judge_8 rfl (Nat.le_of_ble_eq_true rfl) ?_
  refine jr_aload_n d_J_judge_9 rfl rfl ?_
  refine jr_ifnonnull (tgt := 16) d_J_judge_10 (by decide) (fun q10 c10 => ?_) (fun c10 => by cases c10)
  refine jr_aload_n d_J_judge_16 rfl rfl ?_
  refine jr_getr d_J_judge_17 f_J_21 rfl rfl ?_
  first | rw [j0] | rw [j1] | rw [j2] | rw [j3] | skip
  refine jr_aload_n d_J_judge_20 rfl rfl ?_
  refine jv_V1r d_J_judge_21 l_J_78 k_G_isGood ⟨Nat.le_of_ble_eq_true rfl, Nat.le_of_ble_eq_true rfl⟩ rfl rfl (Nat.le_of_ble_eq_true rfl) (ct_G_isGood hG hA hin) (by first | decide | exact Nat.zero_le _ | (dsimp only; omega) | (dsimp only; grind)) (by first | decide | exact Nat.zero_le _ | (dsimp only; omega) | (dsimp only; grind)) ?_
  refine jr_if_eq (tgt := 31) d_J_judge_24 (by decide) (fun c24 => ?_) (fun c24 => ?_)
  · skip
    refine jr_iconst (v := 0) d_J_judge_31 (by decide) ?_
    exact jr_retX (v := some _) d_J_judge_32 (by first | exact Nat.le_refl _ | exact Nat.zero_le _ | (dsimp only; omega)) (by first | exact Nat.le_refl _ | exact Nat.zero_le _ | (dsimp only; omega)) (by first | with_reducible rfl | (dsimp only; (rcases g01_good (I := I) (c := c) with h9 | h9 <;> first | (rw [h9]; done) | (exfalso; exact c24 h9) | (exfalso; rw [h9] at c24; exact absurd c24 (by decide))); done) | ((rcases g01_good (I := I) (c := c) with h9 | h9 <;> first | (rw [h9]; done) | (exfalso; exact c24 h9) | (exfalso; rw [h9] at c24; exact absurd c24 (by decide))); done) | (exfalso; grind)) (by first | with_reducible rfl | (dsimp only; (rcases g01_good (I := I) (c := c) with h9 | h9 <;> first | (rw [h9]; done) | (exfalso; exact c24 h9) | (exfalso; rw [h9] at c24; exact absurd c24 (by decide))); done) | ((rcases g01_good (I := I) (c := c) with h9 | h9 <;> first | (rw [h9]; done) | (exfalso; exact c24 h9) | (exfalso; rw [h9] at c24; exact absurd c24 (by decide))); done) | (exfalso; grind)) (by first | with_reducible rfl | (dsimp only; (rcases g01_good (I := I) (c := c) with h9 | h9 <;> first | (rw [h9]; done) | (exfalso; exact c24 h9) | (exfalso; rw [h9] at c24; exact absurd c24 (by decide))); done) | ((rcases g01_good (I := I) (c := c) with h9 | h9 <;> first | (rw [h9]; done) | (exfalso; exact c24 h9) | (exfalso; rw [h9] at c24; exact absurd c24 (by decide))); done) | (exfalso; grind)) (by first | with_reducible rfl | (dsimp only; (rcases g01_good (I := I) (c := c) with h9 | h9 <;> first | (rw [h9]; done) | (exfalso; exact c24 h9) | (exfalso; rw [h9] at c24; exact absurd c24 (by decide))); done) | ((rcases g01_good (I := I) (c := c) with h9 | h9 <;> first | (rw [h9]; done) | (exfalso; exact c24 h9) | (exfalso; rw [h9] at c24; exact absurd c24 (by decide))); done) | (exfalso; grind))
  · skip
    refine jr_iconst (v := 1) d_J_judge_27 (by decide) ?_
    refine jr_goto (tgt := 32) d_J_judge_28 (by decide) ?_
    exact jr_retX (v := some _) d_J_judge_32 (by first | exact Nat.le_refl _ | exact Nat.zero_le _ | (dsimp only; omega)) (by first | exact Nat.le_refl _ | exact Nat.zero_le _ | (dsimp only; omega)) (by first | with_reducible rfl | (dsimp only; (rcases g01_good (I := I) (c := c) with h9 | h9 <;> first | (rw [h9]; done) | (exfalso; exact c24 h9) | (exfalso; rw [h9] at c24; exact absurd c24 (by decide))); done) | ((rcases g01_good (I := I) (c := c) with h9 | h9 <;> first | (rw [h9]; done) | (exfalso; exact c24 h9) | (exfalso; rw [h9] at c24; exact absurd c24 (by decide))); done) | (exfalso; grind)) (by first | with_reducible rfl | (dsimp only; (rcases g01_good (I := I) (c := c) with h9 | h9 <;> first | (rw [h9]; done) | (exfalso; exact c24 h9) | (exfalso; rw [h9] at c24; exact absurd c24 (by decide))); done) | ((rcases g01_good (I := I) (c := c) with h9 | h9 <;> first | (rw [h9]; done) | (exfalso; exact c24 h9) | (exfalso; rw [h9] at c24; exact absurd c24 (by decide))); done) | (exfalso; grind)) (by first | with_reducible rfl | (dsimp only; (rcases g01_good (I := I) (c := c) with h9 | h9 <;> first | (rw [h9]; done) | (exfalso; exact c24 h9) | (exfalso; rw [h9] at c24; exact absurd c24 (by decide))); done) | ((rcases g01_good (I := I) (c := c) with h9 | h9 <;> first | (rw [h9]; done) | (exfalso; exact c24 h9) | (exfalso; rw [h9] at c24; exact absurd c24 (by decide))); done) | (exfalso; grind)) (by first | with_reducible rfl | (dsimp only; (rcases g01_good (I := I) (c := c) with h9 | h9 <;> first | (rw [h9]; done) | (exfalso; exact c24 h9) | (exfalso; rw [h9] at c24; exact absurd c24 (by decide))); done) | ((rcases g01_good (I := I) (c := c) with h9 | h9 <;> first | (rw [h9]; done) | (exfalso; exact c24 h9) | (exfalso; rw [h9] at c24; exact absurd c24 (by decide))); done) | (exfalso; grind))
theorem ct_J_global {I : jc_I} {O : jc_O} {live : jc_L → Prop} {x : Int32} (hJ : jw_J O) (h1 : O (3, 0, 0) 1 = some (31, 0, 0)) : jc_Ct y_J_global [.inr (some (0, 0, 0)), .inl x] I O live (some (.inl (if 0 ≤ x ∧ x ≤ 3 then (if 0 ≤ x ∧ x < 4 then I (31, 0, 0) x.toNatClampNeg else 0) else -14)), I, O, live, 0, 0) := by
  obtain ⟨j0, j1, j2, j3⟩ := id hJ
  refine jc_Ct.of (by decide +kernel) (Or.inl rfl) (Nat.le_of_ble_eq_true rfl) ?_
  refine jr_iload_n d_J_global_0 rfl rfl ?_
  refine jr_iconst (v := 0) d_J_global_1 (by decide) ?_
  refine jr_iconst (v := 3) d_J_global_2 (by decide) ?_
  refine jv_S3r d_J_global_3 l_J_41 k_J_isWithin ⟨Nat.le_of_ble_eq_true rfl, Nat.le_of_ble_eq_true rfl⟩ (Nat.le_of_ble_eq_true rfl) (ct_J_isWithin) (by first | decide | exact Nat.zero_le _ | (dsimp only; omega) | (dsimp only; grind)) (by first | decide | exact Nat.zero_le _ | (dsimp only; omega) | (dsimp only; grind)) ?_
  refine jr_if_eq (tgt := 20) d_J_global_6 (by decide) (fun c6 => ?_) (fun c6 => ?_)
  · skip
    refine jr_bipush (v := (-14)) d_J_global_20 (by decide) ?_
    exact jr_retX (v := some _) d_J_global_22 (by first | exact Nat.le_refl _ | exact Nat.zero_le _ | (dsimp only; omega)) (by first | exact Nat.le_refl _ | exact Nat.zero_le _ | (dsimp only; omega)) (by first | with_reducible rfl | (dsimp only; (repeat (first | rw [if_pos (by grind)] | rw [if_neg (by grind)])); done) | ((repeat (first | rw [if_pos (by grind)] | rw [if_neg (by grind)])); done) | (exfalso; grind)) (by first | with_reducible rfl | (dsimp only; (repeat (first | rw [if_pos (by grind)] | rw [if_neg (by grind)])); done) | ((repeat (first | rw [if_pos (by grind)] | rw [if_neg (by grind)])); done) | (exfalso; grind)) (by first | with_reducible rfl | (dsimp only; (repeat (first | rw [if_pos (by grind)] | rw [if_neg (by grind)])); done) | ((repeat (first | rw [if_pos (by grind)] | rw [if_neg (by grind)])); done) | (exfalso; grind)) (by first | with_reducible rfl | (dsimp only; (repeat (first | rw [if_pos (by grind)] | rw [if_neg (by grind)])); done) | ((repeat (first | rw [if_pos (by grind)] | rw [if_neg (by grind)])); done) | (exfalso; grind))
  · skip
    refine jr_aload_n d_J_global_9 rfl rfl ?_
    refine jr_getr d_J_global_10 f_J_28 rfl rfl ?_
    first | rw [j0] | rw [j1] | rw [j2] | rw [j3] | skip
    refine jr_iload_n d_J_global_13 rfl rfl ?_
    refine jv_V1r d_J_global_14 l_J_118 k_H_globalAt ⟨Nat.le_of_ble_eq_true rfl, Nat.le_of_ble_eq_true rfl⟩ rfl rfl (Nat.le_of_ble_eq_true rfl) (ct_H_globalAt h1) (by first | decide | exact Nat.zero_le _ | (dsimp only; omega) | (dsimp only; grind)) (by first | decide | exact Nat.zero_le _ | (dsimp only; omega) | (dsimp only; grind)) ?_
    refine jr_goto (tgt := 22) d_J_global_17 (by decide) ?_
    exact jr_retX (v := some _) d_J_global_22 (by first | exact Nat.le_refl _ | exact Nat.zero_le _ | (dsimp only; omega)) (by first | exact Nat.le_refl _ | exact Nat.zero_le _ | (dsimp only; omega)) (by first | with_reducible rfl | (dsimp only; (repeat (first | rw [if_pos (by grind)] | rw [if_neg (by grind)])); done) | ((repeat (first | rw [if_pos (by grind)] | rw [if_neg (by grind)])); done) | (exfalso; grind)) (by first | with_reducible rfl | (dsimp only; (repeat (first | rw [if_pos (by grind)] | rw [if_neg (by grind)])); done) | ((repeat (first | rw [if_pos (by grind)] | rw [if_neg (by grind)])); done) | (exfalso; grind)) (by first | with_reducible rfl | (dsimp only; (repeat (first | rw [if_pos (by grind)] | rw [if_neg (by grind)])); done) | ((repeat (first | rw [if_pos (by grind)] | rw [if_neg (by grind)])); done) | (exfalso; grind)) (by first | with_reducible rfl | (dsimp only; (repeat (first | rw [if_pos (by grind)] | rw [if_neg (by grind)])); done) | ((repeat (first | rw [if_pos (by grind)] | rw [if_neg (by grind)])); done) | (exfalso; grind))
theorem ct_J_reset {I : jc_I} {O : jc_O} {live : jc_L → Prop}  (hJ : jw_J O) (h1 : O (3, 0, 0) 1 = some (31, 0, 0)) : jc_Ct y_J_reset [.inr (some (0, 0, 0))] I O live (none, jc_zr (jc_up (jc_up I (4, 0, 0) 4 0) (3, 0, 0) 2 0) (31, 0, 0) 4 0, jc_up O (1, 0, 0) 2 none, live, 0, 0) := by
  obtain ⟨j0, j1, j2, j3⟩ := id hJ
  have r3 : jc_up O (1, 0, 0) 2 none (0, 0, 0) 3 = some (4, 0, 0) := by rw [jc_up_t _ _ _ _ _ _ _ _ (by decide)]; exact j3
  have r2 : jc_up O (1, 0, 0) 2 none (0, 0, 0) 2 = some (3, 0, 0) := by rw [jc_up_t _ _ _ _ _ _ _ _ (by decide)]; exact j2
  refine jc_Ct.of (by decide +kernel) (rfl) (Nat.le_of_ble_eq_true rfl) ?_
  refine jr_aload_n d_J_reset_0 rfl rfl ?_
  refine jr_getr d_J_reset_1 f_J_10 rfl rfl ?_
  first | rw [j0] | rw [j1] | rw [j2] | rw [j3] | rw [r3] | rw [r2] | skip
  refine jv_V0v d_J_reset_4 l_J_125 k_Cs_close ⟨Nat.le_of_ble_eq_true rfl, Nat.le_of_ble_eq_true rfl⟩ rfl rfl (Nat.le_of_ble_eq_true rfl) (ct_Cs_close) (by first | decide | exact Nat.zero_le _ | (dsimp only; omega) | (dsimp only; grind)) (by first | decide | exact Nat.zero_le _ | (dsimp only; omega) | (dsimp only; grind)) ?_
  refine jr_aload_n d_J_reset_7 rfl rfl ?_
  refine jr_getr d_J_reset_8 f_J_37 rfl rfl ?_
  first | rw [j0] | rw [j1] | rw [j2] | rw [j3] | rw [r3] | rw [r2] | skip
  refine jv_V0v d_J_reset_11 l_J_128 k_M_clear ⟨Nat.le_of_ble_eq_true rfl, Nat.le_of_ble_eq_true rfl⟩ rfl rfl (Nat.le_of_ble_eq_true rfl) (ct_M_clear) (by first | decide | exact Nat.zero_le _ | (dsimp only; omega) | (dsimp only; grind)) (by first | decide | exact Nat.zero_le _ | (dsimp only; omega) | (dsimp only; grind)) ?_
  refine jr_aload_n d_J_reset_14 rfl rfl ?_
  refine jr_getr d_J_reset_15 f_J_28 rfl rfl ?_
  first | rw [j0] | rw [j1] | rw [j2] | rw [j3] | rw [r3] | rw [r2] | skip
  refine jv_V0v d_J_reset_18 l_J_131 k_H_clear ⟨Nat.le_of_ble_eq_true rfl, Nat.le_of_ble_eq_true rfl⟩ rfl rfl (Nat.le_of_ble_eq_true rfl) (ct_H_clear (by rw [jc_up_t _ _ _ _ _ _ _ _ (by decide)]; exact h1)) (by first | decide | exact Nat.zero_le _ | (dsimp only; omega) | (dsimp only; grind)) (by first | decide | exact Nat.zero_le _ | (dsimp only; omega) | (dsimp only; grind)) ?_
  exact jr_retX (v := none) d_J_reset_21 (by first | exact Nat.le_refl _ | exact Nat.zero_le _ | (dsimp only; omega)) (by first | exact Nat.le_refl _ | exact Nat.zero_le _ | (dsimp only; omega)) (by first | with_reducible rfl | (dsimp only; rfl; done) | (rfl; done) | (exfalso; grind)) (by first | with_reducible rfl | (dsimp only; rfl; done) | (rfl; done) | (exfalso; grind)) (by first | with_reducible rfl | (dsimp only; rfl; done) | (rfl; done) | (exfalso; grind)) (by first | with_reducible rfl | (dsimp only; rfl; done) | (rfl; done) | (exfalso; grind))
theorem ct_J_object_n {I : jc_I} {O : jc_O} {live : jc_L → Prop} {x w : Int32} (hJ : jw_J O) (hH : jw_H I O) (hx : ¬ (1 ≤ x ∧ x ≤ I (3, 0, 0) 2)) : jc_Ct y_J_object [.inr (some (0, 0, 0)), .inl x, .inl w] I O live (some (.inl (-14)), I, O, live, 0, 0) := by
  obtain ⟨j0, j1, j2, j3⟩ := id hJ
  refine jc_Ct.of (by decide +kernel) (Or.inl rfl) (Nat.le_of_ble_eq_true rfl) ?_
  refine jr_aload_n d_J_object_0 rfl rfl ?_
  refine jr_getr d_J_object_1 f_J_28 rfl rfl ?_
  first | rw [j0] | rw [j1] | rw [j2] | rw [j3] | skip
  refine jr_iload_n d_J_object_4 rfl rfl ?_
  refine jv_V1r d_J_object_5 l_J_100 k_H_find ⟨Nat.le_of_ble_eq_true rfl, Nat.le_of_ble_eq_true rfl⟩ rfl rfl (Nat.le_of_ble_eq_true rfl) (ct_H_findT hH) (by first | decide | exact Nat.zero_le _ | (dsimp only; omega) | (dsimp only; grind)) (by first | decide | exact Nat.zero_le _ | (dsimp only; omega) | (dsimp only; grind)) ?_
  first | rw [j0] | rw [j1] | rw [j2] | rw [j3] | skip
  rw [show h_fd I x = none from if_neg hx]
  refine jr_astore_n d_J_object_8 rfl (Nat.le_of_ble_eq_true rfl) ?_
  refine jr_aload_n d_J_object_9 rfl rfl ?_
  refine jr_ifnonnull (tgt := 18) d_J_object_10 (by decide) (fun q10 c10 => by cases c10) (fun c10 => ?_)
  refine jr_bipush (v := (-14)) d_J_object_13 (by decide) ?_
  refine jr_goto (tgt := 23) d_J_object_15 (by decide) ?_
  exact jr_retX (v := some _) d_J_object_23 (by first | exact Nat.le_refl _ | exact Nat.zero_le _ | (dsimp only; omega)) (by first | exact Nat.le_refl _ | exact Nat.zero_le _ | (dsimp only; omega)) (by first | with_reducible rfl | (dsimp only; rfl; done) | (rfl; done) | (exfalso; grind)) (by first | with_reducible rfl | (dsimp only; rfl; done) | (rfl; done) | (exfalso; grind)) (by first | with_reducible rfl | (dsimp only; rfl; done) | (rfl; done) | (exfalso; grind)) (by first | with_reducible rfl | (dsimp only; rfl; done) | (rfl; done) | (exfalso; grind))
theorem ct_J_object_y {I : jc_I} {O : jc_O} {live : jc_L → Prop} {x w : Int32} {k : Nat} (hJ : jw_J O) (hH : jw_H I O) (hx : 1 ≤ x ∧ x ≤ I (3, 0, 0) 2) (hk : (x - 1).toNatClampNeg = k) : jc_Ct y_J_object [.inr (some (0, 0, 0)), .inl x, .inl w] I O live (some (.inl (if 10 ≤ w ∧ w < 18 then I (29, k, 0) (w - 10).toNatClampNeg else if w = 0 then I (7, k, 0) 1 else if w = 1 then I (7, k, 0) 2 else if w = 2 then I (7, k, 0) 3 else -14)), I, O, live, 0, 0) := by
  obtain ⟨j0, j1, j2, j3⟩ := id hJ
  refine jc_Ct.of (by decide +kernel) (Or.inl rfl) (Nat.le_of_ble_eq_true rfl) ?_
  refine jr_aload_n d_J_object_0 rfl rfl ?_
  refine jr_getr d_J_object_1 f_J_28 rfl rfl ?_
  first | rw [j0] | rw [j1] | rw [j2] | rw [j3] | skip
  refine jr_iload_n d_J_object_4 rfl rfl ?_
  refine jv_V1r d_J_object_5 l_J_100 k_H_find ⟨Nat.le_of_ble_eq_true rfl, Nat.le_of_ble_eq_true rfl⟩ rfl rfl (Nat.le_of_ble_eq_true rfl) (ct_H_findT hH) (by first | decide | exact Nat.zero_le _ | (dsimp only; omega) | (dsimp only; grind)) (by first | decide | exact Nat.zero_le _ | (dsimp only; omega) | (dsimp only; grind)) ?_
  first | rw [j0] | rw [j1] | rw [j2] | rw [j3] | skip
  rw [show h_fd I x = some (7, k, 0) from (by rw [← hk]; exact if_pos hx)]
  refine jr_astore_n d_J_object_8 rfl (Nat.le_of_ble_eq_true rfl) ?_
  refine jr_aload_n d_J_object_9 rfl rfl ?_
  refine jr_ifnonnull (tgt := 18) d_J_object_10 (by decide) (fun q10 c10 => ?_) (fun c10 => by cases c10)
  refine jr_aload_n d_J_object_18 rfl rfl ?_
  refine jr_iload_n d_J_object_19 rfl rfl ?_
  refine jv_V1r d_J_object_20 l_J_103 k_T_tell ⟨Nat.le_of_ble_eq_true rfl, Nat.le_of_ble_eq_true rfl⟩ rfl rfl (Nat.le_of_ble_eq_true rfl) (ct_T_tell (by have := (hH.at hx).2; rw [hk] at this; exact this)) (by first | decide | exact Nat.zero_le _ | (dsimp only; omega) | (dsimp only; grind)) (by first | decide | exact Nat.zero_le _ | (dsimp only; omega) | (dsimp only; grind)) ?_
  exact jr_retX (v := some _) d_J_object_23 (by first | exact Nat.le_refl _ | exact Nat.zero_le _ | (dsimp only; omega)) (by first | exact Nat.le_refl _ | exact Nat.zero_le _ | (dsimp only; omega)) (by first | with_reducible rfl | (dsimp only; rfl; done) | (rfl; done) | (exfalso; grind)) (by first | with_reducible rfl | (dsimp only; rfl; done) | (rfl; done) | (exfalso; grind)) (by first | with_reducible rfl | (dsimp only; rfl; done) | (rfl; done) | (exfalso; grind)) (by first | with_reducible rfl | (dsimp only; rfl; done) | (rfl; done) | (exfalso; grind))
theorem ct_J_told_n {I : jc_I} {O : jc_O} {live : jc_L → Prop} {x w : Int32} (hJ : jw_J O) (hM : jw_M O) (h8 : I (4, 0, 0) 4 ≤ 8) (hx : ¬ (0 ≤ x ∧ x < I (4, 0, 0) 4)) : jc_Ct y_J_told [.inr (some (0, 0, 0)), .inl x, .inl w] I O live (some (.inl (-14)), I, O, live, 0, 0) := by
  obtain ⟨j0, j1, j2, j3⟩ := id hJ
  refine jc_Ct.of (by decide +kernel) (Or.inl rfl) (Nat.le_of_ble_eq_true rfl) ?_
  refine jr_aload_n d_J_told_0 rfl rfl ?_
  refine jr_getr d_J_told_1 f_J_37 rfl rfl ?_
  first | rw [j0] | rw [j1] | rw [j2] | rw [j3] | skip
  refine jr_iload_n d_J_told_4 rfl rfl ?_
  refine jv_V1r d_J_told_5 l_J_84 k_M_find ⟨Nat.le_of_ble_eq_true rfl, Nat.le_of_ble_eq_true rfl⟩ rfl rfl (Nat.le_of_ble_eq_true rfl) (ct_M_find hM.2.2.2 h8) (by first | decide | exact Nat.zero_le _ | (dsimp only; omega) | (dsimp only; grind)) (by first | decide | exact Nat.zero_le _ | (dsimp only; omega) | (dsimp only; grind)) ?_
  first | rw [j0] | rw [j1] | rw [j2] | rw [j3] | skip
  rw [if_neg hx]
  refine jr_astore_n d_J_told_8 rfl (Nat.le_of_ble_eq_true rfl) ?_
  refine jr_aload_n d_J_told_9 rfl rfl ?_
  refine jr_ifnonnull (tgt := 16) d_J_told_10 (by decide) (fun q10 c10 => by cases c10) (fun c10 => ?_)
  refine jr_bipush (v := (-14)) d_J_told_13 (by decide) ?_
  exact jr_retX (v := some _) d_J_told_15 (by first | exact Nat.le_refl _ | exact Nat.zero_le _ | (dsimp only; omega)) (by first | exact Nat.le_refl _ | exact Nat.zero_le _ | (dsimp only; omega)) (by first | with_reducible rfl | (dsimp only; rfl; done) | (rfl; done) | (exfalso; grind)) (by first | with_reducible rfl | (dsimp only; rfl; done) | (rfl; done) | (exfalso; grind)) (by first | with_reducible rfl | (dsimp only; rfl; done) | (rfl; done) | (exfalso; grind)) (by first | with_reducible rfl | (dsimp only; rfl; done) | (rfl; done) | (exfalso; grind))
theorem ct_J_told_y {I : jc_I} {O : jc_O} {live : jc_L → Prop} {x w v1 v2 : Int32} {t : Nat} (hJ : jw_J O) (hM : jw_M O) (h8 : I (4, 0, 0) 4 ≤ 8) (hx : 0 ≤ x ∧ x < I (4, 0, 0) 4) (hxt : x.toNatClampNeg = t) (hs : O (35, 0, 0) t = some (9, t, 0)) (hA1 : jc_Ct y_M_awaitedBy [.inr (some (4, 0, 0)), .inr (some (9, t, 0))] I O live (some (.inl v1), I, O, live, 0, 0)) (hA2 : jc_Ct y_S_tell [.inr (some (9, t, 0)), .inl w] I O live (some (.inl v2), I, O, live, 0, 0)) : jc_Ct y_J_told [.inr (some (0, 0, 0)), .inl x, .inl w] I O live (some (.inl (if w = 6 then v1 else v2)), I, O, live, 0, 0) := by
  obtain ⟨j0, j1, j2, j3⟩ := id hJ
  refine jc_Ct.of (by decide +kernel) (Or.inl rfl) (Nat.le_of_ble_eq_true rfl) ?_
  refine jr_aload_n d_J_told_0 rfl rfl ?_
  refine jr_getr d_J_told_1 f_J_37 rfl rfl ?_
  first | rw [j0] | rw [j1] | rw [j2] | rw [j3] | skip
  refine jr_iload_n d_J_told_4 rfl rfl ?_
  refine jv_V1r d_J_told_5 l_J_84 k_M_find ⟨Nat.le_of_ble_eq_true rfl, Nat.le_of_ble_eq_true rfl⟩ rfl rfl (Nat.le_of_ble_eq_true rfl) (ct_M_find hM.2.2.2 h8) (by first | decide | exact Nat.zero_le _ | (dsimp only; omega) | (dsimp only; grind)) (by first | decide | exact Nat.zero_le _ | (dsimp only; omega) | (dsimp only; grind)) ?_
  first | rw [j0] | rw [j1] | rw [j2] | rw [j3] | skip
  rw [if_pos hx, hxt, hs]
  refine jr_astore_n d_J_told_8 rfl (Nat.le_of_ble_eq_true rfl) ?_
  refine jr_aload_n d_J_told_9 rfl rfl ?_
  refine jr_ifnonnull (tgt := 16) d_J_told_10 (by decide) (fun q10 c10 => ?_) (fun c10 => by cases c10)
  refine jr_iload_n d_J_told_16 rfl rfl ?_
  refine jr_bipush (v := 6) d_J_told_17 (by decide) ?_
  refine jr_icmp_ne (tgt := 33) d_J_told_19 (by decide) (fun c19 => ?_) (fun c19 => ?_)
  · skip
    refine jr_aload_n d_J_told_33 rfl rfl ?_
    refine jr_iload_n d_J_told_34 rfl rfl ?_
    refine jv_V1r d_J_told_35 l_J_95 k_S_tell ⟨Nat.le_of_ble_eq_true rfl, Nat.le_of_ble_eq_true rfl⟩ rfl rfl (Nat.le_of_ble_eq_true rfl) (hA2) (by first | decide | exact Nat.zero_le _ | (dsimp only; omega) | (dsimp only; grind)) (by first | decide | exact Nat.zero_le _ | (dsimp only; omega) | (dsimp only; grind)) ?_
    exact jr_retX (v := some _) d_J_told_38 (by first | exact Nat.le_refl _ | exact Nat.zero_le _ | (dsimp only; omega)) (by first | exact Nat.le_refl _ | exact Nat.zero_le _ | (dsimp only; omega)) (by first | with_reducible rfl | (dsimp only; (first | (rw [if_pos c19]; done) | (rw [if_neg c19]; done)); done) | ((first | (rw [if_pos c19]; done) | (rw [if_neg c19]; done)); done) | (exfalso; grind)) (by first | with_reducible rfl | (dsimp only; (first | (rw [if_pos c19]; done) | (rw [if_neg c19]; done)); done) | ((first | (rw [if_pos c19]; done) | (rw [if_neg c19]; done)); done) | (exfalso; grind)) (by first | with_reducible rfl | (dsimp only; (first | (rw [if_pos c19]; done) | (rw [if_neg c19]; done)); done) | ((first | (rw [if_pos c19]; done) | (rw [if_neg c19]; done)); done) | (exfalso; grind)) (by first | with_reducible rfl | (dsimp only; (first | (rw [if_pos c19]; done) | (rw [if_neg c19]; done)); done) | ((first | (rw [if_pos c19]; done) | (rw [if_neg c19]; done)); done) | (exfalso; grind))
  · skip
    refine jr_aload_n d_J_told_22 rfl rfl ?_
    refine jr_getr d_J_told_23 f_J_37 rfl rfl ?_
    first | rw [j0] | rw [j1] | rw [j2] | rw [j3] | skip
    refine jr_aload_n d_J_told_26 rfl rfl ?_
    refine jv_V1r d_J_told_27 l_J_91 k_M_awaitedBy ⟨Nat.le_of_ble_eq_true rfl, Nat.le_of_ble_eq_true rfl⟩ rfl rfl (Nat.le_of_ble_eq_true rfl) (hA1) (by first | decide | exact Nat.zero_le _ | (dsimp only; omega) | (dsimp only; grind)) (by first | decide | exact Nat.zero_le _ | (dsimp only; omega) | (dsimp only; grind)) ?_
    refine jr_goto (tgt := 38) d_J_told_30 (by decide) ?_
    exact jr_retX (v := some _) d_J_told_38 (by first | exact Nat.le_refl _ | exact Nat.zero_le _ | (dsimp only; omega)) (by first | exact Nat.le_refl _ | exact Nat.zero_le _ | (dsimp only; omega)) (by first | with_reducible rfl | (dsimp only; (first | (rw [if_pos c19]; done) | (rw [if_neg c19]; done)); done) | ((first | (rw [if_pos c19]; done) | (rw [if_neg c19]; done)); done) | (exfalso; grind)) (by first | with_reducible rfl | (dsimp only; (first | (rw [if_pos c19]; done) | (rw [if_neg c19]; done)); done) | ((first | (rw [if_pos c19]; done) | (rw [if_neg c19]; done)); done) | (exfalso; grind)) (by first | with_reducible rfl | (dsimp only; (first | (rw [if_pos c19]; done) | (rw [if_neg c19]; done)); done) | ((first | (rw [if_pos c19]; done) | (rw [if_neg c19]; done)); done) | (exfalso; grind)) (by first | with_reducible rfl | (dsimp only; (first | (rw [if_pos c19]; done) | (rw [if_neg c19]; done)); done) | ((first | (rw [if_pos c19]; done) | (rw [if_neg c19]; done)); done) | (exfalso; grind))
theorem ct_J_value_n {I : jc_I} {O : jc_O} {live : jc_L → Prop} {x w : Int32} (hJ : jw_J O) (hM : jw_M O) (h8 : I (4, 0, 0) 4 ≤ 8) (hx : ¬ (0 ≤ x ∧ x < I (4, 0, 0) 4)) : jc_Ct y_J_value [.inr (some (0, 0, 0)), .inl x, .inl w] I O live (some (.inl 0), I, O, live, 0, 0) := by
  obtain ⟨j0, j1, j2, j3⟩ := id hJ
  refine jc_Ct.of (by decide +kernel) (Or.inl rfl) (Nat.le_of_ble_eq_true rfl) ?_
  refine jr_aload_n d_J_value_0 rfl rfl ?_
  refine jr_getr d_J_value_1 f_J_37 rfl rfl ?_
  first | rw [j0] | rw [j1] | rw [j2] | rw [j3] | skip
  refine jr_iload_n d_J_value_4 rfl rfl ?_
  refine jv_V1r d_J_value_5 l_J_84 k_M_find ⟨Nat.le_of_ble_eq_true rfl, Nat.le_of_ble_eq_true rfl⟩ rfl rfl (Nat.le_of_ble_eq_true rfl) (ct_M_find hM.2.2.2 h8) (by first | decide | exact Nat.zero_le _ | (dsimp only; omega) | (dsimp only; grind)) (by first | decide | exact Nat.zero_le _ | (dsimp only; omega) | (dsimp only; grind)) ?_
  first | rw [j0] | rw [j1] | rw [j2] | rw [j3] | skip
  rw [if_neg hx]
  refine jr_astore_n d_J_value_8 rfl (Nat.le_of_ble_eq_true rfl) ?_
  refine jr_aload_n d_J_value_9 rfl rfl ?_
  refine jr_ifnonnull (tgt := 17) d_J_value_10 (by decide) (fun q10 c10 => by cases c10) (fun c10 => ?_)
  refine jr_null d_J_value_13 ?_
  refine jr_goto (tgt := 21) d_J_value_14 (by decide) ?_
  refine jr_astore d_J_value_21 (Nat.le_of_ble_eq_true rfl) ?_
  refine jr_aload d_J_value_23 rfl ?_
  refine jr_ifnonnull (tgt := 30) d_J_value_25 (by decide) (fun q25 c25 => by cases c25) (fun c25 => ?_)
  refine jr_iconst (v := 0) d_J_value_28 (by decide) ?_
  exact jr_retX (v := some _) d_J_value_29 (by first | exact Nat.le_refl _ | exact Nat.zero_le _ | (dsimp only; omega)) (by first | exact Nat.le_refl _ | exact Nat.zero_le _ | (dsimp only; omega)) (by first | with_reducible rfl | (dsimp only; rfl; done) | (rfl; done) | (exfalso; grind)) (by first | with_reducible rfl | (dsimp only; rfl; done) | (rfl; done) | (exfalso; grind)) (by first | with_reducible rfl | (dsimp only; rfl; done) | (rfl; done) | (exfalso; grind)) (by first | with_reducible rfl | (dsimp only; rfl; done) | (rfl; done) | (exfalso; grind))
theorem ct_J_value_0 {I : jc_I} {O : jc_O} {live : jc_L → Prop} {x w : Int32} {t : Nat} (hJ : jw_J O) (hM : jw_M O) (h8 : I (4, 0, 0) 4 ≤ 8) (hx : 0 ≤ x ∧ x < I (4, 0, 0) 4) (hxt : x.toNatClampNeg = t) (hs : O (35, 0, 0) t = some (9, t, 0)) (h1 : O (9, t, 0) 1 = some (34, t, 0)) (h0 : I (9, t, 0) 2 = 0) : jc_Ct y_J_value [.inr (some (0, 0, 0)), .inl x, .inl w] I O live (some (.inl 0), I, O, live, 0, 0) := by
  obtain ⟨j0, j1, j2, j3⟩ := id hJ
  refine jc_Ct.of (by decide +kernel) (Or.inl rfl) (Nat.le_of_ble_eq_true rfl) ?_
  refine jr_aload_n d_J_value_0 rfl rfl ?_
  refine jr_getr d_J_value_1 f_J_37 rfl rfl ?_
  first | rw [j0] | rw [j1] | rw [j2] | rw [j3] | skip
  refine jr_iload_n d_J_value_4 rfl rfl ?_
  refine jv_V1r d_J_value_5 l_J_84 k_M_find ⟨Nat.le_of_ble_eq_true rfl, Nat.le_of_ble_eq_true rfl⟩ rfl rfl (Nat.le_of_ble_eq_true rfl) (ct_M_find hM.2.2.2 h8) (by first | decide | exact Nat.zero_le _ | (dsimp only; omega) | (dsimp only; grind)) (by first | decide | exact Nat.zero_le _ | (dsimp only; omega) | (dsimp only; grind)) ?_
  first | rw [j0] | rw [j1] | rw [j2] | rw [j3] | skip
  rw [if_pos hx, hxt, hs]
  refine jr_astore_n d_J_value_8 rfl (Nat.le_of_ble_eq_true rfl) ?_
  refine jr_aload_n d_J_value_9 rfl rfl ?_
  refine jr_ifnonnull (tgt := 17) d_J_value_10 (by decide) (fun q10 c10 => ?_) (fun c10 => by cases c10)
  refine jr_aload_n d_J_value_17 rfl rfl ?_
  refine jv_V0r d_J_value_18 l_J_106 k_S_top ⟨Nat.le_of_ble_eq_true rfl, Nat.le_of_ble_eq_true rfl⟩ rfl rfl (Nat.le_of_ble_eq_true rfl) (ct_S_topN h1 h0) (by first | decide | exact Nat.zero_le _ | (dsimp only; omega) | (dsimp only; grind)) (by first | decide | exact Nat.zero_le _ | (dsimp only; omega) | (dsimp only; grind)) ?_
  first | rw [j0] | rw [j1] | rw [j2] | rw [j3] | skip
  refine jr_astore d_J_value_21 (Nat.le_of_ble_eq_true rfl) ?_
  refine jr_aload d_J_value_23 rfl ?_
  refine jr_ifnonnull (tgt := 30) d_J_value_25 (by decide) (fun q25 c25 => by cases c25) (fun c25 => ?_)
  refine jr_iconst (v := 0) d_J_value_28 (by decide) ?_
  exact jr_retX (v := some _) d_J_value_29 (by first | exact Nat.le_refl _ | exact Nat.zero_le _ | (dsimp only; omega)) (by first | exact Nat.le_refl _ | exact Nat.zero_le _ | (dsimp only; omega)) (by first | with_reducible rfl | (dsimp only; rfl; done) | (rfl; done) | (exfalso; grind)) (by first | with_reducible rfl | (dsimp only; rfl; done) | (rfl; done) | (exfalso; grind)) (by first | with_reducible rfl | (dsimp only; rfl; done) | (rfl; done) | (exfalso; grind)) (by first | with_reducible rfl | (dsimp only; rfl; done) | (rfl; done) | (exfalso; grind))
theorem ct_J_value_y {I : jc_I} {O : jc_O} {live : jc_L → Prop} {x w : Int32} {t j c : Nat} (hJ : jw_J O) (hM : jw_M O) (h8 : I (4, 0, 0) 4 ≤ 8) (hx : 0 ≤ x ∧ x < I (4, 0, 0) 4) (hxt : x.toNatClampNeg = t) (hs : O (35, 0, 0) t = some (9, t, 0)) (hT : jw_top I O t j) (hf : jw_f O t j) (hd : jw_d I t j) (hc : O (8, t, j) 2 = some (6, c, 0)) (hn : jw_n I c) : jc_Ct y_J_value [.inr (some (0, 0, 0)), .inl x, .inl w] I O live (some (.inl (if 0 ≤ w then f_pk I t j w else f_la I t j c (-1 - w))), I, O, live, 0, 0) := by
  obtain ⟨j0, j1, j2, j3⟩ := id hJ
  refine jc_Ct.of (by decide +kernel) (Or.inl rfl) (Nat.le_of_ble_eq_true rfl) ?_
  refine jr_aload_n d_J_value_0 rfl rfl ?_
  refine jr_getr d_J_value_1 f_J_37 rfl rfl ?_
  first | rw [j0] | rw [j1] | rw [j2] | rw [j3] | skip
  refine jr_iload_n d_J_value_4 rfl rfl ?_
  refine jv_V1r d_J_value_5 l_J_84 k_M_find ⟨Nat.le_of_ble_eq_true rfl, Nat.le_of_ble_eq_true rfl⟩ rfl rfl (Nat.le_of_ble_eq_true rfl) (ct_M_find hM.2.2.2 h8) (by first | decide | exact Nat.zero_le _ | (dsimp only; omega) | (dsimp only; grind)) (by first | decide | exact Nat.zero_le _ | (dsimp only; omega) | (dsimp only; grind)) ?_
  first | rw [j0] | rw [j1] | rw [j2] | rw [j3] | skip
  rw [if_pos hx, hxt, hs]
  refine jr_astore_n d_J_value_8 rfl (Nat.le_of_ble_eq_true rfl) ?_
  refine jr_aload_n d_J_value_9 rfl rfl ?_
  refine jr_ifnonnull (tgt := 17) d_J_value_10 (by decide) (fun q10 c10 => ?_) (fun c10 => by cases c10)
  refine jr_aload_n d_J_value_17 rfl rfl ?_
  refine jv_V0r d_J_value_18 l_J_106 k_S_top ⟨Nat.le_of_ble_eq_true rfl, Nat.le_of_ble_eq_true rfl⟩ rfl rfl (Nat.le_of_ble_eq_true rfl) (ct_S_topF hT) (by first | decide | exact Nat.zero_le _ | (dsimp only; omega) | (dsimp only; grind)) (by first | decide | exact Nat.zero_le _ | (dsimp only; omega) | (dsimp only; grind)) ?_
  first | rw [j0] | rw [j1] | rw [j2] | rw [j3] | skip
  refine jr_astore d_J_value_21 (Nat.le_of_ble_eq_true rfl) ?_
  refine jr_aload d_J_value_23 rfl ?_
  refine jr_ifnonnull (tgt := 30) d_J_value_25 (by decide) (fun q25 c25 => ?_) (fun c25 => by cases c25)
  refine jr_iload_n d_J_value_30 rfl rfl ?_
  refine jr_if_lt (tgt := 43) d_J_value_31 (by decide) (fun c31 => ?_) (fun c31 => ?_)
  · skip
    refine jr_aload d_J_value_43 rfl ?_
    refine jr_iconst (v := (-1)) d_J_value_45 (by decide) ?_
    refine jr_iload_n d_J_value_46 rfl rfl ?_
    refine jr_isub d_J_value_47 ?_
    refine jv_V1r d_J_value_48 l_J_115 k_F_localAt ⟨Nat.le_of_ble_eq_true rfl, Nat.le_of_ble_eq_true rfl⟩ rfl rfl (Nat.le_of_ble_eq_true rfl) (show jc_Ct y_F_localAt _ _ _ _ (some (.inl (f_la _ _ _ _ _)), _, _, _, 0, 0) from ct_F_localAt hf.2 hc hn.2.1) (by first | decide | exact Nat.zero_le _ | (dsimp only; omega) | (dsimp only; grind)) (by first | decide | exact Nat.zero_le _ | (dsimp only; omega) | (dsimp only; grind)) ?_
    exact jr_retX (v := some _) d_J_value_51 (by first | exact Nat.le_refl _ | exact Nat.zero_le _ | (dsimp only; omega)) (by first | exact Nat.le_refl _ | exact Nat.zero_le _ | (dsimp only; omega)) (by first | with_reducible rfl | (dsimp only; (repeat (first | rw [if_pos (by grind)] | rw [if_neg (by grind)])); done) | ((repeat (first | rw [if_pos (by grind)] | rw [if_neg (by grind)])); done) | (exfalso; grind)) (by first | with_reducible rfl | (dsimp only; (repeat (first | rw [if_pos (by grind)] | rw [if_neg (by grind)])); done) | ((repeat (first | rw [if_pos (by grind)] | rw [if_neg (by grind)])); done) | (exfalso; grind)) (by first | with_reducible rfl | (dsimp only; (repeat (first | rw [if_pos (by grind)] | rw [if_neg (by grind)])); done) | ((repeat (first | rw [if_pos (by grind)] | rw [if_neg (by grind)])); done) | (exfalso; grind)) (by first | with_reducible rfl | (dsimp only; (repeat (first | rw [if_pos (by grind)] | rw [if_neg (by grind)])); done) | ((repeat (first | rw [if_pos (by grind)] | rw [if_neg (by grind)])); done) | (exfalso; grind))
  · skip
    refine jr_aload d_J_value_34 rfl ?_
    refine jr_iload_n d_J_value_36 rfl rfl ?_
    refine jv_V1r d_J_value_37 l_J_110 k_F_peek ⟨Nat.le_of_ble_eq_true rfl, Nat.le_of_ble_eq_true rfl⟩ rfl rfl (Nat.le_of_ble_eq_true rfl) (show jc_Ct y_F_peek _ _ _ _ (some (.inl (f_pk _ _ _ _)), _, _, _, 0, 0) from ct_F_peek hf.1 hd.2) (by first | decide | exact Nat.zero_le _ | (dsimp only; omega) | (dsimp only; grind)) (by first | decide | exact Nat.zero_le _ | (dsimp only; omega) | (dsimp only; grind)) ?_
    refine jr_goto (tgt := 51) d_J_value_40 (by decide) ?_
    exact jr_retX (v := some _) d_J_value_51 (by first | exact Nat.le_refl _ | exact Nat.zero_le _ | (dsimp only; omega)) (by first | exact Nat.le_refl _ | exact Nat.zero_le _ | (dsimp only; omega)) (by first | with_reducible rfl | (dsimp only; (repeat (first | rw [if_pos (by grind)] | rw [if_neg (by grind)])); done) | ((repeat (first | rw [if_pos (by grind)] | rw [if_neg (by grind)])); done) | (exfalso; grind)) (by first | with_reducible rfl | (dsimp only; (repeat (first | rw [if_pos (by grind)] | rw [if_neg (by grind)])); done) | ((repeat (first | rw [if_pos (by grind)] | rw [if_neg (by grind)])); done) | (exfalso; grind)) (by first | with_reducible rfl | (dsimp only; (repeat (first | rw [if_pos (by grind)] | rw [if_neg (by grind)])); done) | ((repeat (first | rw [if_pos (by grind)] | rw [if_neg (by grind)])); done) | (exfalso; grind)) (by first | with_reducible rfl | (dsimp only; (repeat (first | rw [if_pos (by grind)] | rw [if_neg (by grind)])); done) | ((repeat (first | rw [if_pos (by grind)] | rw [if_neg (by grind)])); done) | (exfalso; grind))
