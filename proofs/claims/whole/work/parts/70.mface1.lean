theorem ct_m_judge_n {I : jc_I} {O : jc_O} {live : jc_L → Prop} {x : Int32} (hM : qM O) (hx : ¬ (0 ≤ x ∧ x < I (15, 0, 0) 1)) : jc_Ct y_m_judge [.inr (some (10, 0, 0)), .inl x] I O live (some (.inl (-14)), I, O, live, 0, 0) := by
  obtain ⟨m0, m2, m4, m6, m7⟩ := id hM
  refine jc_Ct.of (by decide +kernel) (Or.inl rfl) (Nat.le_of_ble_eq_true rfl) ?_
  refine jr_aload_n d_m_judge_0 rfl rfl ?_
  refine jr_iload_n d_m_judge_1 rfl rfl ?_
  refine jv_V1r d_m_judge_2 l_m_123 k_m_isCode ⟨Nat.le_of_ble_eq_true rfl, Nat.le_of_ble_eq_true rfl⟩ rfl rfl (Nat.le_of_ble_eq_true rfl) (ct_m_isCode m0) (by first | decide | exact Nat.zero_le _ | (dsimp only; omega) | (dsimp only; grind)) (by first | decide | exact Nat.zero_le _ | (dsimp only; omega) | (dsimp only; grind)) ?_
  refine jr_if_ne (tgt := 13) d_m_judge_5 (by decide) (fun c5 => ?_) (fun c5 => ?_)
  · skip
    exfalso; grind
  · skip
    refine jr_bipush (v := (-14)) d_m_judge_8 (by decide) ?_
    refine jr_goto (tgt := 36) d_m_judge_10 (by decide) ?_
    exact jr_retX (v := some _) d_m_judge_36 (by first | exact Nat.le_refl _ | exact Nat.zero_le _ | (dsimp only; omega)) (by first | exact Nat.le_refl _ | exact Nat.zero_le _ | (dsimp only; omega)) (by first | with_reducible rfl | (dsimp only; rfl; done) | (rfl; done) | (exfalso; grind)) (by first | with_reducible rfl | (dsimp only; rfl; done) | (rfl; done) | (exfalso; grind)) (by first | with_reducible rfl | (dsimp only; rfl; done) | (rfl; done) | (exfalso; grind)) (by first | with_reducible rfl | (dsimp only; rfl; done) | (rfl; done) | (exfalso; grind))
theorem ct_m_judge_y {I : jc_I} {O : jc_O} {live : jc_L → Prop} {x : Int32} {cn c : Nat} (hA : qA I O live cn) (hk : qk I O) (hc : qc O c) (hn : qn I c) (hop : ∀ i, i < (I (11, c, 0) 6).toNatClampNeg → 0 ≤ I (41, c, 0) i ∧ I (41, c, 0) i ≤ 26) (hx : x = Int32.ofNat c) (hcn : c < cn) : jc_Ct y_m_judge [.inr (some (10, 0, 0)), .inl x] I O live (some (.inl (q_good I c).1), (q_good I c).2, O, live, 0, 0) := by
  have hM := hA.1
  obtain ⟨m0, m2, m4, m6, m7⟩ := id hM
  have hsz := hA.2.1.sz
  have hle := hA.2.1.le
  have hcp := hA.2.1.cp
  have hb : 0 ≤ x ∧ x < I (15, 0, 0) 1 := by rw [hx, hsz, jle, jlt, jofI (by omega), jofI (by omega), j0I]; omega
  refine jc_Ct.of (by decide +kernel) (Or.inl rfl) (Nat.le_of_ble_eq_true rfl) ?_
  refine jr_aload_n d_m_judge_0 rfl rfl ?_
  refine jr_iload_n d_m_judge_1 rfl rfl ?_
  refine jv_V1r d_m_judge_2 l_m_123 k_m_isCode ⟨Nat.le_of_ble_eq_true rfl, Nat.le_of_ble_eq_true rfl⟩ rfl rfl (Nat.le_of_ble_eq_true rfl) (ct_m_isCode m0) (by first | decide | exact Nat.zero_le _ | (dsimp only; omega) | (dsimp only; grind)) (by first | decide | exact Nat.zero_le _ | (dsimp only; omega) | (dsimp only; grind)) ?_
  refine jr_if_ne (tgt := 13) d_m_judge_5 (by decide) (fun c5 => ?_) (fun c5 => ?_)
  · skip
    refine jr_aload_n d_m_judge_13 rfl rfl ?_
    refine jr_aload_n d_m_judge_14 rfl rfl ?_
    refine jr_getr d_m_judge_15 f_m_10 rfl rfl ?_
    first | rw [m0] | skip
    refine jr_iload_n d_m_judge_18 rfl rfl ?_
    refine jv_V1r d_m_judge_19 l_m_126 k_aL_get ⟨Nat.le_of_ble_eq_true rfl, Nat.le_of_ble_eq_true rfl⟩ rfl rfl (Nat.le_of_ble_eq_true rfl) (ct_aL_getq hA.2.1 hx hcn) (by first | decide | exact Nat.zero_le _ | (dsimp only; omega) | (dsimp only; grind)) (by first | decide | exact Nat.zero_le _ | (dsimp only; omega) | (dsimp only; grind)) ?_
    first | rw [m0] | skip
    refine jr_cast d_m_judge_22 c_m_37 rfl ⟨_, rfl, ca_mC_mC⟩ ?_
    refine jv_V1r d_m_judge_25 l_m_130 k_m_isGood ⟨Nat.le_of_ble_eq_true rfl, Nat.le_of_ble_eq_true rfl⟩ rfl rfl (Nat.le_of_ble_eq_true rfl) (ct_m_isGood hA hk hc hn hop) (by first | decide | exact Nat.zero_le _ | (dsimp only; omega) | (dsimp only; grind)) (by first | decide | exact Nat.zero_le _ | (dsimp only; omega) | (dsimp only; grind)) ?_
    refine jr_if_eq (tgt := 35) d_m_judge_28 (by decide) (fun c28 => ?_) (fun c28 => ?_)
    · skip
      refine jr_iconst (v := 0) d_m_judge_35 (by decide) ?_
      exact jr_retX (v := some _) d_m_judge_36 (by first | exact Nat.le_refl _ | exact Nat.zero_le _ | (dsimp only; omega)) (by first | exact Nat.le_refl _ | exact Nat.zero_le _ | (dsimp only; omega)) (by first | with_reducible rfl | (dsimp only; (rcases q_good01 (I := I) (c := c) with h9 | h9 <;> first | (rw [h9]; done) | (exfalso; exact c28 h9) | (exfalso; rw [h9] at c28; exact absurd c28 (by decide))); done) | ((rcases q_good01 (I := I) (c := c) with h9 | h9 <;> first | (rw [h9]; done) | (exfalso; exact c28 h9) | (exfalso; rw [h9] at c28; exact absurd c28 (by decide))); done) | (exfalso; grind)) (by first | with_reducible rfl | (dsimp only; (rcases q_good01 (I := I) (c := c) with h9 | h9 <;> first | (rw [h9]; done) | (exfalso; exact c28 h9) | (exfalso; rw [h9] at c28; exact absurd c28 (by decide))); done) | ((rcases q_good01 (I := I) (c := c) with h9 | h9 <;> first | (rw [h9]; done) | (exfalso; exact c28 h9) | (exfalso; rw [h9] at c28; exact absurd c28 (by decide))); done) | (exfalso; grind)) (by first | with_reducible rfl | (dsimp only; (rcases q_good01 (I := I) (c := c) with h9 | h9 <;> first | (rw [h9]; done) | (exfalso; exact c28 h9) | (exfalso; rw [h9] at c28; exact absurd c28 (by decide))); done) | ((rcases q_good01 (I := I) (c := c) with h9 | h9 <;> first | (rw [h9]; done) | (exfalso; exact c28 h9) | (exfalso; rw [h9] at c28; exact absurd c28 (by decide))); done) | (exfalso; grind)) (by first | with_reducible rfl | (dsimp only; (rcases q_good01 (I := I) (c := c) with h9 | h9 <;> first | (rw [h9]; done) | (exfalso; exact c28 h9) | (exfalso; rw [h9] at c28; exact absurd c28 (by decide))); done) | ((rcases q_good01 (I := I) (c := c) with h9 | h9 <;> first | (rw [h9]; done) | (exfalso; exact c28 h9) | (exfalso; rw [h9] at c28; exact absurd c28 (by decide))); done) | (exfalso; grind))
    · skip
      refine jr_iconst (v := 1) d_m_judge_31 (by decide) ?_
      refine jr_goto (tgt := 36) d_m_judge_32 (by decide) ?_
      exact jr_retX (v := some _) d_m_judge_36 (by first | exact Nat.le_refl _ | exact Nat.zero_le _ | (dsimp only; omega)) (by first | exact Nat.le_refl _ | exact Nat.zero_le _ | (dsimp only; omega)) (by first | with_reducible rfl | (dsimp only; (rcases q_good01 (I := I) (c := c) with h9 | h9 <;> first | (rw [h9]; done) | (exfalso; exact c28 h9) | (exfalso; rw [h9] at c28; exact absurd c28 (by decide))); done) | ((rcases q_good01 (I := I) (c := c) with h9 | h9 <;> first | (rw [h9]; done) | (exfalso; exact c28 h9) | (exfalso; rw [h9] at c28; exact absurd c28 (by decide))); done) | (exfalso; grind)) (by first | with_reducible rfl | (dsimp only; (rcases q_good01 (I := I) (c := c) with h9 | h9 <;> first | (rw [h9]; done) | (exfalso; exact c28 h9) | (exfalso; rw [h9] at c28; exact absurd c28 (by decide))); done) | ((rcases q_good01 (I := I) (c := c) with h9 | h9 <;> first | (rw [h9]; done) | (exfalso; exact c28 h9) | (exfalso; rw [h9] at c28; exact absurd c28 (by decide))); done) | (exfalso; grind)) (by first | with_reducible rfl | (dsimp only; (rcases q_good01 (I := I) (c := c) with h9 | h9 <;> first | (rw [h9]; done) | (exfalso; exact c28 h9) | (exfalso; rw [h9] at c28; exact absurd c28 (by decide))); done) | ((rcases q_good01 (I := I) (c := c) with h9 | h9 <;> first | (rw [h9]; done) | (exfalso; exact c28 h9) | (exfalso; rw [h9] at c28; exact absurd c28 (by decide))); done) | (exfalso; grind)) (by first | with_reducible rfl | (dsimp only; (rcases q_good01 (I := I) (c := c) with h9 | h9 <;> first | (rw [h9]; done) | (exfalso; exact c28 h9) | (exfalso; rw [h9] at c28; exact absurd c28 (by decide))); done) | ((rcases q_good01 (I := I) (c := c) with h9 | h9 <;> first | (rw [h9]; done) | (exfalso; exact c28 h9) | (exfalso; rw [h9] at c28; exact absurd c28 (by decide))); done) | (exfalso; grind))
  · skip
    exfalso; clear hA hop; grind
theorem ct_m_global {I : jc_I} {O : jc_O} {live : jc_L → Prop} {i : Int32} (hM : qM O) : jc_Ct y_m_global [.inr (some (10, 0, 0)), .inl i] I O live (some (.inl (if 0 ≤ i ∧ i < 4 then I (50, 0, 0) i.toNatClampNeg else -14)), I, O, live, 0, 0) := by
  obtain ⟨m0, m2, m4, m6, m7⟩ := id hM
  refine jc_Ct.of (by decide +kernel) (Or.inl rfl) (Nat.le_of_ble_eq_true rfl) ?_
  refine jr_iload_n d_m_global_0 rfl rfl ?_
  refine jr_if_lt (tgt := 18) d_m_global_1 (by decide) (fun c1 => ?_) (fun c1 => ?_)
  · skip
    refine jr_bipush (v := (-14)) d_m_global_18 (by decide) ?_
    exact jr_retX (v := some _) d_m_global_20 (by first | exact Nat.le_refl _ | exact Nat.zero_le _ | (dsimp only; omega)) (by first | exact Nat.le_refl _ | exact Nat.zero_le _ | (dsimp only; omega)) (by first | with_reducible rfl | (dsimp only; (repeat (first | rw [if_pos (by grind)] | rw [if_neg (by grind)])); done) | ((repeat (first | rw [if_pos (by grind)] | rw [if_neg (by grind)])); done) | (exfalso; grind)) (by first | with_reducible rfl | (dsimp only; (repeat (first | rw [if_pos (by grind)] | rw [if_neg (by grind)])); done) | ((repeat (first | rw [if_pos (by grind)] | rw [if_neg (by grind)])); done) | (exfalso; grind)) (by first | with_reducible rfl | (dsimp only; (repeat (first | rw [if_pos (by grind)] | rw [if_neg (by grind)])); done) | ((repeat (first | rw [if_pos (by grind)] | rw [if_neg (by grind)])); done) | (exfalso; grind)) (by first | with_reducible rfl | (dsimp only; (repeat (first | rw [if_pos (by grind)] | rw [if_neg (by grind)])); done) | ((repeat (first | rw [if_pos (by grind)] | rw [if_neg (by grind)])); done) | (exfalso; grind))
  · skip
    refine jr_iload_n d_m_global_4 rfl rfl ?_
    refine jr_iconst (v := 4) d_m_global_5 (by decide) ?_
    refine jr_icmp_ge (tgt := 18) d_m_global_6 (by decide) (fun c6 => ?_) (fun c6 => ?_)
    · skip
      refine jr_bipush (v := (-14)) d_m_global_18 (by decide) ?_
      exact jr_retX (v := some _) d_m_global_20 (by first | exact Nat.le_refl _ | exact Nat.zero_le _ | (dsimp only; omega)) (by first | exact Nat.le_refl _ | exact Nat.zero_le _ | (dsimp only; omega)) (by first | with_reducible rfl | (dsimp only; (repeat (first | rw [if_pos (by grind)] | rw [if_neg (by grind)])); done) | ((repeat (first | rw [if_pos (by grind)] | rw [if_neg (by grind)])); done) | (exfalso; grind)) (by first | with_reducible rfl | (dsimp only; (repeat (first | rw [if_pos (by grind)] | rw [if_neg (by grind)])); done) | ((repeat (first | rw [if_pos (by grind)] | rw [if_neg (by grind)])); done) | (exfalso; grind)) (by first | with_reducible rfl | (dsimp only; (repeat (first | rw [if_pos (by grind)] | rw [if_neg (by grind)])); done) | ((repeat (first | rw [if_pos (by grind)] | rw [if_neg (by grind)])); done) | (exfalso; grind)) (by first | with_reducible rfl | (dsimp only; (repeat (first | rw [if_pos (by grind)] | rw [if_neg (by grind)])); done) | ((repeat (first | rw [if_pos (by grind)] | rw [if_neg (by grind)])); done) | (exfalso; grind))
    · skip
      refine jr_aload_n d_m_global_9 rfl rfl ?_
      refine jr_getr d_m_global_10 f_m_22 rfl rfl ?_
      first | rw [m6] | skip
      refine jr_iload_n d_m_global_13 rfl rfl ?_
      refine jr_iald d_m_global_14 rfl rfl rfl (jin (m := 4) (by decide) (by clear hM; grind) (by clear hM; grind)) ?_
      refine jr_goto (tgt := 20) d_m_global_15 (by decide) ?_
      exact jr_retX (v := some _) d_m_global_20 (by first | exact Nat.le_refl _ | exact Nat.zero_le _ | (dsimp only; omega)) (by first | exact Nat.le_refl _ | exact Nat.zero_le _ | (dsimp only; omega)) (by first | with_reducible rfl | (dsimp only; (repeat (first | rw [if_pos (by grind)] | rw [if_neg (by grind)])); done) | ((repeat (first | rw [if_pos (by grind)] | rw [if_neg (by grind)])); done) | (exfalso; grind)) (by first | with_reducible rfl | (dsimp only; (repeat (first | rw [if_pos (by grind)] | rw [if_neg (by grind)])); done) | ((repeat (first | rw [if_pos (by grind)] | rw [if_neg (by grind)])); done) | (exfalso; grind)) (by first | with_reducible rfl | (dsimp only; (repeat (first | rw [if_pos (by grind)] | rw [if_neg (by grind)])); done) | ((repeat (first | rw [if_pos (by grind)] | rw [if_neg (by grind)])); done) | (exfalso; grind)) (by first | with_reducible rfl | (dsimp only; (repeat (first | rw [if_pos (by grind)] | rw [if_neg (by grind)])); done) | ((repeat (first | rw [if_pos (by grind)] | rw [if_neg (by grind)])); done) | (exfalso; grind))
theorem ct_m_object_n {I : jc_I} {O : jc_O} {live : jc_L → Prop} {x w : Int32} (hM : qM O) (hx : ¬ (1 ≤ x ∧ x ≤ I (15, 2, 0) 1)) : jc_Ct y_m_object [.inr (some (10, 0, 0)), .inl x, .inl w] I O live (some (.inl (-14)), I, O, live, 0, 0) := by
  obtain ⟨m0, m2, m4, m6, m7⟩ := id hM
  refine jc_Ct.of (by decide +kernel) (Or.inl rfl) (Nat.le_of_ble_eq_true rfl) ?_
  refine jr_iload_n d_m_object_0 rfl rfl ?_
  refine jr_iconst (v := 1) d_m_object_1 (by decide) ?_
  refine jr_icmp_lt (tgt := 16) d_m_object_2 (by decide) (fun c2 => ?_) (fun c2 => ?_)
  · skip
    refine jr_bipush (v := (-14)) d_m_object_16 (by decide) ?_
    exact jr_retX (v := some _) d_m_object_18 (by first | exact Nat.le_refl _ | exact Nat.zero_le _ | (dsimp only; omega)) (by first | exact Nat.le_refl _ | exact Nat.zero_le _ | (dsimp only; omega)) (by first | with_reducible rfl | (dsimp only; rfl; done) | (rfl; done) | (exfalso; grind)) (by first | with_reducible rfl | (dsimp only; rfl; done) | (rfl; done) | (exfalso; grind)) (by first | with_reducible rfl | (dsimp only; rfl; done) | (rfl; done) | (exfalso; grind)) (by first | with_reducible rfl | (dsimp only; rfl; done) | (rfl; done) | (exfalso; grind))
  · skip
    refine jr_iload_n d_m_object_5 rfl rfl ?_
    refine jr_aload_n d_m_object_6 rfl rfl ?_
    refine jr_getr d_m_object_7 f_m_19 rfl rfl ?_
    first | rw [m4] | skip
    refine jv_V0r d_m_object_10 l_m_33 k_aL_size ⟨Nat.le_of_ble_eq_true rfl, Nat.le_of_ble_eq_true rfl⟩ rfl rfl (Nat.le_of_ble_eq_true rfl) (ct_aL_size) (by first | decide | exact Nat.zero_le _ | (dsimp only; omega) | (dsimp only; grind)) (by first | decide | exact Nat.zero_le _ | (dsimp only; omega) | (dsimp only; grind)) ?_
    refine jr_icmp_le (tgt := 19) d_m_object_13 (by decide) (fun c13 => ?_) (fun c13 => ?_)
    · skip
      exfalso; clear hM; grind
    · skip
      refine jr_bipush (v := (-14)) d_m_object_16 (by decide) ?_
      exact jr_retX (v := some _) d_m_object_18 (by first | exact Nat.le_refl _ | exact Nat.zero_le _ | (dsimp only; omega)) (by first | exact Nat.le_refl _ | exact Nat.zero_le _ | (dsimp only; omega)) (by first | with_reducible rfl | (dsimp only; rfl; done) | (rfl; done) | (exfalso; grind)) (by first | with_reducible rfl | (dsimp only; rfl; done) | (rfl; done) | (exfalso; grind)) (by first | with_reducible rfl | (dsimp only; rfl; done) | (rfl; done) | (exfalso; grind)) (by first | with_reducible rfl | (dsimp only; rfl; done) | (rfl; done) | (exfalso; grind))
theorem ct_m_object_y {I : jc_I} {O : jc_O} {live : jc_L → Prop} {x w : Int32} {b n k : Nat} (hM : qM O) (hl : ql I O live 2 n (qO b)) (hx : x - 1 = Int32.ofNat k) (hk : k < n) (hb : 1 ≤ x ∧ x ≤ I (15, 2, 0) 1) (hf : O (qO b k) 1 = some (47, b + k, 0)) : jc_Ct y_m_object [.inr (some (10, 0, 0)), .inl x, .inl w] I O live (some (.inl (if 10 ≤ w ∧ w < 18 then I (47, b + k, 0) (w - 10).toNatClampNeg else if w = 0 then I (13, b + k, 0) 0 else if w = 1 then I (13, b + k, 0) 2 else if w = 2 then I (13, b + k, 0) 3 else -14)), I, O, live, 0, 0) := by
  obtain ⟨m0, m2, m4, m6, m7⟩ := id hM
  refine jc_Ct.of (by decide +kernel) (Or.inl rfl) (Nat.le_of_ble_eq_true rfl) ?_
  refine jr_iload_n d_m_object_0 rfl rfl ?_
  refine jr_iconst (v := 1) d_m_object_1 (by decide) ?_
  refine jr_icmp_lt (tgt := 16) d_m_object_2 (by decide) (fun c2 => ?_) (fun c2 => ?_)
  · skip
    exfalso; clear hM hl; grind
  · skip
    refine jr_iload_n d_m_object_5 rfl rfl ?_
    refine jr_aload_n d_m_object_6 rfl rfl ?_
    refine jr_getr d_m_object_7 f_m_19 rfl rfl ?_
    first | rw [m4] | rw [hf] | skip
    refine jv_V0r d_m_object_10 l_m_33 k_aL_size ⟨Nat.le_of_ble_eq_true rfl, Nat.le_of_ble_eq_true rfl⟩ rfl rfl (Nat.le_of_ble_eq_true rfl) (ct_aL_size) (by first | decide | exact Nat.zero_le _ | (dsimp only; omega) | (dsimp only; clear hM hl; grind)) (by first | decide | exact Nat.zero_le _ | (dsimp only; omega) | (dsimp only; clear hM hl; grind)) ?_
    refine jr_icmp_le (tgt := 19) d_m_object_13 (by decide) (fun c13 => ?_) (fun c13 => ?_)
    · skip
      refine jr_aload_n d_m_object_19 rfl rfl ?_
      refine jr_getr d_m_object_20 f_m_19 rfl rfl ?_
      first | rw [m4] | rw [hf] | skip
      refine jr_iload_n d_m_object_23 rfl rfl ?_
      refine jr_iconst (v := 1) d_m_object_24 (by decide) ?_
      refine jr_isub d_m_object_25 ?_
      refine jv_V1r d_m_object_26 l_m_126 k_aL_get ⟨Nat.le_of_ble_eq_true rfl, Nat.le_of_ble_eq_true rfl⟩ rfl rfl (Nat.le_of_ble_eq_true rfl) (ct_aL_getq hl hx hk) (by first | decide | exact Nat.zero_le _ | (dsimp only; omega) | (dsimp only; clear hM hl; grind)) (by first | decide | exact Nat.zero_le _ | (dsimp only; omega) | (dsimp only; clear hM hl; grind)) ?_
      first | rw [m4] | rw [hf] | skip
      refine jr_cast d_m_object_29 c_m_155 rfl ⟨_, rfl, ca_mO_mO⟩ ?_
      refine jr_astore_n d_m_object_32 rfl (Nat.le_of_ble_eq_true rfl) ?_
      refine jr_iload_n d_m_object_33 rfl rfl ?_
      refine jr_bipush (v := 10) d_m_object_34 (by decide) ?_
      refine jr_icmp_lt (tgt := 55) d_m_object_36 (by decide) (fun c36 => ?_) (fun c36 => ?_)
      · skip
        refine jr_iload_n d_m_object_55 rfl rfl ?_
        refine jr_if_ne (tgt := 66) d_m_object_56 (by decide) (fun c56 => ?_) (fun c56 => ?_)
        · skip
          refine jr_iload_n d_m_object_66 rfl rfl ?_
          refine jr_iconst (v := 1) d_m_object_67 (by decide) ?_
          refine jr_icmp_ne (tgt := 78) d_m_object_68 (by decide) (fun c68 => ?_) (fun c68 => ?_)
          · skip
            refine jr_iload_n d_m_object_78 rfl rfl ?_
            refine jr_iconst (v := 2) d_m_object_79 (by decide) ?_
            refine jr_icmp_ne (tgt := 90) d_m_object_80 (by decide) (fun c80 => ?_) (fun c80 => ?_)
            · skip
              refine jr_bipush (v := (-14)) d_m_object_90 (by decide) ?_
              exact jr_retX (v := some _) d_m_object_92 (by first | exact Nat.le_refl _ | exact Nat.zero_le _ | (dsimp only; omega)) (by first | exact Nat.le_refl _ | exact Nat.zero_le _ | (dsimp only; omega)) (by first | with_reducible rfl | (dsimp only; (clear hM hl; (repeat (first | rw [if_pos (by grind)] | rw [if_neg (by grind)]))); done) | ((clear hM hl; (repeat (first | rw [if_pos (by grind)] | rw [if_neg (by grind)]))); done) | (exfalso; clear hM hl; grind)) (by first | with_reducible rfl | (dsimp only; (clear hM hl; (repeat (first | rw [if_pos (by grind)] | rw [if_neg (by grind)]))); done) | ((clear hM hl; (repeat (first | rw [if_pos (by grind)] | rw [if_neg (by grind)]))); done) | (exfalso; clear hM hl; grind)) (by first | with_reducible rfl | (dsimp only; (clear hM hl; (repeat (first | rw [if_pos (by grind)] | rw [if_neg (by grind)]))); done) | ((clear hM hl; (repeat (first | rw [if_pos (by grind)] | rw [if_neg (by grind)]))); done) | (exfalso; clear hM hl; grind)) (by first | with_reducible rfl | (dsimp only; (clear hM hl; (repeat (first | rw [if_pos (by grind)] | rw [if_neg (by grind)]))); done) | ((clear hM hl; (repeat (first | rw [if_pos (by grind)] | rw [if_neg (by grind)]))); done) | (exfalso; clear hM hl; grind))
            · skip
              refine jr_aload_n d_m_object_83 rfl rfl ?_
              refine jr_geti d_m_object_84 f_m_157 rfl ?_
              refine jr_goto (tgt := 92) d_m_object_87 (by decide) ?_
              exact jr_retX (v := some _) d_m_object_92 (by first | exact Nat.le_refl _ | exact Nat.zero_le _ | (dsimp only; omega)) (by first | exact Nat.le_refl _ | exact Nat.zero_le _ | (dsimp only; omega)) (by first | with_reducible rfl | (dsimp only; (clear hM hl; (repeat (first | rw [if_pos (by grind)] | rw [if_neg (by grind)]))); done) | ((clear hM hl; (repeat (first | rw [if_pos (by grind)] | rw [if_neg (by grind)]))); done) | (exfalso; clear hM hl; grind)) (by first | with_reducible rfl | (dsimp only; (clear hM hl; (repeat (first | rw [if_pos (by grind)] | rw [if_neg (by grind)]))); done) | ((clear hM hl; (repeat (first | rw [if_pos (by grind)] | rw [if_neg (by grind)]))); done) | (exfalso; clear hM hl; grind)) (by first | with_reducible rfl | (dsimp only; (clear hM hl; (repeat (first | rw [if_pos (by grind)] | rw [if_neg (by grind)]))); done) | ((clear hM hl; (repeat (first | rw [if_pos (by grind)] | rw [if_neg (by grind)]))); done) | (exfalso; clear hM hl; grind)) (by first | with_reducible rfl | (dsimp only; (clear hM hl; (repeat (first | rw [if_pos (by grind)] | rw [if_neg (by grind)]))); done) | ((clear hM hl; (repeat (first | rw [if_pos (by grind)] | rw [if_neg (by grind)]))); done) | (exfalso; clear hM hl; grind))
          · skip
            refine jr_aload_n d_m_object_71 rfl rfl ?_
            refine jr_geti d_m_object_72 f_m_160 rfl ?_
            refine jr_goto (tgt := 92) d_m_object_75 (by decide) ?_
            exact jr_retX (v := some _) d_m_object_92 (by first | exact Nat.le_refl _ | exact Nat.zero_le _ | (dsimp only; omega)) (by first | exact Nat.le_refl _ | exact Nat.zero_le _ | (dsimp only; omega)) (by first | with_reducible rfl | (dsimp only; (clear hM hl; (repeat (first | rw [if_pos (by grind)] | rw [if_neg (by grind)]))); done) | ((clear hM hl; (repeat (first | rw [if_pos (by grind)] | rw [if_neg (by grind)]))); done) | (exfalso; clear hM hl; grind)) (by first | with_reducible rfl | (dsimp only; (clear hM hl; (repeat (first | rw [if_pos (by grind)] | rw [if_neg (by grind)]))); done) | ((clear hM hl; (repeat (first | rw [if_pos (by grind)] | rw [if_neg (by grind)]))); done) | (exfalso; clear hM hl; grind)) (by first | with_reducible rfl | (dsimp only; (clear hM hl; (repeat (first | rw [if_pos (by grind)] | rw [if_neg (by grind)]))); done) | ((clear hM hl; (repeat (first | rw [if_pos (by grind)] | rw [if_neg (by grind)]))); done) | (exfalso; clear hM hl; grind)) (by first | with_reducible rfl | (dsimp only; (clear hM hl; (repeat (first | rw [if_pos (by grind)] | rw [if_neg (by grind)]))); done) | ((clear hM hl; (repeat (first | rw [if_pos (by grind)] | rw [if_neg (by grind)]))); done) | (exfalso; clear hM hl; grind))
        · skip
          refine jr_aload_n d_m_object_59 rfl rfl ?_
          refine jr_geti d_m_object_60 f_m_197 rfl ?_
          refine jr_goto (tgt := 92) d_m_object_63 (by decide) ?_
          exact jr_retX (v := some _) d_m_object_92 (by first | exact Nat.le_refl _ | exact Nat.zero_le _ | (dsimp only; omega)) (by first | exact Nat.le_refl _ | exact Nat.zero_le _ | (dsimp only; omega)) (by first | with_reducible rfl | (dsimp only; (clear hM hl; (repeat (first | rw [if_pos (by grind)] | rw [if_neg (by grind)]))); done) | ((clear hM hl; (repeat (first | rw [if_pos (by grind)] | rw [if_neg (by grind)]))); done) | (exfalso; clear hM hl; grind)) (by first | with_reducible rfl | (dsimp only; (clear hM hl; (repeat (first | rw [if_pos (by grind)] | rw [if_neg (by grind)]))); done) | ((clear hM hl; (repeat (first | rw [if_pos (by grind)] | rw [if_neg (by grind)]))); done) | (exfalso; clear hM hl; grind)) (by first | with_reducible rfl | (dsimp only; (clear hM hl; (repeat (first | rw [if_pos (by grind)] | rw [if_neg (by grind)]))); done) | ((clear hM hl; (repeat (first | rw [if_pos (by grind)] | rw [if_neg (by grind)]))); done) | (exfalso; clear hM hl; grind)) (by first | with_reducible rfl | (dsimp only; (clear hM hl; (repeat (first | rw [if_pos (by grind)] | rw [if_neg (by grind)]))); done) | ((clear hM hl; (repeat (first | rw [if_pos (by grind)] | rw [if_neg (by grind)]))); done) | (exfalso; clear hM hl; grind))
      · skip
        refine jr_iload_n d_m_object_39 rfl rfl ?_
        refine jr_bipush (v := 17) d_m_object_40 (by decide) ?_
        refine jr_icmp_gt (tgt := 55) d_m_object_42 (by decide) (fun c42 => ?_) (fun c42 => ?_)
        · skip
          refine jr_iload_n d_m_object_55 rfl rfl ?_
          refine jr_if_ne (tgt := 66) d_m_object_56 (by decide) (fun c56 => ?_) (fun c56 => ?_)
          · skip
            refine jr_iload_n d_m_object_66 rfl rfl ?_
            refine jr_iconst (v := 1) d_m_object_67 (by decide) ?_
            refine jr_icmp_ne (tgt := 78) d_m_object_68 (by decide) (fun c68 => ?_) (fun c68 => ?_)
            · skip
              refine jr_iload_n d_m_object_78 rfl rfl ?_
              refine jr_iconst (v := 2) d_m_object_79 (by decide) ?_
              refine jr_icmp_ne (tgt := 90) d_m_object_80 (by decide) (fun c80 => ?_) (fun c80 => ?_)
              · skip
                refine jr_bipush (v := (-14)) d_m_object_90 (by decide) ?_
                exact jr_retX (v := some _) d_m_object_92 (by first | exact Nat.le_refl _ | exact Nat.zero_le _ | (dsimp only; omega)) (by first | exact Nat.le_refl _ | exact Nat.zero_le _ | (dsimp only; omega)) (by first | with_reducible rfl | (dsimp only; (clear hM hl; (repeat (first | rw [if_pos (by grind)] | rw [if_neg (by grind)]))); done) | ((clear hM hl; (repeat (first | rw [if_pos (by grind)] | rw [if_neg (by grind)]))); done) | (exfalso; clear hM hl; grind)) (by first | with_reducible rfl | (dsimp only; (clear hM hl; (repeat (first | rw [if_pos (by grind)] | rw [if_neg (by grind)]))); done) | ((clear hM hl; (repeat (first | rw [if_pos (by grind)] | rw [if_neg (by grind)]))); done) | (exfalso; clear hM hl; grind)) (by first | with_reducible rfl | (dsimp only; (clear hM hl; (repeat (first | rw [if_pos (by grind)] | rw [if_neg (by grind)]))); done) | ((clear hM hl; (repeat (first | rw [if_pos (by grind)] | rw [if_neg (by grind)]))); done) | (exfalso; clear hM hl; grind)) (by first | with_reducible rfl | (dsimp only; (clear hM hl; (repeat (first | rw [if_pos (by grind)] | rw [if_neg (by grind)]))); done) | ((clear hM hl; (repeat (first | rw [if_pos (by grind)] | rw [if_neg (by grind)]))); done) | (exfalso; clear hM hl; grind))
              · skip
                refine jr_aload_n d_m_object_83 rfl rfl ?_
                refine jr_geti d_m_object_84 f_m_157 rfl ?_
                refine jr_goto (tgt := 92) d_m_object_87 (by decide) ?_
                exact jr_retX (v := some _) d_m_object_92 (by first | exact Nat.le_refl _ | exact Nat.zero_le _ | (dsimp only; omega)) (by first | exact Nat.le_refl _ | exact Nat.zero_le _ | (dsimp only; omega)) (by first | with_reducible rfl | (dsimp only; (clear hM hl; (repeat (first | rw [if_pos (by grind)] | rw [if_neg (by grind)]))); done) | ((clear hM hl; (repeat (first | rw [if_pos (by grind)] | rw [if_neg (by grind)]))); done) | (exfalso; clear hM hl; grind)) (by first | with_reducible rfl | (dsimp only; (clear hM hl; (repeat (first | rw [if_pos (by grind)] | rw [if_neg (by grind)]))); done) | ((clear hM hl; (repeat (first | rw [if_pos (by grind)] | rw [if_neg (by grind)]))); done) | (exfalso; clear hM hl; grind)) (by first | with_reducible rfl | (dsimp only; (clear hM hl; (repeat (first | rw [if_pos (by grind)] | rw [if_neg (by grind)]))); done) | ((clear hM hl; (repeat (first | rw [if_pos (by grind)] | rw [if_neg (by grind)]))); done) | (exfalso; clear hM hl; grind)) (by first | with_reducible rfl | (dsimp only; (clear hM hl; (repeat (first | rw [if_pos (by grind)] | rw [if_neg (by grind)]))); done) | ((clear hM hl; (repeat (first | rw [if_pos (by grind)] | rw [if_neg (by grind)]))); done) | (exfalso; clear hM hl; grind))
            · skip
              refine jr_aload_n d_m_object_71 rfl rfl ?_
              refine jr_geti d_m_object_72 f_m_160 rfl ?_
              refine jr_goto (tgt := 92) d_m_object_75 (by decide) ?_
              exact jr_retX (v := some _) d_m_object_92 (by first | exact Nat.le_refl _ | exact Nat.zero_le _ | (dsimp only; omega)) (by first | exact Nat.le_refl _ | exact Nat.zero_le _ | (dsimp only; omega)) (by first | with_reducible rfl | (dsimp only; (clear hM hl; (repeat (first | rw [if_pos (by grind)] | rw [if_neg (by grind)]))); done) | ((clear hM hl; (repeat (first | rw [if_pos (by grind)] | rw [if_neg (by grind)]))); done) | (exfalso; clear hM hl; grind)) (by first | with_reducible rfl | (dsimp only; (clear hM hl; (repeat (first | rw [if_pos (by grind)] | rw [if_neg (by grind)]))); done) | ((clear hM hl; (repeat (first | rw [if_pos (by grind)] | rw [if_neg (by grind)]))); done) | (exfalso; clear hM hl; grind)) (by first | with_reducible rfl | (dsimp only; (clear hM hl; (repeat (first | rw [if_pos (by grind)] | rw [if_neg (by grind)]))); done) | ((clear hM hl; (repeat (first | rw [if_pos (by grind)] | rw [if_neg (by grind)]))); done) | (exfalso; clear hM hl; grind)) (by first | with_reducible rfl | (dsimp only; (clear hM hl; (repeat (first | rw [if_pos (by grind)] | rw [if_neg (by grind)]))); done) | ((clear hM hl; (repeat (first | rw [if_pos (by grind)] | rw [if_neg (by grind)]))); done) | (exfalso; clear hM hl; grind))
          · skip
            refine jr_aload_n d_m_object_59 rfl rfl ?_
            refine jr_geti d_m_object_60 f_m_197 rfl ?_
            refine jr_goto (tgt := 92) d_m_object_63 (by decide) ?_
            exact jr_retX (v := some _) d_m_object_92 (by first | exact Nat.le_refl _ | exact Nat.zero_le _ | (dsimp only; omega)) (by first | exact Nat.le_refl _ | exact Nat.zero_le _ | (dsimp only; omega)) (by first | with_reducible rfl | (dsimp only; (clear hM hl; (repeat (first | rw [if_pos (by grind)] | rw [if_neg (by grind)]))); done) | ((clear hM hl; (repeat (first | rw [if_pos (by grind)] | rw [if_neg (by grind)]))); done) | (exfalso; clear hM hl; grind)) (by first | with_reducible rfl | (dsimp only; (clear hM hl; (repeat (first | rw [if_pos (by grind)] | rw [if_neg (by grind)]))); done) | ((clear hM hl; (repeat (first | rw [if_pos (by grind)] | rw [if_neg (by grind)]))); done) | (exfalso; clear hM hl; grind)) (by first | with_reducible rfl | (dsimp only; (clear hM hl; (repeat (first | rw [if_pos (by grind)] | rw [if_neg (by grind)]))); done) | ((clear hM hl; (repeat (first | rw [if_pos (by grind)] | rw [if_neg (by grind)]))); done) | (exfalso; clear hM hl; grind)) (by first | with_reducible rfl | (dsimp only; (clear hM hl; (repeat (first | rw [if_pos (by grind)] | rw [if_neg (by grind)]))); done) | ((clear hM hl; (repeat (first | rw [if_pos (by grind)] | rw [if_neg (by grind)]))); done) | (exfalso; clear hM hl; grind))
        · skip
          refine jr_aload_n d_m_object_45 rfl rfl ?_
          refine jr_getr d_m_object_46 f_m_241 rfl rfl ?_
          first | rw [m4] | rw [hf] | skip
          refine jr_iload_n d_m_object_49 rfl rfl ?_
          refine jr_bipush (v := 10) d_m_object_50 (by decide) ?_
          refine jr_isub d_m_object_52 ?_
          refine jr_iald d_m_object_53 rfl rfl rfl (jin (m := 8) (by decide) (by clear hM hl; grind) (by clear hM hl; grind)) ?_
          exact jr_retX (v := some _) d_m_object_54 (by first | exact Nat.le_refl _ | exact Nat.zero_le _ | (dsimp only; omega)) (by first | exact Nat.le_refl _ | exact Nat.zero_le _ | (dsimp only; omega)) (by first | with_reducible rfl | (dsimp only; (clear hM hl; (repeat (first | rw [if_pos (by grind)] | rw [if_neg (by grind)]))); done) | ((clear hM hl; (repeat (first | rw [if_pos (by grind)] | rw [if_neg (by grind)]))); done) | (exfalso; clear hM hl; grind)) (by first | with_reducible rfl | (dsimp only; (clear hM hl; (repeat (first | rw [if_pos (by grind)] | rw [if_neg (by grind)]))); done) | ((clear hM hl; (repeat (first | rw [if_pos (by grind)] | rw [if_neg (by grind)]))); done) | (exfalso; clear hM hl; grind)) (by first | with_reducible rfl | (dsimp only; (clear hM hl; (repeat (first | rw [if_pos (by grind)] | rw [if_neg (by grind)]))); done) | ((clear hM hl; (repeat (first | rw [if_pos (by grind)] | rw [if_neg (by grind)]))); done) | (exfalso; clear hM hl; grind)) (by first | with_reducible rfl | (dsimp only; (clear hM hl; (repeat (first | rw [if_pos (by grind)] | rw [if_neg (by grind)]))); done) | ((clear hM hl; (repeat (first | rw [if_pos (by grind)] | rw [if_neg (by grind)]))); done) | (exfalso; clear hM hl; grind))
    · skip
      exfalso; clear hM hl; grind
abbrev qTh : Nat → jc_L := fun t => (14, t, 0)
theorem ct_m_value_n {I : jc_I} {O : jc_O} {live : jc_L → Prop} {x w : Int32} (hM : qM O) (hx : ¬ (0 ≤ x ∧ x < I (10, 0, 0) 3)) : jc_Ct y_m_value [.inr (some (10, 0, 0)), .inl x, .inl w] I O live (some (.inl 0), I, O, live, 0, 0) := by
  refine jc_Ct.of (by decide +kernel) (Or.inl rfl) (Nat.le_of_ble_eq_true rfl) ?_
  refine jr_iload_n d_m_value_0 rfl rfl ?_
  refine jr_if_lt (tgt := 29) d_m_value_1 (by decide) (fun c1 => ?_) (fun c1 => ?_)
  · skip
    refine jr_iconst (v := 0) d_m_value_29 (by decide) ?_
    exact jr_retX (v := some _) d_m_value_30 (by first | exact Nat.le_refl _ | exact Nat.zero_le _ | (dsimp only; omega)) (by first | exact Nat.le_refl _ | exact Nat.zero_le _ | (dsimp only; omega)) (by first | with_reducible rfl | (dsimp only; rfl; done) | (rfl; done) | (exfalso; grind)) (by first | with_reducible rfl | (dsimp only; rfl; done) | (rfl; done) | (exfalso; grind)) (by first | with_reducible rfl | (dsimp only; rfl; done) | (rfl; done) | (exfalso; grind)) (by first | with_reducible rfl | (dsimp only; rfl; done) | (rfl; done) | (exfalso; grind))
  · skip
    refine jr_iload_n d_m_value_4 rfl rfl ?_
    refine jr_aload_n d_m_value_5 rfl rfl ?_
    refine jr_geti d_m_value_6 f_m_29 rfl ?_
    refine jr_icmp_ge (tgt := 29) d_m_value_9 (by decide) (fun c9 => ?_) (fun c9 => ?_)
    · skip
      refine jr_iconst (v := 0) d_m_value_29 (by decide) ?_
      exact jr_retX (v := some _) d_m_value_30 (by first | exact Nat.le_refl _ | exact Nat.zero_le _ | (dsimp only; omega)) (by first | exact Nat.le_refl _ | exact Nat.zero_le _ | (dsimp only; omega)) (by first | with_reducible rfl | (dsimp only; rfl; done) | (rfl; done) | (exfalso; grind)) (by first | with_reducible rfl | (dsimp only; rfl; done) | (rfl; done) | (exfalso; grind)) (by first | with_reducible rfl | (dsimp only; rfl; done) | (rfl; done) | (exfalso; grind)) (by first | with_reducible rfl | (dsimp only; rfl; done) | (rfl; done) | (exfalso; grind))
    · skip
      exfalso; clear hM; grind
theorem ct_m_value_0 {I : jc_I} {O : jc_O} {live : jc_L → Prop} {x w : Int32} {tn t : Nat} (hM : qM O) (ht : ql I O live 1 tn qTh) (hx : x = Int32.ofNat t) (htn : t < tn) (hb : 0 ≤ x ∧ x < I (10, 0, 0) 3) (h0 : I (14, t, 0) 2 = 0) : jc_Ct y_m_value [.inr (some (10, 0, 0)), .inl x, .inl w] I O live (some (.inl 0), I, O, live, 0, 0) := by
  obtain ⟨m0, m2, m4, m6, m7⟩ := id hM
  refine jc_Ct.of (by decide +kernel) (Or.inl rfl) (Nat.le_of_ble_eq_true rfl) ?_
  refine jr_iload_n d_m_value_0 rfl rfl ?_
  refine jr_if_lt (tgt := 29) d_m_value_1 (by decide) (fun c1 => ?_) (fun c1 => ?_)
  · skip
    exfalso; clear hM ht; grind
  · skip
    refine jr_iload_n d_m_value_4 rfl rfl ?_
    refine jr_aload_n d_m_value_5 rfl rfl ?_
    refine jr_geti d_m_value_6 f_m_29 rfl ?_
    refine jr_icmp_ge (tgt := 29) d_m_value_9 (by decide) (fun c9 => ?_) (fun c9 => ?_)
    · skip
      exfalso; clear hM ht; grind
    · skip
      refine jr_aload_n d_m_value_12 rfl rfl ?_
      refine jr_getr d_m_value_13 f_m_16 rfl rfl ?_
      first | rw [m2] | skip
      refine jr_iload_n d_m_value_16 rfl rfl ?_
      refine jv_V1r d_m_value_17 l_m_126 k_aL_get ⟨Nat.le_of_ble_eq_true rfl, Nat.le_of_ble_eq_true rfl⟩ rfl rfl (Nat.le_of_ble_eq_true rfl) (ct_aL_getq ht hx htn) (by first | decide | exact Nat.zero_le _ | (dsimp only; omega) | (dsimp only; grind)) (by first | decide | exact Nat.zero_le _ | (dsimp only; omega) | (dsimp only; grind)) ?_
      first | rw [m2] | skip
      refine jr_cast d_m_value_20 c_m_137 rfl ⟨_, rfl, ca_mT_mT⟩ ?_
      refine jr_geti d_m_value_23 f_m_183 rfl ?_
      refine jr_if_ne (tgt := 31) d_m_value_26 (by decide) (fun c26 => ?_) (fun c26 => ?_)
      · skip
        exact absurd h0 c26
      · skip
        refine jr_iconst (v := 0) d_m_value_29 (by decide) ?_
        exact jr_retX (v := some _) d_m_value_30 (by first | exact Nat.le_refl _ | exact Nat.zero_le _ | (dsimp only; omega)) (by first | exact Nat.le_refl _ | exact Nat.zero_le _ | (dsimp only; omega)) (by first | with_reducible rfl | (dsimp only; rfl; done) | (rfl; done) | (exfalso; grind)) (by first | with_reducible rfl | (dsimp only; rfl; done) | (rfl; done) | (exfalso; grind)) (by first | with_reducible rfl | (dsimp only; rfl; done) | (rfl; done) | (exfalso; grind)) (by first | with_reducible rfl | (dsimp only; rfl; done) | (rfl; done) | (exfalso; grind))
theorem ct_m_value_y {I : jc_I} {O : jc_O} {live : jc_L → Prop} {x w : Int32} {tn t xt fn j c : Nat} (hM : qM O) (ht : ql I O live 1 tn qTh) (hx : x = Int32.ofNat t) (htn : t < tn) (hb : 0 ≤ x ∧ x < I (10, 0, 0) 3) (h0 : ¬ I (14, t, 0) 2 = 0) (hm1 : O (14, t, 0) 1 = some (15, xt, 0)) (hfl : ql I O live xt fn (qFr t)) (hd : I (14, t, 0) 2 - 1 = Int32.ofNat j) (hj : j < fn) (hf : qf O t j) (h1 : 0 ≤ I (12, t, j) 4) (h2 : I (12, t, j) 4 ≤ 12) (hcd : O (12, t, j) 0 = some (11, c, 0)) (hlc : I (11, c, 0) 3 ≤ 8) : jc_Ct y_m_value [.inr (some (10, 0, 0)), .inl x, .inl w] I O live (some (.inl (if 0 ≤ w then (if w < I (12, t, j) 4 then I (49, t, j) (I (12, t, j) 4 - 1 - w).toNatClampNeg else 0) else (if -1 - w < I (11, c, 0) 3 then I (48, t, j) (-1 - w).toNatClampNeg else 0))), I, O, live, 0, 0) := by
  obtain ⟨m0, m2, m4, m6, m7⟩ := id hM
  obtain ⟨g1, g2⟩ := id hf
  refine jc_Ct.of (by decide +kernel) (Or.inl rfl) (Nat.le_of_ble_eq_true rfl) ?_
  refine jr_iload_n d_m_value_0 rfl rfl ?_
  refine jr_if_lt (tgt := 29) d_m_value_1 (by decide) (fun c1 => ?_) (fun c1 => ?_)
  · skip
    exfalso; clear hM ht hfl; grind
  · skip
    refine jr_iload_n d_m_value_4 rfl rfl ?_
    refine jr_aload_n d_m_value_5 rfl rfl ?_
    refine jr_geti d_m_value_6 f_m_29 rfl ?_
    refine jr_icmp_ge (tgt := 29) d_m_value_9 (by decide) (fun c9 => ?_) (fun c9 => ?_)
    · skip
      exfalso; clear hM ht hfl; grind
    · skip
      refine jr_aload_n d_m_value_12 rfl rfl ?_
      refine jr_getr d_m_value_13 f_m_16 rfl rfl ?_
      first | rw [m2] | rw [hcd] | rw [g1] | rw [g2] | skip
      refine jr_iload_n d_m_value_16 rfl rfl ?_
      refine jv_V1r d_m_value_17 l_m_126 k_aL_get ⟨Nat.le_of_ble_eq_true rfl, Nat.le_of_ble_eq_true rfl⟩ rfl rfl (Nat.le_of_ble_eq_true rfl) (ct_aL_getq ht hx htn) (by first | decide | exact Nat.zero_le _ | (dsimp only; omega) | (dsimp only; clear hM ht hfl; grind)) (by first | decide | exact Nat.zero_le _ | (dsimp only; omega) | (dsimp only; clear hM ht hfl; grind)) ?_
      first | rw [m2] | rw [hcd] | rw [g1] | rw [g2] | skip
      refine jr_cast d_m_value_20 c_m_137 rfl ⟨_, rfl, ca_mT_mT⟩ ?_
      refine jr_geti d_m_value_23 f_m_183 rfl ?_
      refine jr_if_ne (tgt := 31) d_m_value_26 (by decide) (fun c26 => ?_) (fun c26 => ?_)
      · skip
        refine jr_aload_n d_m_value_31 rfl rfl ?_
        refine jr_getr d_m_value_32 f_m_16 rfl rfl ?_
        first | rw [m2] | rw [hcd] | rw [g1] | rw [g2] | skip
        refine jr_iload_n d_m_value_35 rfl rfl ?_
        refine jv_V1r d_m_value_36 l_m_126 k_aL_get ⟨Nat.le_of_ble_eq_true rfl, Nat.le_of_ble_eq_true rfl⟩ rfl rfl (Nat.le_of_ble_eq_true rfl) (ct_aL_getq ht hx htn) (by first | decide | exact Nat.zero_le _ | (dsimp only; omega) | (dsimp only; clear hM ht hfl; grind)) (by first | decide | exact Nat.zero_le _ | (dsimp only; omega) | (dsimp only; clear hM ht hfl; grind)) ?_
        first | rw [m2] | rw [hcd] | rw [g1] | rw [g2] | skip
        refine jr_cast d_m_value_39 c_m_137 rfl ⟨_, rfl, ca_mT_mT⟩ ?_
        refine jv_V0r d_m_value_42 l_m_186 k_mT_top ⟨Nat.le_of_ble_eq_true rfl, Nat.le_of_ble_eq_true rfl⟩ rfl rfl (Nat.le_of_ble_eq_true rfl) (ct_mT_top hm1 hfl hd hj rfl) (by first | decide | exact Nat.zero_le _ | (dsimp only; omega) | (dsimp only; clear hM ht hfl; grind)) (by first | decide | exact Nat.zero_le _ | (dsimp only; omega) | (dsimp only; clear hM ht hfl; grind)) ?_
        first | rw [m2] | rw [hcd] | rw [g1] | rw [g2] | skip
        refine jr_astore_n d_m_value_45 rfl (Nat.le_of_ble_eq_true rfl) ?_
        refine jr_iload_n d_m_value_46 rfl rfl ?_
        refine jr_if_lt (tgt := 76) d_m_value_47 (by decide) (fun c47 => ?_) (fun c47 => ?_)
        · skip
          refine jr_iconst (v := (-1)) d_m_value_76 (by decide) ?_
          refine jr_iload_n d_m_value_77 rfl rfl ?_
          refine jr_isub d_m_value_78 ?_
          refine jr_istore d_m_value_79 (Nat.le_of_ble_eq_true rfl) ?_
          refine jr_iload d_m_value_81 rfl ?_
          refine jr_aload_n d_m_value_83 rfl rfl ?_
          refine jr_getr d_m_value_84 f_m_190 rfl rfl ?_
          first | rw [m2] | rw [hcd] | rw [g1] | rw [g2] | skip
          refine jr_geti d_m_value_87 f_m_50 rfl ?_
          refine jr_icmp_ge (tgt := 103) d_m_value_90 (by decide) (fun c90 => ?_) (fun c90 => ?_)
          · skip
            refine jr_iconst (v := 0) d_m_value_103 (by decide) ?_
            exact jr_retX (v := some _) d_m_value_104 (by first | exact Nat.le_refl _ | exact Nat.zero_le _ | (dsimp only; omega)) (by first | exact Nat.le_refl _ | exact Nat.zero_le _ | (dsimp only; omega)) (by first | with_reducible rfl | (dsimp only; (repeat (first | rw [if_pos (by clear hM ht hfl; grind)] | rw [if_neg (by clear hM ht hfl; grind)])); done) | ((repeat (first | rw [if_pos (by clear hM ht hfl; grind)] | rw [if_neg (by clear hM ht hfl; grind)])); done) | (exfalso; clear hM ht hfl; grind)) (by first | with_reducible rfl | (dsimp only; (repeat (first | rw [if_pos (by clear hM ht hfl; grind)] | rw [if_neg (by clear hM ht hfl; grind)])); done) | ((repeat (first | rw [if_pos (by clear hM ht hfl; grind)] | rw [if_neg (by clear hM ht hfl; grind)])); done) | (exfalso; clear hM ht hfl; grind)) (by first | with_reducible rfl | (dsimp only; (repeat (first | rw [if_pos (by clear hM ht hfl; grind)] | rw [if_neg (by clear hM ht hfl; grind)])); done) | ((repeat (first | rw [if_pos (by clear hM ht hfl; grind)] | rw [if_neg (by clear hM ht hfl; grind)])); done) | (exfalso; clear hM ht hfl; grind)) (by first | with_reducible rfl | (dsimp only; (repeat (first | rw [if_pos (by clear hM ht hfl; grind)] | rw [if_neg (by clear hM ht hfl; grind)])); done) | ((repeat (first | rw [if_pos (by clear hM ht hfl; grind)] | rw [if_neg (by clear hM ht hfl; grind)])); done) | (exfalso; clear hM ht hfl; grind))
          · skip
            refine jr_aload_n d_m_value_93 rfl rfl ?_
            refine jr_getr d_m_value_94 f_m_237 rfl rfl ?_
            first | rw [m2] | rw [hcd] | rw [g1] | rw [g2] | skip
            refine jr_iload d_m_value_97 rfl ?_
            refine jr_iald d_m_value_99 rfl rfl rfl (jin (m := 8) (by decide) (by clear hM ht hfl; grind) (by clear hM ht hfl; grind)) ?_
            refine jr_goto (tgt := 104) d_m_value_100 (by decide) ?_
            exact jr_retX (v := some _) d_m_value_104 (by first | exact Nat.le_refl _ | exact Nat.zero_le _ | (dsimp only; omega)) (by first | exact Nat.le_refl _ | exact Nat.zero_le _ | (dsimp only; omega)) (by first | with_reducible rfl | (dsimp only; (repeat (first | rw [if_pos (by clear hM ht hfl; grind)] | rw [if_neg (by clear hM ht hfl; grind)])); done) | ((repeat (first | rw [if_pos (by clear hM ht hfl; grind)] | rw [if_neg (by clear hM ht hfl; grind)])); done) | (exfalso; clear hM ht hfl; grind)) (by first | with_reducible rfl | (dsimp only; (repeat (first | rw [if_pos (by clear hM ht hfl; grind)] | rw [if_neg (by clear hM ht hfl; grind)])); done) | ((repeat (first | rw [if_pos (by clear hM ht hfl; grind)] | rw [if_neg (by clear hM ht hfl; grind)])); done) | (exfalso; clear hM ht hfl; grind)) (by first | with_reducible rfl | (dsimp only; (repeat (first | rw [if_pos (by clear hM ht hfl; grind)] | rw [if_neg (by clear hM ht hfl; grind)])); done) | ((repeat (first | rw [if_pos (by clear hM ht hfl; grind)] | rw [if_neg (by clear hM ht hfl; grind)])); done) | (exfalso; clear hM ht hfl; grind)) (by first | with_reducible rfl | (dsimp only; (repeat (first | rw [if_pos (by clear hM ht hfl; grind)] | rw [if_neg (by clear hM ht hfl; grind)])); done) | ((repeat (first | rw [if_pos (by clear hM ht hfl; grind)] | rw [if_neg (by clear hM ht hfl; grind)])); done) | (exfalso; clear hM ht hfl; grind))
        · skip
          refine jr_iload_n d_m_value_50 rfl rfl ?_
          refine jr_aload_n d_m_value_51 rfl rfl ?_
          refine jr_geti d_m_value_52 f_m_199 rfl ?_
          refine jr_icmp_ge (tgt := 74) d_m_value_55 (by decide) (fun c55 => ?_) (fun c55 => ?_)
          · skip
            refine jr_iconst (v := 0) d_m_value_74 (by decide) ?_
            exact jr_retX (v := some _) d_m_value_75 (by first | exact Nat.le_refl _ | exact Nat.zero_le _ | (dsimp only; omega)) (by first | exact Nat.le_refl _ | exact Nat.zero_le _ | (dsimp only; omega)) (by first | with_reducible rfl | (dsimp only; (repeat (first | rw [if_pos (by clear hM ht hfl; grind)] | rw [if_neg (by clear hM ht hfl; grind)])); done) | ((repeat (first | rw [if_pos (by clear hM ht hfl; grind)] | rw [if_neg (by clear hM ht hfl; grind)])); done) | (exfalso; clear hM ht hfl; grind)) (by first | with_reducible rfl | (dsimp only; (repeat (first | rw [if_pos (by clear hM ht hfl; grind)] | rw [if_neg (by clear hM ht hfl; grind)])); done) | ((repeat (first | rw [if_pos (by clear hM ht hfl; grind)] | rw [if_neg (by clear hM ht hfl; grind)])); done) | (exfalso; clear hM ht hfl; grind)) (by first | with_reducible rfl | (dsimp only; (repeat (first | rw [if_pos (by clear hM ht hfl; grind)] | rw [if_neg (by clear hM ht hfl; grind)])); done) | ((repeat (first | rw [if_pos (by clear hM ht hfl; grind)] | rw [if_neg (by clear hM ht hfl; grind)])); done) | (exfalso; clear hM ht hfl; grind)) (by first | with_reducible rfl | (dsimp only; (repeat (first | rw [if_pos (by clear hM ht hfl; grind)] | rw [if_neg (by clear hM ht hfl; grind)])); done) | ((repeat (first | rw [if_pos (by clear hM ht hfl; grind)] | rw [if_neg (by clear hM ht hfl; grind)])); done) | (exfalso; clear hM ht hfl; grind))
          · skip
            refine jr_aload_n d_m_value_58 rfl rfl ?_
            refine jr_getr d_m_value_59 f_m_238 rfl rfl ?_
            first | rw [m2] | rw [hcd] | rw [g1] | rw [g2] | skip
            refine jr_aload_n d_m_value_62 rfl rfl ?_
            refine jr_geti d_m_value_63 f_m_199 rfl ?_
            refine jr_iconst (v := 1) d_m_value_66 (by decide) ?_
            refine jr_isub d_m_value_67 ?_
            refine jr_iload_n d_m_value_68 rfl rfl ?_
            refine jr_isub d_m_value_69 ?_
            refine jr_iald d_m_value_70 rfl rfl rfl (jin (m := 12) (by decide) (by clear hM ht hfl; grind) (by clear hM ht hfl; grind)) ?_
            refine jr_goto (tgt := 75) d_m_value_71 (by decide) ?_
            exact jr_retX (v := some _) d_m_value_75 (by first | exact Nat.le_refl _ | exact Nat.zero_le _ | (dsimp only; omega)) (by first | exact Nat.le_refl _ | exact Nat.zero_le _ | (dsimp only; omega)) (by first | with_reducible rfl | (dsimp only; (repeat (first | rw [if_pos (by clear hM ht hfl; grind)] | rw [if_neg (by clear hM ht hfl; grind)])); done) | ((repeat (first | rw [if_pos (by clear hM ht hfl; grind)] | rw [if_neg (by clear hM ht hfl; grind)])); done) | (exfalso; clear hM ht hfl; grind)) (by first | with_reducible rfl | (dsimp only; (repeat (first | rw [if_pos (by clear hM ht hfl; grind)] | rw [if_neg (by clear hM ht hfl; grind)])); done) | ((repeat (first | rw [if_pos (by clear hM ht hfl; grind)] | rw [if_neg (by clear hM ht hfl; grind)])); done) | (exfalso; clear hM ht hfl; grind)) (by first | with_reducible rfl | (dsimp only; (repeat (first | rw [if_pos (by clear hM ht hfl; grind)] | rw [if_neg (by clear hM ht hfl; grind)])); done) | ((repeat (first | rw [if_pos (by clear hM ht hfl; grind)] | rw [if_neg (by clear hM ht hfl; grind)])); done) | (exfalso; clear hM ht hfl; grind)) (by first | with_reducible rfl | (dsimp only; (repeat (first | rw [if_pos (by clear hM ht hfl; grind)] | rw [if_neg (by clear hM ht hfl; grind)])); done) | ((repeat (first | rw [if_pos (by clear hM ht hfl; grind)] | rw [if_neg (by clear hM ht hfl; grind)])); done) | (exfalso; clear hM ht hfl; grind))
      · skip
        exact absurd c26 h0
theorem ct_m_told_n {I : jc_I} {O : jc_O} {live : jc_L → Prop} {x w : Int32} (hM : qM O) (hx : ¬ (0 ≤ x ∧ x < I (10, 0, 0) 3)) : jc_Ct y_m_told [.inr (some (10, 0, 0)), .inl x, .inl w] I O live (some (.inl (-14)), I, O, live, 0, 0) := by
  refine jc_Ct.of (by decide +kernel) (Or.inl rfl) (Nat.le_of_ble_eq_true rfl) ?_
  refine jr_iload_n d_m_told_0 rfl rfl ?_
  refine jr_if_lt (tgt := 12) d_m_told_1 (by decide) (fun c1 => ?_) (fun c1 => ?_)
  · skip
    refine jr_bipush (v := (-14)) d_m_told_12 (by decide) ?_
    exact jr_retX (v := some _) d_m_told_14 (by first | exact Nat.le_refl _ | exact Nat.zero_le _ | (dsimp only; omega)) (by first | exact Nat.le_refl _ | exact Nat.zero_le _ | (dsimp only; omega)) (by first | with_reducible rfl | (dsimp only; rfl; done) | (rfl; done) | (exfalso; grind)) (by first | with_reducible rfl | (dsimp only; rfl; done) | (rfl; done) | (exfalso; grind)) (by first | with_reducible rfl | (dsimp only; rfl; done) | (rfl; done) | (exfalso; grind)) (by first | with_reducible rfl | (dsimp only; rfl; done) | (rfl; done) | (exfalso; grind))
  · skip
    refine jr_iload_n d_m_told_4 rfl rfl ?_
    refine jr_aload_n d_m_told_5 rfl rfl ?_
    refine jr_geti d_m_told_6 f_m_29 rfl ?_
    refine jr_icmp_lt (tgt := 15) d_m_told_9 (by decide) (fun c9 => ?_) (fun c9 => ?_)
    · skip
      exfalso; clear hM; grind
    · skip
      refine jr_bipush (v := (-14)) d_m_told_12 (by decide) ?_
      exact jr_retX (v := some _) d_m_told_14 (by first | exact Nat.le_refl _ | exact Nat.zero_le _ | (dsimp only; omega)) (by first | exact Nat.le_refl _ | exact Nat.zero_le _ | (dsimp only; omega)) (by first | with_reducible rfl | (dsimp only; rfl; done) | (rfl; done) | (exfalso; grind)) (by first | with_reducible rfl | (dsimp only; rfl; done) | (rfl; done) | (exfalso; grind)) (by first | with_reducible rfl | (dsimp only; rfl; done) | (rfl; done) | (exfalso; grind)) (by first | with_reducible rfl | (dsimp only; rfl; done) | (rfl; done) | (exfalso; grind))
theorem ct_m_told_0 {I : jc_I} {O : jc_O} {live : jc_L → Prop} {x w : Int32} {tn t b n : Nat} (hM : qM O) (ht : ql I O live 1 tn qTh) (hx : x = Int32.ofNat t) (htn : t < tn) (hb : 0 ≤ x ∧ x < I (10, 0, 0) 3) (hl : ql I O live 2 n (qO b)) (hw : I (14, t, 0) 6 ≠ 0 → 1 ≤ I (14, t, 0) 6 ∧ ((I (14, t, 0) 6 - 1).toNatClampNeg < n)) (h0 : I (14, t, 0) 2 = 0) : jc_Ct y_m_told [.inr (some (10, 0, 0)), .inl x, .inl w] I O live (some (.inl (if w = 0 then I (14, t, 0) 3 else if w = 1 then I (14, t, 0) 2 else if w = 2 then I (14, t, 0) 5 else if w = 3 then -1 else if w = 4 then -1 else if w = 5 then 0 else if w = 6 then (if I (14, t, 0) 4 = 0 ∧ q_hu I t b ≠ 0 then I (14, t, 0) 6 else 0) else -14)), I, O, live, 0, 0) := by
  obtain ⟨m0, m2, m4, m6, m7⟩ := id hM
  refine jc_Ct.of (by decide +kernel) (Or.inl rfl) (Nat.le_of_ble_eq_true rfl) ?_
  refine jr_iload_n d_m_told_0 rfl rfl ?_
  refine jr_if_lt (tgt := 12) d_m_told_1 (by decide) (fun c1 => ?_) (fun c1 => ?_)
  · skip
    exfalso; clear hM ht hl; grind
  · skip
    refine jr_iload_n d_m_told_4 rfl rfl ?_
    refine jr_aload_n d_m_told_5 rfl rfl ?_
    refine jr_geti d_m_told_6 f_m_29 rfl ?_
    refine jr_icmp_lt (tgt := 15) d_m_told_9 (by decide) (fun c9 => ?_) (fun c9 => ?_)
    · skip
      refine jr_aload_n d_m_told_15 rfl rfl ?_
      refine jr_getr d_m_told_16 f_m_16 rfl rfl ?_
      first | rw [m2] | skip
      refine jr_iload_n d_m_told_19 rfl rfl ?_
      refine jv_V1r d_m_told_20 l_m_126 k_aL_get ⟨Nat.le_of_ble_eq_true rfl, Nat.le_of_ble_eq_true rfl⟩ rfl rfl (Nat.le_of_ble_eq_true rfl) (ct_aL_getq ht hx htn) (by first | decide | exact Nat.zero_le _ | (dsimp only; omega) | (dsimp only; clear hM ht hl; grind)) (by first | decide | exact Nat.zero_le _ | (dsimp only; omega) | (dsimp only; clear hM ht hl; grind)) ?_
      first | rw [m2] | skip
      refine jr_cast d_m_told_23 c_m_137 rfl ⟨_, rfl, ca_mT_mT⟩ ?_
      refine jr_astore_n d_m_told_26 rfl (Nat.le_of_ble_eq_true rfl) ?_
      refine jr_aload_n d_m_told_27 rfl rfl ?_
      refine jr_geti d_m_told_28 f_m_183 rfl ?_
      refine jr_if_le (tgt := 38) d_m_told_31 (by decide) (fun c31 => ?_) (fun c31 => ?_)
      · skip
        refine jr_iconst (v := 0) d_m_told_38 (by decide) ?_
        refine jr_istore d_m_told_39 (Nat.le_of_ble_eq_true rfl) ?_
        refine jr_iload_n d_m_told_41 rfl rfl ?_
        refine jr_name (fun x42 e42 => ?_)
        by_cases g42_0 : x42 = 0
        · refine jr_tableIn (tgt := 84) d_m_told_42 (by rcases g42_0 with rfl <;> decide) (by rcases g42_0 with rfl <;> decide) (by rcases g42_0 with rfl <;> rfl) (by decide) ?_
          refine jr_aload_n d_m_told_84 rfl rfl ?_
          refine jr_geti d_m_told_85 f_m_178 rfl ?_
          exact jr_retX (v := some _) d_m_told_88 (by first | exact Nat.le_refl _ | exact Nat.zero_le _ | (dsimp only; omega)) (by first | exact Nat.le_refl _ | exact Nat.zero_le _ | (dsimp only; omega)) (by first | with_reducible rfl | (dsimp only; (subst e42; (repeat (first | rw [if_pos (by clear hM ht hl; grind)] | rw [if_neg (by clear hM ht hl; grind)]))); done) | ((subst e42; (repeat (first | rw [if_pos (by clear hM ht hl; grind)] | rw [if_neg (by clear hM ht hl; grind)]))); done) | (exfalso; clear hM ht hl; grind)) (by first | with_reducible rfl | (dsimp only; (subst e42; (repeat (first | rw [if_pos (by clear hM ht hl; grind)] | rw [if_neg (by clear hM ht hl; grind)]))); done) | ((subst e42; (repeat (first | rw [if_pos (by clear hM ht hl; grind)] | rw [if_neg (by clear hM ht hl; grind)]))); done) | (exfalso; clear hM ht hl; grind)) (by first | with_reducible rfl | (dsimp only; (subst e42; (repeat (first | rw [if_pos (by clear hM ht hl; grind)] | rw [if_neg (by clear hM ht hl; grind)]))); done) | ((subst e42; (repeat (first | rw [if_pos (by clear hM ht hl; grind)] | rw [if_neg (by clear hM ht hl; grind)]))); done) | (exfalso; clear hM ht hl; grind)) (by first | with_reducible rfl | (dsimp only; (subst e42; (repeat (first | rw [if_pos (by clear hM ht hl; grind)] | rw [if_neg (by clear hM ht hl; grind)]))); done) | ((subst e42; (repeat (first | rw [if_pos (by clear hM ht hl; grind)] | rw [if_neg (by clear hM ht hl; grind)]))); done) | (exfalso; clear hM ht hl; grind))
        · skip
          by_cases g42_1 : x42 = 1
          · refine jr_tableIn (tgt := 89) d_m_told_42 (by rcases g42_1 with rfl <;> decide) (by rcases g42_1 with rfl <;> decide) (by rcases g42_1 with rfl <;> rfl) (by decide) ?_
            refine jr_aload_n d_m_told_89 rfl rfl ?_
            refine jr_geti d_m_told_90 f_m_183 rfl ?_
            exact jr_retX (v := some _) d_m_told_93 (by first | exact Nat.le_refl _ | exact Nat.zero_le _ | (dsimp only; omega)) (by first | exact Nat.le_refl _ | exact Nat.zero_le _ | (dsimp only; omega)) (by first | with_reducible rfl | (dsimp only; (subst e42; (repeat (first | rw [if_pos (by clear hM ht hl; grind)] | rw [if_neg (by clear hM ht hl; grind)]))); done) | ((subst e42; (repeat (first | rw [if_pos (by clear hM ht hl; grind)] | rw [if_neg (by clear hM ht hl; grind)]))); done) | (exfalso; clear hM ht hl; grind)) (by first | with_reducible rfl | (dsimp only; (subst e42; (repeat (first | rw [if_pos (by clear hM ht hl; grind)] | rw [if_neg (by clear hM ht hl; grind)]))); done) | ((subst e42; (repeat (first | rw [if_pos (by clear hM ht hl; grind)] | rw [if_neg (by clear hM ht hl; grind)]))); done) | (exfalso; clear hM ht hl; grind)) (by first | with_reducible rfl | (dsimp only; (subst e42; (repeat (first | rw [if_pos (by clear hM ht hl; grind)] | rw [if_neg (by clear hM ht hl; grind)]))); done) | ((subst e42; (repeat (first | rw [if_pos (by clear hM ht hl; grind)] | rw [if_neg (by clear hM ht hl; grind)]))); done) | (exfalso; clear hM ht hl; grind)) (by first | with_reducible rfl | (dsimp only; (subst e42; (repeat (first | rw [if_pos (by clear hM ht hl; grind)] | rw [if_neg (by clear hM ht hl; grind)]))); done) | ((subst e42; (repeat (first | rw [if_pos (by clear hM ht hl; grind)] | rw [if_neg (by clear hM ht hl; grind)]))); done) | (exfalso; clear hM ht hl; grind))
          · skip
            by_cases g42_2 : x42 = 2
            · refine jr_tableIn (tgt := 94) d_m_told_42 (by rcases g42_2 with rfl <;> decide) (by rcases g42_2 with rfl <;> decide) (by rcases g42_2 with rfl <;> rfl) (by decide) ?_
              refine jr_aload_n d_m_told_94 rfl rfl ?_
              refine jr_geti d_m_told_95 f_m_182 rfl ?_
              exact jr_retX (v := some _) d_m_told_98 (by first | exact Nat.le_refl _ | exact Nat.zero_le _ | (dsimp only; omega)) (by first | exact Nat.le_refl _ | exact Nat.zero_le _ | (dsimp only; omega)) (by first | with_reducible rfl | (dsimp only; (subst e42; (repeat (first | rw [if_pos (by clear hM ht hl; grind)] | rw [if_neg (by clear hM ht hl; grind)]))); done) | ((subst e42; (repeat (first | rw [if_pos (by clear hM ht hl; grind)] | rw [if_neg (by clear hM ht hl; grind)]))); done) | (exfalso; clear hM ht hl; grind)) (by first | with_reducible rfl | (dsimp only; (subst e42; (repeat (first | rw [if_pos (by clear hM ht hl; grind)] | rw [if_neg (by clear hM ht hl; grind)]))); done) | ((subst e42; (repeat (first | rw [if_pos (by clear hM ht hl; grind)] | rw [if_neg (by clear hM ht hl; grind)]))); done) | (exfalso; clear hM ht hl; grind)) (by first | with_reducible rfl | (dsimp only; (subst e42; (repeat (first | rw [if_pos (by clear hM ht hl; grind)] | rw [if_neg (by clear hM ht hl; grind)]))); done) | ((subst e42; (repeat (first | rw [if_pos (by clear hM ht hl; grind)] | rw [if_neg (by clear hM ht hl; grind)]))); done) | (exfalso; clear hM ht hl; grind)) (by first | with_reducible rfl | (dsimp only; (subst e42; (repeat (first | rw [if_pos (by clear hM ht hl; grind)] | rw [if_neg (by clear hM ht hl; grind)]))); done) | ((subst e42; (repeat (first | rw [if_pos (by clear hM ht hl; grind)] | rw [if_neg (by clear hM ht hl; grind)]))); done) | (exfalso; clear hM ht hl; grind))
            · skip
              by_cases g42_3 : x42 = 3
              · refine jr_tableIn (tgt := 99) d_m_told_42 (by rcases g42_3 with rfl <;> decide) (by rcases g42_3 with rfl <;> decide) (by rcases g42_3 with rfl <;> rfl) (by decide) ?_
                refine jr_iload d_m_told_99 rfl ?_
                refine jr_if_eq (tgt := 114) d_m_told_101 (by decide) (fun c101 => ?_) (fun c101 => ?_)
                · skip
                  refine jr_iconst (v := (-1)) d_m_told_114 (by decide) ?_
                  exact jr_retX (v := some _) d_m_told_115 (by first | exact Nat.le_refl _ | exact Nat.zero_le _ | (dsimp only; omega)) (by first | exact Nat.le_refl _ | exact Nat.zero_le _ | (dsimp only; omega)) (by first | with_reducible rfl | (dsimp only; (subst e42; (repeat (first | rw [if_pos (by clear hM ht hl; grind)] | rw [if_neg (by clear hM ht hl; grind)]))); done) | ((subst e42; (repeat (first | rw [if_pos (by clear hM ht hl; grind)] | rw [if_neg (by clear hM ht hl; grind)]))); done) | (exfalso; clear hM ht hl; grind)) (by first | with_reducible rfl | (dsimp only; (subst e42; (repeat (first | rw [if_pos (by clear hM ht hl; grind)] | rw [if_neg (by clear hM ht hl; grind)]))); done) | ((subst e42; (repeat (first | rw [if_pos (by clear hM ht hl; grind)] | rw [if_neg (by clear hM ht hl; grind)]))); done) | (exfalso; clear hM ht hl; grind)) (by first | with_reducible rfl | (dsimp only; (subst e42; (repeat (first | rw [if_pos (by clear hM ht hl; grind)] | rw [if_neg (by clear hM ht hl; grind)]))); done) | ((subst e42; (repeat (first | rw [if_pos (by clear hM ht hl; grind)] | rw [if_neg (by clear hM ht hl; grind)]))); done) | (exfalso; clear hM ht hl; grind)) (by first | with_reducible rfl | (dsimp only; (subst e42; (repeat (first | rw [if_pos (by clear hM ht hl; grind)] | rw [if_neg (by clear hM ht hl; grind)]))); done) | ((subst e42; (repeat (first | rw [if_pos (by clear hM ht hl; grind)] | rw [if_neg (by clear hM ht hl; grind)]))); done) | (exfalso; clear hM ht hl; grind))
                · skip
                  exact absurd rfl c101
              · skip
                by_cases g42_4 : x42 = 4
                · refine jr_tableIn (tgt := 116) d_m_told_42 (by rcases g42_4 with rfl <;> decide) (by rcases g42_4 with rfl <;> decide) (by rcases g42_4 with rfl <;> rfl) (by decide) ?_
                  refine jr_iload d_m_told_116 rfl ?_
                  refine jr_if_eq (tgt := 131) d_m_told_118 (by decide) (fun c118 => ?_) (fun c118 => ?_)
                  · skip
                    refine jr_iconst (v := (-1)) d_m_told_131 (by decide) ?_
                    exact jr_retX (v := some _) d_m_told_132 (by first | exact Nat.le_refl _ | exact Nat.zero_le _ | (dsimp only; omega)) (by first | exact Nat.le_refl _ | exact Nat.zero_le _ | (dsimp only; omega)) (by first | with_reducible rfl | (dsimp only; (subst e42; (repeat (first | rw [if_pos (by clear hM ht hl; grind)] | rw [if_neg (by clear hM ht hl; grind)]))); done) | ((subst e42; (repeat (first | rw [if_pos (by clear hM ht hl; grind)] | rw [if_neg (by clear hM ht hl; grind)]))); done) | (exfalso; clear hM ht hl; grind)) (by first | with_reducible rfl | (dsimp only; (subst e42; (repeat (first | rw [if_pos (by clear hM ht hl; grind)] | rw [if_neg (by clear hM ht hl; grind)]))); done) | ((subst e42; (repeat (first | rw [if_pos (by clear hM ht hl; grind)] | rw [if_neg (by clear hM ht hl; grind)]))); done) | (exfalso; clear hM ht hl; grind)) (by first | with_reducible rfl | (dsimp only; (subst e42; (repeat (first | rw [if_pos (by clear hM ht hl; grind)] | rw [if_neg (by clear hM ht hl; grind)]))); done) | ((subst e42; (repeat (first | rw [if_pos (by clear hM ht hl; grind)] | rw [if_neg (by clear hM ht hl; grind)]))); done) | (exfalso; clear hM ht hl; grind)) (by first | with_reducible rfl | (dsimp only; (subst e42; (repeat (first | rw [if_pos (by clear hM ht hl; grind)] | rw [if_neg (by clear hM ht hl; grind)]))); done) | ((subst e42; (repeat (first | rw [if_pos (by clear hM ht hl; grind)] | rw [if_neg (by clear hM ht hl; grind)]))); done) | (exfalso; clear hM ht hl; grind))
                  · skip
                    exact absurd rfl c118
                · skip
                  by_cases g42_5 : x42 = 5
                  · refine jr_tableIn (tgt := 133) d_m_told_42 (by rcases g42_5 with rfl <;> decide) (by rcases g42_5 with rfl <;> decide) (by rcases g42_5 with rfl <;> rfl) (by decide) ?_
                    refine jr_iload d_m_told_133 rfl ?_
                    refine jr_if_eq (tgt := 148) d_m_told_135 (by decide) (fun c135 => ?_) (fun c135 => ?_)
                    · skip
                      refine jr_iconst (v := 0) d_m_told_148 (by decide) ?_
                      exact jr_retX (v := some _) d_m_told_149 (by first | exact Nat.le_refl _ | exact Nat.zero_le _ | (dsimp only; omega)) (by first | exact Nat.le_refl _ | exact Nat.zero_le _ | (dsimp only; omega)) (by first | with_reducible rfl | (dsimp only; (subst e42; (repeat (first | rw [if_pos (by clear hM ht hl; grind)] | rw [if_neg (by clear hM ht hl; grind)]))); done) | ((subst e42; (repeat (first | rw [if_pos (by clear hM ht hl; grind)] | rw [if_neg (by clear hM ht hl; grind)]))); done) | (exfalso; clear hM ht hl; grind)) (by first | with_reducible rfl | (dsimp only; (subst e42; (repeat (first | rw [if_pos (by clear hM ht hl; grind)] | rw [if_neg (by clear hM ht hl; grind)]))); done) | ((subst e42; (repeat (first | rw [if_pos (by clear hM ht hl; grind)] | rw [if_neg (by clear hM ht hl; grind)]))); done) | (exfalso; clear hM ht hl; grind)) (by first | with_reducible rfl | (dsimp only; (subst e42; (repeat (first | rw [if_pos (by clear hM ht hl; grind)] | rw [if_neg (by clear hM ht hl; grind)]))); done) | ((subst e42; (repeat (first | rw [if_pos (by clear hM ht hl; grind)] | rw [if_neg (by clear hM ht hl; grind)]))); done) | (exfalso; clear hM ht hl; grind)) (by first | with_reducible rfl | (dsimp only; (subst e42; (repeat (first | rw [if_pos (by clear hM ht hl; grind)] | rw [if_neg (by clear hM ht hl; grind)]))); done) | ((subst e42; (repeat (first | rw [if_pos (by clear hM ht hl; grind)] | rw [if_neg (by clear hM ht hl; grind)]))); done) | (exfalso; clear hM ht hl; grind))
                    · skip
                      exact absurd rfl c135
                  · skip
                    by_cases g42_6 : x42 = 6
                    · refine jr_tableIn (tgt := 150) d_m_told_42 (by rcases g42_6 with rfl <;> decide) (by rcases g42_6 with rfl <;> decide) (by rcases g42_6 with rfl <;> rfl) (by decide) ?_
                      refine jr_aload_n d_m_told_150 rfl rfl ?_
                      refine jr_geti d_m_told_151 f_m_163 rfl ?_
                      refine jr_if_ne (tgt := 172) d_m_told_154 (by decide) (fun c154 => ?_) (fun c154 => ?_)
                      · skip
                        refine jr_iconst (v := 0) d_m_told_172 (by decide) ?_
                        exact jr_retX (v := some _) d_m_told_173 (by first | exact Nat.le_refl _ | exact Nat.zero_le _ | (dsimp only; omega)) (by first | exact Nat.le_refl _ | exact Nat.zero_le _ | (dsimp only; omega)) (by first | with_reducible rfl | (dsimp only; (subst e42; (repeat (first | rw [if_pos (by clear hM ht hl; grind)] | rw [if_neg (by clear hM ht hl; grind)]))); done) | ((subst e42; (repeat (first | rw [if_pos (by clear hM ht hl; grind)] | rw [if_neg (by clear hM ht hl; grind)]))); done) | (exfalso; clear hM ht hl; grind)) (by first | with_reducible rfl | (dsimp only; (subst e42; (repeat (first | rw [if_pos (by clear hM ht hl; grind)] | rw [if_neg (by clear hM ht hl; grind)]))); done) | ((subst e42; (repeat (first | rw [if_pos (by clear hM ht hl; grind)] | rw [if_neg (by clear hM ht hl; grind)]))); done) | (exfalso; clear hM ht hl; grind)) (by first | with_reducible rfl | (dsimp only; (subst e42; (repeat (first | rw [if_pos (by clear hM ht hl; grind)] | rw [if_neg (by clear hM ht hl; grind)]))); done) | ((subst e42; (repeat (first | rw [if_pos (by clear hM ht hl; grind)] | rw [if_neg (by clear hM ht hl; grind)]))); done) | (exfalso; clear hM ht hl; grind)) (by first | with_reducible rfl | (dsimp only; (subst e42; (repeat (first | rw [if_pos (by clear hM ht hl; grind)] | rw [if_neg (by clear hM ht hl; grind)]))); done) | ((subst e42; (repeat (first | rw [if_pos (by clear hM ht hl; grind)] | rw [if_neg (by clear hM ht hl; grind)]))); done) | (exfalso; clear hM ht hl; grind))
                      · skip
                        refine jr_aload_n d_m_told_157 rfl rfl ?_
                        refine jr_aload_n d_m_told_158 rfl rfl ?_
                        refine jv_V1r d_m_told_159 l_m_166 k_m_isHeldUp ⟨Nat.le_of_ble_eq_true rfl, Nat.le_of_ble_eq_true rfl⟩ rfl rfl (Nat.le_of_ble_eq_true rfl) (ct_m_isHeldUp hM hl hw) (by first | decide | exact Nat.zero_le _ | (dsimp only; omega) | (dsimp only; clear hM ht hl; grind)) (by first | decide | exact Nat.zero_le _ | (dsimp only; omega) | (dsimp only; clear hM ht hl; grind)) ?_
                        refine jr_if_eq (tgt := 172) d_m_told_162 (by decide) (fun c162 => ?_) (fun c162 => ?_)
                        · skip
                          refine jr_iconst (v := 0) d_m_told_172 (by decide) ?_
                          exact jr_retX (v := some _) d_m_told_173 (by first | exact Nat.le_refl _ | exact Nat.zero_le _ | (dsimp only; omega)) (by first | exact Nat.le_refl _ | exact Nat.zero_le _ | (dsimp only; omega)) (by first | with_reducible rfl | (dsimp only; (subst e42; (repeat (first | rw [if_pos (by clear hM ht hl; grind)] | rw [if_neg (by clear hM ht hl; grind)]))); done) | ((subst e42; (repeat (first | rw [if_pos (by clear hM ht hl; grind)] | rw [if_neg (by clear hM ht hl; grind)]))); done) | (exfalso; clear hM ht hl; grind)) (by first | with_reducible rfl | (dsimp only; (subst e42; (repeat (first | rw [if_pos (by clear hM ht hl; grind)] | rw [if_neg (by clear hM ht hl; grind)]))); done) | ((subst e42; (repeat (first | rw [if_pos (by clear hM ht hl; grind)] | rw [if_neg (by clear hM ht hl; grind)]))); done) | (exfalso; clear hM ht hl; grind)) (by first | with_reducible rfl | (dsimp only; (subst e42; (repeat (first | rw [if_pos (by clear hM ht hl; grind)] | rw [if_neg (by clear hM ht hl; grind)]))); done) | ((subst e42; (repeat (first | rw [if_pos (by clear hM ht hl; grind)] | rw [if_neg (by clear hM ht hl; grind)]))); done) | (exfalso; clear hM ht hl; grind)) (by first | with_reducible rfl | (dsimp only; (subst e42; (repeat (first | rw [if_pos (by clear hM ht hl; grind)] | rw [if_neg (by clear hM ht hl; grind)]))); done) | ((subst e42; (repeat (first | rw [if_pos (by clear hM ht hl; grind)] | rw [if_neg (by clear hM ht hl; grind)]))); done) | (exfalso; clear hM ht hl; grind))
                        · skip
                          refine jr_aload_n d_m_told_165 rfl rfl ?_
                          refine jr_geti d_m_told_166 f_m_152 rfl ?_
                          refine jr_goto (tgt := 173) d_m_told_169 (by decide) ?_
                          exact jr_retX (v := some _) d_m_told_173 (by first | exact Nat.le_refl _ | exact Nat.zero_le _ | (dsimp only; omega)) (by first | exact Nat.le_refl _ | exact Nat.zero_le _ | (dsimp only; omega)) (by first | with_reducible rfl | (dsimp only; (subst e42; (repeat (first | rw [if_pos (by clear hM ht hl; grind)] | rw [if_neg (by clear hM ht hl; grind)]))); done) | ((subst e42; (repeat (first | rw [if_pos (by clear hM ht hl; grind)] | rw [if_neg (by clear hM ht hl; grind)]))); done) | (exfalso; clear hM ht hl; grind)) (by first | with_reducible rfl | (dsimp only; (subst e42; (repeat (first | rw [if_pos (by clear hM ht hl; grind)] | rw [if_neg (by clear hM ht hl; grind)]))); done) | ((subst e42; (repeat (first | rw [if_pos (by clear hM ht hl; grind)] | rw [if_neg (by clear hM ht hl; grind)]))); done) | (exfalso; clear hM ht hl; grind)) (by first | with_reducible rfl | (dsimp only; (subst e42; (repeat (first | rw [if_pos (by clear hM ht hl; grind)] | rw [if_neg (by clear hM ht hl; grind)]))); done) | ((subst e42; (repeat (first | rw [if_pos (by clear hM ht hl; grind)] | rw [if_neg (by clear hM ht hl; grind)]))); done) | (exfalso; clear hM ht hl; grind)) (by first | with_reducible rfl | (dsimp only; (subst e42; (repeat (first | rw [if_pos (by clear hM ht hl; grind)] | rw [if_neg (by clear hM ht hl; grind)]))); done) | ((subst e42; (repeat (first | rw [if_pos (by clear hM ht hl; grind)] | rw [if_neg (by clear hM ht hl; grind)]))); done) | (exfalso; clear hM ht hl; grind))
                    · skip
                      refine jr_tableE (tgt := 174) d_m_told_42 (by rcases j_0_6 x42 with h | h | rfl | rfl | rfl | rfl | rfl | rfl | rfl <;> first | exact Or.inl ⟨Or.inl (Int32.lt_iff_toInt_lt.mp h), by decide⟩ | exact Or.inl ⟨Or.inr (Int32.lt_iff_toInt_lt.mp h), by decide⟩ | exact Or.inr ⟨by decide, by decide, _, rfl, by decide⟩ | (exfalso; clear hM ht hl; grind)) ?_
                      refine jr_bipush (v := (-14)) d_m_told_174 (by decide) ?_
                      exact jr_retX (v := some _) d_m_told_176 (by first | exact Nat.le_refl _ | exact Nat.zero_le _ | (dsimp only; omega)) (by first | exact Nat.le_refl _ | exact Nat.zero_le _ | (dsimp only; omega)) (by first | with_reducible rfl | (dsimp only; (subst e42; (repeat (first | rw [if_pos (by clear hM ht hl; grind)] | rw [if_neg (by clear hM ht hl; grind)]))); done) | ((subst e42; (repeat (first | rw [if_pos (by clear hM ht hl; grind)] | rw [if_neg (by clear hM ht hl; grind)]))); done) | (exfalso; clear hM ht hl; grind)) (by first | with_reducible rfl | (dsimp only; (subst e42; (repeat (first | rw [if_pos (by clear hM ht hl; grind)] | rw [if_neg (by clear hM ht hl; grind)]))); done) | ((subst e42; (repeat (first | rw [if_pos (by clear hM ht hl; grind)] | rw [if_neg (by clear hM ht hl; grind)]))); done) | (exfalso; clear hM ht hl; grind)) (by first | with_reducible rfl | (dsimp only; (subst e42; (repeat (first | rw [if_pos (by clear hM ht hl; grind)] | rw [if_neg (by clear hM ht hl; grind)]))); done) | ((subst e42; (repeat (first | rw [if_pos (by clear hM ht hl; grind)] | rw [if_neg (by clear hM ht hl; grind)]))); done) | (exfalso; clear hM ht hl; grind)) (by first | with_reducible rfl | (dsimp only; (subst e42; (repeat (first | rw [if_pos (by clear hM ht hl; grind)] | rw [if_neg (by clear hM ht hl; grind)]))); done) | ((subst e42; (repeat (first | rw [if_pos (by clear hM ht hl; grind)] | rw [if_neg (by clear hM ht hl; grind)]))); done) | (exfalso; clear hM ht hl; grind))
      · skip
        exfalso; rw [h0] at c31; exact absurd c31 (by decide)
    · skip
      exfalso; clear hM ht hl; grind
theorem ct_m_told_y {I : jc_I} {O : jc_O} {live : jc_L → Prop} {x w : Int32} {tn t b n xt fn j : Nat} (hM : qM O) (ht : ql I O live 1 tn qTh) (hx : x = Int32.ofNat t) (htn : t < tn) (hb : 0 ≤ x ∧ x < I (10, 0, 0) 3) (hl : ql I O live 2 n (qO b)) (hw : I (14, t, 0) 6 ≠ 0 → 1 ≤ I (14, t, 0) 6 ∧ ((I (14, t, 0) 6 - 1).toNatClampNeg < n)) (h0 : 0 < I (14, t, 0) 2) (hm1 : O (14, t, 0) 1 = some (15, xt, 0)) (hfl : ql I O live xt fn (qFr t)) (hd : I (14, t, 0) 2 - 1 = Int32.ofNat j) (hj : j < fn) : jc_Ct y_m_told [.inr (some (10, 0, 0)), .inl x, .inl w] I O live (some (.inl (if w = 0 then I (14, t, 0) 3 else if w = 1 then I (14, t, 0) 2 else if w = 2 then I (14, t, 0) 5 else if w = 3 then I (12, t, j) 1 else if w = 4 then I (12, t, j) 5 else if w = 5 then I (12, t, j) 4 else if w = 6 then (if I (14, t, 0) 4 = 0 ∧ q_hu I t b ≠ 0 then I (14, t, 0) 6 else 0) else -14)), I, O, live, 0, 0) := by
  obtain ⟨m0, m2, m4, m6, m7⟩ := id hM
  refine jc_Ct.of (by decide +kernel) (Or.inl rfl) (Nat.le_of_ble_eq_true rfl) ?_
  refine jr_iload_n d_m_told_0 rfl rfl ?_
  refine jr_if_lt (tgt := 12) d_m_told_1 (by decide) (fun c1 => ?_) (fun c1 => ?_)
  · skip
    exfalso; clear hfl; clear hM ht hl; grind
  · skip
    refine jr_iload_n d_m_told_4 rfl rfl ?_
    refine jr_aload_n d_m_told_5 rfl rfl ?_
    refine jr_geti d_m_told_6 f_m_29 rfl ?_
    refine jr_icmp_lt (tgt := 15) d_m_told_9 (by decide) (fun c9 => ?_) (fun c9 => ?_)
    · skip
      refine jr_aload_n d_m_told_15 rfl rfl ?_
      refine jr_getr d_m_told_16 f_m_16 rfl rfl ?_
      first | rw [m2] | skip
      refine jr_iload_n d_m_told_19 rfl rfl ?_
      refine jv_V1r d_m_told_20 l_m_126 k_aL_get ⟨Nat.le_of_ble_eq_true rfl, Nat.le_of_ble_eq_true rfl⟩ rfl rfl (Nat.le_of_ble_eq_true rfl) (ct_aL_getq ht hx htn) (by first | decide | exact Nat.zero_le _ | (dsimp only; omega) | (dsimp only; clear hfl; clear hM ht hl; grind)) (by first | decide | exact Nat.zero_le _ | (dsimp only; omega) | (dsimp only; clear hfl; clear hM ht hl; grind)) ?_
      first | rw [m2] | skip
      refine jr_cast d_m_told_23 c_m_137 rfl ⟨_, rfl, ca_mT_mT⟩ ?_
      refine jr_astore_n d_m_told_26 rfl (Nat.le_of_ble_eq_true rfl) ?_
      refine jr_aload_n d_m_told_27 rfl rfl ?_
      refine jr_geti d_m_told_28 f_m_183 rfl ?_
      refine jr_if_le (tgt := 38) d_m_told_31 (by decide) (fun c31 => ?_) (fun c31 => ?_)
      · skip
        exfalso; clear hfl; clear hM ht hl; grind
      · skip
        refine jr_iconst (v := 1) d_m_told_34 (by decide) ?_
        refine jr_goto (tgt := 39) d_m_told_35 (by decide) ?_
        refine jr_istore d_m_told_39 (Nat.le_of_ble_eq_true rfl) ?_
        refine jr_iload_n d_m_told_41 rfl rfl ?_
        refine jr_name (fun x42 e42 => ?_)
        by_cases g42_0 : x42 = 0
        · refine jr_tableIn (tgt := 84) d_m_told_42 (by rcases g42_0 with rfl <;> decide) (by rcases g42_0 with rfl <;> decide) (by rcases g42_0 with rfl <;> rfl) (by decide) ?_
          refine jr_aload_n d_m_told_84 rfl rfl ?_
          refine jr_geti d_m_told_85 f_m_178 rfl ?_
          exact jr_retX (v := some _) d_m_told_88 (by first | exact Nat.le_refl _ | exact Nat.zero_le _ | (dsimp only; omega)) (by first | exact Nat.le_refl _ | exact Nat.zero_le _ | (dsimp only; omega)) (by first | with_reducible rfl | (dsimp only; (subst e42; (repeat (first | rw [if_pos (by clear hfl; clear hM ht hl; grind)] | rw [if_neg (by clear hfl; clear hM ht hl; grind)]))); done) | ((subst e42; (repeat (first | rw [if_pos (by clear hfl; clear hM ht hl; grind)] | rw [if_neg (by clear hfl; clear hM ht hl; grind)]))); done) | (exfalso; clear hfl; clear hM ht hl; grind)) (by first | with_reducible rfl | (dsimp only; (subst e42; (repeat (first | rw [if_pos (by clear hfl; clear hM ht hl; grind)] | rw [if_neg (by clear hfl; clear hM ht hl; grind)]))); done) | ((subst e42; (repeat (first | rw [if_pos (by clear hfl; clear hM ht hl; grind)] | rw [if_neg (by clear hfl; clear hM ht hl; grind)]))); done) | (exfalso; clear hfl; clear hM ht hl; grind)) (by first | with_reducible rfl | (dsimp only; (subst e42; (repeat (first | rw [if_pos (by clear hfl; clear hM ht hl; grind)] | rw [if_neg (by clear hfl; clear hM ht hl; grind)]))); done) | ((subst e42; (repeat (first | rw [if_pos (by clear hfl; clear hM ht hl; grind)] | rw [if_neg (by clear hfl; clear hM ht hl; grind)]))); done) | (exfalso; clear hfl; clear hM ht hl; grind)) (by first | with_reducible rfl | (dsimp only; (subst e42; (repeat (first | rw [if_pos (by clear hfl; clear hM ht hl; grind)] | rw [if_neg (by clear hfl; clear hM ht hl; grind)]))); done) | ((subst e42; (repeat (first | rw [if_pos (by clear hfl; clear hM ht hl; grind)] | rw [if_neg (by clear hfl; clear hM ht hl; grind)]))); done) | (exfalso; clear hfl; clear hM ht hl; grind))
        · skip
          by_cases g42_1 : x42 = 1
          · refine jr_tableIn (tgt := 89) d_m_told_42 (by rcases g42_1 with rfl <;> decide) (by rcases g42_1 with rfl <;> decide) (by rcases g42_1 with rfl <;> rfl) (by decide) ?_
            refine jr_aload_n d_m_told_89 rfl rfl ?_
            refine jr_geti d_m_told_90 f_m_183 rfl ?_
            exact jr_retX (v := some _) d_m_told_93 (by first | exact Nat.le_refl _ | exact Nat.zero_le _ | (dsimp only; omega)) (by first | exact Nat.le_refl _ | exact Nat.zero_le _ | (dsimp only; omega)) (by first | with_reducible rfl | (dsimp only; (subst e42; (repeat (first | rw [if_pos (by clear hfl; clear hM ht hl; grind)] | rw [if_neg (by clear hfl; clear hM ht hl; grind)]))); done) | ((subst e42; (repeat (first | rw [if_pos (by clear hfl; clear hM ht hl; grind)] | rw [if_neg (by clear hfl; clear hM ht hl; grind)]))); done) | (exfalso; clear hfl; clear hM ht hl; grind)) (by first | with_reducible rfl | (dsimp only; (subst e42; (repeat (first | rw [if_pos (by clear hfl; clear hM ht hl; grind)] | rw [if_neg (by clear hfl; clear hM ht hl; grind)]))); done) | ((subst e42; (repeat (first | rw [if_pos (by clear hfl; clear hM ht hl; grind)] | rw [if_neg (by clear hfl; clear hM ht hl; grind)]))); done) | (exfalso; clear hfl; clear hM ht hl; grind)) (by first | with_reducible rfl | (dsimp only; (subst e42; (repeat (first | rw [if_pos (by clear hfl; clear hM ht hl; grind)] | rw [if_neg (by clear hfl; clear hM ht hl; grind)]))); done) | ((subst e42; (repeat (first | rw [if_pos (by clear hfl; clear hM ht hl; grind)] | rw [if_neg (by clear hfl; clear hM ht hl; grind)]))); done) | (exfalso; clear hfl; clear hM ht hl; grind)) (by first | with_reducible rfl | (dsimp only; (subst e42; (repeat (first | rw [if_pos (by clear hfl; clear hM ht hl; grind)] | rw [if_neg (by clear hfl; clear hM ht hl; grind)]))); done) | ((subst e42; (repeat (first | rw [if_pos (by clear hfl; clear hM ht hl; grind)] | rw [if_neg (by clear hfl; clear hM ht hl; grind)]))); done) | (exfalso; clear hfl; clear hM ht hl; grind))
          · skip
            by_cases g42_2 : x42 = 2
            · refine jr_tableIn (tgt := 94) d_m_told_42 (by rcases g42_2 with rfl <;> decide) (by rcases g42_2 with rfl <;> decide) (by rcases g42_2 with rfl <;> rfl) (by decide) ?_
              refine jr_aload_n d_m_told_94 rfl rfl ?_
              refine jr_geti d_m_told_95 f_m_182 rfl ?_
              exact jr_retX (v := some _) d_m_told_98 (by first | exact Nat.le_refl _ | exact Nat.zero_le _ | (dsimp only; omega)) (by first | exact Nat.le_refl _ | exact Nat.zero_le _ | (dsimp only; omega)) (by first | with_reducible rfl | (dsimp only; (subst e42; (repeat (first | rw [if_pos (by clear hfl; clear hM ht hl; grind)] | rw [if_neg (by clear hfl; clear hM ht hl; grind)]))); done) | ((subst e42; (repeat (first | rw [if_pos (by clear hfl; clear hM ht hl; grind)] | rw [if_neg (by clear hfl; clear hM ht hl; grind)]))); done) | (exfalso; clear hfl; clear hM ht hl; grind)) (by first | with_reducible rfl | (dsimp only; (subst e42; (repeat (first | rw [if_pos (by clear hfl; clear hM ht hl; grind)] | rw [if_neg (by clear hfl; clear hM ht hl; grind)]))); done) | ((subst e42; (repeat (first | rw [if_pos (by clear hfl; clear hM ht hl; grind)] | rw [if_neg (by clear hfl; clear hM ht hl; grind)]))); done) | (exfalso; clear hfl; clear hM ht hl; grind)) (by first | with_reducible rfl | (dsimp only; (subst e42; (repeat (first | rw [if_pos (by clear hfl; clear hM ht hl; grind)] | rw [if_neg (by clear hfl; clear hM ht hl; grind)]))); done) | ((subst e42; (repeat (first | rw [if_pos (by clear hfl; clear hM ht hl; grind)] | rw [if_neg (by clear hfl; clear hM ht hl; grind)]))); done) | (exfalso; clear hfl; clear hM ht hl; grind)) (by first | with_reducible rfl | (dsimp only; (subst e42; (repeat (first | rw [if_pos (by clear hfl; clear hM ht hl; grind)] | rw [if_neg (by clear hfl; clear hM ht hl; grind)]))); done) | ((subst e42; (repeat (first | rw [if_pos (by clear hfl; clear hM ht hl; grind)] | rw [if_neg (by clear hfl; clear hM ht hl; grind)]))); done) | (exfalso; clear hfl; clear hM ht hl; grind))
            · skip
              by_cases g42_3 : x42 = 3
              · refine jr_tableIn (tgt := 99) d_m_told_42 (by rcases g42_3 with rfl <;> decide) (by rcases g42_3 with rfl <;> decide) (by rcases g42_3 with rfl <;> rfl) (by decide) ?_
                refine jr_iload d_m_told_99 rfl ?_
                refine jr_if_eq (tgt := 114) d_m_told_101 (by decide) (fun c101 => ?_) (fun c101 => ?_)
                · skip
                  exact absurd c101 (by decide)
                · skip
                  refine jr_aload_n d_m_told_104 rfl rfl ?_
                  refine jv_V0r d_m_told_105 l_m_186 k_mT_top ⟨Nat.le_of_ble_eq_true rfl, Nat.le_of_ble_eq_true rfl⟩ rfl rfl (Nat.le_of_ble_eq_true rfl) (ct_mT_top hm1 hfl hd hj rfl) (by first | decide | exact Nat.zero_le _ | (dsimp only; omega) | (dsimp only; clear hfl; clear hM ht hl; grind)) (by first | decide | exact Nat.zero_le _ | (dsimp only; omega) | (dsimp only; clear hfl; clear hM ht hl; grind)) ?_
                  first | rw [m2] | skip
                  refine jr_geti d_m_told_108 f_m_244 rfl ?_
                  refine jr_goto (tgt := 115) d_m_told_111 (by decide) ?_
                  exact jr_retX (v := some _) d_m_told_115 (by first | exact Nat.le_refl _ | exact Nat.zero_le _ | (dsimp only; omega)) (by first | exact Nat.le_refl _ | exact Nat.zero_le _ | (dsimp only; omega)) (by first | with_reducible rfl | (dsimp only; (subst e42; (repeat (first | rw [if_pos (by clear hfl; clear hM ht hl; grind)] | rw [if_neg (by clear hfl; clear hM ht hl; grind)]))); done) | ((subst e42; (repeat (first | rw [if_pos (by clear hfl; clear hM ht hl; grind)] | rw [if_neg (by clear hfl; clear hM ht hl; grind)]))); done) | (exfalso; clear hfl; clear hM ht hl; grind)) (by first | with_reducible rfl | (dsimp only; (subst e42; (repeat (first | rw [if_pos (by clear hfl; clear hM ht hl; grind)] | rw [if_neg (by clear hfl; clear hM ht hl; grind)]))); done) | ((subst e42; (repeat (first | rw [if_pos (by clear hfl; clear hM ht hl; grind)] | rw [if_neg (by clear hfl; clear hM ht hl; grind)]))); done) | (exfalso; clear hfl; clear hM ht hl; grind)) (by first | with_reducible rfl | (dsimp only; (subst e42; (repeat (first | rw [if_pos (by clear hfl; clear hM ht hl; grind)] | rw [if_neg (by clear hfl; clear hM ht hl; grind)]))); done) | ((subst e42; (repeat (first | rw [if_pos (by clear hfl; clear hM ht hl; grind)] | rw [if_neg (by clear hfl; clear hM ht hl; grind)]))); done) | (exfalso; clear hfl; clear hM ht hl; grind)) (by first | with_reducible rfl | (dsimp only; (subst e42; (repeat (first | rw [if_pos (by clear hfl; clear hM ht hl; grind)] | rw [if_neg (by clear hfl; clear hM ht hl; grind)]))); done) | ((subst e42; (repeat (first | rw [if_pos (by clear hfl; clear hM ht hl; grind)] | rw [if_neg (by clear hfl; clear hM ht hl; grind)]))); done) | (exfalso; clear hfl; clear hM ht hl; grind))
              · skip
                by_cases g42_4 : x42 = 4
                · refine jr_tableIn (tgt := 116) d_m_told_42 (by rcases g42_4 with rfl <;> decide) (by rcases g42_4 with rfl <;> decide) (by rcases g42_4 with rfl <;> rfl) (by decide) ?_
                  refine jr_iload d_m_told_116 rfl ?_
                  refine jr_if_eq (tgt := 131) d_m_told_118 (by decide) (fun c118 => ?_) (fun c118 => ?_)
                  · skip
                    exact absurd c118 (by decide)
                  · skip
                    refine jr_aload_n d_m_told_121 rfl rfl ?_
                    refine jv_V0r d_m_told_122 l_m_186 k_mT_top ⟨Nat.le_of_ble_eq_true rfl, Nat.le_of_ble_eq_true rfl⟩ rfl rfl (Nat.le_of_ble_eq_true rfl) (ct_mT_top hm1 hfl hd hj rfl) (by first | decide | exact Nat.zero_le _ | (dsimp only; omega) | (dsimp only; clear hfl; clear hM ht hl; grind)) (by first | decide | exact Nat.zero_le _ | (dsimp only; omega) | (dsimp only; clear hfl; clear hM ht hl; grind)) ?_
                    first | rw [m2] | skip
                    refine jr_geti d_m_told_125 f_m_195 rfl ?_
                    refine jr_goto (tgt := 132) d_m_told_128 (by decide) ?_
                    exact jr_retX (v := some _) d_m_told_132 (by first | exact Nat.le_refl _ | exact Nat.zero_le _ | (dsimp only; omega)) (by first | exact Nat.le_refl _ | exact Nat.zero_le _ | (dsimp only; omega)) (by first | with_reducible rfl | (dsimp only; (subst e42; (repeat (first | rw [if_pos (by clear hfl; clear hM ht hl; grind)] | rw [if_neg (by clear hfl; clear hM ht hl; grind)]))); done) | ((subst e42; (repeat (first | rw [if_pos (by clear hfl; clear hM ht hl; grind)] | rw [if_neg (by clear hfl; clear hM ht hl; grind)]))); done) | (exfalso; clear hfl; clear hM ht hl; grind)) (by first | with_reducible rfl | (dsimp only; (subst e42; (repeat (first | rw [if_pos (by clear hfl; clear hM ht hl; grind)] | rw [if_neg (by clear hfl; clear hM ht hl; grind)]))); done) | ((subst e42; (repeat (first | rw [if_pos (by clear hfl; clear hM ht hl; grind)] | rw [if_neg (by clear hfl; clear hM ht hl; grind)]))); done) | (exfalso; clear hfl; clear hM ht hl; grind)) (by first | with_reducible rfl | (dsimp only; (subst e42; (repeat (first | rw [if_pos (by clear hfl; clear hM ht hl; grind)] | rw [if_neg (by clear hfl; clear hM ht hl; grind)]))); done) | ((subst e42; (repeat (first | rw [if_pos (by clear hfl; clear hM ht hl; grind)] | rw [if_neg (by clear hfl; clear hM ht hl; grind)]))); done) | (exfalso; clear hfl; clear hM ht hl; grind)) (by first | with_reducible rfl | (dsimp only; (subst e42; (repeat (first | rw [if_pos (by clear hfl; clear hM ht hl; grind)] | rw [if_neg (by clear hfl; clear hM ht hl; grind)]))); done) | ((subst e42; (repeat (first | rw [if_pos (by clear hfl; clear hM ht hl; grind)] | rw [if_neg (by clear hfl; clear hM ht hl; grind)]))); done) | (exfalso; clear hfl; clear hM ht hl; grind))
                · skip
                  by_cases g42_5 : x42 = 5
                  · refine jr_tableIn (tgt := 133) d_m_told_42 (by rcases g42_5 with rfl <;> decide) (by rcases g42_5 with rfl <;> decide) (by rcases g42_5 with rfl <;> rfl) (by decide) ?_
                    refine jr_iload d_m_told_133 rfl ?_
                    refine jr_if_eq (tgt := 148) d_m_told_135 (by decide) (fun c135 => ?_) (fun c135 => ?_)
                    · skip
                      exact absurd c135 (by decide)
                    · skip
                      refine jr_aload_n d_m_told_138 rfl rfl ?_
                      refine jv_V0r d_m_told_139 l_m_186 k_mT_top ⟨Nat.le_of_ble_eq_true rfl, Nat.le_of_ble_eq_true rfl⟩ rfl rfl (Nat.le_of_ble_eq_true rfl) (ct_mT_top hm1 hfl hd hj rfl) (by first | decide | exact Nat.zero_le _ | (dsimp only; omega) | (dsimp only; clear hfl; clear hM ht hl; grind)) (by first | decide | exact Nat.zero_le _ | (dsimp only; omega) | (dsimp only; clear hfl; clear hM ht hl; grind)) ?_
                      first | rw [m2] | skip
                      refine jr_geti d_m_told_142 f_m_199 rfl ?_
                      refine jr_goto (tgt := 149) d_m_told_145 (by decide) ?_
                      exact jr_retX (v := some _) d_m_told_149 (by first | exact Nat.le_refl _ | exact Nat.zero_le _ | (dsimp only; omega)) (by first | exact Nat.le_refl _ | exact Nat.zero_le _ | (dsimp only; omega)) (by first | with_reducible rfl | (dsimp only; (subst e42; (repeat (first | rw [if_pos (by clear hfl; clear hM ht hl; grind)] | rw [if_neg (by clear hfl; clear hM ht hl; grind)]))); done) | ((subst e42; (repeat (first | rw [if_pos (by clear hfl; clear hM ht hl; grind)] | rw [if_neg (by clear hfl; clear hM ht hl; grind)]))); done) | (exfalso; clear hfl; clear hM ht hl; grind)) (by first | with_reducible rfl | (dsimp only; (subst e42; (repeat (first | rw [if_pos (by clear hfl; clear hM ht hl; grind)] | rw [if_neg (by clear hfl; clear hM ht hl; grind)]))); done) | ((subst e42; (repeat (first | rw [if_pos (by clear hfl; clear hM ht hl; grind)] | rw [if_neg (by clear hfl; clear hM ht hl; grind)]))); done) | (exfalso; clear hfl; clear hM ht hl; grind)) (by first | with_reducible rfl | (dsimp only; (subst e42; (repeat (first | rw [if_pos (by clear hfl; clear hM ht hl; grind)] | rw [if_neg (by clear hfl; clear hM ht hl; grind)]))); done) | ((subst e42; (repeat (first | rw [if_pos (by clear hfl; clear hM ht hl; grind)] | rw [if_neg (by clear hfl; clear hM ht hl; grind)]))); done) | (exfalso; clear hfl; clear hM ht hl; grind)) (by first | with_reducible rfl | (dsimp only; (subst e42; (repeat (first | rw [if_pos (by clear hfl; clear hM ht hl; grind)] | rw [if_neg (by clear hfl; clear hM ht hl; grind)]))); done) | ((subst e42; (repeat (first | rw [if_pos (by clear hfl; clear hM ht hl; grind)] | rw [if_neg (by clear hfl; clear hM ht hl; grind)]))); done) | (exfalso; clear hfl; clear hM ht hl; grind))
                  · skip
                    by_cases g42_6 : x42 = 6
                    · refine jr_tableIn (tgt := 150) d_m_told_42 (by rcases g42_6 with rfl <;> decide) (by rcases g42_6 with rfl <;> decide) (by rcases g42_6 with rfl <;> rfl) (by decide) ?_
                      refine jr_aload_n d_m_told_150 rfl rfl ?_
                      refine jr_geti d_m_told_151 f_m_163 rfl ?_
                      refine jr_if_ne (tgt := 172) d_m_told_154 (by decide) (fun c154 => ?_) (fun c154 => ?_)
                      · skip
                        refine jr_iconst (v := 0) d_m_told_172 (by decide) ?_
                        exact jr_retX (v := some _) d_m_told_173 (by first | exact Nat.le_refl _ | exact Nat.zero_le _ | (dsimp only; omega)) (by first | exact Nat.le_refl _ | exact Nat.zero_le _ | (dsimp only; omega)) (by first | with_reducible rfl | (dsimp only; (subst e42; (repeat (first | rw [if_pos (by clear hfl; clear hM ht hl; grind)] | rw [if_neg (by clear hfl; clear hM ht hl; grind)]))); done) | ((subst e42; (repeat (first | rw [if_pos (by clear hfl; clear hM ht hl; grind)] | rw [if_neg (by clear hfl; clear hM ht hl; grind)]))); done) | (exfalso; clear hfl; clear hM ht hl; grind)) (by first | with_reducible rfl | (dsimp only; (subst e42; (repeat (first | rw [if_pos (by clear hfl; clear hM ht hl; grind)] | rw [if_neg (by clear hfl; clear hM ht hl; grind)]))); done) | ((subst e42; (repeat (first | rw [if_pos (by clear hfl; clear hM ht hl; grind)] | rw [if_neg (by clear hfl; clear hM ht hl; grind)]))); done) | (exfalso; clear hfl; clear hM ht hl; grind)) (by first | with_reducible rfl | (dsimp only; (subst e42; (repeat (first | rw [if_pos (by clear hfl; clear hM ht hl; grind)] | rw [if_neg (by clear hfl; clear hM ht hl; grind)]))); done) | ((subst e42; (repeat (first | rw [if_pos (by clear hfl; clear hM ht hl; grind)] | rw [if_neg (by clear hfl; clear hM ht hl; grind)]))); done) | (exfalso; clear hfl; clear hM ht hl; grind)) (by first | with_reducible rfl | (dsimp only; (subst e42; (repeat (first | rw [if_pos (by clear hfl; clear hM ht hl; grind)] | rw [if_neg (by clear hfl; clear hM ht hl; grind)]))); done) | ((subst e42; (repeat (first | rw [if_pos (by clear hfl; clear hM ht hl; grind)] | rw [if_neg (by clear hfl; clear hM ht hl; grind)]))); done) | (exfalso; clear hfl; clear hM ht hl; grind))
                      · skip
                        refine jr_aload_n d_m_told_157 rfl rfl ?_
                        refine jr_aload_n d_m_told_158 rfl rfl ?_
                        refine jv_V1r d_m_told_159 l_m_166 k_m_isHeldUp ⟨Nat.le_of_ble_eq_true rfl, Nat.le_of_ble_eq_true rfl⟩ rfl rfl (Nat.le_of_ble_eq_true rfl) (ct_m_isHeldUp hM hl hw) (by first | decide | exact Nat.zero_le _ | (dsimp only; omega) | (dsimp only; clear hfl; clear hM ht hl; grind)) (by first | decide | exact Nat.zero_le _ | (dsimp only; omega) | (dsimp only; clear hfl; clear hM ht hl; grind)) ?_
                        refine jr_if_eq (tgt := 172) d_m_told_162 (by decide) (fun c162 => ?_) (fun c162 => ?_)
                        · skip
                          refine jr_iconst (v := 0) d_m_told_172 (by decide) ?_
                          exact jr_retX (v := some _) d_m_told_173 (by first | exact Nat.le_refl _ | exact Nat.zero_le _ | (dsimp only; omega)) (by first | exact Nat.le_refl _ | exact Nat.zero_le _ | (dsimp only; omega)) (by first | with_reducible rfl | (dsimp only; (subst e42; (repeat (first | rw [if_pos (by clear hfl; clear hM ht hl; grind)] | rw [if_neg (by clear hfl; clear hM ht hl; grind)]))); done) | ((subst e42; (repeat (first | rw [if_pos (by clear hfl; clear hM ht hl; grind)] | rw [if_neg (by clear hfl; clear hM ht hl; grind)]))); done) | (exfalso; clear hfl; clear hM ht hl; grind)) (by first | with_reducible rfl | (dsimp only; (subst e42; (repeat (first | rw [if_pos (by clear hfl; clear hM ht hl; grind)] | rw [if_neg (by clear hfl; clear hM ht hl; grind)]))); done) | ((subst e42; (repeat (first | rw [if_pos (by clear hfl; clear hM ht hl; grind)] | rw [if_neg (by clear hfl; clear hM ht hl; grind)]))); done) | (exfalso; clear hfl; clear hM ht hl; grind)) (by first | with_reducible rfl | (dsimp only; (subst e42; (repeat (first | rw [if_pos (by clear hfl; clear hM ht hl; grind)] | rw [if_neg (by clear hfl; clear hM ht hl; grind)]))); done) | ((subst e42; (repeat (first | rw [if_pos (by clear hfl; clear hM ht hl; grind)] | rw [if_neg (by clear hfl; clear hM ht hl; grind)]))); done) | (exfalso; clear hfl; clear hM ht hl; grind)) (by first | with_reducible rfl | (dsimp only; (subst e42; (repeat (first | rw [if_pos (by clear hfl; clear hM ht hl; grind)] | rw [if_neg (by clear hfl; clear hM ht hl; grind)]))); done) | ((subst e42; (repeat (first | rw [if_pos (by clear hfl; clear hM ht hl; grind)] | rw [if_neg (by clear hfl; clear hM ht hl; grind)]))); done) | (exfalso; clear hfl; clear hM ht hl; grind))
                        · skip
                          refine jr_aload_n d_m_told_165 rfl rfl ?_
                          refine jr_geti d_m_told_166 f_m_152 rfl ?_
                          refine jr_goto (tgt := 173) d_m_told_169 (by decide) ?_
                          exact jr_retX (v := some _) d_m_told_173 (by first | exact Nat.le_refl _ | exact Nat.zero_le _ | (dsimp only; omega)) (by first | exact Nat.le_refl _ | exact Nat.zero_le _ | (dsimp only; omega)) (by first | with_reducible rfl | (dsimp only; (subst e42; (repeat (first | rw [if_pos (by clear hfl; clear hM ht hl; grind)] | rw [if_neg (by clear hfl; clear hM ht hl; grind)]))); done) | ((subst e42; (repeat (first | rw [if_pos (by clear hfl; clear hM ht hl; grind)] | rw [if_neg (by clear hfl; clear hM ht hl; grind)]))); done) | (exfalso; clear hfl; clear hM ht hl; grind)) (by first | with_reducible rfl | (dsimp only; (subst e42; (repeat (first | rw [if_pos (by clear hfl; clear hM ht hl; grind)] | rw [if_neg (by clear hfl; clear hM ht hl; grind)]))); done) | ((subst e42; (repeat (first | rw [if_pos (by clear hfl; clear hM ht hl; grind)] | rw [if_neg (by clear hfl; clear hM ht hl; grind)]))); done) | (exfalso; clear hfl; clear hM ht hl; grind)) (by first | with_reducible rfl | (dsimp only; (subst e42; (repeat (first | rw [if_pos (by clear hfl; clear hM ht hl; grind)] | rw [if_neg (by clear hfl; clear hM ht hl; grind)]))); done) | ((subst e42; (repeat (first | rw [if_pos (by clear hfl; clear hM ht hl; grind)] | rw [if_neg (by clear hfl; clear hM ht hl; grind)]))); done) | (exfalso; clear hfl; clear hM ht hl; grind)) (by first | with_reducible rfl | (dsimp only; (subst e42; (repeat (first | rw [if_pos (by clear hfl; clear hM ht hl; grind)] | rw [if_neg (by clear hfl; clear hM ht hl; grind)]))); done) | ((subst e42; (repeat (first | rw [if_pos (by clear hfl; clear hM ht hl; grind)] | rw [if_neg (by clear hfl; clear hM ht hl; grind)]))); done) | (exfalso; clear hfl; clear hM ht hl; grind))
                    · skip
                      refine jr_tableE (tgt := 174) d_m_told_42 (by rcases j_0_6 x42 with h | h | rfl | rfl | rfl | rfl | rfl | rfl | rfl <;> first | exact Or.inl ⟨Or.inl (Int32.lt_iff_toInt_lt.mp h), by decide⟩ | exact Or.inl ⟨Or.inr (Int32.lt_iff_toInt_lt.mp h), by decide⟩ | exact Or.inr ⟨by decide, by decide, _, rfl, by decide⟩ | (exfalso; clear hfl; clear hM ht hl; grind)) ?_
                      refine jr_bipush (v := (-14)) d_m_told_174 (by decide) ?_
                      exact jr_retX (v := some _) d_m_told_176 (by first | exact Nat.le_refl _ | exact Nat.zero_le _ | (dsimp only; omega)) (by first | exact Nat.le_refl _ | exact Nat.zero_le _ | (dsimp only; omega)) (by first | with_reducible rfl | (dsimp only; (subst e42; (repeat (first | rw [if_pos (by clear hfl; clear hM ht hl; grind)] | rw [if_neg (by clear hfl; clear hM ht hl; grind)]))); done) | ((subst e42; (repeat (first | rw [if_pos (by clear hfl; clear hM ht hl; grind)] | rw [if_neg (by clear hfl; clear hM ht hl; grind)]))); done) | (exfalso; clear hfl; clear hM ht hl; grind)) (by first | with_reducible rfl | (dsimp only; (subst e42; (repeat (first | rw [if_pos (by clear hfl; clear hM ht hl; grind)] | rw [if_neg (by clear hfl; clear hM ht hl; grind)]))); done) | ((subst e42; (repeat (first | rw [if_pos (by clear hfl; clear hM ht hl; grind)] | rw [if_neg (by clear hfl; clear hM ht hl; grind)]))); done) | (exfalso; clear hfl; clear hM ht hl; grind)) (by first | with_reducible rfl | (dsimp only; (subst e42; (repeat (first | rw [if_pos (by clear hfl; clear hM ht hl; grind)] | rw [if_neg (by clear hfl; clear hM ht hl; grind)]))); done) | ((subst e42; (repeat (first | rw [if_pos (by clear hfl; clear hM ht hl; grind)] | rw [if_neg (by clear hfl; clear hM ht hl; grind)]))); done) | (exfalso; clear hfl; clear hM ht hl; grind)) (by first | with_reducible rfl | (dsimp only; (subst e42; (repeat (first | rw [if_pos (by clear hfl; clear hM ht hl; grind)] | rw [if_neg (by clear hfl; clear hM ht hl; grind)]))); done) | ((subst e42; (repeat (first | rw [if_pos (by clear hfl; clear hM ht hl; grind)] | rw [if_neg (by clear hfl; clear hM ht hl; grind)]))); done) | (exfalso; clear hfl; clear hM ht hl; grind))
    · skip
      exfalso; clear hfl; clear hM ht hl; grind
theorem ct_m_local_n {I : jc_I} {O : jc_O} {live : jc_L → Prop} {x : Int32} (ho : O (10, 0, 0) 1 = none) : jc_Ct y_m_local [.inr (some (10, 0, 0)), .inl x] I O live (some (.inl (-14)), I, O, live, 0, 0) := by
  refine jc_Ct.of (by decide +kernel) (Or.inl rfl) (Nat.le_of_ble_eq_true rfl) ?_
  refine jr_aload_n d_m_local_0 rfl rfl ?_
  refine jr_getr d_m_local_1 f_m_42 rfl rfl ?_
  first | rw [ho] | skip
  refine jr_ifnonnull (tgt := 10) d_m_local_4 (by decide) (fun q4 c4 => by cases c4) (fun c4 => ?_)
  refine jr_bipush (v := (-14)) d_m_local_7 (by decide) ?_
  exact jr_retX (v := some _) d_m_local_9 (by first | exact Nat.le_refl _ | exact Nat.zero_le _ | (dsimp only; omega)) (by first | exact Nat.le_refl _ | exact Nat.zero_le _ | (dsimp only; omega)) (by first | with_reducible rfl | (dsimp only; rfl; done) | (rfl; done) | (exfalso; grind)) (by first | with_reducible rfl | (dsimp only; rfl; done) | (rfl; done) | (exfalso; grind)) (by first | with_reducible rfl | (dsimp only; rfl; done) | (rfl; done) | (exfalso; grind)) (by first | with_reducible rfl | (dsimp only; rfl; done) | (rfl; done) | (exfalso; grind))
theorem ct_m_local_y {I : jc_I} {O : jc_O} {live : jc_L → Prop} {x : Int32} {c : Nat} (ho : O (10, 0, 0) 1 = some (11, c, 0)) (hc : qc O c) (hn : qn I c) : jc_Ct y_m_local [.inr (some (10, 0, 0)), .inl x] I O live (some (.inl (if 1 ≤ x ∧ x ≤ 2 then (if 8 ≤ I (11, c, 0) 3 then -12 else I (11, c, 0) 3 + 1) else -1)), if 1 ≤ x ∧ x ≤ 2 then (if 8 ≤ I (11, c, 0) 3 then I else jc_up (jc_up I (40, c, 0) (I (11, c, 0) 3).toNatClampNeg x) (11, c, 0) 3 (I (11, c, 0) 3 + 1)) else I, O, live, 0, 0) := by
  obtain ⟨g2, g4, g5, g7, g8, g9, g10⟩ := id hc
  obtain ⟨n1, n2, n3, n4, n5, n6⟩ := id hn
  refine jc_Ct.of (by decide +kernel) (Or.inl rfl) (Nat.le_of_ble_eq_true rfl) ?_
  refine jr_aload_n d_m_local_0 rfl rfl ?_
  refine jr_getr d_m_local_1 f_m_42 rfl rfl ?_
  first | rw [ho] | rw [g2] | rw [g4] | rw [g5] | rw [g7] | rw [g8] | rw [g9] | rw [g10] | skip
  refine jr_ifnonnull (tgt := 10) d_m_local_4 (by decide) (fun q4 c4 => ?_) (fun c4 => by cases c4)
  refine jr_iload_n d_m_local_10 rfl rfl ?_
  refine jr_iconst (v := 1) d_m_local_11 (by decide) ?_
  refine jr_icmp_eq (tgt := 22) d_m_local_12 (by decide) (fun c12 => ?_) (fun c12 => ?_)
  · skip
    refine jr_aload_n d_m_local_22 rfl rfl ?_
    refine jr_getr d_m_local_23 f_m_42 rfl rfl ?_
    first | rw [ho] | rw [g2] | rw [g4] | rw [g5] | rw [g7] | rw [g8] | rw [g9] | rw [g10] | skip
    refine jr_geti d_m_local_26 f_m_50 rfl ?_
    refine jr_bipush (v := 8) d_m_local_29 (by decide) ?_
    refine jr_icmp_ne (tgt := 37) d_m_local_31 (by decide) (fun c31 => ?_) (fun c31 => ?_)
    · skip
      refine jr_aload_n d_m_local_37 rfl rfl ?_
      refine jr_getr d_m_local_38 f_m_42 rfl rfl ?_
      first | rw [ho] | rw [g2] | rw [g4] | rw [g5] | rw [g7] | rw [g8] | rw [g9] | rw [g10] | skip
      refine jr_getr d_m_local_41 f_m_53 rfl rfl ?_
      first | rw [ho] | rw [g2] | rw [g4] | rw [g5] | rw [g7] | rw [g8] | rw [g9] | rw [g10] | skip
      refine jr_aload_n d_m_local_44 rfl rfl ?_
      refine jr_getr d_m_local_45 f_m_42 rfl rfl ?_
      first | rw [ho] | rw [g2] | rw [g4] | rw [g5] | rw [g7] | rw [g8] | rw [g9] | rw [g10] | skip
      refine jr_geti d_m_local_48 f_m_50 rfl ?_
      refine jr_iload_n d_m_local_51 rfl rfl ?_
      refine jr_iast d_m_local_52 rfl rfl rfl (jin (m := 8) (by decide) n1 (by clear hc; grind)) ?_
      refine jr_aload_n d_m_local_53 rfl rfl ?_
      refine jr_getr d_m_local_54 f_m_42 rfl rfl ?_
      try simp only [jc_up_s, jc_up_k, jc_up_t, jc_cl_s, jc_cl_t, ne_eq, Nat.reduceEqDiff, not_false_eq_true, Nat.reduceAdd]
      first | rw [ho] | rw [g2] | rw [g4] | rw [g5] | rw [g7] | rw [g8] | rw [g9] | rw [g10] | skip
      refine jr_dup d_m_local_57 ?_
      refine jr_geti d_m_local_58 f_m_50 rfl ?_
      try simp only [jc_up_s, jc_up_k, jc_up_t, jc_cl_s, jc_cl_t, ne_eq, Nat.reduceEqDiff, not_false_eq_true, Nat.reduceAdd]
      refine jr_iconst (v := 1) d_m_local_61 (by decide) ?_
      refine jr_iadd d_m_local_62 ?_
      refine jr_puti d_m_local_63 f_m_50 (Or.inl rfl) rfl ?_
      refine jr_aload_n d_m_local_66 rfl rfl ?_
      refine jr_getr d_m_local_67 f_m_42 rfl rfl ?_
      try simp only [jc_up_s, jc_up_k, jc_up_t, jc_cl_s, jc_cl_t, ne_eq, Nat.reduceEqDiff, not_false_eq_true, Nat.reduceAdd]
      first | rw [ho] | rw [g2] | rw [g4] | rw [g5] | rw [g7] | rw [g8] | rw [g9] | rw [g10] | skip
      refine jr_geti d_m_local_70 f_m_50 rfl ?_
      try simp only [jc_up_s, jc_up_k, jc_up_t, jc_cl_s, jc_cl_t, ne_eq, Nat.reduceEqDiff, not_false_eq_true, Nat.reduceAdd]
      exact jr_retX (v := some _) d_m_local_73 (by first | exact Nat.le_refl _ | exact Nat.zero_le _ | (dsimp only; omega)) (by first | exact Nat.le_refl _ | exact Nat.zero_le _ | (dsimp only; omega)) (by first | with_reducible rfl | (dsimp only; (clear hc hn; (repeat (first | rw [if_pos (by grind)] | rw [if_neg (by grind)]))); done) | ((clear hc hn; (repeat (first | rw [if_pos (by grind)] | rw [if_neg (by grind)]))); done) | (exfalso; clear hc hn; grind)) (by first | with_reducible rfl | (dsimp only; (clear hc hn; (repeat (first | rw [if_pos (by grind)] | rw [if_neg (by grind)]))); done) | ((clear hc hn; (repeat (first | rw [if_pos (by grind)] | rw [if_neg (by grind)]))); done) | (exfalso; clear hc hn; grind)) (by first | with_reducible rfl | (dsimp only; (clear hc hn; (repeat (first | rw [if_pos (by grind)] | rw [if_neg (by grind)]))); done) | ((clear hc hn; (repeat (first | rw [if_pos (by grind)] | rw [if_neg (by grind)]))); done) | (exfalso; clear hc hn; grind)) (by first | with_reducible rfl | (dsimp only; (clear hc hn; (repeat (first | rw [if_pos (by grind)] | rw [if_neg (by grind)]))); done) | ((clear hc hn; (repeat (first | rw [if_pos (by grind)] | rw [if_neg (by grind)]))); done) | (exfalso; clear hc hn; grind))
    · skip
      refine jr_bipush (v := (-12)) d_m_local_34 (by decide) ?_
      exact jr_retX (v := some _) d_m_local_36 (by first | exact Nat.le_refl _ | exact Nat.zero_le _ | (dsimp only; omega)) (by first | exact Nat.le_refl _ | exact Nat.zero_le _ | (dsimp only; omega)) (by first | with_reducible rfl | (dsimp only; (clear hc hn; (repeat (first | rw [if_pos (by grind)] | rw [if_neg (by grind)]))); done) | ((clear hc hn; (repeat (first | rw [if_pos (by grind)] | rw [if_neg (by grind)]))); done) | (exfalso; clear hc hn; grind)) (by first | with_reducible rfl | (dsimp only; (clear hc hn; (repeat (first | rw [if_pos (by grind)] | rw [if_neg (by grind)]))); done) | ((clear hc hn; (repeat (first | rw [if_pos (by grind)] | rw [if_neg (by grind)]))); done) | (exfalso; clear hc hn; grind)) (by first | with_reducible rfl | (dsimp only; (clear hc hn; (repeat (first | rw [if_pos (by grind)] | rw [if_neg (by grind)]))); done) | ((clear hc hn; (repeat (first | rw [if_pos (by grind)] | rw [if_neg (by grind)]))); done) | (exfalso; clear hc hn; grind)) (by first | with_reducible rfl | (dsimp only; (clear hc hn; (repeat (first | rw [if_pos (by grind)] | rw [if_neg (by grind)]))); done) | ((clear hc hn; (repeat (first | rw [if_pos (by grind)] | rw [if_neg (by grind)]))); done) | (exfalso; clear hc hn; grind))
  · skip
    refine jr_iload_n d_m_local_15 rfl rfl ?_
    refine jr_iconst (v := 2) d_m_local_16 (by decide) ?_
    refine jr_icmp_eq (tgt := 22) d_m_local_17 (by decide) (fun c17 => ?_) (fun c17 => ?_)
    · skip
      refine jr_aload_n d_m_local_22 rfl rfl ?_
      refine jr_getr d_m_local_23 f_m_42 rfl rfl ?_
      first | rw [ho] | rw [g2] | rw [g4] | rw [g5] | rw [g7] | rw [g8] | rw [g9] | rw [g10] | skip
      refine jr_geti d_m_local_26 f_m_50 rfl ?_
      refine jr_bipush (v := 8) d_m_local_29 (by decide) ?_
      refine jr_icmp_ne (tgt := 37) d_m_local_31 (by decide) (fun c31 => ?_) (fun c31 => ?_)
      · skip
        refine jr_aload_n d_m_local_37 rfl rfl ?_
        refine jr_getr d_m_local_38 f_m_42 rfl rfl ?_
        first | rw [ho] | rw [g2] | rw [g4] | rw [g5] | rw [g7] | rw [g8] | rw [g9] | rw [g10] | skip
        refine jr_getr d_m_local_41 f_m_53 rfl rfl ?_
        first | rw [ho] | rw [g2] | rw [g4] | rw [g5] | rw [g7] | rw [g8] | rw [g9] | rw [g10] | skip
        refine jr_aload_n d_m_local_44 rfl rfl ?_
        refine jr_getr d_m_local_45 f_m_42 rfl rfl ?_
        first | rw [ho] | rw [g2] | rw [g4] | rw [g5] | rw [g7] | rw [g8] | rw [g9] | rw [g10] | skip
        refine jr_geti d_m_local_48 f_m_50 rfl ?_
        refine jr_iload_n d_m_local_51 rfl rfl ?_
        refine jr_iast d_m_local_52 rfl rfl rfl (jin (m := 8) (by decide) n1 (by clear hc; grind)) ?_
        refine jr_aload_n d_m_local_53 rfl rfl ?_
        refine jr_getr d_m_local_54 f_m_42 rfl rfl ?_
        try simp only [jc_up_s, jc_up_k, jc_up_t, jc_cl_s, jc_cl_t, ne_eq, Nat.reduceEqDiff, not_false_eq_true, Nat.reduceAdd]
        first | rw [ho] | rw [g2] | rw [g4] | rw [g5] | rw [g7] | rw [g8] | rw [g9] | rw [g10] | skip
        refine jr_dup d_m_local_57 ?_
        refine jr_geti d_m_local_58 f_m_50 rfl ?_
        try simp only [jc_up_s, jc_up_k, jc_up_t, jc_cl_s, jc_cl_t, ne_eq, Nat.reduceEqDiff, not_false_eq_true, Nat.reduceAdd]
        refine jr_iconst (v := 1) d_m_local_61 (by decide) ?_
        refine jr_iadd d_m_local_62 ?_
        refine jr_puti d_m_local_63 f_m_50 (Or.inl rfl) rfl ?_
        refine jr_aload_n d_m_local_66 rfl rfl ?_
        refine jr_getr d_m_local_67 f_m_42 rfl rfl ?_
        try simp only [jc_up_s, jc_up_k, jc_up_t, jc_cl_s, jc_cl_t, ne_eq, Nat.reduceEqDiff, not_false_eq_true, Nat.reduceAdd]
        first | rw [ho] | rw [g2] | rw [g4] | rw [g5] | rw [g7] | rw [g8] | rw [g9] | rw [g10] | skip
        refine jr_geti d_m_local_70 f_m_50 rfl ?_
        try simp only [jc_up_s, jc_up_k, jc_up_t, jc_cl_s, jc_cl_t, ne_eq, Nat.reduceEqDiff, not_false_eq_true, Nat.reduceAdd]
        exact jr_retX (v := some _) d_m_local_73 (by first | exact Nat.le_refl _ | exact Nat.zero_le _ | (dsimp only; omega)) (by first | exact Nat.le_refl _ | exact Nat.zero_le _ | (dsimp only; omega)) (by first | with_reducible rfl | (dsimp only; (clear hc hn; (repeat (first | rw [if_pos (by grind)] | rw [if_neg (by grind)]))); done) | ((clear hc hn; (repeat (first | rw [if_pos (by grind)] | rw [if_neg (by grind)]))); done) | (exfalso; clear hc hn; grind)) (by first | with_reducible rfl | (dsimp only; (clear hc hn; (repeat (first | rw [if_pos (by grind)] | rw [if_neg (by grind)]))); done) | ((clear hc hn; (repeat (first | rw [if_pos (by grind)] | rw [if_neg (by grind)]))); done) | (exfalso; clear hc hn; grind)) (by first | with_reducible rfl | (dsimp only; (clear hc hn; (repeat (first | rw [if_pos (by grind)] | rw [if_neg (by grind)]))); done) | ((clear hc hn; (repeat (first | rw [if_pos (by grind)] | rw [if_neg (by grind)]))); done) | (exfalso; clear hc hn; grind)) (by first | with_reducible rfl | (dsimp only; (clear hc hn; (repeat (first | rw [if_pos (by grind)] | rw [if_neg (by grind)]))); done) | ((clear hc hn; (repeat (first | rw [if_pos (by grind)] | rw [if_neg (by grind)]))); done) | (exfalso; clear hc hn; grind))
      · skip
        refine jr_bipush (v := (-12)) d_m_local_34 (by decide) ?_
        exact jr_retX (v := some _) d_m_local_36 (by first | exact Nat.le_refl _ | exact Nat.zero_le _ | (dsimp only; omega)) (by first | exact Nat.le_refl _ | exact Nat.zero_le _ | (dsimp only; omega)) (by first | with_reducible rfl | (dsimp only; (clear hc hn; (repeat (first | rw [if_pos (by grind)] | rw [if_neg (by grind)]))); done) | ((clear hc hn; (repeat (first | rw [if_pos (by grind)] | rw [if_neg (by grind)]))); done) | (exfalso; clear hc hn; grind)) (by first | with_reducible rfl | (dsimp only; (clear hc hn; (repeat (first | rw [if_pos (by grind)] | rw [if_neg (by grind)]))); done) | ((clear hc hn; (repeat (first | rw [if_pos (by grind)] | rw [if_neg (by grind)]))); done) | (exfalso; clear hc hn; grind)) (by first | with_reducible rfl | (dsimp only; (clear hc hn; (repeat (first | rw [if_pos (by grind)] | rw [if_neg (by grind)]))); done) | ((clear hc hn; (repeat (first | rw [if_pos (by grind)] | rw [if_neg (by grind)]))); done) | (exfalso; clear hc hn; grind)) (by first | with_reducible rfl | (dsimp only; (clear hc hn; (repeat (first | rw [if_pos (by grind)] | rw [if_neg (by grind)]))); done) | ((clear hc hn; (repeat (first | rw [if_pos (by grind)] | rw [if_neg (by grind)]))); done) | (exfalso; clear hc hn; grind))
    · skip
      refine jr_iconst (v := (-1)) d_m_local_20 (by decide) ?_
      exact jr_retX (v := some _) d_m_local_21 (by first | exact Nat.le_refl _ | exact Nat.zero_le _ | (dsimp only; omega)) (by first | exact Nat.le_refl _ | exact Nat.zero_le _ | (dsimp only; omega)) (by first | with_reducible rfl | (dsimp only; (clear hc hn; (repeat (first | rw [if_pos (by grind)] | rw [if_neg (by grind)]))); done) | ((clear hc hn; (repeat (first | rw [if_pos (by grind)] | rw [if_neg (by grind)]))); done) | (exfalso; clear hc hn; grind)) (by first | with_reducible rfl | (dsimp only; (clear hc hn; (repeat (first | rw [if_pos (by grind)] | rw [if_neg (by grind)]))); done) | ((clear hc hn; (repeat (first | rw [if_pos (by grind)] | rw [if_neg (by grind)]))); done) | (exfalso; clear hc hn; grind)) (by first | with_reducible rfl | (dsimp only; (clear hc hn; (repeat (first | rw [if_pos (by grind)] | rw [if_neg (by grind)]))); done) | ((clear hc hn; (repeat (first | rw [if_pos (by grind)] | rw [if_neg (by grind)]))); done) | (exfalso; clear hc hn; grind)) (by first | with_reducible rfl | (dsimp only; (clear hc hn; (repeat (first | rw [if_pos (by grind)] | rw [if_neg (by grind)]))); done) | ((clear hc hn; (repeat (first | rw [if_pos (by grind)] | rw [if_neg (by grind)]))); done) | (exfalso; clear hc hn; grind))
def q_fit (x a : Int32) : Int32 := (if x = 14 ∨ x = 15 then (if 0 ≤ a ∧ a ≤ 9 then 1 else 0) else if x = 16 ∨ x = 17 then (if 0 ≤ a ∧ a ≤ 3 then 1 else 0) else if x = 23 ∨ x = 24 then (if 4 ≤ a ∧ a ≤ 7 then 1 else 0) else if x = 25 ∨ x = 26 then (if 0 ≤ a ∧ a ≤ 3 then 1 else 0) else (if 0 ≤ x ∧ x ≤ 26 then 1 else 0))
theorem ct_m_add_n {I : jc_I} {O : jc_O} {live : jc_L → Prop} {x a : Int32} (ho : O (10, 0, 0) 1 = none) : jc_Ct y_m_add [.inr (some (10, 0, 0)), .inl x, .inl a] I O live (some (.inl (-14)), I, O, live, 0, 0) := by
  refine jc_Ct.of (by decide +kernel) (Or.inl rfl) (Nat.le_of_ble_eq_true rfl) ?_
  refine jr_aload_n d_m_add_0 rfl rfl ?_
  refine jr_getr d_m_add_1 f_m_42 rfl rfl ?_
  first | rw [ho] | skip
  refine jr_ifnonnull (tgt := 10) d_m_add_4 (by decide) (fun q4 c4 => by cases c4) (fun c4 => ?_)
  refine jr_bipush (v := (-14)) d_m_add_7 (by decide) ?_
  exact jr_retX (v := some _) d_m_add_9 (by first | exact Nat.le_refl _ | exact Nat.zero_le _ | (dsimp only; omega)) (by first | exact Nat.le_refl _ | exact Nat.zero_le _ | (dsimp only; omega)) (by first | with_reducible rfl | (dsimp only; rfl; done) | (rfl; done) | (exfalso; grind)) (by first | with_reducible rfl | (dsimp only; rfl; done) | (rfl; done) | (exfalso; grind)) (by first | with_reducible rfl | (dsimp only; rfl; done) | (rfl; done) | (exfalso; grind)) (by first | with_reducible rfl | (dsimp only; rfl; done) | (rfl; done) | (exfalso; grind))
theorem lp_m_add {I : jc_I} {O : jc_O} {live : jc_L → Prop} {c : Nat} {x a g : Int32} (ho : O (10, 0, 0) 1 = some (11, c, 0)) (hc : qc O c) (hn : qn I c) (hq : q_fit x a ≠ 0 ↔ g ≠ 0) : jc_R y_m_add 120 [some (.inr (some (10, 0, 0))), some (.inl x), some (.inl a), some (.inl g)] [] I O live 0 0 (some (.inl (if q_fit x a ≠ 0 then (if 60 ≤ I (11, c, 0) 6 then -12 else I (11, c, 0) 6 + 1 - 1) else -1)), if q_fit x a ≠ 0 then (if 60 ≤ I (11, c, 0) 6 then I else jc_up (jc_up (jc_up I (41, c, 0) (I (11, c, 0) 6).toNatClampNeg x) (42, c, 0) (I (11, c, 0) 6).toNatClampNeg a) (11, c, 0) 6 (I (11, c, 0) 6 + 1)) else I, O, live, 0, 0) := by
  obtain ⟨g2, g4, g5, g7, g8, g9, g10⟩ := id hc
  obtain ⟨n1, n2, n3, n4, n5, n6⟩ := id hn
  refine jr_iload_n d_m_add_120 rfl rfl ?_
  refine jr_if_ne (tgt := 126) d_m_add_121 (by decide) (fun c121 => ?_) (fun c121 => ?_)
  · skip
    refine jr_aload_n d_m_add_126 rfl rfl ?_
    refine jr_getr d_m_add_127 f_m_42 rfl rfl ?_
    first | rw [ho] | rw [g2] | rw [g4] | rw [g5] | rw [g7] | rw [g8] | rw [g9] | rw [g10] | skip
    refine jr_geti d_m_add_130 f_m_56 rfl ?_
    refine jr_bipush (v := 60) d_m_add_133 (by decide) ?_
    refine jr_icmp_ne (tgt := 141) d_m_add_135 (by decide) (fun c135 => ?_) (fun c135 => ?_)
    · skip
      refine jr_aload_n d_m_add_141 rfl rfl ?_
      refine jr_getr d_m_add_142 f_m_42 rfl rfl ?_
      first | rw [ho] | rw [g2] | rw [g4] | rw [g5] | rw [g7] | rw [g8] | rw [g9] | rw [g10] | skip
      refine jr_getr d_m_add_145 f_m_59 rfl rfl ?_
      first | rw [ho] | rw [g2] | rw [g4] | rw [g5] | rw [g7] | rw [g8] | rw [g9] | rw [g10] | skip
      refine jr_aload_n d_m_add_148 rfl rfl ?_
      refine jr_getr d_m_add_149 f_m_42 rfl rfl ?_
      first | rw [ho] | rw [g2] | rw [g4] | rw [g5] | rw [g7] | rw [g8] | rw [g9] | rw [g10] | skip
      refine jr_geti d_m_add_152 f_m_56 rfl ?_
      refine jr_iload_n d_m_add_155 rfl rfl ?_
      refine jr_iast d_m_add_156 rfl rfl rfl (jin (m := 60) (by decide) n3 (by clear hc hq; grind)) ?_
      refine jr_aload_n d_m_add_157 rfl rfl ?_
      refine jr_getr d_m_add_158 f_m_42 rfl rfl ?_
      try simp only [jc_up_s, jc_up_k, jc_up_t, jc_cl_s, jc_cl_t, ne_eq, Nat.reduceEqDiff, not_false_eq_true, Nat.reduceAdd]
      first | rw [ho] | rw [g2] | rw [g4] | rw [g5] | rw [g7] | rw [g8] | rw [g9] | rw [g10] | skip
      refine jr_getr d_m_add_161 f_m_62 rfl rfl ?_
      try simp only [jc_up_s, jc_up_k, jc_up_t, jc_cl_s, jc_cl_t, ne_eq, Nat.reduceEqDiff, not_false_eq_true, Nat.reduceAdd]
      first | rw [ho] | rw [g2] | rw [g4] | rw [g5] | rw [g7] | rw [g8] | rw [g9] | rw [g10] | skip
      refine jr_aload_n d_m_add_164 rfl rfl ?_
      refine jr_getr d_m_add_165 f_m_42 rfl rfl ?_
      try simp only [jc_up_s, jc_up_k, jc_up_t, jc_cl_s, jc_cl_t, ne_eq, Nat.reduceEqDiff, not_false_eq_true, Nat.reduceAdd]
      first | rw [ho] | rw [g2] | rw [g4] | rw [g5] | rw [g7] | rw [g8] | rw [g9] | rw [g10] | skip
      refine jr_geti d_m_add_168 f_m_56 rfl ?_
      try simp only [jc_up_s, jc_up_k, jc_up_t, jc_cl_s, jc_cl_t, ne_eq, Nat.reduceEqDiff, not_false_eq_true, Nat.reduceAdd]
      refine jr_iload_n d_m_add_171 rfl rfl ?_
      refine jr_iast d_m_add_172 rfl rfl rfl (jin (m := 60) (by decide) n3 (by clear hc hq; grind)) ?_
      refine jr_aload_n d_m_add_173 rfl rfl ?_
      refine jr_getr d_m_add_174 f_m_42 rfl rfl ?_
      try simp only [jc_up_s, jc_up_k, jc_up_t, jc_cl_s, jc_cl_t, ne_eq, Nat.reduceEqDiff, not_false_eq_true, Nat.reduceAdd]
      first | rw [ho] | rw [g2] | rw [g4] | rw [g5] | rw [g7] | rw [g8] | rw [g9] | rw [g10] | skip
      refine jr_dup d_m_add_177 ?_
      refine jr_geti d_m_add_178 f_m_56 rfl ?_
      try simp only [jc_up_s, jc_up_k, jc_up_t, jc_cl_s, jc_cl_t, ne_eq, Nat.reduceEqDiff, not_false_eq_true, Nat.reduceAdd]
      refine jr_iconst (v := 1) d_m_add_181 (by decide) ?_
      refine jr_iadd d_m_add_182 ?_
      refine jr_puti d_m_add_183 f_m_56 (Or.inl rfl) rfl ?_
      refine jr_aload_n d_m_add_186 rfl rfl ?_
      refine jr_getr d_m_add_187 f_m_42 rfl rfl ?_
      try simp only [jc_up_s, jc_up_k, jc_up_t, jc_cl_s, jc_cl_t, ne_eq, Nat.reduceEqDiff, not_false_eq_true, Nat.reduceAdd]
      first | rw [ho] | rw [g2] | rw [g4] | rw [g5] | rw [g7] | rw [g8] | rw [g9] | rw [g10] | skip
      refine jr_geti d_m_add_190 f_m_56 rfl ?_
      try simp only [jc_up_s, jc_up_k, jc_up_t, jc_cl_s, jc_cl_t, ne_eq, Nat.reduceEqDiff, not_false_eq_true, Nat.reduceAdd]
      refine jr_iconst (v := 1) d_m_add_193 (by decide) ?_
      refine jr_isub d_m_add_194 ?_
      exact jr_retX (v := some _) d_m_add_195 (by first | exact Nat.le_refl _ | exact Nat.zero_le _ | (dsimp only; omega)) (by first | exact Nat.le_refl _ | exact Nat.zero_le _ | (dsimp only; omega)) (by first | with_reducible rfl | (dsimp only; (clear hc hn; (repeat (first | rw [if_pos (by grind)] | rw [if_neg (by grind)]))); done) | ((clear hc hn; (repeat (first | rw [if_pos (by grind)] | rw [if_neg (by grind)]))); done) | (exfalso; clear hc hn; grind)) (by first | with_reducible rfl | (dsimp only; (clear hc hn; (repeat (first | rw [if_pos (by grind)] | rw [if_neg (by grind)]))); done) | ((clear hc hn; (repeat (first | rw [if_pos (by grind)] | rw [if_neg (by grind)]))); done) | (exfalso; clear hc hn; grind)) (by first | with_reducible rfl | (dsimp only; (clear hc hn; (repeat (first | rw [if_pos (by grind)] | rw [if_neg (by grind)]))); done) | ((clear hc hn; (repeat (first | rw [if_pos (by grind)] | rw [if_neg (by grind)]))); done) | (exfalso; clear hc hn; grind)) (by first | with_reducible rfl | (dsimp only; (clear hc hn; (repeat (first | rw [if_pos (by grind)] | rw [if_neg (by grind)]))); done) | ((clear hc hn; (repeat (first | rw [if_pos (by grind)] | rw [if_neg (by grind)]))); done) | (exfalso; clear hc hn; grind))
    · skip
      refine jr_bipush (v := (-12)) d_m_add_138 (by decide) ?_
      exact jr_retX (v := some _) d_m_add_140 (by first | exact Nat.le_refl _ | exact Nat.zero_le _ | (dsimp only; omega)) (by first | exact Nat.le_refl _ | exact Nat.zero_le _ | (dsimp only; omega)) (by first | with_reducible rfl | (dsimp only; (clear hc hn; (repeat (first | rw [if_pos (by grind)] | rw [if_neg (by grind)]))); done) | ((clear hc hn; (repeat (first | rw [if_pos (by grind)] | rw [if_neg (by grind)]))); done) | (exfalso; clear hc hn; grind)) (by first | with_reducible rfl | (dsimp only; (clear hc hn; (repeat (first | rw [if_pos (by grind)] | rw [if_neg (by grind)]))); done) | ((clear hc hn; (repeat (first | rw [if_pos (by grind)] | rw [if_neg (by grind)]))); done) | (exfalso; clear hc hn; grind)) (by first | with_reducible rfl | (dsimp only; (clear hc hn; (repeat (first | rw [if_pos (by grind)] | rw [if_neg (by grind)]))); done) | ((clear hc hn; (repeat (first | rw [if_pos (by grind)] | rw [if_neg (by grind)]))); done) | (exfalso; clear hc hn; grind)) (by first | with_reducible rfl | (dsimp only; (clear hc hn; (repeat (first | rw [if_pos (by grind)] | rw [if_neg (by grind)]))); done) | ((clear hc hn; (repeat (first | rw [if_pos (by grind)] | rw [if_neg (by grind)]))); done) | (exfalso; clear hc hn; grind))
  · skip
    refine jr_iconst (v := (-1)) d_m_add_124 (by decide) ?_
    exact jr_retX (v := some _) d_m_add_125 (by first | exact Nat.le_refl _ | exact Nat.zero_le _ | (dsimp only; omega)) (by first | exact Nat.le_refl _ | exact Nat.zero_le _ | (dsimp only; omega)) (by first | with_reducible rfl | (dsimp only; (clear hc hn; (repeat (first | rw [if_pos (by grind)] | rw [if_neg (by grind)]))); done) | ((clear hc hn; (repeat (first | rw [if_pos (by grind)] | rw [if_neg (by grind)]))); done) | (exfalso; clear hc hn; grind)) (by first | with_reducible rfl | (dsimp only; (clear hc hn; (repeat (first | rw [if_pos (by grind)] | rw [if_neg (by grind)]))); done) | ((clear hc hn; (repeat (first | rw [if_pos (by grind)] | rw [if_neg (by grind)]))); done) | (exfalso; clear hc hn; grind)) (by first | with_reducible rfl | (dsimp only; (clear hc hn; (repeat (first | rw [if_pos (by grind)] | rw [if_neg (by grind)]))); done) | ((clear hc hn; (repeat (first | rw [if_pos (by grind)] | rw [if_neg (by grind)]))); done) | (exfalso; clear hc hn; grind)) (by first | with_reducible rfl | (dsimp only; (clear hc hn; (repeat (first | rw [if_pos (by grind)] | rw [if_neg (by grind)]))); done) | ((clear hc hn; (repeat (first | rw [if_pos (by grind)] | rw [if_neg (by grind)]))); done) | (exfalso; clear hc hn; grind))
theorem lp_m_add91 {I : jc_I} {O : jc_O} {live : jc_L → Prop} {c : Nat} {x a g : Int32} (ho : O (10, 0, 0) 1 = some (11, c, 0)) (hc : qc O c) (hn : qn I c) (hq : q_fit x a ≠ 0 ↔ (if x = 23 ∨ x = 24 then 4 ≤ a ∧ a ≤ 7 else g ≠ 0)) : jc_R y_m_add 91 [some (.inr (some (10, 0, 0))), some (.inl x), some (.inl a), some (.inl g)] [] I O live 0 0 (some (.inl (if q_fit x a ≠ 0 then (if 60 ≤ I (11, c, 0) 6 then -12 else I (11, c, 0) 6 + 1 - 1) else -1)), if q_fit x a ≠ 0 then (if 60 ≤ I (11, c, 0) 6 then I else jc_up (jc_up (jc_up I (41, c, 0) (I (11, c, 0) 6).toNatClampNeg x) (42, c, 0) (I (11, c, 0) 6).toNatClampNeg a) (11, c, 0) 6 (I (11, c, 0) 6 + 1)) else I, O, live, 0, 0) := by
  refine jr_iload_n d_m_add_91 rfl rfl ?_
  refine jr_bipush (v := 23) d_m_add_92 (by decide) ?_
  refine jr_icmp_eq (tgt := 103) d_m_add_94 (by decide) (fun c94 => ?_) (fun c94 => ?_)
  · skip
    refine jr_iload_n d_m_add_103 rfl rfl ?_
    refine jr_iconst (v := 4) d_m_add_104 (by decide) ?_
    refine jr_icmp_lt (tgt := 118) d_m_add_105 (by decide) (fun c105 => ?_) (fun c105 => ?_)
    · skip
      refine jr_iconst (v := 0) d_m_add_118 (by decide) ?_
      refine jr_istore_n d_m_add_119 rfl (Nat.le_of_ble_eq_true rfl) ?_
      exact lp_m_add ho hc hn (by clear hc hn; grind)
    · skip
      refine jr_iload_n d_m_add_108 rfl rfl ?_
      refine jr_bipush (v := 7) d_m_add_109 (by decide) ?_
      refine jr_icmp_gt (tgt := 118) d_m_add_111 (by decide) (fun c111 => ?_) (fun c111 => ?_)
      · skip
        refine jr_iconst (v := 0) d_m_add_118 (by decide) ?_
        refine jr_istore_n d_m_add_119 rfl (Nat.le_of_ble_eq_true rfl) ?_
        exact lp_m_add ho hc hn (by clear hc hn; grind)
      · skip
        refine jr_iconst (v := 1) d_m_add_114 (by decide) ?_
        refine jr_goto (tgt := 119) d_m_add_115 (by decide) ?_
        refine jr_istore_n d_m_add_119 rfl (Nat.le_of_ble_eq_true rfl) ?_
        exact lp_m_add ho hc hn (by clear hc hn; grind)
  · skip
    refine jr_iload_n d_m_add_97 rfl rfl ?_
    refine jr_bipush (v := 24) d_m_add_98 (by decide) ?_
    refine jr_icmp_ne (tgt := 120) d_m_add_100 (by decide) (fun c100 => ?_) (fun c100 => ?_)
    · skip
      exact lp_m_add ho hc hn (by clear hc hn; grind)
    · skip
      refine jr_iload_n d_m_add_103 rfl rfl ?_
      refine jr_iconst (v := 4) d_m_add_104 (by decide) ?_
      refine jr_icmp_lt (tgt := 118) d_m_add_105 (by decide) (fun c105 => ?_) (fun c105 => ?_)
      · skip
        refine jr_iconst (v := 0) d_m_add_118 (by decide) ?_
        refine jr_istore_n d_m_add_119 rfl (Nat.le_of_ble_eq_true rfl) ?_
        exact lp_m_add ho hc hn (by clear hc hn; grind)
      · skip
        refine jr_iload_n d_m_add_108 rfl rfl ?_
        refine jr_bipush (v := 7) d_m_add_109 (by decide) ?_
        refine jr_icmp_gt (tgt := 118) d_m_add_111 (by decide) (fun c111 => ?_) (fun c111 => ?_)
        · skip
          refine jr_iconst (v := 0) d_m_add_118 (by decide) ?_
          refine jr_istore_n d_m_add_119 rfl (Nat.le_of_ble_eq_true rfl) ?_
          exact lp_m_add ho hc hn (by clear hc hn; grind)
        · skip
          refine jr_iconst (v := 1) d_m_add_114 (by decide) ?_
          refine jr_goto (tgt := 119) d_m_add_115 (by decide) ?_
          refine jr_istore_n d_m_add_119 rfl (Nat.le_of_ble_eq_true rfl) ?_
          exact lp_m_add ho hc hn (by clear hc hn; grind)
theorem lp_m_add54 {I : jc_I} {O : jc_O} {live : jc_L → Prop} {c : Nat} {x a g : Int32} (ho : O (10, 0, 0) 1 = some (11, c, 0)) (hc : qc O c) (hn : qn I c) (hq : q_fit x a ≠ 0 ↔ (if x = 23 ∨ x = 24 then 4 ≤ a ∧ a ≤ 7 else if x = 16 ∨ x = 17 ∨ (25 ≤ x ∧ g ≠ 0) then 0 ≤ a ∧ a ≤ 3 else g ≠ 0)) : jc_R y_m_add 54 [some (.inr (some (10, 0, 0))), some (.inl x), some (.inl a), some (.inl g)] [] I O live 0 0 (some (.inl (if q_fit x a ≠ 0 then (if 60 ≤ I (11, c, 0) 6 then -12 else I (11, c, 0) 6 + 1 - 1) else -1)), if q_fit x a ≠ 0 then (if 60 ≤ I (11, c, 0) 6 then I else jc_up (jc_up (jc_up I (41, c, 0) (I (11, c, 0) 6).toNatClampNeg x) (42, c, 0) (I (11, c, 0) 6).toNatClampNeg a) (11, c, 0) 6 (I (11, c, 0) 6 + 1)) else I, O, live, 0, 0) := by
  refine jr_iload_n d_m_add_54 rfl rfl ?_
  refine jr_bipush (v := 16) d_m_add_55 (by decide) ?_
  refine jr_icmp_eq (tgt := 76) d_m_add_57 (by decide) (fun c57 => ?_) (fun c57 => ?_)
  · skip
    refine jr_iload_n d_m_add_76 rfl rfl ?_
    refine jr_if_lt (tgt := 89) d_m_add_77 (by decide) (fun c77 => ?_) (fun c77 => ?_)
    · skip
      refine jr_iconst (v := 0) d_m_add_89 (by decide) ?_
      refine jr_istore_n d_m_add_90 rfl (Nat.le_of_ble_eq_true rfl) ?_
      exact lp_m_add91 ho hc hn (by clear hc hn; grind)
    · skip
      refine jr_iload_n d_m_add_80 rfl rfl ?_
      refine jr_iconst (v := 3) d_m_add_81 (by decide) ?_
      refine jr_icmp_gt (tgt := 89) d_m_add_82 (by decide) (fun c82 => ?_) (fun c82 => ?_)
      · skip
        refine jr_iconst (v := 0) d_m_add_89 (by decide) ?_
        refine jr_istore_n d_m_add_90 rfl (Nat.le_of_ble_eq_true rfl) ?_
        exact lp_m_add91 ho hc hn (by clear hc hn; grind)
      · skip
        refine jr_iconst (v := 1) d_m_add_85 (by decide) ?_
        refine jr_goto (tgt := 90) d_m_add_86 (by decide) ?_
        refine jr_istore_n d_m_add_90 rfl (Nat.le_of_ble_eq_true rfl) ?_
        exact lp_m_add91 ho hc hn (by clear hc hn; grind)
  · skip
    refine jr_iload_n d_m_add_60 rfl rfl ?_
    refine jr_bipush (v := 17) d_m_add_61 (by decide) ?_
    refine jr_icmp_eq (tgt := 76) d_m_add_63 (by decide) (fun c63 => ?_) (fun c63 => ?_)
    · skip
      refine jr_iload_n d_m_add_76 rfl rfl ?_
      refine jr_if_lt (tgt := 89) d_m_add_77 (by decide) (fun c77 => ?_) (fun c77 => ?_)
      · skip
        refine jr_iconst (v := 0) d_m_add_89 (by decide) ?_
        refine jr_istore_n d_m_add_90 rfl (Nat.le_of_ble_eq_true rfl) ?_
        exact lp_m_add91 ho hc hn (by clear hc hn; grind)
      · skip
        refine jr_iload_n d_m_add_80 rfl rfl ?_
        refine jr_iconst (v := 3) d_m_add_81 (by decide) ?_
        refine jr_icmp_gt (tgt := 89) d_m_add_82 (by decide) (fun c82 => ?_) (fun c82 => ?_)
        · skip
          refine jr_iconst (v := 0) d_m_add_89 (by decide) ?_
          refine jr_istore_n d_m_add_90 rfl (Nat.le_of_ble_eq_true rfl) ?_
          exact lp_m_add91 ho hc hn (by clear hc hn; grind)
        · skip
          refine jr_iconst (v := 1) d_m_add_85 (by decide) ?_
          refine jr_goto (tgt := 90) d_m_add_86 (by decide) ?_
          refine jr_istore_n d_m_add_90 rfl (Nat.le_of_ble_eq_true rfl) ?_
          exact lp_m_add91 ho hc hn (by clear hc hn; grind)
    · skip
      refine jr_iload_n d_m_add_66 rfl rfl ?_
      refine jr_bipush (v := 25) d_m_add_67 (by decide) ?_
      refine jr_icmp_lt (tgt := 91) d_m_add_69 (by decide) (fun c69 => ?_) (fun c69 => ?_)
      · skip
        exact lp_m_add91 ho hc hn (by clear hc hn; grind)
      · skip
        refine jr_iload_n d_m_add_72 rfl rfl ?_
        refine jr_if_eq (tgt := 91) d_m_add_73 (by decide) (fun c73 => ?_) (fun c73 => ?_)
        · skip
          exact lp_m_add91 ho hc hn (by clear hc hn; grind)
        · skip
          refine jr_iload_n d_m_add_76 rfl rfl ?_
          refine jr_if_lt (tgt := 89) d_m_add_77 (by decide) (fun c77 => ?_) (fun c77 => ?_)
          · skip
            refine jr_iconst (v := 0) d_m_add_89 (by decide) ?_
            refine jr_istore_n d_m_add_90 rfl (Nat.le_of_ble_eq_true rfl) ?_
            exact lp_m_add91 ho hc hn (by clear hc hn; grind)
          · skip
            refine jr_iload_n d_m_add_80 rfl rfl ?_
            refine jr_iconst (v := 3) d_m_add_81 (by decide) ?_
            refine jr_icmp_gt (tgt := 89) d_m_add_82 (by decide) (fun c82 => ?_) (fun c82 => ?_)
            · skip
              refine jr_iconst (v := 0) d_m_add_89 (by decide) ?_
              refine jr_istore_n d_m_add_90 rfl (Nat.le_of_ble_eq_true rfl) ?_
              exact lp_m_add91 ho hc hn (by clear hc hn; grind)
            · skip
              refine jr_iconst (v := 1) d_m_add_85 (by decide) ?_
              refine jr_goto (tgt := 90) d_m_add_86 (by decide) ?_
              refine jr_istore_n d_m_add_90 rfl (Nat.le_of_ble_eq_true rfl) ?_
              exact lp_m_add91 ho hc hn (by clear hc hn; grind)
theorem lp_m_add26 {I : jc_I} {O : jc_O} {live : jc_L → Prop} {c : Nat} {x a g : Int32} (ho : O (10, 0, 0) 1 = some (11, c, 0)) (hc : qc O c) (hn : qn I c) (hq : q_fit x a ≠ 0 ↔ (if x = 23 ∨ x = 24 then 4 ≤ a ∧ a ≤ 7 else if x = 14 ∨ x = 15 then 0 ≤ a ∧ a ≤ 9 else if x = 16 ∨ x = 17 ∨ (25 ≤ x ∧ g ≠ 0) then 0 ≤ a ∧ a ≤ 3 else g ≠ 0)) : jc_R y_m_add 26 [some (.inr (some (10, 0, 0))), some (.inl x), some (.inl a), some (.inl g)] [] I O live 0 0 (some (.inl (if q_fit x a ≠ 0 then (if 60 ≤ I (11, c, 0) 6 then -12 else I (11, c, 0) 6 + 1 - 1) else -1)), if q_fit x a ≠ 0 then (if 60 ≤ I (11, c, 0) 6 then I else jc_up (jc_up (jc_up I (41, c, 0) (I (11, c, 0) 6).toNatClampNeg x) (42, c, 0) (I (11, c, 0) 6).toNatClampNeg a) (11, c, 0) 6 (I (11, c, 0) 6 + 1)) else I, O, live, 0, 0) := by
  refine jr_iload_n d_m_add_26 rfl rfl ?_
  refine jr_bipush (v := 14) d_m_add_27 (by decide) ?_
  refine jr_icmp_eq (tgt := 38) d_m_add_29 (by decide) (fun c29 => ?_) (fun c29 => ?_)
  · skip
    refine jr_iload_n d_m_add_38 rfl rfl ?_
    refine jr_if_lt (tgt := 52) d_m_add_39 (by decide) (fun c39 => ?_) (fun c39 => ?_)
    · skip
      refine jr_iconst (v := 0) d_m_add_52 (by decide) ?_
      refine jr_istore_n d_m_add_53 rfl (Nat.le_of_ble_eq_true rfl) ?_
      exact lp_m_add54 ho hc hn (by clear hc hn; grind)
    · skip
      refine jr_iload_n d_m_add_42 rfl rfl ?_
      refine jr_bipush (v := 9) d_m_add_43 (by decide) ?_
      refine jr_icmp_gt (tgt := 52) d_m_add_45 (by decide) (fun c45 => ?_) (fun c45 => ?_)
      · skip
        refine jr_iconst (v := 0) d_m_add_52 (by decide) ?_
        refine jr_istore_n d_m_add_53 rfl (Nat.le_of_ble_eq_true rfl) ?_
        exact lp_m_add54 ho hc hn (by clear hc hn; grind)
      · skip
        refine jr_iconst (v := 1) d_m_add_48 (by decide) ?_
        refine jr_goto (tgt := 53) d_m_add_49 (by decide) ?_
        refine jr_istore_n d_m_add_53 rfl (Nat.le_of_ble_eq_true rfl) ?_
        exact lp_m_add54 ho hc hn (by clear hc hn; grind)
  · skip
    refine jr_iload_n d_m_add_32 rfl rfl ?_
    refine jr_bipush (v := 15) d_m_add_33 (by decide) ?_
    refine jr_icmp_ne (tgt := 54) d_m_add_35 (by decide) (fun c35 => ?_) (fun c35 => ?_)
    · skip
      exact lp_m_add54 ho hc hn (by clear hc hn; grind)
    · skip
      refine jr_iload_n d_m_add_38 rfl rfl ?_
      refine jr_if_lt (tgt := 52) d_m_add_39 (by decide) (fun c39 => ?_) (fun c39 => ?_)
      · skip
        refine jr_iconst (v := 0) d_m_add_52 (by decide) ?_
        refine jr_istore_n d_m_add_53 rfl (Nat.le_of_ble_eq_true rfl) ?_
        exact lp_m_add54 ho hc hn (by clear hc hn; grind)
      · skip
        refine jr_iload_n d_m_add_42 rfl rfl ?_
        refine jr_bipush (v := 9) d_m_add_43 (by decide) ?_
        refine jr_icmp_gt (tgt := 52) d_m_add_45 (by decide) (fun c45 => ?_) (fun c45 => ?_)
        · skip
          refine jr_iconst (v := 0) d_m_add_52 (by decide) ?_
          refine jr_istore_n d_m_add_53 rfl (Nat.le_of_ble_eq_true rfl) ?_
          exact lp_m_add54 ho hc hn (by clear hc hn; grind)
        · skip
          refine jr_iconst (v := 1) d_m_add_48 (by decide) ?_
          refine jr_goto (tgt := 53) d_m_add_49 (by decide) ?_
          refine jr_istore_n d_m_add_53 rfl (Nat.le_of_ble_eq_true rfl) ?_
          exact lp_m_add54 ho hc hn (by clear hc hn; grind)
theorem ct_m_add_y {I : jc_I} {O : jc_O} {live : jc_L → Prop} {x a : Int32} {c : Nat} (ho : O (10, 0, 0) 1 = some (11, c, 0)) (hc : qc O c) (hn : qn I c) : jc_Ct y_m_add [.inr (some (10, 0, 0)), .inl x, .inl a] I O live (some (.inl (if q_fit x a ≠ 0 then (if 60 ≤ I (11, c, 0) 6 then -12 else I (11, c, 0) 6 + 1 - 1) else -1)), if q_fit x a ≠ 0 then (if 60 ≤ I (11, c, 0) 6 then I else jc_up (jc_up (jc_up I (41, c, 0) (I (11, c, 0) 6).toNatClampNeg x) (42, c, 0) (I (11, c, 0) 6).toNatClampNeg a) (11, c, 0) 6 (I (11, c, 0) 6 + 1)) else I, O, live, 0, 0) := by
  refine jc_Ct.of (by decide +kernel) (Or.inl rfl) (Nat.le_of_ble_eq_true rfl) ?_
  refine jr_aload_n d_m_add_0 rfl rfl ?_
  refine jr_getr d_m_add_1 f_m_42 rfl rfl ?_
  first | rw [ho] | skip
  refine jr_ifnonnull (tgt := 10) d_m_add_4 (by decide) (fun q4 c4 => ?_) (fun c4 => by cases c4)
  refine jr_iload_n d_m_add_10 rfl rfl ?_
  refine jr_if_lt (tgt := 24) d_m_add_11 (by decide) (fun c11 => ?_) (fun c11 => ?_)
  · skip
    refine jr_iconst (v := 0) d_m_add_24 (by decide) ?_
    refine jr_istore_n d_m_add_25 rfl (Nat.le_of_ble_eq_true rfl) ?_
    exact lp_m_add26 ho hc hn (by clear hc hn; unfold q_fit; grind)
  · skip
    refine jr_iload_n d_m_add_14 rfl rfl ?_
    refine jr_bipush (v := 26) d_m_add_15 (by decide) ?_
    refine jr_icmp_gt (tgt := 24) d_m_add_17 (by decide) (fun c17 => ?_) (fun c17 => ?_)
    · skip
      refine jr_iconst (v := 0) d_m_add_24 (by decide) ?_
      refine jr_istore_n d_m_add_25 rfl (Nat.le_of_ble_eq_true rfl) ?_
      exact lp_m_add26 ho hc hn (by clear hc hn; unfold q_fit; grind)
    · skip
      refine jr_iconst (v := 1) d_m_add_20 (by decide) ?_
      refine jr_goto (tgt := 25) d_m_add_21 (by decide) ?_
      refine jr_istore_n d_m_add_25 rfl (Nat.le_of_ble_eq_true rfl) ?_
      exact lp_m_add26 ho hc hn (by clear hc hn; unfold q_fit; grind)
theorem ct_m_row_n {I : jc_I} {O : jc_O} {live : jc_L → Prop} {x z a k : Int32} (ho : O (10, 0, 0) 1 = none) : jc_Ct y_m_row [.inr (some (10, 0, 0)), .inl x, .inl z, .inl a, .inl k] I O live (some (.inl (-14)), I, O, live, 0, 0) := by
  refine jc_Ct.of (by decide +kernel) (Or.inl rfl) (Nat.le_of_ble_eq_true rfl) ?_
  refine jr_aload_n d_m_row_0 rfl rfl ?_
  refine jr_getr d_m_row_1 f_m_42 rfl rfl ?_
  first | rw [ho] | skip
  refine jr_ifnonnull (tgt := 10) d_m_row_4 (by decide) (fun q4 c4 => by cases c4) (fun c4 => ?_)
  refine jr_bipush (v := (-14)) d_m_row_7 (by decide) ?_
  exact jr_retX (v := some _) d_m_row_9 (by first | exact Nat.le_refl _ | exact Nat.zero_le _ | (dsimp only; omega)) (by first | exact Nat.le_refl _ | exact Nat.zero_le _ | (dsimp only; omega)) (by first | with_reducible rfl | (dsimp only; rfl; done) | (rfl; done) | (exfalso; grind)) (by first | with_reducible rfl | (dsimp only; rfl; done) | (rfl; done) | (exfalso; grind)) (by first | with_reducible rfl | (dsimp only; rfl; done) | (rfl; done) | (exfalso; grind)) (by first | with_reducible rfl | (dsimp only; rfl; done) | (rfl; done) | (exfalso; grind))
def q_row (I : jc_I) (c : Nat) (x z a k : Int32) : jc_I := jc_up (jc_up (jc_up (jc_up (jc_up I (43, c, 0) (I (11, c, 0) 11).toNatClampNeg x) (44, c, 0) (I (11, c, 0) 11).toNatClampNeg z) (45, c, 0) (I (11, c, 0) 11).toNatClampNeg a) (46, c, 0) (I (11, c, 0) 11).toNatClampNeg k) (11, c, 0) 11 (I (11, c, 0) 11 + 1)
theorem ct_m_row_y {I : jc_I} {O : jc_O} {live : jc_L → Prop} {x z a k : Int32} {c : Nat} (ho : O (10, 0, 0) 1 = some (11, c, 0)) (hc : qc O c) (hn : qn I c) : jc_Ct y_m_row [.inr (some (10, 0, 0)), .inl x, .inl z, .inl a, .inl k] I O live (some (.inl (if ((0 ≤ x ∧ x ≤ 60) ∧ (0 ≤ z ∧ z ≤ 60) ∧ (0 ≤ a ∧ a ≤ 60) ∧ (0 ≤ k ∧ k ≤ 10)) then (if 20 ≤ I (11, c, 0) 11 then -12 else I (11, c, 0) 11 + 1) else -1)), if ((0 ≤ x ∧ x ≤ 60) ∧ (0 ≤ z ∧ z ≤ 60) ∧ (0 ≤ a ∧ a ≤ 60) ∧ (0 ≤ k ∧ k ≤ 10)) then (if 20 ≤ I (11, c, 0) 11 then I else q_row I c x z a k) else I, O, live, 0, 0) := by
  obtain ⟨g2, g4, g5, g7, g8, g9, g10⟩ := id hc
  obtain ⟨n1, n2, n3, n4, n5, n6⟩ := id hn
  refine jc_Ct.of (by decide +kernel) (Or.inl rfl) (Nat.le_of_ble_eq_true rfl) ?_
  refine jr_aload_n d_m_row_0 rfl rfl ?_
  refine jr_getr d_m_row_1 f_m_42 rfl rfl ?_
  first | rw [ho] | rw [g2] | rw [g4] | rw [g5] | rw [g7] | rw [g8] | rw [g9] | rw [g10] | skip
  refine jr_ifnonnull (tgt := 10) d_m_row_4 (by decide) (fun q4 c4 => ?_) (fun c4 => by cases c4)
  refine jr_iload_n d_m_row_10 rfl rfl ?_
  refine jv_S1r d_m_row_11 l_m_65 k_m_isPlace ⟨Nat.le_of_ble_eq_true rfl, Nat.le_of_ble_eq_true rfl⟩ (Nat.le_of_ble_eq_true rfl) (ct_m_isPlace) (by first | decide | exact Nat.zero_le _ | (dsimp only; omega) | (dsimp only; clear hc hn; grind)) (by first | decide | exact Nat.zero_le _ | (dsimp only; omega) | (dsimp only; clear hc hn; grind)) ?_
  refine jr_if_eq (tgt := 43) d_m_row_14 (by decide) (fun c14 => ?_) (fun c14 => ?_)
  · skip
    refine jr_iconst (v := (-1)) d_m_row_43 (by decide) ?_
    exact jr_retX (v := some _) d_m_row_44 (by first | exact Nat.le_refl _ | exact Nat.zero_le _ | (dsimp only; omega)) (by first | exact Nat.le_refl _ | exact Nat.zero_le _ | (dsimp only; omega)) (by first | with_reducible rfl | (dsimp only; (clear hc hn; (repeat (first | rw [if_pos (by grind)] | rw [if_neg (by grind)])); (try rfl)); done) | ((clear hc hn; (repeat (first | rw [if_pos (by grind)] | rw [if_neg (by grind)])); (try rfl)); done) | (exfalso; clear hc hn; grind)) (by first | with_reducible rfl | (dsimp only; (clear hc hn; (repeat (first | rw [if_pos (by grind)] | rw [if_neg (by grind)])); (try rfl)); done) | ((clear hc hn; (repeat (first | rw [if_pos (by grind)] | rw [if_neg (by grind)])); (try rfl)); done) | (exfalso; clear hc hn; grind)) (by first | with_reducible rfl | (dsimp only; (clear hc hn; (repeat (first | rw [if_pos (by grind)] | rw [if_neg (by grind)])); (try rfl)); done) | ((clear hc hn; (repeat (first | rw [if_pos (by grind)] | rw [if_neg (by grind)])); (try rfl)); done) | (exfalso; clear hc hn; grind)) (by first | with_reducible rfl | (dsimp only; (clear hc hn; (repeat (first | rw [if_pos (by grind)] | rw [if_neg (by grind)])); (try rfl)); done) | ((clear hc hn; (repeat (first | rw [if_pos (by grind)] | rw [if_neg (by grind)])); (try rfl)); done) | (exfalso; clear hc hn; grind))
  · skip
    refine jr_iload_n d_m_row_17 rfl rfl ?_
    refine jv_S1r d_m_row_18 l_m_65 k_m_isPlace ⟨Nat.le_of_ble_eq_true rfl, Nat.le_of_ble_eq_true rfl⟩ (Nat.le_of_ble_eq_true rfl) (ct_m_isPlace) (by first | decide | exact Nat.zero_le _ | (dsimp only; omega) | (dsimp only; clear hc hn; grind)) (by first | decide | exact Nat.zero_le _ | (dsimp only; omega) | (dsimp only; clear hc hn; grind)) ?_
    refine jr_if_eq (tgt := 43) d_m_row_21 (by decide) (fun c21 => ?_) (fun c21 => ?_)
    · skip
      refine jr_iconst (v := (-1)) d_m_row_43 (by decide) ?_
      exact jr_retX (v := some _) d_m_row_44 (by first | exact Nat.le_refl _ | exact Nat.zero_le _ | (dsimp only; omega)) (by first | exact Nat.le_refl _ | exact Nat.zero_le _ | (dsimp only; omega)) (by first | with_reducible rfl | (dsimp only; (clear hc hn; (repeat (first | rw [if_pos (by grind)] | rw [if_neg (by grind)])); (try rfl)); done) | ((clear hc hn; (repeat (first | rw [if_pos (by grind)] | rw [if_neg (by grind)])); (try rfl)); done) | (exfalso; clear hc hn; grind)) (by first | with_reducible rfl | (dsimp only; (clear hc hn; (repeat (first | rw [if_pos (by grind)] | rw [if_neg (by grind)])); (try rfl)); done) | ((clear hc hn; (repeat (first | rw [if_pos (by grind)] | rw [if_neg (by grind)])); (try rfl)); done) | (exfalso; clear hc hn; grind)) (by first | with_reducible rfl | (dsimp only; (clear hc hn; (repeat (first | rw [if_pos (by grind)] | rw [if_neg (by grind)])); (try rfl)); done) | ((clear hc hn; (repeat (first | rw [if_pos (by grind)] | rw [if_neg (by grind)])); (try rfl)); done) | (exfalso; clear hc hn; grind)) (by first | with_reducible rfl | (dsimp only; (clear hc hn; (repeat (first | rw [if_pos (by grind)] | rw [if_neg (by grind)])); (try rfl)); done) | ((clear hc hn; (repeat (first | rw [if_pos (by grind)] | rw [if_neg (by grind)])); (try rfl)); done) | (exfalso; clear hc hn; grind))
    · skip
      refine jr_iload_n d_m_row_24 rfl rfl ?_
      refine jv_S1r d_m_row_25 l_m_65 k_m_isPlace ⟨Nat.le_of_ble_eq_true rfl, Nat.le_of_ble_eq_true rfl⟩ (Nat.le_of_ble_eq_true rfl) (ct_m_isPlace) (by first | decide | exact Nat.zero_le _ | (dsimp only; omega) | (dsimp only; clear hc hn; grind)) (by first | decide | exact Nat.zero_le _ | (dsimp only; omega) | (dsimp only; clear hc hn; grind)) ?_
      refine jr_if_eq (tgt := 43) d_m_row_28 (by decide) (fun c28 => ?_) (fun c28 => ?_)
      · skip
        refine jr_iconst (v := (-1)) d_m_row_43 (by decide) ?_
        exact jr_retX (v := some _) d_m_row_44 (by first | exact Nat.le_refl _ | exact Nat.zero_le _ | (dsimp only; omega)) (by first | exact Nat.le_refl _ | exact Nat.zero_le _ | (dsimp only; omega)) (by first | with_reducible rfl | (dsimp only; (clear hc hn; (repeat (first | rw [if_pos (by grind)] | rw [if_neg (by grind)])); (try rfl)); done) | ((clear hc hn; (repeat (first | rw [if_pos (by grind)] | rw [if_neg (by grind)])); (try rfl)); done) | (exfalso; clear hc hn; grind)) (by first | with_reducible rfl | (dsimp only; (clear hc hn; (repeat (first | rw [if_pos (by grind)] | rw [if_neg (by grind)])); (try rfl)); done) | ((clear hc hn; (repeat (first | rw [if_pos (by grind)] | rw [if_neg (by grind)])); (try rfl)); done) | (exfalso; clear hc hn; grind)) (by first | with_reducible rfl | (dsimp only; (clear hc hn; (repeat (first | rw [if_pos (by grind)] | rw [if_neg (by grind)])); (try rfl)); done) | ((clear hc hn; (repeat (first | rw [if_pos (by grind)] | rw [if_neg (by grind)])); (try rfl)); done) | (exfalso; clear hc hn; grind)) (by first | with_reducible rfl | (dsimp only; (clear hc hn; (repeat (first | rw [if_pos (by grind)] | rw [if_neg (by grind)])); (try rfl)); done) | ((clear hc hn; (repeat (first | rw [if_pos (by grind)] | rw [if_neg (by grind)])); (try rfl)); done) | (exfalso; clear hc hn; grind))
      · skip
        refine jr_iload d_m_row_31 rfl ?_
        refine jr_if_lt (tgt := 43) d_m_row_33 (by decide) (fun c33 => ?_) (fun c33 => ?_)
        · skip
          refine jr_iconst (v := (-1)) d_m_row_43 (by decide) ?_
          exact jr_retX (v := some _) d_m_row_44 (by first | exact Nat.le_refl _ | exact Nat.zero_le _ | (dsimp only; omega)) (by first | exact Nat.le_refl _ | exact Nat.zero_le _ | (dsimp only; omega)) (by first | with_reducible rfl | (dsimp only; (clear hc hn; (repeat (first | rw [if_pos (by grind)] | rw [if_neg (by grind)])); (try rfl)); done) | ((clear hc hn; (repeat (first | rw [if_pos (by grind)] | rw [if_neg (by grind)])); (try rfl)); done) | (exfalso; clear hc hn; grind)) (by first | with_reducible rfl | (dsimp only; (clear hc hn; (repeat (first | rw [if_pos (by grind)] | rw [if_neg (by grind)])); (try rfl)); done) | ((clear hc hn; (repeat (first | rw [if_pos (by grind)] | rw [if_neg (by grind)])); (try rfl)); done) | (exfalso; clear hc hn; grind)) (by first | with_reducible rfl | (dsimp only; (clear hc hn; (repeat (first | rw [if_pos (by grind)] | rw [if_neg (by grind)])); (try rfl)); done) | ((clear hc hn; (repeat (first | rw [if_pos (by grind)] | rw [if_neg (by grind)])); (try rfl)); done) | (exfalso; clear hc hn; grind)) (by first | with_reducible rfl | (dsimp only; (clear hc hn; (repeat (first | rw [if_pos (by grind)] | rw [if_neg (by grind)])); (try rfl)); done) | ((clear hc hn; (repeat (first | rw [if_pos (by grind)] | rw [if_neg (by grind)])); (try rfl)); done) | (exfalso; clear hc hn; grind))
        · skip
          refine jr_iload d_m_row_36 rfl ?_
          refine jr_bipush (v := 10) d_m_row_38 (by decide) ?_
          refine jr_icmp_le (tgt := 45) d_m_row_40 (by decide) (fun c40 => ?_) (fun c40 => ?_)
          · skip
            refine jr_aload_n d_m_row_45 rfl rfl ?_
            refine jr_getr d_m_row_46 f_m_42 rfl rfl ?_
            first | rw [ho] | rw [g2] | rw [g4] | rw [g5] | rw [g7] | rw [g8] | rw [g9] | rw [g10] | skip
            refine jr_geti d_m_row_49 f_m_69 rfl ?_
            refine jr_bipush (v := 20) d_m_row_52 (by decide) ?_
            refine jr_icmp_ne (tgt := 60) d_m_row_54 (by decide) (fun c54 => ?_) (fun c54 => ?_)
            · skip
              refine jr_aload_n d_m_row_60 rfl rfl ?_
              refine jr_getr d_m_row_61 f_m_42 rfl rfl ?_
              first | rw [ho] | rw [g2] | rw [g4] | rw [g5] | rw [g7] | rw [g8] | rw [g9] | rw [g10] | skip
              refine jr_getr d_m_row_64 f_m_72 rfl rfl ?_
              first | rw [ho] | rw [g2] | rw [g4] | rw [g5] | rw [g7] | rw [g8] | rw [g9] | rw [g10] | skip
              refine jr_aload_n d_m_row_67 rfl rfl ?_
              refine jr_getr d_m_row_68 f_m_42 rfl rfl ?_
              first | rw [ho] | rw [g2] | rw [g4] | rw [g5] | rw [g7] | rw [g8] | rw [g9] | rw [g10] | skip
              refine jr_geti d_m_row_71 f_m_69 rfl ?_
              refine jr_iload_n d_m_row_74 rfl rfl ?_
              refine jr_iast d_m_row_75 rfl rfl rfl (jin (m := 20) (by decide) n5 (by clear hc; grind)) ?_
              refine jr_aload_n d_m_row_76 rfl rfl ?_
              refine jr_getr d_m_row_77 f_m_42 rfl rfl ?_
              try simp only [jc_up_s, jc_up_k, jc_up_t, jc_cl_s, jc_cl_t, ne_eq, Nat.reduceEqDiff, not_false_eq_true, Nat.reduceAdd]
              first | rw [ho] | rw [g2] | rw [g4] | rw [g5] | rw [g7] | rw [g8] | rw [g9] | rw [g10] | skip
              refine jr_getr d_m_row_80 f_m_75 rfl rfl ?_
              try simp only [jc_up_s, jc_up_k, jc_up_t, jc_cl_s, jc_cl_t, ne_eq, Nat.reduceEqDiff, not_false_eq_true, Nat.reduceAdd]
              first | rw [ho] | rw [g2] | rw [g4] | rw [g5] | rw [g7] | rw [g8] | rw [g9] | rw [g10] | skip
              refine jr_aload_n d_m_row_83 rfl rfl ?_
              refine jr_getr d_m_row_84 f_m_42 rfl rfl ?_
              try simp only [jc_up_s, jc_up_k, jc_up_t, jc_cl_s, jc_cl_t, ne_eq, Nat.reduceEqDiff, not_false_eq_true, Nat.reduceAdd]
              first | rw [ho] | rw [g2] | rw [g4] | rw [g5] | rw [g7] | rw [g8] | rw [g9] | rw [g10] | skip
              refine jr_geti d_m_row_87 f_m_69 rfl ?_
              try simp only [jc_up_s, jc_up_k, jc_up_t, jc_cl_s, jc_cl_t, ne_eq, Nat.reduceEqDiff, not_false_eq_true, Nat.reduceAdd]
              refine jr_iload_n d_m_row_90 rfl rfl ?_
              refine jr_iast d_m_row_91 rfl rfl rfl (jin (m := 20) (by decide) n5 (by clear hc; grind)) ?_
              refine jr_aload_n d_m_row_92 rfl rfl ?_
              refine jr_getr d_m_row_93 f_m_42 rfl rfl ?_
              try simp only [jc_up_s, jc_up_k, jc_up_t, jc_cl_s, jc_cl_t, ne_eq, Nat.reduceEqDiff, not_false_eq_true, Nat.reduceAdd]
              first | rw [ho] | rw [g2] | rw [g4] | rw [g5] | rw [g7] | rw [g8] | rw [g9] | rw [g10] | skip
              refine jr_getr d_m_row_96 f_m_78 rfl rfl ?_
              try simp only [jc_up_s, jc_up_k, jc_up_t, jc_cl_s, jc_cl_t, ne_eq, Nat.reduceEqDiff, not_false_eq_true, Nat.reduceAdd]
              first | rw [ho] | rw [g2] | rw [g4] | rw [g5] | rw [g7] | rw [g8] | rw [g9] | rw [g10] | skip
              refine jr_aload_n d_m_row_99 rfl rfl ?_
              refine jr_getr d_m_row_100 f_m_42 rfl rfl ?_
              try simp only [jc_up_s, jc_up_k, jc_up_t, jc_cl_s, jc_cl_t, ne_eq, Nat.reduceEqDiff, not_false_eq_true, Nat.reduceAdd]
              first | rw [ho] | rw [g2] | rw [g4] | rw [g5] | rw [g7] | rw [g8] | rw [g9] | rw [g10] | skip
              refine jr_geti d_m_row_103 f_m_69 rfl ?_
              try simp only [jc_up_s, jc_up_k, jc_up_t, jc_cl_s, jc_cl_t, ne_eq, Nat.reduceEqDiff, not_false_eq_true, Nat.reduceAdd]
              refine jr_iload_n d_m_row_106 rfl rfl ?_
              refine jr_iast d_m_row_107 rfl rfl rfl (jin (m := 20) (by decide) n5 (by clear hc; grind)) ?_
              refine jr_aload_n d_m_row_108 rfl rfl ?_
              refine jr_getr d_m_row_109 f_m_42 rfl rfl ?_
              try simp only [jc_up_s, jc_up_k, jc_up_t, jc_cl_s, jc_cl_t, ne_eq, Nat.reduceEqDiff, not_false_eq_true, Nat.reduceAdd]
              first | rw [ho] | rw [g2] | rw [g4] | rw [g5] | rw [g7] | rw [g8] | rw [g9] | rw [g10] | skip
              refine jr_getr d_m_row_112 f_m_81 rfl rfl ?_
              try simp only [jc_up_s, jc_up_k, jc_up_t, jc_cl_s, jc_cl_t, ne_eq, Nat.reduceEqDiff, not_false_eq_true, Nat.reduceAdd]
              first | rw [ho] | rw [g2] | rw [g4] | rw [g5] | rw [g7] | rw [g8] | rw [g9] | rw [g10] | skip
              refine jr_aload_n d_m_row_115 rfl rfl ?_
              refine jr_getr d_m_row_116 f_m_42 rfl rfl ?_
              try simp only [jc_up_s, jc_up_k, jc_up_t, jc_cl_s, jc_cl_t, ne_eq, Nat.reduceEqDiff, not_false_eq_true, Nat.reduceAdd]
              first | rw [ho] | rw [g2] | rw [g4] | rw [g5] | rw [g7] | rw [g8] | rw [g9] | rw [g10] | skip
              refine jr_geti d_m_row_119 f_m_69 rfl ?_
              try simp only [jc_up_s, jc_up_k, jc_up_t, jc_cl_s, jc_cl_t, ne_eq, Nat.reduceEqDiff, not_false_eq_true, Nat.reduceAdd]
              refine jr_iload d_m_row_122 rfl ?_
              refine jr_iast d_m_row_124 rfl rfl rfl (jin (m := 20) (by decide) n5 (by clear hc; grind)) ?_
              refine jr_aload_n d_m_row_125 rfl rfl ?_
              refine jr_getr d_m_row_126 f_m_42 rfl rfl ?_
              try simp only [jc_up_s, jc_up_k, jc_up_t, jc_cl_s, jc_cl_t, ne_eq, Nat.reduceEqDiff, not_false_eq_true, Nat.reduceAdd]
              first | rw [ho] | rw [g2] | rw [g4] | rw [g5] | rw [g7] | rw [g8] | rw [g9] | rw [g10] | skip
              refine jr_dup d_m_row_129 ?_
              refine jr_geti d_m_row_130 f_m_69 rfl ?_
              try simp only [jc_up_s, jc_up_k, jc_up_t, jc_cl_s, jc_cl_t, ne_eq, Nat.reduceEqDiff, not_false_eq_true, Nat.reduceAdd]
              refine jr_iconst (v := 1) d_m_row_133 (by decide) ?_
              refine jr_iadd d_m_row_134 ?_
              refine jr_puti d_m_row_135 f_m_69 (Or.inl rfl) rfl ?_
              refine jr_aload_n d_m_row_138 rfl rfl ?_
              refine jr_getr d_m_row_139 f_m_42 rfl rfl ?_
              try simp only [jc_up_s, jc_up_k, jc_up_t, jc_cl_s, jc_cl_t, ne_eq, Nat.reduceEqDiff, not_false_eq_true, Nat.reduceAdd]
              first | rw [ho] | rw [g2] | rw [g4] | rw [g5] | rw [g7] | rw [g8] | rw [g9] | rw [g10] | skip
              refine jr_geti d_m_row_142 f_m_69 rfl ?_
              try simp only [jc_up_s, jc_up_k, jc_up_t, jc_cl_s, jc_cl_t, ne_eq, Nat.reduceEqDiff, not_false_eq_true, Nat.reduceAdd]
              exact jr_retX (v := some _) d_m_row_145 (by first | exact Nat.le_refl _ | exact Nat.zero_le _ | (dsimp only; omega)) (by first | exact Nat.le_refl _ | exact Nat.zero_le _ | (dsimp only; omega)) (by first | with_reducible rfl | (dsimp only; (clear hc hn; (repeat (first | rw [if_pos (by grind)] | rw [if_neg (by grind)])); (try rfl)); done) | ((clear hc hn; (repeat (first | rw [if_pos (by grind)] | rw [if_neg (by grind)])); (try rfl)); done) | (exfalso; clear hc hn; grind)) (by first | with_reducible rfl | (dsimp only; (clear hc hn; (repeat (first | rw [if_pos (by grind)] | rw [if_neg (by grind)])); (try rfl)); done) | ((clear hc hn; (repeat (first | rw [if_pos (by grind)] | rw [if_neg (by grind)])); (try rfl)); done) | (exfalso; clear hc hn; grind)) (by first | with_reducible rfl | (dsimp only; (clear hc hn; (repeat (first | rw [if_pos (by grind)] | rw [if_neg (by grind)])); (try rfl)); done) | ((clear hc hn; (repeat (first | rw [if_pos (by grind)] | rw [if_neg (by grind)])); (try rfl)); done) | (exfalso; clear hc hn; grind)) (by first | with_reducible rfl | (dsimp only; (clear hc hn; (repeat (first | rw [if_pos (by grind)] | rw [if_neg (by grind)])); (try rfl)); done) | ((clear hc hn; (repeat (first | rw [if_pos (by grind)] | rw [if_neg (by grind)])); (try rfl)); done) | (exfalso; clear hc hn; grind))
            · skip
              refine jr_bipush (v := (-12)) d_m_row_57 (by decide) ?_
              exact jr_retX (v := some _) d_m_row_59 (by first | exact Nat.le_refl _ | exact Nat.zero_le _ | (dsimp only; omega)) (by first | exact Nat.le_refl _ | exact Nat.zero_le _ | (dsimp only; omega)) (by first | with_reducible rfl | (dsimp only; (clear hc hn; (repeat (first | rw [if_pos (by grind)] | rw [if_neg (by grind)])); (try rfl)); done) | ((clear hc hn; (repeat (first | rw [if_pos (by grind)] | rw [if_neg (by grind)])); (try rfl)); done) | (exfalso; clear hc hn; grind)) (by first | with_reducible rfl | (dsimp only; (clear hc hn; (repeat (first | rw [if_pos (by grind)] | rw [if_neg (by grind)])); (try rfl)); done) | ((clear hc hn; (repeat (first | rw [if_pos (by grind)] | rw [if_neg (by grind)])); (try rfl)); done) | (exfalso; clear hc hn; grind)) (by first | with_reducible rfl | (dsimp only; (clear hc hn; (repeat (first | rw [if_pos (by grind)] | rw [if_neg (by grind)])); (try rfl)); done) | ((clear hc hn; (repeat (first | rw [if_pos (by grind)] | rw [if_neg (by grind)])); (try rfl)); done) | (exfalso; clear hc hn; grind)) (by first | with_reducible rfl | (dsimp only; (clear hc hn; (repeat (first | rw [if_pos (by grind)] | rw [if_neg (by grind)])); (try rfl)); done) | ((clear hc hn; (repeat (first | rw [if_pos (by grind)] | rw [if_neg (by grind)])); (try rfl)); done) | (exfalso; clear hc hn; grind))
          · skip
            refine jr_iconst (v := (-1)) d_m_row_43 (by decide) ?_
            exact jr_retX (v := some _) d_m_row_44 (by first | exact Nat.le_refl _ | exact Nat.zero_le _ | (dsimp only; omega)) (by first | exact Nat.le_refl _ | exact Nat.zero_le _ | (dsimp only; omega)) (by first | with_reducible rfl | (dsimp only; (clear hc hn; (repeat (first | rw [if_pos (by grind)] | rw [if_neg (by grind)])); (try rfl)); done) | ((clear hc hn; (repeat (first | rw [if_pos (by grind)] | rw [if_neg (by grind)])); (try rfl)); done) | (exfalso; clear hc hn; grind)) (by first | with_reducible rfl | (dsimp only; (clear hc hn; (repeat (first | rw [if_pos (by grind)] | rw [if_neg (by grind)])); (try rfl)); done) | ((clear hc hn; (repeat (first | rw [if_pos (by grind)] | rw [if_neg (by grind)])); (try rfl)); done) | (exfalso; clear hc hn; grind)) (by first | with_reducible rfl | (dsimp only; (clear hc hn; (repeat (first | rw [if_pos (by grind)] | rw [if_neg (by grind)])); (try rfl)); done) | ((clear hc hn; (repeat (first | rw [if_pos (by grind)] | rw [if_neg (by grind)])); (try rfl)); done) | (exfalso; clear hc hn; grind)) (by first | with_reducible rfl | (dsimp only; (clear hc hn; (repeat (first | rw [if_pos (by grind)] | rw [if_neg (by grind)])); (try rfl)); done) | ((clear hc hn; (repeat (first | rw [if_pos (by grind)] | rw [if_neg (by grind)])); (try rfl)); done) | (exfalso; clear hc hn; grind))
