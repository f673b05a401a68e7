def g_rch (I : jc_I) (d : Nat) : jc_I := if I (28, 0, 0) (I (6, d, 0) 0).toNatClampNeg = 0 ∧ I (2, 0, 0) 5 < 40 then jc_up (jc_up (jc_up I (28, 0, 0) (I (6, d, 0) 0).toNatClampNeg 1) (27, 0, 0) (I (2, 0, 0) 5).toNatClampNeg (I (6, d, 0) 0)) (2, 0, 0) 5 (I (2, 0, 0) 5 + 1) else I
def g_rchO (I : jc_I) (a : Int32) : jc_I := if 0 ≤ a ∧ a < I (1, 0, 0) 1 then g_rch I a.toNatClampNeg else I
theorem jE_rch {I : jc_I} {d : Nat} : jE I (g_rch I d) := jE.ite (((jE.up (Or.inr ⟨by decide, by decide⟩)).tr (jE.up (Or.inr ⟨by decide, by decide⟩))).tr (jE.up (Or.inl rfl))) jE.rf
theorem jE_rchO {I : jc_I} {a : Int32} : jE I (g_rchO I a) := jE.ite jE_rch jE.rf
/-- how many were reached -/
def g_rc (I : jc_I) : Prop := 0 ≤ I (2, 0, 0) 5
theorem g_rc_rch {I : jc_I} {d : Nat} (h : g_rc I) : g_rc (g_rch I d) := by
  unfold g_rch
  split
  · rename_i h2
    unfold g_rc at *
    rw [jc_up_s]
    grind
  · exact h
theorem g_rc_rchO {I : jc_I} {a : Int32} (h : g_rc I) : g_rc (g_rchO I a) := by
  unfold g_rchO
  split
  · exact g_rc_rch h
  · exact h
theorem jof {k : Nat} (h : (k : Int) < 40) : 0 ≤ Int32.ofNat k ∧ Int32.ofNat k < 40 := by
  have h1 : (Int32.ofNat k).toInt = (k : Int) := Int32.toInt_ofNat_of_lt (by omega)
  constructor
  · rw [jle, h1, j0I]; omega
  · rw [jlt, h1, show (40 : Int32).toInt = 40 from by decide]; omega
theorem ct_G_reach {I : jc_I} {O : jc_O} {live : jc_L → Prop} {d : Nat} (hG : jw_G O) (h0 : 0 ≤ I (6, d, 0) 0) (h1 : I (6, d, 0) 0 < 40) (hr : g_rc I) : jc_Ct y_G_reach [.inr (some (2, 0, 0)), .inr (some (6, d, 0))] I O live (none, g_rch I d, O, live, 0, 0) := by
  obtain ⟨hG0, hG1, hG2, hG3, hG4⟩ := id hG
  have hr0 : 0 ≤ I (2, 0, 0) 5 := hr
  refine jc_Ct.of (by decide +kernel) (rfl) (Nat.le_of_ble_eq_true rfl) ?_
  refine jr_aload_n d_G_reach_0 rfl rfl ?_
  refine jr_ifnull (tgt := 58) d_G_reach_1 (by decide) (fun c1 => by cases c1) (fun q1 c1 => ?_)
  refine jr_aload_n d_G_reach_4 rfl rfl ?_
  refine jr_getr d_G_reach_5 f_G_21 rfl rfl ?_
  first | rw [hG1] | rw [hG2] | rw [hG3] | rw [hG4] | skip
  refine jr_aload_n d_G_reach_8 rfl rfl ?_
  refine jr_geti d_G_reach_9 f_G_97 rfl ?_
  refine jr_zald d_G_reach_12 rfl rfl rfl (jin (m := 40) (by decide) (by grind) (by grind)) ?_
  refine jr_if_ne (tgt := 58) d_G_reach_13 (by decide) (fun c13 => ?_) (fun c13 => ?_)
  · skip
    exact jr_retX (v := none) d_G_reach_58 (by first | exact Nat.le_refl _ | exact Nat.zero_le _ | (dsimp only; omega)) (by first | exact Nat.le_refl _ | exact Nat.zero_le _ | (dsimp only; omega)) (by first | with_reducible rfl | (dsimp only; (unfold g_rch; (repeat (first | rw [if_pos (by grind)] | rw [if_neg (by grind)]))); done) | (exfalso; grind)) (by first | with_reducible rfl | (dsimp only; (unfold g_rch; (repeat (first | rw [if_pos (by grind)] | rw [if_neg (by grind)]))); done) | (exfalso; grind)) (by first | with_reducible rfl | (dsimp only; (unfold g_rch; (repeat (first | rw [if_pos (by grind)] | rw [if_neg (by grind)]))); done) | (exfalso; grind)) (by first | with_reducible rfl | (dsimp only; (unfold g_rch; (repeat (first | rw [if_pos (by grind)] | rw [if_neg (by grind)]))); done) | (exfalso; grind))
  · skip
    refine jr_aload_n d_G_reach_16 rfl rfl ?_
    refine jr_geti d_G_reach_17 f_G_79 rfl ?_
    refine jr_bipush (v := 40) d_G_reach_20 (by decide) ?_
    refine jr_icmp_ge (tgt := 58) d_G_reach_22 (by decide) (fun c22 => ?_) (fun c22 => ?_)
    · skip
      exact jr_retX (v := none) d_G_reach_58 (by first | exact Nat.le_refl _ | exact Nat.zero_le _ | (dsimp only; omega)) (by first | exact Nat.le_refl _ | exact Nat.zero_le _ | (dsimp only; omega)) (by first | with_reducible rfl | (dsimp only; (unfold g_rch; (repeat (first | rw [if_pos (by grind)] | rw [if_neg (by grind)]))); done) | (exfalso; grind)) (by first | with_reducible rfl | (dsimp only; (unfold g_rch; (repeat (first | rw [if_pos (by grind)] | rw [if_neg (by grind)]))); done) | (exfalso; grind)) (by first | with_reducible rfl | (dsimp only; (unfold g_rch; (repeat (first | rw [if_pos (by grind)] | rw [if_neg (by grind)]))); done) | (exfalso; grind)) (by first | with_reducible rfl | (dsimp only; (unfold g_rch; (repeat (first | rw [if_pos (by grind)] | rw [if_neg (by grind)]))); done) | (exfalso; grind))
    · skip
      refine jr_aload_n d_G_reach_25 rfl rfl ?_
      refine jr_getr d_G_reach_26 f_G_21 rfl rfl ?_
      first | rw [hG1] | rw [hG2] | rw [hG3] | rw [hG4] | skip
      refine jr_aload_n d_G_reach_29 rfl rfl ?_
      refine jr_geti d_G_reach_30 f_G_97 rfl ?_
      refine jr_iconst (v := 1) d_G_reach_33 (by decide) ?_
      refine jr_zast d_G_reach_34 rfl rfl rfl (by grind) (jin (m := 40) (by decide) (by grind) (by grind)) ?_
      refine jr_aload_n d_G_reach_35 rfl rfl ?_
      refine jr_getr d_G_reach_36 f_G_18 rfl rfl ?_
      try simp only [jc_up_s, jc_up_k, jc_up_t, jc_cl_s, jc_cl_t, ne_eq, Nat.reduceEqDiff, not_false_eq_true, Nat.reduceAdd]
      first | rw [hG1] | rw [hG2] | rw [hG3] | rw [hG4] | skip
      refine jr_aload_n d_G_reach_39 rfl rfl ?_
      refine jr_geti d_G_reach_40 f_G_79 rfl ?_
      try simp only [jc_up_s, jc_up_k, jc_up_t, jc_cl_s, jc_cl_t, ne_eq, Nat.reduceEqDiff, not_false_eq_true, Nat.reduceAdd]
      refine jr_aload_n d_G_reach_43 rfl rfl ?_
      refine jr_geti d_G_reach_44 f_G_97 rfl ?_
      try simp only [jc_up_s, jc_up_k, jc_up_t, jc_cl_s, jc_cl_t, ne_eq, Nat.reduceEqDiff, not_false_eq_true, Nat.reduceAdd]
      refine jr_iast d_G_reach_47 rfl rfl rfl (jin (m := 40) (by decide) (by grind) (by grind)) ?_
      refine jr_aload_n d_G_reach_48 rfl rfl ?_
      refine jr_dup d_G_reach_49 ?_
      refine jr_geti d_G_reach_50 f_G_79 rfl ?_
      try simp only [jc_up_s, jc_up_k, jc_up_t, jc_cl_s, jc_cl_t, ne_eq, Nat.reduceEqDiff, not_false_eq_true, Nat.reduceAdd]
      refine jr_iconst (v := 1) d_G_reach_53 (by decide) ?_
      refine jr_iadd d_G_reach_54 ?_
      refine jr_puti d_G_reach_55 f_G_79 (Or.inl rfl) rfl ?_
      exact jr_retX (v := none) d_G_reach_58 (by first | exact Nat.le_refl _ | exact Nat.zero_le _ | (dsimp only; omega)) (by first | exact Nat.le_refl _ | exact Nat.zero_le _ | (dsimp only; omega)) (by first | with_reducible rfl | (dsimp only; (unfold g_rch; (repeat (first | rw [if_pos (by grind)] | rw [if_neg (by grind)]))); done) | (exfalso; grind)) (by first | with_reducible rfl | (dsimp only; (unfold g_rch; (repeat (first | rw [if_pos (by grind)] | rw [if_neg (by grind)]))); done) | (exfalso; grind)) (by first | with_reducible rfl | (dsimp only; (unfold g_rch; (repeat (first | rw [if_pos (by grind)] | rw [if_neg (by grind)]))); done) | (exfalso; grind)) (by first | with_reducible rfl | (dsimp only; (unfold g_rch; (repeat (first | rw [if_pos (by grind)] | rw [if_neg (by grind)]))); done) | (exfalso; grind))
theorem ct_G_reachN {I : jc_I} {O : jc_O} {live : jc_L → Prop}   : jc_Ct y_G_reach [.inr (some (2, 0, 0)), .inr none] I O live (none, I, O, live, 0, 0) := by
  refine jc_Ct.of (by decide +kernel) (rfl) (Nat.le_of_ble_eq_true rfl) ?_
  refine jr_aload_n d_G_reach_0 rfl rfl ?_
  refine jr_ifnull (tgt := 58) d_G_reach_1 (by decide) (fun c1 => ?_) (fun q1 c1 => by cases c1)
  exact jr_retX (v := none) d_G_reach_58 (by first | exact Nat.le_refl _ | exact Nat.zero_le _ | (dsimp only; omega)) (by first | exact Nat.le_refl _ | exact Nat.zero_le _ | (dsimp only; omega)) (by first | with_reducible rfl | (dsimp only; rfl; done) | (exfalso; grind)) (by first | with_reducible rfl | (dsimp only; rfl; done) | (exfalso; grind)) (by first | with_reducible rfl | (dsimp only; rfl; done) | (exfalso; grind)) (by first | with_reducible rfl | (dsimp only; rfl; done) | (exfalso; grind))
theorem ct_G_reachO {I : jc_I} {O : jc_O} {live : jc_L → Prop} {a : Int32} (hG : jw_G O) (hA : jw_A I O) (hr : g_rc I) : jc_Ct y_G_reach [.inr (some (2, 0, 0)), .inr (if 0 ≤ a ∧ a < I (1, 0, 0) 1 then O (24, 0, 0) a.toNatClampNeg else none)] I O live (none, g_rchO I a, O, live, 0, 0) := by
  by_cases h : 0 ≤ a ∧ a < I (1, 0, 0) 1
  · have h4 := hA.2.2.2 a.toNatClampNeg (jlN h.1 h.2)
    have h5 := jlN h.1 h.2
    have h6 := jle.mp hA.2.2.1
    have h7 := jof (k := a.toNatClampNeg) (by rw [show (40 : Int32).toInt = 40 from by decide] at h6; omega)
    unfold g_rchO
    rw [if_pos h, if_pos h, h4.1]
    exact ct_G_reach hG (by rw [h4.2.2.2.2.1]; exact h7.1) (by rw [h4.2.2.2.2.1]; exact h7.2) hr
  · unfold g_rchO
    rw [if_neg h, if_neg h]
    exact ct_G_reachN
def g_rco (c : Nat) : Nat → Nat → jc_I → jc_I
  | 0, _, J => J
  | m + 1, r, J => g_rco c m (r + 1) (if J (21, c, 0) r = 18 then g_rchO J (J (22, c, 0) r) else J)
theorem jE_rco {c : Nat} : ∀ (m r : Nat) (J : jc_I), jE J (g_rco c m r J)
  | 0, _, _ => jE.rf
  | m + 1, r, J => (jE.ite jE_rchO jE.rf).tr (jE_rco m (r + 1) _)
theorem g_rc_rco {c : Nat} : ∀ (m r : Nat) (J : jc_I), g_rc J → g_rc (g_rco c m r J)
  | 0, _, _, h => h
  | m + 1, r, J, h => by
    rw [g_rco]
    refine g_rc_rco m (r + 1) _ ?_
    split
    · exact g_rc_rchO h
    · exact h
theorem lp_G_reachCallsOf {O : jc_O} {live : jc_L → Prop} {c : Nat} (hG : jw_G O) : ∀ (m : Nat) (i : Int32) (J : jc_I) (hA : jw_A J O) (hin : jw_in J c) (hr : g_rc J), 0 ≤ i → (J (6, c, 0) 8).toInt - i.toInt = (m : Int) → jc_R y_G_reachCallsOf 2 [some (.inr (some (2, 0, 0))), some (.inr (some (6, c, 0))), some (.inl i)] [] J O live 0 0 (none, g_rco c m i.toNatClampNeg J, O, live, 0, 0) := by
  intro m
  induction m with
  | zero =>
    intro i J hA hin hr hi0 hm
    have ez := jf0 hm
    refine jr_iload_n d_G_reachCallsOf_2 rfl rfl ?_
    refine jr_aload_n d_G_reachCallsOf_3 rfl rfl ?_
    refine jv_V0r d_G_reachCallsOf_4 l_G_29 k_C_size ⟨Nat.le_of_ble_eq_true rfl, Nat.le_of_ble_eq_true rfl⟩ rfl rfl (Nat.le_of_ble_eq_true rfl) (ct_C_size) (by grind) (by grind) ?_
    refine jr_icmp_ge (tgt := 42) d_G_reachCallsOf_7 (by decide) (fun c7 => ?_) (fun c7 => ?_)
    · skip
      exact jr_retX (v := none) d_G_reachCallsOf_42 (by first | exact Nat.le_refl _ | exact Nat.zero_le _ | (dsimp only; omega)) (by first | exact Nat.le_refl _ | exact Nat.zero_le _ | (dsimp only; omega)) (by first | with_reducible rfl | (dsimp only; rfl; done) | (exfalso; grind)) (by first | with_reducible rfl | (dsimp only; rfl; done) | (exfalso; grind)) (by first | with_reducible rfl | (dsimp only; rfl; done) | (exfalso; grind)) (by first | with_reducible rfl | (dsimp only; rfl; done) | (exfalso; grind))
    · skip
      exfalso; grind
  | succ m ih =>
    intro i J hA hin hr hi0 hm
    have hlt := jfu hm
    obtain ⟨b1, b2, b3, b4, b5, b6, b7⟩ := hA.2.2.2 c hin
    obtain ⟨hC3, hC4, hC5, hC6⟩ := id b2
    obtain ⟨n7, n7b, n8, n8b, n9, n9b⟩ := id b3
    obtain ⟨hG0, hG1, hG2, hG3, hG4⟩ := id hG
    refine jr_iload_n d_G_reachCallsOf_2 rfl rfl ?_
    refine jr_aload_n d_G_reachCallsOf_3 rfl rfl ?_
    refine jv_V0r d_G_reachCallsOf_4 l_G_29 k_C_size ⟨Nat.le_of_ble_eq_true rfl, Nat.le_of_ble_eq_true rfl⟩ rfl rfl (Nat.le_of_ble_eq_true rfl) (ct_C_size) (by clear ih; grind) (by clear ih; grind) ?_
    refine jr_icmp_ge (tgt := 42) d_G_reachCallsOf_7 (by decide) (fun c7 => ?_) (fun c7 => ?_)
    · skip
      exfalso; clear ih; grind
    · skip
      refine jr_aload_n d_G_reachCallsOf_10 rfl rfl ?_
      refine jr_iload_n d_G_reachCallsOf_11 rfl rfl ?_
      refine jv_V1r d_G_reachCallsOf_12 l_G_35 k_C_op ⟨Nat.le_of_ble_eq_true rfl, Nat.le_of_ble_eq_true rfl⟩ rfl rfl (Nat.le_of_ble_eq_true rfl) (ct_C_op hC4 n8b) (by clear ih; grind) (by clear ih; grind) ?_
      rw [if_pos ⟨by clear ih; grind, by clear ih; grind⟩]
      refine jr_bipush (v := 18) d_G_reachCallsOf_15 (by decide) ?_
      refine jr_icmp_ne (tgt := 36) d_G_reachCallsOf_17 (by decide) (fun c17 => ?_) (fun c17 => ?_)
      · skip
        refine jr_iinc d_G_reachCallsOf_36 rfl jinc1 ?_
        refine jr_goto (tgt := 2) d_G_reachCallsOf_39 (by decide) ?_
        exact (by have e := ih (i + 1) J hA hin hr (by clear ih; grind) (jf1 hm); rw [jN1' hi0 hlt] at e; rw [g_rco, if_neg (by clear ih e; grind)]; exact e)
      · skip
        refine jr_aload_n d_G_reachCallsOf_20 rfl rfl ?_
        refine jr_aload_n d_G_reachCallsOf_21 rfl rfl ?_
        refine jr_getr d_G_reachCallsOf_22 f_G_25 rfl rfl ?_
        first | rw [hG0] | skip
        refine jr_aload_n d_G_reachCallsOf_25 rfl rfl ?_
        refine jr_iload_n d_G_reachCallsOf_26 rfl rfl ?_
        refine jv_V1r d_G_reachCallsOf_27 l_G_72 k_C_operand ⟨Nat.le_of_ble_eq_true rfl, Nat.le_of_ble_eq_true rfl⟩ rfl rfl (Nat.le_of_ble_eq_true rfl) (ct_C_operand hC5 n8b) (by clear ih; grind) (by clear ih; grind) ?_
        rw [if_pos ⟨by clear ih; grind, by clear ih; grind⟩]
        refine jv_V1r d_G_reachCallsOf_30 l_G_85 k_Cs_find ⟨Nat.le_of_ble_eq_true rfl, Nat.le_of_ble_eq_true rfl⟩ rfl rfl (Nat.le_of_ble_eq_true rfl) (ct_Cs_find hA.1 hA.2.2.1) (by clear ih; grind) (by clear ih; grind) ?_
        first | rw [hG0] | skip
        refine jv_V1v d_G_reachCallsOf_33 l_G_82 k_G_reach ⟨Nat.le_of_ble_eq_true rfl, Nat.le_of_ble_eq_true rfl⟩ rfl rfl (Nat.le_of_ble_eq_true rfl) (ct_G_reachO hG hA hr) (by clear ih; grind) (by clear ih; grind) ?_
        refine jr_iinc d_G_reachCallsOf_36 rfl jinc1 ?_
        refine jr_goto (tgt := 2) d_G_reachCallsOf_39 (by decide) ?_
        exact (by have e := ih (i + 1) (g_rchO J (J (22, c, 0) i.toNatClampNeg)) (jE_rchO.A hA) (jE_rchO.i hin) (g_rc_rchO hr) (by clear ih; grind) (by rw [jE_rchO (6, c, 0) 8 (by simp) (by simp)]; exact jf1 hm); rw [jN1' hi0 hlt] at e; rw [g_rco, if_pos (by clear ih e; grind)]; exact e)
theorem ct_G_reachCallsOf {I : jc_I} {O : jc_O} {live : jc_L → Prop} {c : Nat} (hG : jw_G O) (hA : jw_A I O) (hin : jw_in I c) (hr : g_rc I) : jc_Ct y_G_reachCallsOf [.inr (some (2, 0, 0)), .inr (some (6, c, 0))] I O live (none, g_rco c (I (6, c, 0) 8).toNatClampNeg 0 I, O, live, 0, 0) := by
  refine jc_Ct.of (by decide +kernel) (rfl) (Nat.le_of_ble_eq_true rfl) ?_
  refine jr_iconst (v := 0) d_G_reachCallsOf_0 (by decide) ?_
  refine jr_istore_n d_G_reachCallsOf_1 rfl (Nat.le_of_ble_eq_true rfl) ?_
  exact lp_G_reachCallsOf hG _ 0 I hA hin hr (by decide) (jfn (hA.2.2.2 c hin).2.2.1.2.2.1)
def g_nx (J : jc_I) (x : Nat) : jc_I := g_rco x (g_good J x (6, x, 0) 8).toNatClampNeg 0 (g_good J x)
def g_all : Nat → Int32 → jc_I → Int32 × jc_I
  | 0, _, J => (1, J)
  | m + 1, i, J => if J (2, 0, 0) 5 ≤ i then (1, J) else if ¬ (0 ≤ J (27, 0, 0) i.toNatClampNeg ∧ J (27, 0, 0) i.toNatClampNeg < J (1, 0, 0) 1) then (0, J)
    else if g_good J (J (27, 0, 0) i.toNatClampNeg).toNatClampNeg (2, 0, 0) 7 = 0 then (0, g_good J (J (27, 0, 0) i.toNatClampNeg).toNatClampNeg)
    else g_all m (i + 1) (g_nx J (J (27, 0, 0) i.toNatClampNeg).toNatClampNeg)
theorem g_all01 : ∀ (m : Nat) (i : Int32) (J : jc_I), (g_all m i J).1 = 0 ∨ (g_all m i J).1 = 1
  | 0, _, _ => Or.inr rfl
  | m + 1, i, J => by
    rw [g_all]
    split
    · exact Or.inr rfl
    · split
      · exact Or.inl rfl
      · split
        · exact Or.inl rfl
        · exact g_all01 m (i + 1) _
/-- what the judge's isGood leaves: how many were reached -/
theorem g_dem5 {I : jc_I} {b : Int32} : g_dem I b (2, 0, 0) 5 = I (2, 0, 0) 5 := jc_up_k _ _ _ _ _ _ (by decide)
theorem g_give5 {I : jc_I} {k : Int32} : g_give I k (2, 0, 0) 5 = I (2, 0, 0) 5 := by
  unfold g_give
  split
  · exact g_dem5
  · rw [jc_up_k _ _ _ _ _ _ (by decide), jc_up_q _ _ _ _ _ _ (by decide)]
theorem g_take5 {I : jc_I} {k : Int32} : g_take I k (2, 0, 0) 5 = I (2, 0, 0) 5 := by
  unfold g_take
  split
  · exact g_dem5
  · exact jc_up_k _ _ _ _ _ _ (by decide)
theorem g_arr5 {I : jc_I} {p b : Int32} : g_arr I p b (2, 0, 0) 5 = I (2, 0, 0) 5 := by
  unfold g_arr
  split
  · exact g_dem5
  · split
    · rw [g_give5, jc_up_k _ _ _ _ _ _ (by decide), g_dem5]
    · rw [jc_up_k _ _ _ _ _ _ (by decide), g_dem5]
theorem g_par5 {d : Nat} : ∀ (m : Nat) (i : Int32) (J : jc_I), g_par d m i J (2, 0, 0) 5 = J (2, 0, 0) 5
  | 0, _, _ => rfl
  | m + 1, i, J => by rw [g_par, g_par5, g_take5]
theorem g_use5 {I : jc_I} {op : Int32} : g_use I op (2, 0, 0) 5 = I (2, 0, 0) 5 := by
  unfold g_use
  dsimp only
  have h : g_take (if op = 17 then g_take I 1 else if op = 24 then g_take I 2 else I) 2 (2, 0, 0) 5 = I (2, 0, 0) 5 := by
    rw [g_take5]
    split
    · exact g_take5
    · split
      · exact g_take5
      · rfl
  split
  · rw [g_give5, h]
  · split
    · rw [g_give5, h]
    · exact h
theorem g5_ite {J K : jc_I} {x : Int32} {p : Prop} [Decidable p] (h1 : J (2, 0, 0) 5 = x) (h2 : K (2, 0, 0) 5 = x) : (if p then J else K) (2, 0, 0) 5 = x := by split; exact h1; exact h2
theorem g_leave5 {I : jc_I} {p : Int32} : g_leave I p (2, 0, 0) 5 = I (2, 0, 0) 5 := g_dem5
theorem g_call5 {I : jc_I} {a : Int32} : g_call I a (2, 0, 0) 5 = I (2, 0, 0) 5 := by
  unfold g_call g_fc g_fin
  exact g5_ite (g5_ite (by rw [g_give5, g_par5]) (g_par5 _ _ _)) g_dem5
theorem g_ret5 {I : jc_I} {c : Nat} : g_ret I c (2, 0, 0) 5 = I (2, 0, 0) 5 := by
  unfold g_ret
  dsimp only
  rw [g_dem5]
  exact g5_ite g_take5 rfl
theorem g_fol5 {J : jc_I} {c : Nat} {op a : Int32} : g_fol J c op a (2, 0, 0) 5 = J (2, 0, 0) 5 := by
  unfold g_fol
  exact g5_ite g_give5 (g5_ite g_give5 (g5_ite g_take5 (g5_ite g_give5 (g5_ite (by rw [g_give5, g_take5, g_take5]) (g5_ite g_give5 (g5_ite g_take5 (g5_ite g_leave5 (g5_ite (by rw [g_leave5, g_take5]) (g5_ite (by rw [g_leave5, g_take5]) (g5_ite g_use5 (g5_ite g_call5 (g5_ite g_take5 (g5_ite g_ret5 g_dem5)))))))))))))
theorem g_lp5 {c : Nat} : ∀ (m : Nat) (i : Int32) (J : jc_I), g_lp c m i J (2, 0, 0) 5 = J (2, 0, 0) 5
  | 0, _, _ => rfl
  | m + 1, i, J => by
    rw [g_lp]
    split
    · rfl
    · rw [g_lp5]
      unfold g_st
      dsimp only
      rw [g_fol5, g_arr5]
theorem g_good5 {I : jc_I} {c : Nat} : g_good I c (2, 0, 0) 5 = I (2, 0, 0) 5 := by
  unfold g_good
  split
  · exact jc_up_k _ _ _ _ _ _ (by decide)
  · rw [g_lp5, jc_up_k _ _ _ _ _ _ (by decide), g_marks_ne rfl, jc_up_k _ _ _ _ _ _ (by decide)]
theorem g_rc_good {I : jc_I} {c : Nat} (h : g_rc I) : g_rc (g_good I c) := by
  unfold g_rc at *
  rw [g_good5]
  exact h
def g_thr (I : jc_I) (c : Nat) : Int32 × jc_I := g_all 40 0 (g_rch (jc_up (jc_zr I (28, 0, 0) 40 0) (2, 0, 0) 5 0) c)
theorem lp_G_isGoodThroughout {O : jc_O} {live : jc_L → Prop} {c : Nat} (hG : jw_G O) : ∀ (m : Nat) (i : Int32) (u : Option jc_V) (J : jc_I), jw_A J O → g_rc J → 0 ≤ i → (40 : Int32).toInt - i.toInt = (m : Int) → jc_R y_G_isGoodThroughout 33 [some (.inr (some (2, 0, 0))), some (.inr (some (6, c, 0))), some (.inl i), u] [] J O live 0 0 (some (.inl (g_all m i J).1), (g_all m i J).2, O, live, 0, 0) := by
  intro m
  obtain ⟨hG0, hG1, hG2, hG3, hG4⟩ := id hG
  induction m with
  | zero =>
    intro i u J hA hr hi0 hm
    have ez := jf0 hm
    refine jr_iload_n d_G_isGoodThroughout_33 rfl rfl ?_
    refine jr_bipush (v := 40) d_G_isGoodThroughout_34 (by decide) ?_
    refine jr_icmp_ge (tgt := 86) d_G_isGoodThroughout_36 (by decide) (fun c36 => ?_) (fun c36 => ?_)
    · skip
      refine jr_iconst (v := 1) d_G_isGoodThroughout_86 (by decide) ?_
      exact jr_retX (v := some _) d_G_isGoodThroughout_87 (by first | exact Nat.le_refl _ | exact Nat.zero_le _ | (dsimp only; omega)) (by first | exact Nat.le_refl _ | exact Nat.zero_le _ | (dsimp only; omega)) (by first | with_reducible rfl | (dsimp only; rfl; done) | (exfalso; grind)) (by first | with_reducible rfl | (dsimp only; rfl; done) | (exfalso; grind)) (by first | with_reducible rfl | (dsimp only; rfl; done) | (exfalso; grind)) (by first | with_reducible rfl | (dsimp only; rfl; done) | (exfalso; grind))
    · skip
      exfalso; grind
  | succ m ih =>
    intro i u J hA hr hi0 hm
    have hlt := jfu hm
    refine jr_iload_n d_G_isGoodThroughout_33 rfl rfl ?_
    refine jr_bipush (v := 40) d_G_isGoodThroughout_34 (by decide) ?_
    refine jr_icmp_ge (tgt := 86) d_G_isGoodThroughout_36 (by decide) (fun c36 => ?_) (fun c36 => ?_)
    · skip
      exfalso; clear ih; grind
    · skip
      refine jr_iload_n d_G_isGoodThroughout_39 rfl rfl ?_
      refine jr_aload_n d_G_isGoodThroughout_40 rfl rfl ?_
      refine jr_geti d_G_isGoodThroughout_41 f_G_79 rfl ?_
      refine jr_icmp_ge (tgt := 86) d_G_isGoodThroughout_44 (by decide) (fun c44 => ?_) (fun c44 => ?_)
      · skip
        refine jr_iconst (v := 1) d_G_isGoodThroughout_86 (by decide) ?_
        exact jr_retX (v := some _) d_G_isGoodThroughout_87 (by first | exact Nat.le_refl _ | exact Nat.zero_le _ | (dsimp only; omega)) (by first | exact Nat.le_refl _ | exact Nat.zero_le _ | (dsimp only; omega)) (by first | with_reducible rfl | (dsimp only; (rw [g_all, if_pos (by clear ih; grind)]); done) | (exfalso; clear ih; grind)) (by first | with_reducible rfl | (dsimp only; (rw [g_all, if_pos (by clear ih; grind)]); done) | (exfalso; clear ih; grind)) (by first | with_reducible rfl | (dsimp only; (rw [g_all, if_pos (by clear ih; grind)]); done) | (exfalso; clear ih; grind)) (by first | with_reducible rfl | (dsimp only; (rw [g_all, if_pos (by clear ih; grind)]); done) | (exfalso; clear ih; grind))
      · skip
        refine jr_aload_n d_G_isGoodThroughout_47 rfl rfl ?_
        refine jr_getr d_G_isGoodThroughout_48 f_G_25 rfl rfl ?_
        first | rw [hG0] | rw [hG3] | skip
        refine jr_aload_n d_G_isGoodThroughout_51 rfl rfl ?_
        refine jr_getr d_G_isGoodThroughout_52 f_G_18 rfl rfl ?_
        first | rw [hG0] | rw [hG3] | skip
        refine jr_iload_n d_G_isGoodThroughout_55 rfl rfl ?_
        refine jr_iald d_G_isGoodThroughout_56 rfl rfl rfl (jin (m := 40) (by decide) (by clear ih; grind) (by clear ih; grind)) ?_
        refine jv_V1r d_G_isGoodThroughout_57 l_G_85 k_Cs_find ⟨Nat.le_of_ble_eq_true rfl, Nat.le_of_ble_eq_true rfl⟩ rfl rfl (Nat.le_of_ble_eq_true rfl) (ct_Cs_find hA.1 hA.2.2.1) (by clear ih; grind) (by clear ih; grind) ?_
        first | rw [hG0] | rw [hG3] | skip
        by_cases hx : 0 ≤ (J (27, 0, 0) i.toNatClampNeg) ∧ (J (27, 0, 0) i.toNatClampNeg) < J (1, 0, 0) 1
        · have hin : jw_in J (J (27, 0, 0) i.toNatClampNeg).toNatClampNeg := jlN hx.1 hx.2
          rw [if_pos hx, (hA.2.2.2 _ hin).1]
          refine jr_astore_n d_G_isGoodThroughout_60 rfl (Nat.le_of_ble_eq_true rfl) ?_
          refine jr_aload_n d_G_isGoodThroughout_61 rfl rfl ?_
          refine jr_ifnull (tgt := 73) d_G_isGoodThroughout_62 (by decide) (fun c62 => by cases c62) (fun q62 c62 => ?_)
          refine jr_aload_n d_G_isGoodThroughout_65 rfl rfl ?_
          refine jr_aload_n d_G_isGoodThroughout_66 rfl rfl ?_
          refine jv_V1r d_G_isGoodThroughout_67 l_G_91 k_G_isGood ⟨Nat.le_of_ble_eq_true rfl, Nat.le_of_ble_eq_true rfl⟩ rfl rfl (Nat.le_of_ble_eq_true rfl) (ct_G_isGood (c := (J (27, 0, 0) i.toNatClampNeg).toNatClampNeg) hG hA hin) (by clear ih; grind) (by clear ih; grind) ?_
          refine jr_if_ne (tgt := 75) d_G_isGoodThroughout_70 (by decide) (fun c70 => ?_) (fun c70 => ?_)
          · skip
            refine jr_aload_n d_G_isGoodThroughout_75 rfl rfl ?_
            refine jr_aload_n d_G_isGoodThroughout_76 rfl rfl ?_
            refine jv_V1v d_G_isGoodThroughout_77 l_G_94 k_G_reachCallsOf ⟨Nat.le_of_ble_eq_true rfl, Nat.le_of_ble_eq_true rfl⟩ rfl rfl (Nat.le_of_ble_eq_true rfl) (ct_G_reachCallsOf (c := (J (27, 0, 0) i.toNatClampNeg).toNatClampNeg) hG (jE_good.A hA) (jE_good.i hin) (g_rc_good hr)) (by clear ih; grind) (by clear ih; grind) ?_
            refine jr_iinc d_G_isGoodThroughout_80 rfl jinc1 ?_
            refine jr_goto (tgt := 33) d_G_isGoodThroughout_83 (by decide) ?_
            exact (by have e := ih (i + 1) (some (.inr (some (6, (J (27, 0, 0) i.toNatClampNeg).toNatClampNeg, 0)))) (g_nx J (J (27, 0, 0) i.toNatClampNeg).toNatClampNeg) ((jE_good.tr (jE_rco _ _ _)).A hA) (g_rc_rco _ _ _ (g_rc_good hr)) (by clear ih; grind) (jf1 hm); rw [g_all, if_neg (by clear ih e; grind), if_neg (by clear ih e; grind), if_neg (by clear ih e; grind)]; exact e)
          · skip
            refine jr_iconst (v := 0) d_G_isGoodThroughout_73 (by decide) ?_
            exact jr_retX (v := some _) d_G_isGoodThroughout_74 (by first | exact Nat.le_refl _ | exact Nat.zero_le _ | (dsimp only; omega)) (by first | exact Nat.le_refl _ | exact Nat.zero_le _ | (dsimp only; omega)) (by first | with_reducible rfl | (dsimp only; (rw [g_all, if_neg (by clear ih; grind), if_neg (by clear ih; grind), if_pos (by clear ih; grind)]); done) | (exfalso; clear ih; grind)) (by first | with_reducible rfl | (dsimp only; (rw [g_all, if_neg (by clear ih; grind), if_neg (by clear ih; grind), if_pos (by clear ih; grind)]); done) | (exfalso; clear ih; grind)) (by first | with_reducible rfl | (dsimp only; (rw [g_all, if_neg (by clear ih; grind), if_neg (by clear ih; grind), if_pos (by clear ih; grind)]); done) | (exfalso; clear ih; grind)) (by first | with_reducible rfl | (dsimp only; (rw [g_all, if_neg (by clear ih; grind), if_neg (by clear ih; grind), if_pos (by clear ih; grind)]); done) | (exfalso; clear ih; grind))
        · rw [if_neg hx]
          refine jr_astore_n d_G_isGoodThroughout_60 rfl (Nat.le_of_ble_eq_true rfl) ?_
          refine jr_aload_n d_G_isGoodThroughout_61 rfl rfl ?_
          refine jr_ifnull (tgt := 73) d_G_isGoodThroughout_62 (by decide) (fun c62 => ?_) (fun q62 c62 => by cases c62)
          refine jr_iconst (v := 0) d_G_isGoodThroughout_73 (by decide) ?_
          exact jr_retX (v := some _) d_G_isGoodThroughout_74 (by first | exact Nat.le_refl _ | exact Nat.zero_le _ | (dsimp only; omega)) (by first | exact Nat.le_refl _ | exact Nat.zero_le _ | (dsimp only; omega)) (by first | with_reducible rfl | (dsimp only; (rw [g_all, if_neg (by clear ih; grind), if_pos (by clear ih; grind)]); done) | (exfalso; clear ih; grind)) (by first | with_reducible rfl | (dsimp only; (rw [g_all, if_neg (by clear ih; grind), if_pos (by clear ih; grind)]); done) | (exfalso; clear ih; grind)) (by first | with_reducible rfl | (dsimp only; (rw [g_all, if_neg (by clear ih; grind), if_pos (by clear ih; grind)]); done) | (exfalso; clear ih; grind)) (by first | with_reducible rfl | (dsimp only; (rw [g_all, if_neg (by clear ih; grind), if_pos (by clear ih; grind)]); done) | (exfalso; clear ih; grind))
theorem lp2_G_isGoodThroughout {I : jc_I} {O : jc_O} {live : jc_L → Prop} {c : Nat} {v : Option jc_V} (hG : jw_G O) (hA : jw_A I O) (hin : jw_in I c) : jc_R y_G_isGoodThroughout 21 [some (.inr (some (2, 0, 0))), some (.inr (some (6, c, 0))), v, none] [] (jc_zr I (28, 0, 0) 40 0) O live 0 0 (some (.inl (g_thr I c).1), (g_thr I c).2, O, live, 0, 0) := by
  have h6 := jle.mp hA.2.2.1
  have h5 := hin
  unfold jw_in at h5
  have h7 : 0 ≤ I (6, c, 0) 0 ∧ I (6, c, 0) 0 < 40 := by rw [(hA.2.2.2 c hin).2.2.2.2.1]; exact jof (by rw [show (40 : Int32).toInt = 40 from by decide] at h6; omega)
  have hE : jE I (jc_up (jc_zr I (28, 0, 0) 40 0) (2, 0, 0) 5 0) := (jE.zr (Or.inr ⟨by decide, by decide⟩)).tr (jE.up (Or.inl rfl))
  refine jr_aload_n d_G_isGoodThroughout_21 rfl rfl ?_
  refine jr_iconst (v := 0) d_G_isGoodThroughout_22 (by decide) ?_
  refine jr_puti d_G_isGoodThroughout_23 f_G_79 (Or.inl rfl) rfl ?_
  refine jr_aload_n d_G_isGoodThroughout_26 rfl rfl ?_
  refine jr_aload_n d_G_isGoodThroughout_27 rfl rfl ?_
  refine jv_V1v d_G_isGoodThroughout_28 l_G_82 k_G_reach ⟨Nat.le_of_ble_eq_true rfl, Nat.le_of_ble_eq_true rfl⟩ rfl rfl (Nat.le_of_ble_eq_true rfl) (ct_G_reach hG (by rw [hE (6, c, 0) 0 (by simp) (by simp)]; exact h7.1) (by rw [hE (6, c, 0) 0 (by simp) (by simp)]; exact h7.2) (by unfold g_rc; rw [jc_up_s]; decide)) (by grind) (by grind) ?_
  refine jr_iconst (v := 0) d_G_isGoodThroughout_31 (by decide) ?_
  refine jr_istore_n d_G_isGoodThroughout_32 rfl (Nat.le_of_ble_eq_true rfl) ?_
  exact lp_G_isGoodThroughout hG 40 0 none _ ((hE.tr jE_rch).A hA) (g_rc_rch (by unfold g_rc; rw [jc_up_s]; decide)) (by decide) (by decide)
theorem lp1_G_isGoodThroughout {I : jc_I} {O : jc_O} {live : jc_L → Prop} {c : Nat} (hG : jw_G O) (hA : jw_A I O) (hin : jw_in I c) : ∀ (m : Nat) (i : Int32), 0 ≤ i → i ≤ 40 → (40 : Int32).toInt - i.toInt < (m : Int) → jc_R y_G_isGoodThroughout 2 [some (.inr (some (2, 0, 0))), some (.inr (some (6, c, 0))), some (.inl i), none] [] (jc_zr I (28, 0, 0) i.toNatClampNeg 0) O live 0 0 (some (.inl (g_thr I c).1), (g_thr I c).2, O, live, 0, 0) := by
  intro m
  obtain ⟨hG0, hG1, hG2, hG3, hG4⟩ := id hG
  induction m with
  | zero => intro i hi0 h8 hm; exact (jm0 h8 hm).elim
  | succ m ih =>
    intro i hi0 h8 hm
    refine jr_iload_n d_G_isGoodThroughout_2 rfl rfl ?_
    refine jr_bipush (v := 40) d_G_isGoodThroughout_3 (by decide) ?_
    refine jr_icmp_ge (tgt := 21) d_G_isGoodThroughout_5 (by decide) (fun c5 => ?_) (fun c5 => ?_)
    · skip
      exact (by obtain rfl : i = 40 := (by clear ih; grind); exact lp2_G_isGoodThroughout hG hA hin)
    · skip
      refine jr_aload_n d_G_isGoodThroughout_8 rfl rfl ?_
      refine jr_getr d_G_isGoodThroughout_9 f_G_21 rfl rfl ?_
      first | rw [hG4] | skip
      refine jr_iload_n d_G_isGoodThroughout_12 rfl rfl ?_
      refine jr_iconst (v := 0) d_G_isGoodThroughout_13 (by decide) ?_
      refine jr_zast d_G_isGoodThroughout_14 rfl rfl rfl (by clear ih; grind) (jin (m := 40) (by decide) (by clear ih; grind) (by clear ih; grind)) ?_
      rw [jc_zr_s]
      refine jr_iinc d_G_isGoodThroughout_15 rfl jinc1 ?_
      refine jr_goto (tgt := 2) d_G_isGoodThroughout_18 (by decide) ?_
      exact (by have e := ih (i + 1) (by clear ih; grind) (by clear ih; grind) (jme (n := 40) (by clear ih; grind) hm); rw [jN1 (by clear ih e; grind) (by clear ih e; grind)] at e; exact e)
theorem ct_G_isGoodThroughout {I : jc_I} {O : jc_O} {live : jc_L → Prop} {c : Nat} (hG : jw_G O) (hA : jw_A I O) (hin : jw_in I c) : jc_Ct y_G_isGoodThroughout [.inr (some (2, 0, 0)), .inr (some (6, c, 0))] I O live (some (.inl (g_thr I c).1), (g_thr I c).2, O, live, 0, 0) := by
  refine jc_Ct.of (by decide +kernel) (Or.inr ⟨rfl, g_all01 _ _ _⟩) (Nat.le_of_ble_eq_true rfl) ?_
  refine jr_iconst (v := 0) d_G_isGoodThroughout_0 (by decide) ?_
  refine jr_istore_n d_G_isGoodThroughout_1 rfl (Nat.le_of_ble_eq_true rfl) ?_
  exact (by have e := lp1_G_isGoodThroughout (live := live) hG hA hin 41 0 (by decide) (by decide) (by decide); rw [j00, jc_zr_0] at e; exact e)
