def g_par (d : Nat) : Nat → Int32 → jc_I → jc_I
  | 0, _, J => J
  | m + 1, i, J => g_par d m (i - 1) (g_take J (g_lk J d i))
def g_fin (J : jc_I) (d : Nat) : jc_I := if J (6, d, 0) 2 ≠ 0 then g_give J (J (6, d, 0) 2) else J
def g_fc (I : jc_I) (d : Nat) : jc_I := g_fin (g_par d (I (6, d, 0) 1).toNatClampNeg (I (6, d, 0) 1 - 1) I) d
def g_call (I : jc_I) (a : Int32) : jc_I := if 0 ≤ a ∧ a < I (1, 0, 0) 1 then g_fc I a.toNatClampNeg else g_dem I 0
def g_fol (I : jc_I) (c : Nat) (op a : Int32) : jc_I :=
  if op = 0 then g_give I 1 else if op = 1 ∨ op = 14 ∨ op = 25 then g_give I 2 else if op = 2 then g_take I (g_top I) else if op = 3 then g_give I (g_top I)
  else if op = 4 ∨ op = 5 ∨ op = 6 ∨ op = 7 ∨ op = 8 then g_give (g_take (g_take I 1) 1) 1 else if op = 9 then g_give I (g_lk I c a) else if op = 10 then g_take I (g_lk I c a)
  else if op = 11 then g_leave I a else if op = 12 then g_leave (g_take I 1) a else if op = 13 then g_leave (g_take I 2) a
  else if op = 15 ∨ op = 16 ∨ op = 17 ∨ op = 23 ∨ op = 24 then g_use I op else if op = 18 then g_call I a else if op = 19 ∨ op = 20 ∨ op = 21 ∨ op = 26 then g_take I 2
  else if op = 22 then g_ret I c else g_dem I 0
theorem jE_par {d : Nat} : ∀ (m : Nat) (i : Int32) (J : jc_I), jE J (g_par d m i J)
  | 0, _, _ => jE.rf
  | m + 1, i, J => jE_take.tr (jE_par m (i - 1) _)
theorem jE_fin {J : jc_I} {d : Nat} : jE J (g_fin J d) := jE.ite jE_give jE.rf
theorem jE_fc {J : jc_I} {d : Nat} : jE J (g_fc J d) := (jE_par _ _ _).tr jE_fin
theorem jE_call {J : jc_I} {a : Int32} : jE J (g_call J a) := jE.ite jE_fc jE_dem
theorem jE_fol {J : jc_I} {c : Nat} {op a : Int32} : jE J (g_fol J c op a) := by
  unfold g_fol
  exact jE.ite jE_give (jE.ite jE_give (jE.ite jE_take (jE.ite jE_give (jE.ite ((jE_take.tr jE_take).tr jE_give) (jE.ite jE_give (jE.ite jE_take (jE.ite jE_leave (jE.ite (jE_take.tr jE_leave) (jE.ite (jE_take.tr jE_leave) (jE.ite jE_use (jE.ite jE_call (jE.ite jE_take (jE.ite jE_ret jE_dem)))))))))))))
theorem g01_par {d : Nat} : ∀ (m : Nat) (i : Int32) (J : jc_I), g01 J → g01 (g_par d m i J)
  | 0, _, _, h => h
  | m + 1, i, _, h => g01_par m (i - 1) _ (g01_take h)
theorem g01_fol {J : jc_I} (h : g01 J) {c : Nat} {op a : Int32} : g01 (g_fol J c op a) := by
  unfold g_fol
  refine g01_ite (g01_give h) (g01_ite (g01_give h) (g01_ite (g01_take h) (g01_ite (g01_give h) (g01_ite (g01_give (g01_take (g01_take h))) (g01_ite (g01_give h) (g01_ite (g01_take h) (g01_ite g01_leave (g01_ite g01_leave (g01_ite g01_leave (g01_ite (g01_use h) (g01_ite ?_ (g01_ite (g01_take h) (g01_ite ?_ g01_dem)))))))))))))
  · unfold g_call g_fc g_fin
    exact g01_ite (g01_ite (g01_give (g01_par _ _ _ h)) (g01_par _ _ _ h)) g01_dem
  · exact g01_dem
theorem jsub0 {i : Int32} (h : 0 ≤ i) : (i - 1).toInt = i.toInt - 1 := by
  have h0 := jle.mp h
  have h3 := Int32.toInt_le i
  have h4 : Int32.maxValue.toInt = 2147483647 := by decide
  rw [j0I] at h0
  rw [Int32.toInt_sub, j1I]
  rw [Int.bmod_eq_of_le] <;> omega
theorem lp_G_followCall {O : jc_O} {live : jc_L → Prop} {d : Nat} (hG : jw_G O) (hC : jw_C O d) : ∀ (m : Nat) (i : Int32) (J : jc_I), jw_n J d → i.toInt + 1 = (m : Int) → jc_R y_G_followCall 17 [some (.inr (some (2, 0, 0))), some (.inr (some (6, d, 0))), some (.inl i)] [] J O live 0 0 (none, g_fin (g_par d m i J) d, O, live, 0, 0) := by
  intro m
  induction m with
  | zero =>
    intro i J hn hm
    have ez : i < 0 := by rw [jlt, j0I]; omega
    refine jr_iload_n d_G_followCall_17 rfl rfl ?_
    refine jr_if_lt (tgt := 36) d_G_followCall_18 (by decide) (fun c18 => ?_) (fun c18 => ?_)
    · skip
      refine jr_aload_n d_G_followCall_36 rfl rfl ?_
      refine jr_geti d_G_followCall_37 f_G_166 rfl ?_
      refine jr_if_eq (tgt := 51) d_G_followCall_40 (by decide) (fun c40 => ?_) (fun c40 => ?_)
      · skip
        exact jr_retX (v := none) d_G_followCall_51 (by first | exact Nat.le_refl _ | exact Nat.zero_le _ | (dsimp only; omega)) (by first | exact Nat.le_refl _ | exact Nat.zero_le _ | (dsimp only; omega)) (by first | with_reducible rfl | (dsimp only; (unfold g_par g_fin; (repeat (first | rw [if_pos (by grind)] | rw [if_neg (by grind)]))); done) | (exfalso; grind)) (by first | with_reducible rfl | (dsimp only; (unfold g_par g_fin; (repeat (first | rw [if_pos (by grind)] | rw [if_neg (by grind)]))); done) | (exfalso; grind)) (by first | with_reducible rfl | (dsimp only; (unfold g_par g_fin; (repeat (first | rw [if_pos (by grind)] | rw [if_neg (by grind)]))); done) | (exfalso; grind)) (by first | with_reducible rfl | (dsimp only; (unfold g_par g_fin; (repeat (first | rw [if_pos (by grind)] | rw [if_neg (by grind)]))); done) | (exfalso; grind))
      · skip
        refine jr_aload_n d_G_followCall_43 rfl rfl ?_
        refine jr_aload_n d_G_followCall_44 rfl rfl ?_
        refine jr_geti d_G_followCall_45 f_G_166 rfl ?_
        refine jv_V1v d_G_followCall_48 l_G_141 k_G_give ⟨Nat.le_of_ble_eq_true rfl, Nat.le_of_ble_eq_true rfl⟩ rfl rfl (Nat.le_of_ble_eq_true rfl) (ct_G_give hG) (by grind) (by grind) ?_
        exact jr_retX (v := none) d_G_followCall_51 (by first | exact Nat.le_refl _ | exact Nat.zero_le _ | (dsimp only; omega)) (by first | exact Nat.le_refl _ | exact Nat.zero_le _ | (dsimp only; omega)) (by first | with_reducible rfl | (dsimp only; (unfold g_par g_fin; (repeat (first | rw [if_pos (by grind)] | rw [if_neg (by grind)]))); done) | (exfalso; grind)) (by first | with_reducible rfl | (dsimp only; (unfold g_par g_fin; (repeat (first | rw [if_pos (by grind)] | rw [if_neg (by grind)]))); done) | (exfalso; grind)) (by first | with_reducible rfl | (dsimp only; (unfold g_par g_fin; (repeat (first | rw [if_pos (by grind)] | rw [if_neg (by grind)]))); done) | (exfalso; grind)) (by first | with_reducible rfl | (dsimp only; (unfold g_par g_fin; (repeat (first | rw [if_pos (by grind)] | rw [if_neg (by grind)]))); done) | (exfalso; grind))
    · skip
      exfalso; grind
  | succ m ih =>
    intro i J hn hm
    have hi0 : 0 ≤ i := by rw [jle, j0I]; omega
    refine jr_iload_n d_G_followCall_17 rfl rfl ?_
    refine jr_if_lt (tgt := 36) d_G_followCall_18 (by decide) (fun c18 => ?_) (fun c18 => ?_)
    · skip
      exfalso; clear ih; grind
    · skip
      refine jr_aload_n d_G_followCall_21 rfl rfl ?_
      refine jr_aload_n d_G_followCall_22 rfl rfl ?_
      refine jr_iload_n d_G_followCall_23 rfl rfl ?_
      refine jv_V1r d_G_followCall_24 l_G_151 k_C_localKind ⟨Nat.le_of_ble_eq_true rfl, Nat.le_of_ble_eq_true rfl⟩ rfl rfl (Nat.le_of_ble_eq_true rfl) (ct_C_localKind hC.1 hn.2.1) (by clear ih; grind) (by clear ih; grind) ?_
      refine jv_V1v d_G_followCall_27 l_G_148 k_G_take ⟨Nat.le_of_ble_eq_true rfl, Nat.le_of_ble_eq_true rfl⟩ rfl rfl (Nat.le_of_ble_eq_true rfl) (ct_G_take hG) (by clear ih; grind) (by clear ih; grind) ?_
      skip
      refine jr_iinc d_G_followCall_30 rfl jincm1 ?_
      refine jr_goto (tgt := 17) d_G_followCall_33 (by decide) ?_
      exact (by have e := ih (i - 1) (g_take J (g_lk J d i)) (jE_take.n hn) (by rw [jsub0 hi0]; omega); rw [g_par]; exact e)
theorem ct_G_followCall {I : jc_I} {O : jc_O} {live : jc_L → Prop} {d : Nat} (hG : jw_G O) (hC : jw_C O d) (hn : jw_n I d) (hp : 0 ≤ I (6, d, 0) 1) : jc_Ct y_G_followCall [.inr (some (2, 0, 0)), .inr (some (6, d, 0))] I O live (none, g_fc I d, O, live, 0, 0) := by
  refine jc_Ct.of (by decide +kernel) (rfl) (Nat.le_of_ble_eq_true rfl) ?_
  refine jr_aload_n d_G_followCall_0 rfl rfl ?_
  refine jr_ifnonnull (tgt := 10) d_G_followCall_1 (by decide) (fun q1 c1 => ?_) (fun c1 => by cases c1)
  refine jr_aload_n d_G_followCall_10 rfl rfl ?_
  refine jr_geti d_G_followCall_11 f_G_46 rfl ?_
  refine jr_iconst (v := 1) d_G_followCall_14 (by decide) ?_
  refine jr_isub d_G_followCall_15 ?_
  refine jr_istore_n d_G_followCall_16 rfl (Nat.le_of_ble_eq_true rfl) ?_
  exact lp_G_followCall hG hC _ _ _ hn (by rw [jsub0 hp, jNI hp]; omega)
theorem ct_G_followCallN {I : jc_I} {O : jc_O} {live : jc_L → Prop}   : jc_Ct y_G_followCall [.inr (some (2, 0, 0)), .inr none] I O live (none, g_dem I 0, O, live, 0, 0) := by
  refine jc_Ct.of (by decide +kernel) (rfl) (Nat.le_of_ble_eq_true rfl) ?_
  refine jr_aload_n d_G_followCall_0 rfl rfl ?_
  refine jr_ifnonnull (tgt := 10) d_G_followCall_1 (by decide) (fun q1 c1 => by cases c1) (fun c1 => ?_)
  refine jr_aload_n d_G_followCall_4 rfl rfl ?_
  refine jr_iconst (v := 0) d_G_followCall_5 (by decide) ?_
  refine jv_V1v d_G_followCall_6 l_G_137 k_G_demand ⟨Nat.le_of_ble_eq_true rfl, Nat.le_of_ble_eq_true rfl⟩ rfl rfl (Nat.le_of_ble_eq_true rfl) (ct_G_demand) (by grind) (by grind) ?_
  exact jr_retX (v := none) d_G_followCall_9 (by first | exact Nat.le_refl _ | exact Nat.zero_le _ | (dsimp only; omega)) (by first | exact Nat.le_refl _ | exact Nat.zero_le _ | (dsimp only; omega)) (by first | with_reducible rfl | (dsimp only; rfl; done) | (exfalso; grind)) (by first | with_reducible rfl | (dsimp only; rfl; done) | (exfalso; grind)) (by first | with_reducible rfl | (dsimp only; rfl; done) | (exfalso; grind)) (by first | with_reducible rfl | (dsimp only; rfl; done) | (exfalso; grind))
theorem ct_G_followCallO {I : jc_I} {O : jc_O} {live : jc_L → Prop} {a : Int32} (hG : jw_G O) (hA : jw_A I O) : jc_Ct y_G_followCall [.inr (some (2, 0, 0)), .inr (if 0 ≤ a ∧ a < I (1, 0, 0) 1 then O (24, 0, 0) a.toNatClampNeg else none)] I O live (none, g_call I a, O, live, 0, 0) := by
  by_cases h : 0 ≤ a ∧ a < I (1, 0, 0) 1
  · have h4 := hA.2.2.2 a.toNatClampNeg (jlN h.1 h.2)
    unfold g_call
    rw [if_pos h, if_pos h, h4.1]
    exact ct_G_followCall hG h4.2.1 h4.2.2.1 h4.2.2.2.2.2.1
  · unfold g_call
    rw [if_neg h, if_neg h]
    exact ct_G_followCallN
theorem ct_G_follow {I : jc_I} {O : jc_O} {live : jc_L → Prop} {c : Nat} {op a : Int32} (hG : jw_G O) (hA : jw_A I O) (hC : jw_C O c) (hn : jw_n I c) : jc_Ct y_G_follow [.inr (some (2, 0, 0)), .inr (some (6, c, 0)), .inl op, .inl a] I O live (none, g_fol I c op a, O, live, 0, 0) := by
  obtain ⟨hG0, hG1, hG2, hG3, hG4⟩ := id hG
  refine jc_Ct.of (by decide +kernel) (rfl) (Nat.le_of_ble_eq_true rfl) ?_
  refine jr_iload_n d_G_follow_0 rfl rfl ?_
  refine jr_name (fun x1 e1 => ?_)
  by_cases g1_0 : x1 = 0
  · refine jr_tableIn (tgt := 124) d_G_follow_1 (by rcases g1_0 with rfl <;> decide) (by rcases g1_0 with rfl <;> decide) (by rcases g1_0 with rfl <;> rfl) (by decide) ?_
    refine jr_aload_n d_G_follow_124 rfl rfl ?_
    refine jr_iconst (v := 1) d_G_follow_125 (by decide) ?_
    refine jv_V1v d_G_follow_126 l_G_141 k_G_give ⟨Nat.le_of_ble_eq_true rfl, Nat.le_of_ble_eq_true rfl⟩ rfl rfl (Nat.le_of_ble_eq_true rfl) (ct_G_give hG) (by grind) (by grind) ?_
    refine jr_goto (tgt := 282) d_G_follow_129 (by decide) ?_
    exact jr_retX (v := none) d_G_follow_282 (by first | exact Nat.le_refl _ | exact Nat.zero_le _ | (dsimp only; omega)) (by first | exact Nat.le_refl _ | exact Nat.zero_le _ | (dsimp only; omega)) (by first | with_reducible rfl | (dsimp only; (subst e1; unfold g_fol g_lk; (repeat (first | rw [if_pos (by grind)] | rw [if_neg (by grind)]))); done) | (exfalso; grind)) (by first | with_reducible rfl | (dsimp only; (subst e1; unfold g_fol g_lk; (repeat (first | rw [if_pos (by grind)] | rw [if_neg (by grind)]))); done) | (exfalso; grind)) (by first | with_reducible rfl | (dsimp only; (subst e1; unfold g_fol g_lk; (repeat (first | rw [if_pos (by grind)] | rw [if_neg (by grind)]))); done) | (exfalso; grind)) (by first | with_reducible rfl | (dsimp only; (subst e1; unfold g_fol g_lk; (repeat (first | rw [if_pos (by grind)] | rw [if_neg (by grind)]))); done) | (exfalso; grind))
  · skip
    by_cases g1_1 : x1 = 1 ∨ x1 = 14 ∨ x1 = 25
    · refine jr_tableIn (tgt := 132) d_G_follow_1 (by rcases g1_1 with rfl | rfl | rfl <;> decide) (by rcases g1_1 with rfl | rfl | rfl <;> decide) (by rcases g1_1 with rfl | rfl | rfl <;> rfl) (by decide) ?_
      refine jr_aload_n d_G_follow_132 rfl rfl ?_
      refine jr_iconst (v := 2) d_G_follow_133 (by decide) ?_
      refine jv_V1v d_G_follow_134 l_G_141 k_G_give ⟨Nat.le_of_ble_eq_true rfl, Nat.le_of_ble_eq_true rfl⟩ rfl rfl (Nat.le_of_ble_eq_true rfl) (ct_G_give hG) (by grind) (by grind) ?_
      refine jr_goto (tgt := 282) d_G_follow_137 (by decide) ?_
      exact jr_retX (v := none) d_G_follow_282 (by first | exact Nat.le_refl _ | exact Nat.zero_le _ | (dsimp only; omega)) (by first | exact Nat.le_refl _ | exact Nat.zero_le _ | (dsimp only; omega)) (by first | with_reducible rfl | (dsimp only; (subst e1; unfold g_fol g_lk; (repeat (first | rw [if_pos (by grind)] | rw [if_neg (by grind)]))); done) | (exfalso; grind)) (by first | with_reducible rfl | (dsimp only; (subst e1; unfold g_fol g_lk; (repeat (first | rw [if_pos (by grind)] | rw [if_neg (by grind)]))); done) | (exfalso; grind)) (by first | with_reducible rfl | (dsimp only; (subst e1; unfold g_fol g_lk; (repeat (first | rw [if_pos (by grind)] | rw [if_neg (by grind)]))); done) | (exfalso; grind)) (by first | with_reducible rfl | (dsimp only; (subst e1; unfold g_fol g_lk; (repeat (first | rw [if_pos (by grind)] | rw [if_neg (by grind)]))); done) | (exfalso; grind))
    · skip
      by_cases g1_2 : x1 = 2
      · refine jr_tableIn (tgt := 140) d_G_follow_1 (by rcases g1_2 with rfl <;> decide) (by rcases g1_2 with rfl <;> decide) (by rcases g1_2 with rfl <;> rfl) (by decide) ?_
        refine jr_aload_n d_G_follow_140 rfl rfl ?_
        refine jr_aload_n d_G_follow_141 rfl rfl ?_
        refine jv_V0r d_G_follow_142 l_G_145 k_G_topKind ⟨Nat.le_of_ble_eq_true rfl, Nat.le_of_ble_eq_true rfl⟩ rfl rfl (Nat.le_of_ble_eq_true rfl) (ct_G_topKind hG) (by grind) (by grind) ?_
        refine jv_V1v d_G_follow_145 l_G_148 k_G_take ⟨Nat.le_of_ble_eq_true rfl, Nat.le_of_ble_eq_true rfl⟩ rfl rfl (Nat.le_of_ble_eq_true rfl) (ct_G_take hG) (by grind) (by grind) ?_
        refine jr_goto (tgt := 282) d_G_follow_148 (by decide) ?_
        exact jr_retX (v := none) d_G_follow_282 (by first | exact Nat.le_refl _ | exact Nat.zero_le _ | (dsimp only; omega)) (by first | exact Nat.le_refl _ | exact Nat.zero_le _ | (dsimp only; omega)) (by first | with_reducible rfl | (dsimp only; (subst e1; unfold g_fol g_lk; (repeat (first | rw [if_pos (by grind)] | rw [if_neg (by grind)]))); done) | (exfalso; grind)) (by first | with_reducible rfl | (dsimp only; (subst e1; unfold g_fol g_lk; (repeat (first | rw [if_pos (by grind)] | rw [if_neg (by grind)]))); done) | (exfalso; grind)) (by first | with_reducible rfl | (dsimp only; (subst e1; unfold g_fol g_lk; (repeat (first | rw [if_pos (by grind)] | rw [if_neg (by grind)]))); done) | (exfalso; grind)) (by first | with_reducible rfl | (dsimp only; (subst e1; unfold g_fol g_lk; (repeat (first | rw [if_pos (by grind)] | rw [if_neg (by grind)]))); done) | (exfalso; grind))
      · skip
        by_cases g1_3 : x1 = 3
        · refine jr_tableIn (tgt := 151) d_G_follow_1 (by rcases g1_3 with rfl <;> decide) (by rcases g1_3 with rfl <;> decide) (by rcases g1_3 with rfl <;> rfl) (by decide) ?_
          refine jr_aload_n d_G_follow_151 rfl rfl ?_
          refine jr_aload_n d_G_follow_152 rfl rfl ?_
          refine jv_V0r d_G_follow_153 l_G_145 k_G_topKind ⟨Nat.le_of_ble_eq_true rfl, Nat.le_of_ble_eq_true rfl⟩ rfl rfl (Nat.le_of_ble_eq_true rfl) (ct_G_topKind hG) (by grind) (by grind) ?_
          refine jv_V1v d_G_follow_156 l_G_141 k_G_give ⟨Nat.le_of_ble_eq_true rfl, Nat.le_of_ble_eq_true rfl⟩ rfl rfl (Nat.le_of_ble_eq_true rfl) (ct_G_give hG) (by grind) (by grind) ?_
          refine jr_goto (tgt := 282) d_G_follow_159 (by decide) ?_
          exact jr_retX (v := none) d_G_follow_282 (by first | exact Nat.le_refl _ | exact Nat.zero_le _ | (dsimp only; omega)) (by first | exact Nat.le_refl _ | exact Nat.zero_le _ | (dsimp only; omega)) (by first | with_reducible rfl | (dsimp only; (subst e1; unfold g_fol g_lk; (repeat (first | rw [if_pos (by grind)] | rw [if_neg (by grind)]))); done) | (exfalso; grind)) (by first | with_reducible rfl | (dsimp only; (subst e1; unfold g_fol g_lk; (repeat (first | rw [if_pos (by grind)] | rw [if_neg (by grind)]))); done) | (exfalso; grind)) (by first | with_reducible rfl | (dsimp only; (subst e1; unfold g_fol g_lk; (repeat (first | rw [if_pos (by grind)] | rw [if_neg (by grind)]))); done) | (exfalso; grind)) (by first | with_reducible rfl | (dsimp only; (subst e1; unfold g_fol g_lk; (repeat (first | rw [if_pos (by grind)] | rw [if_neg (by grind)]))); done) | (exfalso; grind))
        · skip
          by_cases g1_4 : x1 = 4 ∨ x1 = 5 ∨ x1 = 6 ∨ x1 = 7 ∨ x1 = 8
          · refine jr_tableIn (tgt := 162) d_G_follow_1 (by rcases g1_4 with rfl | rfl | rfl | rfl | rfl <;> decide) (by rcases g1_4 with rfl | rfl | rfl | rfl | rfl <;> decide) (by rcases g1_4 with rfl | rfl | rfl | rfl | rfl <;> rfl) (by decide) ?_
            refine jr_aload_n d_G_follow_162 rfl rfl ?_
            refine jr_iconst (v := 1) d_G_follow_163 (by decide) ?_
            refine jv_V1v d_G_follow_164 l_G_148 k_G_take ⟨Nat.le_of_ble_eq_true rfl, Nat.le_of_ble_eq_true rfl⟩ rfl rfl (Nat.le_of_ble_eq_true rfl) (ct_G_take hG) (by grind) (by grind) ?_
            refine jr_aload_n d_G_follow_167 rfl rfl ?_
            refine jr_iconst (v := 1) d_G_follow_168 (by decide) ?_
            refine jv_V1v d_G_follow_169 l_G_148 k_G_take ⟨Nat.le_of_ble_eq_true rfl, Nat.le_of_ble_eq_true rfl⟩ rfl rfl (Nat.le_of_ble_eq_true rfl) (ct_G_take hG) (by grind) (by grind) ?_
            refine jr_aload_n d_G_follow_172 rfl rfl ?_
            refine jr_iconst (v := 1) d_G_follow_173 (by decide) ?_
            refine jv_V1v d_G_follow_174 l_G_141 k_G_give ⟨Nat.le_of_ble_eq_true rfl, Nat.le_of_ble_eq_true rfl⟩ rfl rfl (Nat.le_of_ble_eq_true rfl) (ct_G_give hG) (by grind) (by grind) ?_
            refine jr_goto (tgt := 282) d_G_follow_177 (by decide) ?_
            exact jr_retX (v := none) d_G_follow_282 (by first | exact Nat.le_refl _ | exact Nat.zero_le _ | (dsimp only; omega)) (by first | exact Nat.le_refl _ | exact Nat.zero_le _ | (dsimp only; omega)) (by first | with_reducible rfl | (dsimp only; (subst e1; unfold g_fol g_lk; (repeat (first | rw [if_pos (by grind)] | rw [if_neg (by grind)]))); done) | (exfalso; grind)) (by first | with_reducible rfl | (dsimp only; (subst e1; unfold g_fol g_lk; (repeat (first | rw [if_pos (by grind)] | rw [if_neg (by grind)]))); done) | (exfalso; grind)) (by first | with_reducible rfl | (dsimp only; (subst e1; unfold g_fol g_lk; (repeat (first | rw [if_pos (by grind)] | rw [if_neg (by grind)]))); done) | (exfalso; grind)) (by first | with_reducible rfl | (dsimp only; (subst e1; unfold g_fol g_lk; (repeat (first | rw [if_pos (by grind)] | rw [if_neg (by grind)]))); done) | (exfalso; grind))
          · skip
            by_cases g1_9 : x1 = 9
            · refine jr_tableIn (tgt := 180) d_G_follow_1 (by rcases g1_9 with rfl <;> decide) (by rcases g1_9 with rfl <;> decide) (by rcases g1_9 with rfl <;> rfl) (by decide) ?_
              refine jr_aload_n d_G_follow_180 rfl rfl ?_
              refine jr_aload_n d_G_follow_181 rfl rfl ?_
              refine jr_iload_n d_G_follow_182 rfl rfl ?_
              refine jv_V1r d_G_follow_183 l_G_151 k_C_localKind ⟨Nat.le_of_ble_eq_true rfl, Nat.le_of_ble_eq_true rfl⟩ rfl rfl (Nat.le_of_ble_eq_true rfl) (ct_C_localKind hC.1 hn.2.1) (by grind) (by grind) ?_
              refine jv_V1v d_G_follow_186 l_G_141 k_G_give ⟨Nat.le_of_ble_eq_true rfl, Nat.le_of_ble_eq_true rfl⟩ rfl rfl (Nat.le_of_ble_eq_true rfl) (ct_G_give hG) (by grind) (by grind) ?_
              refine jr_goto (tgt := 282) d_G_follow_189 (by decide) ?_
              exact jr_retX (v := none) d_G_follow_282 (by first | exact Nat.le_refl _ | exact Nat.zero_le _ | (dsimp only; omega)) (by first | exact Nat.le_refl _ | exact Nat.zero_le _ | (dsimp only; omega)) (by first | with_reducible rfl | (dsimp only; (subst e1; unfold g_fol g_lk; (repeat (first | rw [if_pos (by grind)] | rw [if_neg (by grind)]))); done) | (exfalso; grind)) (by first | with_reducible rfl | (dsimp only; (subst e1; unfold g_fol g_lk; (repeat (first | rw [if_pos (by grind)] | rw [if_neg (by grind)]))); done) | (exfalso; grind)) (by first | with_reducible rfl | (dsimp only; (subst e1; unfold g_fol g_lk; (repeat (first | rw [if_pos (by grind)] | rw [if_neg (by grind)]))); done) | (exfalso; grind)) (by first | with_reducible rfl | (dsimp only; (subst e1; unfold g_fol g_lk; (repeat (first | rw [if_pos (by grind)] | rw [if_neg (by grind)]))); done) | (exfalso; grind))
            · skip
              by_cases g1_10 : x1 = 10
              · refine jr_tableIn (tgt := 192) d_G_follow_1 (by rcases g1_10 with rfl <;> decide) (by rcases g1_10 with rfl <;> decide) (by rcases g1_10 with rfl <;> rfl) (by decide) ?_
                refine jr_aload_n d_G_follow_192 rfl rfl ?_
                refine jr_aload_n d_G_follow_193 rfl rfl ?_
                refine jr_iload_n d_G_follow_194 rfl rfl ?_
                refine jv_V1r d_G_follow_195 l_G_151 k_C_localKind ⟨Nat.le_of_ble_eq_true rfl, Nat.le_of_ble_eq_true rfl⟩ rfl rfl (Nat.le_of_ble_eq_true rfl) (ct_C_localKind hC.1 hn.2.1) (by grind) (by grind) ?_
                refine jv_V1v d_G_follow_198 l_G_148 k_G_take ⟨Nat.le_of_ble_eq_true rfl, Nat.le_of_ble_eq_true rfl⟩ rfl rfl (Nat.le_of_ble_eq_true rfl) (ct_G_take hG) (by grind) (by grind) ?_
                refine jr_goto (tgt := 282) d_G_follow_201 (by decide) ?_
                exact jr_retX (v := none) d_G_follow_282 (by first | exact Nat.le_refl _ | exact Nat.zero_le _ | (dsimp only; omega)) (by first | exact Nat.le_refl _ | exact Nat.zero_le _ | (dsimp only; omega)) (by first | with_reducible rfl | (dsimp only; (subst e1; unfold g_fol g_lk; (repeat (first | rw [if_pos (by grind)] | rw [if_neg (by grind)]))); done) | (exfalso; grind)) (by first | with_reducible rfl | (dsimp only; (subst e1; unfold g_fol g_lk; (repeat (first | rw [if_pos (by grind)] | rw [if_neg (by grind)]))); done) | (exfalso; grind)) (by first | with_reducible rfl | (dsimp only; (subst e1; unfold g_fol g_lk; (repeat (first | rw [if_pos (by grind)] | rw [if_neg (by grind)]))); done) | (exfalso; grind)) (by first | with_reducible rfl | (dsimp only; (subst e1; unfold g_fol g_lk; (repeat (first | rw [if_pos (by grind)] | rw [if_neg (by grind)]))); done) | (exfalso; grind))
              · skip
                by_cases g1_11 : x1 = 11
                · refine jr_tableIn (tgt := 204) d_G_follow_1 (by rcases g1_11 with rfl <;> decide) (by rcases g1_11 with rfl <;> decide) (by rcases g1_11 with rfl <;> rfl) (by decide) ?_
                  refine jr_aload_n d_G_follow_204 rfl rfl ?_
                  refine jr_iload_n d_G_follow_205 rfl rfl ?_
                  refine jv_V1v d_G_follow_206 l_G_154 k_G_leaveFor ⟨Nat.le_of_ble_eq_true rfl, Nat.le_of_ble_eq_true rfl⟩ rfl rfl (Nat.le_of_ble_eq_true rfl) (ct_G_leaveFor hG) (by grind) (by grind) ?_
                  refine jr_goto (tgt := 282) d_G_follow_209 (by decide) ?_
                  exact jr_retX (v := none) d_G_follow_282 (by first | exact Nat.le_refl _ | exact Nat.zero_le _ | (dsimp only; omega)) (by first | exact Nat.le_refl _ | exact Nat.zero_le _ | (dsimp only; omega)) (by first | with_reducible rfl | (dsimp only; (subst e1; unfold g_fol g_lk; (repeat (first | rw [if_pos (by grind)] | rw [if_neg (by grind)]))); done) | (exfalso; grind)) (by first | with_reducible rfl | (dsimp only; (subst e1; unfold g_fol g_lk; (repeat (first | rw [if_pos (by grind)] | rw [if_neg (by grind)]))); done) | (exfalso; grind)) (by first | with_reducible rfl | (dsimp only; (subst e1; unfold g_fol g_lk; (repeat (first | rw [if_pos (by grind)] | rw [if_neg (by grind)]))); done) | (exfalso; grind)) (by first | with_reducible rfl | (dsimp only; (subst e1; unfold g_fol g_lk; (repeat (first | rw [if_pos (by grind)] | rw [if_neg (by grind)]))); done) | (exfalso; grind))
                · skip
                  by_cases g1_12 : x1 = 12
                  · refine jr_tableIn (tgt := 212) d_G_follow_1 (by rcases g1_12 with rfl <;> decide) (by rcases g1_12 with rfl <;> decide) (by rcases g1_12 with rfl <;> rfl) (by decide) ?_
                    refine jr_aload_n d_G_follow_212 rfl rfl ?_
                    refine jr_iconst (v := 1) d_G_follow_213 (by decide) ?_
                    refine jv_V1v d_G_follow_214 l_G_148 k_G_take ⟨Nat.le_of_ble_eq_true rfl, Nat.le_of_ble_eq_true rfl⟩ rfl rfl (Nat.le_of_ble_eq_true rfl) (ct_G_take hG) (by grind) (by grind) ?_
                    refine jr_aload_n d_G_follow_217 rfl rfl ?_
                    refine jr_iload_n d_G_follow_218 rfl rfl ?_
                    refine jv_V1v d_G_follow_219 l_G_154 k_G_leaveFor ⟨Nat.le_of_ble_eq_true rfl, Nat.le_of_ble_eq_true rfl⟩ rfl rfl (Nat.le_of_ble_eq_true rfl) (ct_G_leaveFor hG) (by grind) (by grind) ?_
                    refine jr_goto (tgt := 282) d_G_follow_222 (by decide) ?_
                    exact jr_retX (v := none) d_G_follow_282 (by first | exact Nat.le_refl _ | exact Nat.zero_le _ | (dsimp only; omega)) (by first | exact Nat.le_refl _ | exact Nat.zero_le _ | (dsimp only; omega)) (by first | with_reducible rfl | (dsimp only; (subst e1; unfold g_fol g_lk; (repeat (first | rw [if_pos (by grind)] | rw [if_neg (by grind)]))); done) | (exfalso; grind)) (by first | with_reducible rfl | (dsimp only; (subst e1; unfold g_fol g_lk; (repeat (first | rw [if_pos (by grind)] | rw [if_neg (by grind)]))); done) | (exfalso; grind)) (by first | with_reducible rfl | (dsimp only; (subst e1; unfold g_fol g_lk; (repeat (first | rw [if_pos (by grind)] | rw [if_neg (by grind)]))); done) | (exfalso; grind)) (by first | with_reducible rfl | (dsimp only; (subst e1; unfold g_fol g_lk; (repeat (first | rw [if_pos (by grind)] | rw [if_neg (by grind)]))); done) | (exfalso; grind))
                  · skip
                    by_cases g1_13 : x1 = 13
                    · refine jr_tableIn (tgt := 225) d_G_follow_1 (by rcases g1_13 with rfl <;> decide) (by rcases g1_13 with rfl <;> decide) (by rcases g1_13 with rfl <;> rfl) (by decide) ?_
                      refine jr_aload_n d_G_follow_225 rfl rfl ?_
                      refine jr_iconst (v := 2) d_G_follow_226 (by decide) ?_
                      refine jv_V1v d_G_follow_227 l_G_148 k_G_take ⟨Nat.le_of_ble_eq_true rfl, Nat.le_of_ble_eq_true rfl⟩ rfl rfl (Nat.le_of_ble_eq_true rfl) (ct_G_take hG) (by grind) (by grind) ?_
                      refine jr_aload_n d_G_follow_230 rfl rfl ?_
                      refine jr_iload_n d_G_follow_231 rfl rfl ?_
                      refine jv_V1v d_G_follow_232 l_G_154 k_G_leaveFor ⟨Nat.le_of_ble_eq_true rfl, Nat.le_of_ble_eq_true rfl⟩ rfl rfl (Nat.le_of_ble_eq_true rfl) (ct_G_leaveFor hG) (by grind) (by grind) ?_
                      refine jr_goto (tgt := 282) d_G_follow_235 (by decide) ?_
                      exact jr_retX (v := none) d_G_follow_282 (by first | exact Nat.le_refl _ | exact Nat.zero_le _ | (dsimp only; omega)) (by first | exact Nat.le_refl _ | exact Nat.zero_le _ | (dsimp only; omega)) (by first | with_reducible rfl | (dsimp only; (subst e1; unfold g_fol g_lk; (repeat (first | rw [if_pos (by grind)] | rw [if_neg (by grind)]))); done) | (exfalso; grind)) (by first | with_reducible rfl | (dsimp only; (subst e1; unfold g_fol g_lk; (repeat (first | rw [if_pos (by grind)] | rw [if_neg (by grind)]))); done) | (exfalso; grind)) (by first | with_reducible rfl | (dsimp only; (subst e1; unfold g_fol g_lk; (repeat (first | rw [if_pos (by grind)] | rw [if_neg (by grind)]))); done) | (exfalso; grind)) (by first | with_reducible rfl | (dsimp only; (subst e1; unfold g_fol g_lk; (repeat (first | rw [if_pos (by grind)] | rw [if_neg (by grind)]))); done) | (exfalso; grind))
                    · skip
                      by_cases g1_15 : x1 = 15 ∨ x1 = 16 ∨ x1 = 17 ∨ x1 = 23 ∨ x1 = 24
                      · refine jr_tableIn (tgt := 246) d_G_follow_1 (by rcases g1_15 with rfl | rfl | rfl | rfl | rfl <;> decide) (by rcases g1_15 with rfl | rfl | rfl | rfl | rfl <;> decide) (by rcases g1_15 with rfl | rfl | rfl | rfl | rfl <;> rfl) (by decide) ?_
                        refine jr_aload_n d_G_follow_246 rfl rfl ?_
                        refine jr_iload_n d_G_follow_247 rfl rfl ?_
                        refine jv_V1v d_G_follow_248 l_G_157 k_G_followUse ⟨Nat.le_of_ble_eq_true rfl, Nat.le_of_ble_eq_true rfl⟩ rfl rfl (Nat.le_of_ble_eq_true rfl) (ct_G_followUse hG) (by grind) (by grind) ?_
                        refine jr_goto (tgt := 282) d_G_follow_251 (by decide) ?_
                        exact jr_retX (v := none) d_G_follow_282 (by first | exact Nat.le_refl _ | exact Nat.zero_le _ | (dsimp only; omega)) (by first | exact Nat.le_refl _ | exact Nat.zero_le _ | (dsimp only; omega)) (by first | with_reducible rfl | (dsimp only; (subst e1; unfold g_fol g_lk; (repeat (first | rw [if_pos (by grind)] | rw [if_neg (by grind)]))); done) | (exfalso; grind)) (by first | with_reducible rfl | (dsimp only; (subst e1; unfold g_fol g_lk; (repeat (first | rw [if_pos (by grind)] | rw [if_neg (by grind)]))); done) | (exfalso; grind)) (by first | with_reducible rfl | (dsimp only; (subst e1; unfold g_fol g_lk; (repeat (first | rw [if_pos (by grind)] | rw [if_neg (by grind)]))); done) | (exfalso; grind)) (by first | with_reducible rfl | (dsimp only; (subst e1; unfold g_fol g_lk; (repeat (first | rw [if_pos (by grind)] | rw [if_neg (by grind)]))); done) | (exfalso; grind))
                      · skip
                        by_cases g1_18 : x1 = 18
                        · refine jr_tableIn (tgt := 254) d_G_follow_1 (by rcases g1_18 with rfl <;> decide) (by rcases g1_18 with rfl <;> decide) (by rcases g1_18 with rfl <;> rfl) (by decide) ?_
                          refine jr_aload_n d_G_follow_254 rfl rfl ?_
                          refine jr_aload_n d_G_follow_255 rfl rfl ?_
                          refine jr_getr d_G_follow_256 f_G_25 rfl rfl ?_
                          first | rw [hG0] | skip
                          refine jr_iload_n d_G_follow_259 rfl rfl ?_
                          refine jv_V1r d_G_follow_260 l_G_85 k_Cs_find ⟨Nat.le_of_ble_eq_true rfl, Nat.le_of_ble_eq_true rfl⟩ rfl rfl (Nat.le_of_ble_eq_true rfl) (ct_Cs_find hA.1 hA.2.2.1) (by grind) (by grind) ?_
                          first | rw [hG0] | skip
                          refine jv_V1v d_G_follow_263 l_G_160 k_G_followCall ⟨Nat.le_of_ble_eq_true rfl, Nat.le_of_ble_eq_true rfl⟩ rfl rfl (Nat.le_of_ble_eq_true rfl) (ct_G_followCallO hG hA) (by grind) (by grind) ?_
                          refine jr_goto (tgt := 282) d_G_follow_266 (by decide) ?_
                          exact jr_retX (v := none) d_G_follow_282 (by first | exact Nat.le_refl _ | exact Nat.zero_le _ | (dsimp only; omega)) (by first | exact Nat.le_refl _ | exact Nat.zero_le _ | (dsimp only; omega)) (by first | with_reducible rfl | (dsimp only; (subst e1; unfold g_fol g_lk; (repeat (first | rw [if_pos (by grind)] | rw [if_neg (by grind)]))); done) | (exfalso; grind)) (by first | with_reducible rfl | (dsimp only; (subst e1; unfold g_fol g_lk; (repeat (first | rw [if_pos (by grind)] | rw [if_neg (by grind)]))); done) | (exfalso; grind)) (by first | with_reducible rfl | (dsimp only; (subst e1; unfold g_fol g_lk; (repeat (first | rw [if_pos (by grind)] | rw [if_neg (by grind)]))); done) | (exfalso; grind)) (by first | with_reducible rfl | (dsimp only; (subst e1; unfold g_fol g_lk; (repeat (first | rw [if_pos (by grind)] | rw [if_neg (by grind)]))); done) | (exfalso; grind))
                        · skip
                          by_cases g1_19 : x1 = 19 ∨ x1 = 20 ∨ x1 = 21 ∨ x1 = 26
                          · refine jr_tableIn (tgt := 238) d_G_follow_1 (by rcases g1_19 with rfl | rfl | rfl | rfl <;> decide) (by rcases g1_19 with rfl | rfl | rfl | rfl <;> decide) (by rcases g1_19 with rfl | rfl | rfl | rfl <;> rfl) (by decide) ?_
                            refine jr_aload_n d_G_follow_238 rfl rfl ?_
                            refine jr_iconst (v := 2) d_G_follow_239 (by decide) ?_
                            refine jv_V1v d_G_follow_240 l_G_148 k_G_take ⟨Nat.le_of_ble_eq_true rfl, Nat.le_of_ble_eq_true rfl⟩ rfl rfl (Nat.le_of_ble_eq_true rfl) (ct_G_take hG) (by grind) (by grind) ?_
                            refine jr_goto (tgt := 282) d_G_follow_243 (by decide) ?_
                            exact jr_retX (v := none) d_G_follow_282 (by first | exact Nat.le_refl _ | exact Nat.zero_le _ | (dsimp only; omega)) (by first | exact Nat.le_refl _ | exact Nat.zero_le _ | (dsimp only; omega)) (by first | with_reducible rfl | (dsimp only; (subst e1; unfold g_fol g_lk; (repeat (first | rw [if_pos (by grind)] | rw [if_neg (by grind)]))); done) | (exfalso; grind)) (by first | with_reducible rfl | (dsimp only; (subst e1; unfold g_fol g_lk; (repeat (first | rw [if_pos (by grind)] | rw [if_neg (by grind)]))); done) | (exfalso; grind)) (by first | with_reducible rfl | (dsimp only; (subst e1; unfold g_fol g_lk; (repeat (first | rw [if_pos (by grind)] | rw [if_neg (by grind)]))); done) | (exfalso; grind)) (by first | with_reducible rfl | (dsimp only; (subst e1; unfold g_fol g_lk; (repeat (first | rw [if_pos (by grind)] | rw [if_neg (by grind)]))); done) | (exfalso; grind))
                          · skip
                            by_cases g1_22 : x1 = 22
                            · refine jr_tableIn (tgt := 269) d_G_follow_1 (by rcases g1_22 with rfl <;> decide) (by rcases g1_22 with rfl <;> decide) (by rcases g1_22 with rfl <;> rfl) (by decide) ?_
                              refine jr_aload_n d_G_follow_269 rfl rfl ?_
                              refine jr_aload_n d_G_follow_270 rfl rfl ?_
                              refine jv_V1v d_G_follow_271 l_G_163 k_G_followReturn ⟨Nat.le_of_ble_eq_true rfl, Nat.le_of_ble_eq_true rfl⟩ rfl rfl (Nat.le_of_ble_eq_true rfl) (ct_G_followReturn hG) (by grind) (by grind) ?_
                              refine jr_goto (tgt := 282) d_G_follow_274 (by decide) ?_
                              exact jr_retX (v := none) d_G_follow_282 (by first | exact Nat.le_refl _ | exact Nat.zero_le _ | (dsimp only; omega)) (by first | exact Nat.le_refl _ | exact Nat.zero_le _ | (dsimp only; omega)) (by first | with_reducible rfl | (dsimp only; (subst e1; unfold g_fol g_lk; (repeat (first | rw [if_pos (by grind)] | rw [if_neg (by grind)]))); done) | (exfalso; grind)) (by first | with_reducible rfl | (dsimp only; (subst e1; unfold g_fol g_lk; (repeat (first | rw [if_pos (by grind)] | rw [if_neg (by grind)]))); done) | (exfalso; grind)) (by first | with_reducible rfl | (dsimp only; (subst e1; unfold g_fol g_lk; (repeat (first | rw [if_pos (by grind)] | rw [if_neg (by grind)]))); done) | (exfalso; grind)) (by first | with_reducible rfl | (dsimp only; (subst e1; unfold g_fol g_lk; (repeat (first | rw [if_pos (by grind)] | rw [if_neg (by grind)]))); done) | (exfalso; grind))
                            · skip
                              refine jr_tableE (tgt := 277) d_G_follow_1 (by rcases j_0_26 x1 with h | h | rfl | rfl | rfl | rfl | rfl | rfl | rfl | rfl | rfl | rfl | rfl | rfl | rfl | rfl | rfl | rfl | rfl | rfl | rfl | rfl | rfl | rfl | rfl | rfl | rfl | rfl | rfl <;> first | exact Or.inl ⟨Or.inl (Int32.lt_iff_toInt_lt.mp h), by decide⟩ | exact Or.inl ⟨Or.inr (Int32.lt_iff_toInt_lt.mp h), by decide⟩ | exact Or.inr ⟨by decide, by decide, _, rfl, by decide⟩ | (exfalso; grind)) ?_
                              refine jr_aload_n d_G_follow_277 rfl rfl ?_
                              refine jr_iconst (v := 0) d_G_follow_278 (by decide) ?_
                              refine jv_V1v d_G_follow_279 l_G_137 k_G_demand ⟨Nat.le_of_ble_eq_true rfl, Nat.le_of_ble_eq_true rfl⟩ rfl rfl (Nat.le_of_ble_eq_true rfl) (ct_G_demand) (by grind) (by grind) ?_
                              exact jr_retX (v := none) d_G_follow_282 (by first | exact Nat.le_refl _ | exact Nat.zero_le _ | (dsimp only; omega)) (by first | exact Nat.le_refl _ | exact Nat.zero_le _ | (dsimp only; omega)) (by first | with_reducible rfl | (dsimp only; (subst e1; unfold g_fol g_lk; (repeat (first | rw [if_pos (by grind)] | rw [if_neg (by grind)]))); done) | (exfalso; grind)) (by first | with_reducible rfl | (dsimp only; (subst e1; unfold g_fol g_lk; (repeat (first | rw [if_pos (by grind)] | rw [if_neg (by grind)]))); done) | (exfalso; grind)) (by first | with_reducible rfl | (dsimp only; (subst e1; unfold g_fol g_lk; (repeat (first | rw [if_pos (by grind)] | rw [if_neg (by grind)]))); done) | (exfalso; grind)) (by first | with_reducible rfl | (dsimp only; (subst e1; unfold g_fol g_lk; (repeat (first | rw [if_pos (by grind)] | rw [if_neg (by grind)]))); done) | (exfalso; grind))
