/-- the code numbered c is there -/
def jw_in (I : jc_I) (c : Nat) : Prop := (c : Int) < (I (1, 0, 0) 1).toInt
theorem jE.i {I J : jc_I} (h : jE I J) {c : Nat} (hi : jw_in I c) : jw_in J c := by
  unfold jw_in at *
  rw [h (1, 0, 0) 1 (by simp) (by simp)]
  exact hi
def g_b (J : jc_I) (c : Nat) (i : Int32) : Int32 := if i = 0 ∨ ¬ (J (21, c, 0) (i - 1).toNatClampNeg = 11 ∨ J (21, c, 0) (i - 1).toNatClampNeg = 19 ∨ J (21, c, 0) (i - 1).toNatClampNeg = 22) then 1 else 0
def g_st (J : jc_I) (c : Nat) (i : Int32) : jc_I := (fun K => g_fol K c (K (21, c, 0) i.toNatClampNeg) (K (22, c, 0) i.toNatClampNeg)) (g_arr J i (g_b J c i))
def g_lp (c : Nat) : Nat → Int32 → jc_I → jc_I
  | 0, _, J => J
  | m + 1, i, J => if J (2, 0, 0) 7 = 0 then J else g_lp c m (i + 1) (g_st J c i)
def g_g0 (I : jc_I) (c : Nat) : Int32 := if 0 < I (6, c, 0) 8 ∧ (I (21, c, 0) (I (6, c, 0) 8 - 1).toNatClampNeg = 11 ∨ I (21, c, 0) (I (6, c, 0) 8 - 1).toNatClampNeg = 19 ∨ I (21, c, 0) (I (6, c, 0) 8 - 1).toNatClampNeg = 22) ∧ I (6, c, 0) 1 ≤ I (6, c, 0) 7 ∧ g_njp I c (I (6, c, 0) 8).toNatClampNeg 0 ≠ 0 ∧ g_nrp I c (I (6, c, 0) 9).toNatClampNeg 0 ≠ 0 then 1 else 0
def g_good (I : jc_I) (c : Nat) : jc_I := if g_g0 I c = 0 then jc_up I (2, 0, 0) 7 0 else g_lp c (I (6, c, 0) 8).toNatClampNeg 0 (jc_up (g_marks (jc_up I (2, 0, 0) 7 1) c) (2, 0, 0) 6 0)
theorem jE_st {J : jc_I} {c : Nat} {i : Int32} : jE J (g_st J c i) := jE_arr.tr jE_fol
theorem g01_st {J : jc_I} {c : Nat} {i : Int32} : g01 (g_st J c i) := g01_fol g01_arr
theorem jE_lp {c : Nat} : ∀ (m : Nat) (i : Int32) (J : jc_I), jE J (g_lp c m i J)
  | 0, _, _ => jE.rf
  | m + 1, i, J => jE.ite jE.rf (jE_st.tr (jE_lp m (i + 1) _))
theorem g01_lp {c : Nat} : ∀ (m : Nat) (i : Int32) (J : jc_I), g01 J → g01 (g_lp c m i J)
  | 0, _, _, h => h
  | m + 1, i, _, h => g01_ite h (g01_lp m (i + 1) _ g01_st)
theorem jE_good {I : jc_I} {c : Nat} : jE I (g_good I c) := jE.ite (jE.up (Or.inl rfl)) ((((jE.up (Or.inl rfl)).tr jE_marks).tr (jE.up (Or.inl rfl))).tr (jE_lp _ _ _))
theorem g_m1_ne {c : Nat} {q : jc_L} {k : Nat} (h : Nat.beq q.1 25 = false) : ∀ (m r : Nat) (J : jc_I), g_m1 c m r J q k = J q k
  | 0, _, _ => rfl
  | m + 1, r, J => by
    rw [g_m1, g_m1_ne h]
    split
    · exact g_mark_ne h
    · rfl
theorem g_m2_ne {c : Nat} {q : jc_L} {k : Nat} (h : Nat.beq q.1 25 = false) : ∀ (m r : Nat) (J : jc_I), g_m2 c m r J q k = J q k
  | 0, _, _ => rfl
  | m + 1, r, J => by rw [g_m2, g_m2_ne h, g_mark_ne h, g_mark_ne h, g_mark_ne h]
theorem g_marks_ne {I : jc_I} {c : Nat} {q : jc_L} {k : Nat} (h : Nat.beq q.1 25 = false) : g_marks I c q k = I q k := by
  unfold g_marks
  rw [g_m2_ne h, g_m1_ne h]
  exact if_neg (fun e => by rw [e.1] at h; cases h)
theorem g01_good {I : jc_I} {c : Nat} : g01 (g_good I c) := by
  unfold g_good
  refine g01_ite (Or.inl (jc_up_s _ _ _ _)) (g01_lp _ _ _ (g01_up ?_ (Or.inl (by decide))))
  unfold g01
  rw [g_marks_ne rfl, jc_up_s]
  exact Or.inr rfl
theorem lp_G_isGood {O : jc_O} {live : jc_L → Prop} {c : Nat} (hG : jw_G O) : ∀ (m : Nat) (i : Int32) (J : jc_I), jw_A J O → jw_in J c → g01 J → 0 ≤ i → (J (6, c, 0) 8).toInt - i.toInt = (m : Int) → jc_R y_G_isGood 80 [some (.inr (some (2, 0, 0))), some (.inr (some (6, c, 0))), some (.inl i)] [] J O live 0 0 (some (.inl (g_lp c m i J (2, 0, 0) 7)), g_lp c m i J, O, live, 0, 0) := by
  intro m
  induction m with
  | zero =>
    intro i J hA hin h01 hi0 hm
    have ez := jf0 hm
    refine jr_iload_n d_G_isGood_80 rfl rfl ?_
    refine jr_aload_n d_G_isGood_81 rfl rfl ?_
    refine jv_V0r d_G_isGood_82 l_G_29 k_C_size ⟨Nat.le_of_ble_eq_true rfl, Nat.le_of_ble_eq_true rfl⟩ rfl rfl (Nat.le_of_ble_eq_true rfl) (ct_C_size) (by grind) (by grind) ?_
    refine jr_icmp_ge (tgt := 143) d_G_isGood_85 (by decide) (fun c85 => ?_) (fun c85 => ?_)
    · skip
      refine jr_aload_n d_G_isGood_143 rfl rfl ?_
      refine jr_getz d_G_isGood_144 f_G_57 rfl ?_
      exact jr_retX (v := some _) d_G_isGood_147 (by first | exact Nat.le_refl _ | exact Nat.zero_le _ | (dsimp only; omega)) (by first | exact Nat.le_refl _ | exact Nat.zero_le _ | (dsimp only; omega)) (by first | with_reducible rfl | (dsimp only; rfl; done) | (exfalso; grind)) (by first | with_reducible rfl | (dsimp only; rfl; done) | (exfalso; grind)) (by first | with_reducible rfl | (dsimp only; rfl; done) | (exfalso; grind)) (by first | with_reducible rfl | (dsimp only; rfl; done) | (exfalso; grind))
    · skip
      exfalso; grind
  | succ m ih =>
    intro i J hA hin h01 hi0 hm
    have hlt := jfu hm
    obtain ⟨b1, b2, b3, b4, b5, b6, b7⟩ := hA.2.2.2 c hin
    obtain ⟨hC3, hC4, hC5, hC6⟩ := id b2
    obtain ⟨n7, n7b, n8, n8b, n9, n9b⟩ := id b3
    refine jr_iload_n d_G_isGood_80 rfl rfl ?_
    refine jr_aload_n d_G_isGood_81 rfl rfl ?_
    refine jv_V0r d_G_isGood_82 l_G_29 k_C_size ⟨Nat.le_of_ble_eq_true rfl, Nat.le_of_ble_eq_true rfl⟩ rfl rfl (Nat.le_of_ble_eq_true rfl) (ct_C_size) (by clear ih; grind) (by clear ih; grind) ?_
    refine jr_icmp_ge (tgt := 143) d_G_isGood_85 (by decide) (fun c85 => ?_) (fun c85 => ?_)
    · skip
      exfalso; clear ih; grind
    · skip
      refine jr_aload_n d_G_isGood_88 rfl rfl ?_
      refine jr_getz d_G_isGood_89 f_G_57 rfl ?_
      refine jr_if_eq (tgt := 143) d_G_isGood_92 (by decide) (fun c92 => ?_) (fun c92 => ?_)
      · skip
        refine jr_aload_n d_G_isGood_143 rfl rfl ?_
        refine jr_getz d_G_isGood_144 f_G_57 rfl ?_
        exact jr_retX (v := some _) d_G_isGood_147 (by first | exact Nat.le_refl _ | exact Nat.zero_le _ | (dsimp only; omega)) (by first | exact Nat.le_refl _ | exact Nat.zero_le _ | (dsimp only; omega)) (by first | with_reducible rfl | (dsimp only; (rw [g_lp, if_pos (by clear ih; grind)]); done) | (exfalso; clear ih; grind)) (by first | with_reducible rfl | (dsimp only; (rw [g_lp, if_pos (by clear ih; grind)]); done) | (exfalso; clear ih; grind)) (by first | with_reducible rfl | (dsimp only; (rw [g_lp, if_pos (by clear ih; grind)]); done) | (exfalso; clear ih; grind)) (by first | with_reducible rfl | (dsimp only; (rw [g_lp, if_pos (by clear ih; grind)]); done) | (exfalso; clear ih; grind))
      · skip
        refine jr_aload_n d_G_isGood_95 rfl rfl ?_
        refine jr_iload_n d_G_isGood_96 rfl rfl ?_
        refine jr_iload_n d_G_isGood_97 rfl rfl ?_
        refine jr_if_eq (tgt := 114) d_G_isGood_98 (by decide) (fun c98 => ?_) (fun c98 => ?_)
        · skip
          refine jr_iconst (v := 1) d_G_isGood_114 (by decide) ?_
          refine jr_goto (tgt := 119) d_G_isGood_115 (by decide) ?_
          try skip
          refine jv_V2v d_G_isGood_119 l_G_68 k_G_arrive ⟨Nat.le_of_ble_eq_true rfl, Nat.le_of_ble_eq_true rfl⟩ rfl rfl (Nat.le_of_ble_eq_true rfl) (ct_G_arrive hG) (by clear ih; grind) (by clear ih; grind) ?_
          refine jr_aload_n d_G_isGood_122 rfl rfl ?_
          refine jr_aload_n d_G_isGood_123 rfl rfl ?_
          refine jr_aload_n d_G_isGood_124 rfl rfl ?_
          refine jr_iload_n d_G_isGood_125 rfl rfl ?_
          refine jv_V1r d_G_isGood_126 l_G_35 k_C_op ⟨Nat.le_of_ble_eq_true rfl, Nat.le_of_ble_eq_true rfl⟩ rfl rfl (Nat.le_of_ble_eq_true rfl) (ct_C_op hC4 ((jE_arr.n b3).2.2.2.1)) (by clear ih; grind) (by clear ih; grind) ?_
          rw [if_pos (by rw [jE_arr (6, c, 0) 8 (by simp) (by simp)]; exact ⟨hi0, hlt⟩)]
          refine jr_aload_n d_G_isGood_129 rfl rfl ?_
          refine jr_iload_n d_G_isGood_130 rfl rfl ?_
          refine jv_V1r d_G_isGood_131 l_G_72 k_C_operand ⟨Nat.le_of_ble_eq_true rfl, Nat.le_of_ble_eq_true rfl⟩ rfl rfl (Nat.le_of_ble_eq_true rfl) (ct_C_operand hC5 ((jE_arr.n b3).2.2.2.1)) (by clear ih; grind) (by clear ih; grind) ?_
          rw [if_pos (by rw [jE_arr (6, c, 0) 8 (by simp) (by simp)]; exact ⟨hi0, hlt⟩)]
          refine jv_V3v d_G_isGood_134 l_G_75 k_G_follow ⟨Nat.le_of_ble_eq_true rfl, Nat.le_of_ble_eq_true rfl⟩ rfl rfl (Nat.le_of_ble_eq_true rfl) (ct_G_follow hG (jE_arr.A hA) b2 (jE_arr.n b3)) (by clear ih; grind) (by clear ih; grind) ?_
          refine jr_iinc d_G_isGood_137 rfl jinc1 ?_
          refine jr_goto (tgt := 80) d_G_isGood_140 (by decide) ?_
          exact (by have es : g_st J c i = g_fol (g_arr J i 1) c (g_arr J i 1 (21, c, 0) i.toNatClampNeg) (g_arr J i 1 (22, c, 0) i.toNatClampNeg) := (by unfold g_st; rw [show g_b J c i = 1 from (by unfold g_b; first | rw [if_pos (by clear ih; grind)] | rw [if_neg (by clear ih; grind)])]); have e := ih (i + 1) (g_st J c i) (jE_st.A hA) (jE_st.i hin) g01_st (by clear ih; grind) (by rw [jE_st (6, c, 0) 8 (by simp) (by simp)]; exact jf1 hm); rw [es] at e; rw [g_lp, if_neg (by clear ih e; grind), es]; exact e)
        · skip
          refine jr_aload_n d_G_isGood_101 rfl rfl ?_
          refine jr_iload_n d_G_isGood_102 rfl rfl ?_
          refine jr_iconst (v := 1) d_G_isGood_103 (by decide) ?_
          refine jr_isub d_G_isGood_104 ?_
          refine jv_V1r d_G_isGood_105 l_G_35 k_C_op ⟨Nat.le_of_ble_eq_true rfl, Nat.le_of_ble_eq_true rfl⟩ rfl rfl (Nat.le_of_ble_eq_true rfl) (ct_C_op hC4 n8b) (by clear ih; grind) (by clear ih; grind) ?_
          rw [if_pos ⟨by clear ih; grind, by clear ih; grind⟩]
          refine jv_SN1r d_G_isGood_108 l_G_39 k_J_isLast ⟨Nat.le_of_ble_eq_true rfl, Nat.le_of_ble_eq_true rfl⟩ (Nat.le_of_ble_eq_true rfl) (ct_J_isLast) (by clear ih; grind) (by clear ih; grind) ?_
          refine jr_if_ne (tgt := 118) d_G_isGood_111 (by decide) (fun c111 => ?_) (fun c111 => ?_)
          · skip
            refine jr_iconst (v := 0) d_G_isGood_118 (by decide) ?_
            try skip
            refine jv_V2v d_G_isGood_119 l_G_68 k_G_arrive ⟨Nat.le_of_ble_eq_true rfl, Nat.le_of_ble_eq_true rfl⟩ rfl rfl (Nat.le_of_ble_eq_true rfl) (ct_G_arrive hG) (by clear ih; grind) (by clear ih; grind) ?_
            refine jr_aload_n d_G_isGood_122 rfl rfl ?_
            refine jr_aload_n d_G_isGood_123 rfl rfl ?_
            refine jr_aload_n d_G_isGood_124 rfl rfl ?_
            refine jr_iload_n d_G_isGood_125 rfl rfl ?_
            refine jv_V1r d_G_isGood_126 l_G_35 k_C_op ⟨Nat.le_of_ble_eq_true rfl, Nat.le_of_ble_eq_true rfl⟩ rfl rfl (Nat.le_of_ble_eq_true rfl) (ct_C_op hC4 ((jE_arr.n b3).2.2.2.1)) (by clear ih; grind) (by clear ih; grind) ?_
            rw [if_pos (by rw [jE_arr (6, c, 0) 8 (by simp) (by simp)]; exact ⟨hi0, hlt⟩)]
            refine jr_aload_n d_G_isGood_129 rfl rfl ?_
            refine jr_iload_n d_G_isGood_130 rfl rfl ?_
            refine jv_V1r d_G_isGood_131 l_G_72 k_C_operand ⟨Nat.le_of_ble_eq_true rfl, Nat.le_of_ble_eq_true rfl⟩ rfl rfl (Nat.le_of_ble_eq_true rfl) (ct_C_operand hC5 ((jE_arr.n b3).2.2.2.1)) (by clear ih; grind) (by clear ih; grind) ?_
            rw [if_pos (by rw [jE_arr (6, c, 0) 8 (by simp) (by simp)]; exact ⟨hi0, hlt⟩)]
            refine jv_V3v d_G_isGood_134 l_G_75 k_G_follow ⟨Nat.le_of_ble_eq_true rfl, Nat.le_of_ble_eq_true rfl⟩ rfl rfl (Nat.le_of_ble_eq_true rfl) (ct_G_follow hG (jE_arr.A hA) b2 (jE_arr.n b3)) (by clear ih; grind) (by clear ih; grind) ?_
            refine jr_iinc d_G_isGood_137 rfl jinc1 ?_
            refine jr_goto (tgt := 80) d_G_isGood_140 (by decide) ?_
            exact (by have es : g_st J c i = g_fol (g_arr J i 0) c (g_arr J i 0 (21, c, 0) i.toNatClampNeg) (g_arr J i 0 (22, c, 0) i.toNatClampNeg) := (by unfold g_st; rw [show g_b J c i = 0 from (by unfold g_b; first | rw [if_pos (by clear ih; grind)] | rw [if_neg (by clear ih; grind)])]); have e := ih (i + 1) (g_st J c i) (jE_st.A hA) (jE_st.i hin) g01_st (by clear ih; grind) (by rw [jE_st (6, c, 0) 8 (by simp) (by simp)]; exact jf1 hm); rw [es] at e; rw [g_lp, if_neg (by clear ih e; grind), es]; exact e)
          · skip
            refine jr_iconst (v := 1) d_G_isGood_114 (by decide) ?_
            refine jr_goto (tgt := 119) d_G_isGood_115 (by decide) ?_
            try skip
            refine jv_V2v d_G_isGood_119 l_G_68 k_G_arrive ⟨Nat.le_of_ble_eq_true rfl, Nat.le_of_ble_eq_true rfl⟩ rfl rfl (Nat.le_of_ble_eq_true rfl) (ct_G_arrive hG) (by clear ih; grind) (by clear ih; grind) ?_
            refine jr_aload_n d_G_isGood_122 rfl rfl ?_
            refine jr_aload_n d_G_isGood_123 rfl rfl ?_
            refine jr_aload_n d_G_isGood_124 rfl rfl ?_
            refine jr_iload_n d_G_isGood_125 rfl rfl ?_
            refine jv_V1r d_G_isGood_126 l_G_35 k_C_op ⟨Nat.le_of_ble_eq_true rfl, Nat.le_of_ble_eq_true rfl⟩ rfl rfl (Nat.le_of_ble_eq_true rfl) (ct_C_op hC4 ((jE_arr.n b3).2.2.2.1)) (by clear ih; grind) (by clear ih; grind) ?_
            rw [if_pos (by rw [jE_arr (6, c, 0) 8 (by simp) (by simp)]; exact ⟨hi0, hlt⟩)]
            refine jr_aload_n d_G_isGood_129 rfl rfl ?_
            refine jr_iload_n d_G_isGood_130 rfl rfl ?_
            refine jv_V1r d_G_isGood_131 l_G_72 k_C_operand ⟨Nat.le_of_ble_eq_true rfl, Nat.le_of_ble_eq_true rfl⟩ rfl rfl (Nat.le_of_ble_eq_true rfl) (ct_C_operand hC5 ((jE_arr.n b3).2.2.2.1)) (by clear ih; grind) (by clear ih; grind) ?_
            rw [if_pos (by rw [jE_arr (6, c, 0) 8 (by simp) (by simp)]; exact ⟨hi0, hlt⟩)]
            refine jv_V3v d_G_isGood_134 l_G_75 k_G_follow ⟨Nat.le_of_ble_eq_true rfl, Nat.le_of_ble_eq_true rfl⟩ rfl rfl (Nat.le_of_ble_eq_true rfl) (ct_G_follow hG (jE_arr.A hA) b2 (jE_arr.n b3)) (by clear ih; grind) (by clear ih; grind) ?_
            refine jr_iinc d_G_isGood_137 rfl jinc1 ?_
            refine jr_goto (tgt := 80) d_G_isGood_140 (by decide) ?_
            exact (by have es : g_st J c i = g_fol (g_arr J i 1) c (g_arr J i 1 (21, c, 0) i.toNatClampNeg) (g_arr J i 1 (22, c, 0) i.toNatClampNeg) := (by unfold g_st; rw [show g_b J c i = 1 from (by unfold g_b; first | rw [if_pos (by clear ih; grind)] | rw [if_neg (by clear ih; grind)])]); have e := ih (i + 1) (g_st J c i) (jE_st.A hA) (jE_st.i hin) g01_st (by clear ih; grind) (by rw [jE_st (6, c, 0) 8 (by simp) (by simp)]; exact jf1 hm); rw [es] at e; rw [g_lp, if_neg (by clear ih e; grind), es]; exact e)
theorem ct_G_isGood {I : jc_I} {O : jc_O} {live : jc_L → Prop} {c : Nat} (hG : jw_G O) (hA : jw_A I O) (hin : jw_in I c) : jc_Ct y_G_isGood [.inr (some (2, 0, 0)), .inr (some (6, c, 0))] I O live (some (.inl (g_good I c (2, 0, 0) 7)), g_good I c, O, live, 0, 0) := by
  obtain ⟨b1, b2, b3, b4, b5, b6, b7⟩ := hA.2.2.2 c hin
  obtain ⟨hC3, hC4, hC5, hC6⟩ := id b2
  obtain ⟨n7, n7b, n8, n8b, n9, n9b⟩ := id b3
  have hE : jE I (jc_up (g_marks (jc_up I (2, 0, 0) 7 1) c) (2, 0, 0) 6 0) := ((jE.up (Or.inl rfl)).tr jE_marks).tr (jE.up (Or.inl rfl))
  refine jc_Ct.of (by decide +kernel) (Or.inr ⟨rfl, g01_good⟩) (Nat.le_of_ble_eq_true rfl) ?_
  refine jr_aload_n d_G_isGood_0 rfl rfl ?_
  refine jr_aload_n d_G_isGood_1 rfl rfl ?_
  refine jv_V0r d_G_isGood_2 l_G_29 k_C_size ⟨Nat.le_of_ble_eq_true rfl, Nat.le_of_ble_eq_true rfl⟩ rfl rfl (Nat.le_of_ble_eq_true rfl) (ct_C_size) (by grind) (by grind) ?_
  refine jr_if_le (tgt := 55) d_G_isGood_5 (by decide) (fun c5 => ?_) (fun c5 => ?_)
  · skip
    refine jr_iconst (v := 0) d_G_isGood_55 (by decide) ?_
    refine jr_putz d_G_isGood_56 f_G_57 (Or.inl rfl) rfl (by grind) ?_
    refine jr_aload_n d_G_isGood_59 rfl rfl ?_
    refine jr_getz d_G_isGood_60 f_G_57 rfl ?_
    try simp only [jc_up_s, jc_up_k, jc_up_t, jc_cl_s, jc_cl_t, ne_eq, Nat.reduceEqDiff, not_false_eq_true, Nat.reduceAdd]
    refine jr_if_ne (tgt := 68) d_G_isGood_63 (by decide) (fun c63 => ?_) (fun c63 => ?_)
    · skip
      exact absurd rfl c63
    · skip
      refine jr_iconst (v := 0) d_G_isGood_66 (by decide) ?_
      exact jr_retX (v := some _) d_G_isGood_67 (by first | exact Nat.le_refl _ | exact Nat.zero_le _ | (dsimp only; omega)) (by first | exact Nat.le_refl _ | exact Nat.zero_le _ | (dsimp only; omega)) (by first | with_reducible rfl | (dsimp only; (unfold g_good; rw [if_pos (by unfold g_g0; rw [if_neg (by grind)])]; try rw [jc_up_s]); done) | (exfalso; grind)) (by first | with_reducible rfl | (dsimp only; (unfold g_good; rw [if_pos (by unfold g_g0; rw [if_neg (by grind)])]; try rw [jc_up_s]); done) | (exfalso; grind)) (by first | with_reducible rfl | (dsimp only; (unfold g_good; rw [if_pos (by unfold g_g0; rw [if_neg (by grind)])]; try rw [jc_up_s]); done) | (exfalso; grind)) (by first | with_reducible rfl | (dsimp only; (unfold g_good; rw [if_pos (by unfold g_g0; rw [if_neg (by grind)])]; try rw [jc_up_s]); done) | (exfalso; grind))
  · skip
    refine jr_aload_n d_G_isGood_8 rfl rfl ?_
    refine jr_aload_n d_G_isGood_9 rfl rfl ?_
    refine jv_V0r d_G_isGood_10 l_G_29 k_C_size ⟨Nat.le_of_ble_eq_true rfl, Nat.le_of_ble_eq_true rfl⟩ rfl rfl (Nat.le_of_ble_eq_true rfl) (ct_C_size) (by grind) (by grind) ?_
    refine jr_iconst (v := 1) d_G_isGood_13 (by decide) ?_
    refine jr_isub d_G_isGood_14 ?_
    refine jv_V1r d_G_isGood_15 l_G_35 k_C_op ⟨Nat.le_of_ble_eq_true rfl, Nat.le_of_ble_eq_true rfl⟩ rfl rfl (Nat.le_of_ble_eq_true rfl) (ct_C_op hC4 n8b) (by grind) (by grind) ?_
    rw [if_pos ⟨by grind, by grind⟩]
    refine jv_SN1r d_G_isGood_18 l_G_39 k_J_isLast ⟨Nat.le_of_ble_eq_true rfl, Nat.le_of_ble_eq_true rfl⟩ (Nat.le_of_ble_eq_true rfl) (ct_J_isLast) (by grind) (by grind) ?_
    refine jr_if_eq (tgt := 55) d_G_isGood_21 (by decide) (fun c21 => ?_) (fun c21 => ?_)
    · skip
      refine jr_iconst (v := 0) d_G_isGood_55 (by decide) ?_
      refine jr_putz d_G_isGood_56 f_G_57 (Or.inl rfl) rfl (by grind) ?_
      refine jr_aload_n d_G_isGood_59 rfl rfl ?_
      refine jr_getz d_G_isGood_60 f_G_57 rfl ?_
      try simp only [jc_up_s, jc_up_k, jc_up_t, jc_cl_s, jc_cl_t, ne_eq, Nat.reduceEqDiff, not_false_eq_true, Nat.reduceAdd]
      refine jr_if_ne (tgt := 68) d_G_isGood_63 (by decide) (fun c63 => ?_) (fun c63 => ?_)
      · skip
        exact absurd rfl c63
      · skip
        refine jr_iconst (v := 0) d_G_isGood_66 (by decide) ?_
        exact jr_retX (v := some _) d_G_isGood_67 (by first | exact Nat.le_refl _ | exact Nat.zero_le _ | (dsimp only; omega)) (by first | exact Nat.le_refl _ | exact Nat.zero_le _ | (dsimp only; omega)) (by first | with_reducible rfl | (dsimp only; (unfold g_good; rw [if_pos (by unfold g_g0; rw [if_neg (by grind)])]; try rw [jc_up_s]); done) | (exfalso; grind)) (by first | with_reducible rfl | (dsimp only; (unfold g_good; rw [if_pos (by unfold g_g0; rw [if_neg (by grind)])]; try rw [jc_up_s]); done) | (exfalso; grind)) (by first | with_reducible rfl | (dsimp only; (unfold g_good; rw [if_pos (by unfold g_g0; rw [if_neg (by grind)])]; try rw [jc_up_s]); done) | (exfalso; grind)) (by first | with_reducible rfl | (dsimp only; (unfold g_good; rw [if_pos (by unfold g_g0; rw [if_neg (by grind)])]; try rw [jc_up_s]); done) | (exfalso; grind))
    · skip
      refine jr_aload_n d_G_isGood_24 rfl rfl ?_
      refine jv_V0r d_G_isGood_25 l_G_43 k_C_localCount ⟨Nat.le_of_ble_eq_true rfl, Nat.le_of_ble_eq_true rfl⟩ rfl rfl (Nat.le_of_ble_eq_true rfl) (ct_C_localCount) (by grind) (by grind) ?_
      refine jr_aload_n d_G_isGood_28 rfl rfl ?_
      refine jr_geti d_G_isGood_29 f_G_46 rfl ?_
      refine jr_icmp_lt (tgt := 55) d_G_isGood_32 (by decide) (fun c32 => ?_) (fun c32 => ?_)
      · skip
        refine jr_iconst (v := 0) d_G_isGood_55 (by decide) ?_
        refine jr_putz d_G_isGood_56 f_G_57 (Or.inl rfl) rfl (by grind) ?_
        refine jr_aload_n d_G_isGood_59 rfl rfl ?_
        refine jr_getz d_G_isGood_60 f_G_57 rfl ?_
        try simp only [jc_up_s, jc_up_k, jc_up_t, jc_cl_s, jc_cl_t, ne_eq, Nat.reduceEqDiff, not_false_eq_true, Nat.reduceAdd]
        refine jr_if_ne (tgt := 68) d_G_isGood_63 (by decide) (fun c63 => ?_) (fun c63 => ?_)
        · skip
          exact absurd rfl c63
        · skip
          refine jr_iconst (v := 0) d_G_isGood_66 (by decide) ?_
          exact jr_retX (v := some _) d_G_isGood_67 (by first | exact Nat.le_refl _ | exact Nat.zero_le _ | (dsimp only; omega)) (by first | exact Nat.le_refl _ | exact Nat.zero_le _ | (dsimp only; omega)) (by first | with_reducible rfl | (dsimp only; (unfold g_good; rw [if_pos (by unfold g_g0; rw [if_neg (by grind)])]; try rw [jc_up_s]); done) | (exfalso; grind)) (by first | with_reducible rfl | (dsimp only; (unfold g_good; rw [if_pos (by unfold g_g0; rw [if_neg (by grind)])]; try rw [jc_up_s]); done) | (exfalso; grind)) (by first | with_reducible rfl | (dsimp only; (unfold g_good; rw [if_pos (by unfold g_g0; rw [if_neg (by grind)])]; try rw [jc_up_s]); done) | (exfalso; grind)) (by first | with_reducible rfl | (dsimp only; (unfold g_good; rw [if_pos (by unfold g_g0; rw [if_neg (by grind)])]; try rw [jc_up_s]); done) | (exfalso; grind))
      · skip
        refine jr_aload_n d_G_isGood_35 rfl rfl ?_
        refine jr_aload_n d_G_isGood_36 rfl rfl ?_
        refine jv_V1r d_G_isGood_37 l_G_50 k_G_namesJumpPlaces ⟨Nat.le_of_ble_eq_true rfl, Nat.le_of_ble_eq_true rfl⟩ rfl rfl (Nat.le_of_ble_eq_true rfl) (ct_G_namesJumpPlaces b2 b3) (by grind) (by grind) ?_
        refine jr_if_eq (tgt := 55) d_G_isGood_40 (by decide) (fun c40 => ?_) (fun c40 => ?_)
        · skip
          refine jr_iconst (v := 0) d_G_isGood_55 (by decide) ?_
          refine jr_putz d_G_isGood_56 f_G_57 (Or.inl rfl) rfl (by grind) ?_
          refine jr_aload_n d_G_isGood_59 rfl rfl ?_
          refine jr_getz d_G_isGood_60 f_G_57 rfl ?_
          try simp only [jc_up_s, jc_up_k, jc_up_t, jc_cl_s, jc_cl_t, ne_eq, Nat.reduceEqDiff, not_false_eq_true, Nat.reduceAdd]
          refine jr_if_ne (tgt := 68) d_G_isGood_63 (by decide) (fun c63 => ?_) (fun c63 => ?_)
          · skip
            exact absurd rfl c63
          · skip
            refine jr_iconst (v := 0) d_G_isGood_66 (by decide) ?_
            exact jr_retX (v := some _) d_G_isGood_67 (by first | exact Nat.le_refl _ | exact Nat.zero_le _ | (dsimp only; omega)) (by first | exact Nat.le_refl _ | exact Nat.zero_le _ | (dsimp only; omega)) (by first | with_reducible rfl | (dsimp only; (unfold g_good; rw [if_pos (by unfold g_g0; rw [if_neg (by grind)])]; try rw [jc_up_s]); done) | (exfalso; grind)) (by first | with_reducible rfl | (dsimp only; (unfold g_good; rw [if_pos (by unfold g_g0; rw [if_neg (by grind)])]; try rw [jc_up_s]); done) | (exfalso; grind)) (by first | with_reducible rfl | (dsimp only; (unfold g_good; rw [if_pos (by unfold g_g0; rw [if_neg (by grind)])]; try rw [jc_up_s]); done) | (exfalso; grind)) (by first | with_reducible rfl | (dsimp only; (unfold g_good; rw [if_pos (by unfold g_g0; rw [if_neg (by grind)])]; try rw [jc_up_s]); done) | (exfalso; grind))
        · skip
          refine jr_aload_n d_G_isGood_43 rfl rfl ?_
          refine jr_aload_n d_G_isGood_44 rfl rfl ?_
          refine jv_V1r d_G_isGood_45 l_G_54 k_G_namesRowPlaces ⟨Nat.le_of_ble_eq_true rfl, Nat.le_of_ble_eq_true rfl⟩ rfl rfl (Nat.le_of_ble_eq_true rfl) (ct_G_namesRowPlaces b2 b3 b4) (by grind) (by grind) ?_
          refine jr_if_eq (tgt := 55) d_G_isGood_48 (by decide) (fun c48 => ?_) (fun c48 => ?_)
          · skip
            refine jr_iconst (v := 0) d_G_isGood_55 (by decide) ?_
            refine jr_putz d_G_isGood_56 f_G_57 (Or.inl rfl) rfl (by grind) ?_
            refine jr_aload_n d_G_isGood_59 rfl rfl ?_
            refine jr_getz d_G_isGood_60 f_G_57 rfl ?_
            try simp only [jc_up_s, jc_up_k, jc_up_t, jc_cl_s, jc_cl_t, ne_eq, Nat.reduceEqDiff, not_false_eq_true, Nat.reduceAdd]
            refine jr_if_ne (tgt := 68) d_G_isGood_63 (by decide) (fun c63 => ?_) (fun c63 => ?_)
            · skip
              exact absurd rfl c63
            · skip
              refine jr_iconst (v := 0) d_G_isGood_66 (by decide) ?_
              exact jr_retX (v := some _) d_G_isGood_67 (by first | exact Nat.le_refl _ | exact Nat.zero_le _ | (dsimp only; omega)) (by first | exact Nat.le_refl _ | exact Nat.zero_le _ | (dsimp only; omega)) (by first | with_reducible rfl | (dsimp only; (unfold g_good; rw [if_pos (by unfold g_g0; rw [if_neg (by grind)])]; try rw [jc_up_s]); done) | (exfalso; grind)) (by first | with_reducible rfl | (dsimp only; (unfold g_good; rw [if_pos (by unfold g_g0; rw [if_neg (by grind)])]; try rw [jc_up_s]); done) | (exfalso; grind)) (by first | with_reducible rfl | (dsimp only; (unfold g_good; rw [if_pos (by unfold g_g0; rw [if_neg (by grind)])]; try rw [jc_up_s]); done) | (exfalso; grind)) (by first | with_reducible rfl | (dsimp only; (unfold g_good; rw [if_pos (by unfold g_g0; rw [if_neg (by grind)])]; try rw [jc_up_s]); done) | (exfalso; grind))
          · skip
            refine jr_iconst (v := 1) d_G_isGood_51 (by decide) ?_
            refine jr_goto (tgt := 56) d_G_isGood_52 (by decide) ?_
            refine jr_putz d_G_isGood_56 f_G_57 (Or.inl rfl) rfl (by grind) ?_
            refine jr_aload_n d_G_isGood_59 rfl rfl ?_
            refine jr_getz d_G_isGood_60 f_G_57 rfl ?_
            try simp only [jc_up_s, jc_up_k, jc_up_t, jc_cl_s, jc_cl_t, ne_eq, Nat.reduceEqDiff, not_false_eq_true, Nat.reduceAdd]
            refine jr_if_ne (tgt := 68) d_G_isGood_63 (by decide) (fun c63 => ?_) (fun c63 => ?_)
            · skip
              refine jr_aload_n d_G_isGood_68 rfl rfl ?_
              refine jr_aload_n d_G_isGood_69 rfl rfl ?_
              refine jv_V1v d_G_isGood_70 l_G_61 k_G_markPlaces ⟨Nat.le_of_ble_eq_true rfl, Nat.le_of_ble_eq_true rfl⟩ rfl rfl (Nat.le_of_ble_eq_true rfl) (ct_G_markPlaces hG b2 ((jE.up (Or.inl rfl)).n b3) ((jE.up (Or.inl rfl)).r b4)) (by grind) (by grind) ?_
              refine jr_aload_n d_G_isGood_73 rfl rfl ?_
              refine jr_iconst (v := 0) d_G_isGood_74 (by decide) ?_
              refine jr_puti d_G_isGood_75 f_G_65 (Or.inl rfl) rfl ?_
              refine jr_iconst (v := 0) d_G_isGood_78 (by decide) ?_
              refine jr_istore_n d_G_isGood_79 rfl (Nat.le_of_ble_eq_true rfl) ?_
              exact (by have e := lp_G_isGood (live := live) (c := c) hG _ 0 (jc_up (g_marks (jc_up I (2, 0, 0) 7 1) c) (2, 0, 0) 6 0) (hE.A hA) (hE.i hin) (g01_up (Or.inr (by rw [g_marks_ne rfl, jc_up_s])) (Or.inl (by decide))) (by decide) (jfn (hE.n b3).2.2.1); rw [hE (6, c, 0) 8 (by simp) (by simp)] at e; unfold g_good; rw [if_neg (by unfold g_g0; rw [if_pos (by grind)]; decide)]; exact e)
            · skip
              exact absurd c63 (by decide)
