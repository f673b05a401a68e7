/-- the code of a frame -/
def cR (O : jc_O) (t j : Nat) : Nat := ((O (12, t, j) 0).map (fun q => q.2.1)).getD 0
def q_ct (I : jc_I) (c : Nat) (x k : Int32) : Nat → Nat → Int32
  | 0, _ => -1
  | m + 1, r => if I (43, c, 0) r ≤ x ∧ x < I (44, c, 0) r ∧ (I (46, c, 0) r = 10 ∨ I (46, c, 0) r = k) then I (45, c, 0) r else q_ct I c x k m (r + 1)
def q_ho (I : jc_I) (t j : Nat) (x : Int32) : jc_I := jc_up (jc_up (jc_up I (12, t, j) 4 0) (49, t, j) 0 x) (12, t, j) 4 1
def qr (I : jc_I) (c : Nat) : Prop := ∀ r : Nat, r < (I (11, c, 0) 11).toNatClampNeg → 0 ≤ I (45, c, 0) r
theorem q_ho_eq {I : jc_I} {t j : Nat} {x : Int32} : q_psh (jc_up I (12, t, j) 4 0) t j x = q_ho I t j x := by
  unfold q_psh q_ho
  rw [jc_up_s]
  funext q k
  unfold jc_up
  by_cases h : q = (12, t, j) ∧ k = 4
  · simp only [if_pos h]; decide
  · simp only [if_neg h]
    rfl
theorem lp_m_flies {I : jc_I} {O : jc_O} {live : jc_L → Prop} {t j c b n k : Nat} {x : Int32} {Z : jc_Z} (hM : qM O) (hl : ql I O live 2 n (qO b)) (hx1 : x - 1 = Int32.ofNat k) (hx2 : k < n) (hf : qf O t j) (hc : qc O c) (hn : qn I c) (hq : qr I c) : ∀ (m r : Nat), r + m = (I (11, c, 0) 11).toNatClampNeg →
    (0 ≤ q_ct I c (I (12, t, j) 5) (I (13, b + k, 0) 0) m r → Z = (none, jc_up (q_ho I t j x) (12, t, j) 5 (q_ct I c (I (12, t, j) 5) (I (13, b + k, 0) 0) m r), O, live, 0, 0)) →
    (q_ct I c (I (12, t, j) 5) (I (13, b + k, 0) 0) m r = -1 → jc_R y_m_flies 133 [some (.inr (some (10, 0, 0))), some (.inr (some (14, t, 0))), some (.inl x), some (.inr (some (12, t, j))), some (.inr (some (11, c, 0))), some (.inl (Int32.ofNat (I (11, c, 0) 11).toNatClampNeg))] [] I O live 0 0 Z) →
    jc_R y_m_flies 21 [some (.inr (some (10, 0, 0))), some (.inr (some (14, t, 0))), some (.inl x), some (.inr (some (12, t, j))), some (.inr (some (11, c, 0))), some (.inl (Int32.ofNat r))] [] I O live 0 0 Z := by
  obtain ⟨g2, g4, g5, g7, g8, g9, g10⟩ := id hc; obtain ⟨n1, n2, n3, n4, n5, n6⟩ := id hn; obtain ⟨m0, m2, m4, m6, m7⟩ := id hM; obtain ⟨fl1, fl2⟩ := id hf
  intro m
  induction m with
  | zero =>
    intro r hm hT hN
    (have a2 := jNI n5); (have a4 := jle.mp n6); rw [show (20 : Int32).toInt = 20 from by decide] at a4; (have a1 := jofI (n := r) (by omega)); (have a3 := jofN (n := r) (by omega))
    refine jr_iload d_m_flies_21 rfl ?_
    refine jr_aload d_m_flies_23 rfl ?_
    refine jr_geti d_m_flies_25 f_m_69 rfl ?_
    refine jr_icmp_ge (tgt := 133) d_m_flies_28 (by decide) (fun c28 => ?_) (fun c28 => ?_)
    · skip
      exact (by have e := hN rfl; rw [show (I (11, c, 0) 11).toNatClampNeg = r from by omega] at e; exact e)
    · skip
      exfalso; rw [jle, a1] at c28; omega
  | succ m ih =>
    intro r hm hT hN
    (have a2 := jNI n5); (have a4 := jle.mp n6); rw [show (20 : Int32).toInt = 20 from by decide] at a4; (have a1 := jofI (n := r) (by omega)); (have a3 := jofN (n := r) (by omega))
    refine jr_iload d_m_flies_21 rfl ?_
    refine jr_aload d_m_flies_23 rfl ?_
    refine jr_geti d_m_flies_25 f_m_69 rfl ?_
    refine jr_icmp_ge (tgt := 133) d_m_flies_28 (by decide) (fun c28 => ?_) (fun c28 => ?_)
    · skip
      exfalso; rw [jle, a1] at c28; omega
    · skip
      refine jr_aload_n d_m_flies_31 rfl rfl ?_
      refine jr_geti d_m_flies_32 f_m_195 rfl ?_
      refine jr_aload d_m_flies_35 rfl ?_
      refine jr_getr d_m_flies_37 f_m_72 rfl rfl ?_
      first | rw [g2] | rw [g4] | rw [g5] | rw [g7] | rw [g8] | rw [g9] | rw [g10] | rw [m4] | rw [fl2] | skip
      refine jr_iload d_m_flies_40 rfl ?_
      refine jr_iald d_m_flies_42 rfl rfl rfl (jinv (by rw [jle, a1, j0I]; omega) (by rw [a3]; show r < 20; omega)) ?_
      rw [a3]
      refine jr_icmp_lt (tgt := 127) d_m_flies_43 (by decide) (fun c43 => ?_) (fun c43 => ?_)
      · skip
        refine jr_iinc d_m_flies_127 rfl jinc1 ?_
        refine jr_goto (tgt := 21) d_m_flies_130 (by decide) ?_
        (have hne : ¬ (I (43, c, 0) r ≤ I (12, t, j) 5 ∧ I (12, t, j) 5 < I (44, c, 0) r ∧ (I (46, c, 0) r = 10 ∨ I (46, c, 0) r = I (13, b + k, 0) 0)) := by clear ih hT hN; grind); rw [q_ct, if_neg hne] at hT hN; exact (by have e := ih (r + 1) (by omega) hT hN; rw [← jof1 (by omega)] at e; exact e)
      · skip
        refine jr_aload_n d_m_flies_46 rfl rfl ?_
        refine jr_geti d_m_flies_47 f_m_195 rfl ?_
        refine jr_aload d_m_flies_50 rfl ?_
        refine jr_getr d_m_flies_52 f_m_75 rfl rfl ?_
        first | rw [g2] | rw [g4] | rw [g5] | rw [g7] | rw [g8] | rw [g9] | rw [g10] | rw [m4] | rw [fl2] | skip
        refine jr_iload d_m_flies_55 rfl ?_
        refine jr_iald d_m_flies_57 rfl rfl rfl (jinv (by rw [jle, a1, j0I]; omega) (by rw [a3]; show r < 20; omega)) ?_
        rw [a3]
        refine jr_icmp_ge (tgt := 127) d_m_flies_58 (by decide) (fun c58 => ?_) (fun c58 => ?_)
        · skip
          refine jr_iinc d_m_flies_127 rfl jinc1 ?_
          refine jr_goto (tgt := 21) d_m_flies_130 (by decide) ?_
          (have hne : ¬ (I (43, c, 0) r ≤ I (12, t, j) 5 ∧ I (12, t, j) 5 < I (44, c, 0) r ∧ (I (46, c, 0) r = 10 ∨ I (46, c, 0) r = I (13, b + k, 0) 0)) := by clear ih hT hN; grind); rw [q_ct, if_neg hne] at hT hN; exact (by have e := ih (r + 1) (by omega) hT hN; rw [← jof1 (by omega)] at e; exact e)
        · skip
          refine jr_aload d_m_flies_61 rfl ?_
          refine jr_getr d_m_flies_63 f_m_81 rfl rfl ?_
          first | rw [g2] | rw [g4] | rw [g5] | rw [g7] | rw [g8] | rw [g9] | rw [g10] | rw [m4] | rw [fl2] | skip
          refine jr_iload d_m_flies_66 rfl ?_
          refine jr_iald d_m_flies_68 rfl rfl rfl (jinv (by rw [jle, a1, j0I]; omega) (by rw [a3]; show r < 20; omega)) ?_
          rw [a3]
          refine jr_bipush (v := 10) d_m_flies_69 (by decide) ?_
          refine jr_icmp_eq (tgt := 104) d_m_flies_71 (by decide) (fun c71 => ?_) (fun c71 => ?_)
          · skip
            (have hpo : I (43, c, 0) r ≤ I (12, t, j) 5 ∧ I (12, t, j) 5 < I (44, c, 0) r ∧ (I (46, c, 0) r = 10 ∨ I (46, c, 0) r = I (13, b + k, 0) 0) := by clear ih hT hN; grind); rw [q_ct, if_pos hpo] at hT; (have hZ := hT (hq r (by omega))); clear hT hN ih; subst hZ
            refine jr_aload_n d_m_flies_104 rfl rfl ?_
            refine jr_iconst (v := 0) d_m_flies_105 (by decide) ?_
            refine jr_puti d_m_flies_106 f_m_199 (Or.inl rfl) rfl ?_
            refine jr_aload_n d_m_flies_109 rfl rfl ?_
            refine jr_iload_n d_m_flies_110 rfl rfl ?_
            refine jv_V1v d_m_flies_111 l_m_200 k_mF_push ⟨Nat.le_of_ble_eq_true rfl, Nat.le_of_ble_eq_true rfl⟩ rfl rfl (Nat.le_of_ble_eq_true rfl) (show jc_Ct y_mF_push _ _ _ _ (none, q_ho I t j x, _, _, 0, 0) from (by rw [← q_ho_eq]; exact ct_mF_push hf (by rw [jc_up_s]; decide) (by rw [jc_up_s]; decide))) (by first | decide | exact Nat.zero_le _ | (dsimp only; omega) | (dsimp only; grind)) (by first | decide | exact Nat.zero_le _ | (dsimp only; omega) | (dsimp only; grind)) ?_
            refine jr_aload_n d_m_flies_114 rfl rfl ?_
            refine jr_aload d_m_flies_115 rfl ?_
            refine jr_getr d_m_flies_117 f_m_78 rfl rfl ?_
            try simp only [jc_up_s, jc_up_k, jc_up_t, jc_cl_s, jc_cl_t, ne_eq, Nat.reduceEqDiff, not_false_eq_true, Nat.reduceAdd]
            first | rw [g2] | rw [g4] | rw [g5] | rw [g7] | rw [g8] | rw [g9] | rw [g10] | rw [m4] | rw [fl2] | skip
            refine jr_iload d_m_flies_120 rfl ?_
            refine jr_iald d_m_flies_122 rfl rfl rfl (jinv (by rw [jle, a1, j0I]; omega) (by rw [a3]; show r < 20; omega)) ?_
            try simp only [jc_up_s, jc_up_k, jc_up_t, jc_cl_s, jc_cl_t, ne_eq, Nat.reduceEqDiff, not_false_eq_true, Nat.reduceAdd]
            rw [a3]; (try (rw [show q_ho I t j x (45, c, 0) r = I (45, c, 0) r from by unfold q_ho; rw [jc_up_t _ _ _ _ _ _ _ _ (by decide), jc_up_t _ _ _ _ _ _ _ _ (by decide), jc_up_t _ _ _ _ _ _ _ _ (by decide)]]))
            refine jr_puti d_m_flies_123 f_m_195 (Or.inl rfl) rfl ?_
            exact jr_retX (v := none) d_m_flies_126 (by first | exact Nat.le_refl _ | exact Nat.zero_le _ | (dsimp only; omega)) (by first | exact Nat.le_refl _ | exact Nat.zero_le _ | (dsimp only; omega)) (by first | with_reducible rfl | (dsimp only; rfl; done) | (exfalso; grind)) (by first | with_reducible rfl | (dsimp only; rfl; done) | (exfalso; grind)) (by first | with_reducible rfl | (dsimp only; rfl; done) | (exfalso; grind)) (by first | with_reducible rfl | (dsimp only; rfl; done) | (exfalso; grind))
          · skip
            refine jr_aload d_m_flies_74 rfl ?_
            refine jr_getr d_m_flies_76 f_m_81 rfl rfl ?_
            first | rw [g2] | rw [g4] | rw [g5] | rw [g7] | rw [g8] | rw [g9] | rw [g10] | rw [m4] | rw [fl2] | skip
            refine jr_iload d_m_flies_79 rfl ?_
            refine jr_iald d_m_flies_81 rfl rfl rfl (jinv (by rw [jle, a1, j0I]; omega) (by rw [a3]; show r < 20; omega)) ?_
            rw [a3]
            refine jr_aload_n d_m_flies_82 rfl rfl ?_
            refine jr_getr d_m_flies_83 f_m_19 rfl rfl ?_
            first | rw [g2] | rw [g4] | rw [g5] | rw [g7] | rw [g8] | rw [g9] | rw [g10] | rw [m4] | rw [fl2] | skip
            refine jr_iload_n d_m_flies_86 rfl rfl ?_
            refine jr_iconst (v := 1) d_m_flies_87 (by decide) ?_
            refine jr_isub d_m_flies_88 ?_
            refine jv_V1r d_m_flies_89 l_m_126 k_aL_get ⟨Nat.le_of_ble_eq_true rfl, Nat.le_of_ble_eq_true rfl⟩ rfl rfl (Nat.le_of_ble_eq_true rfl) (ct_aL_getq hl hx1 hx2) (by first | decide | exact Nat.zero_le _ | (dsimp only; omega) | (dsimp only; grind)) (by first | decide | exact Nat.zero_le _ | (dsimp only; omega) | (dsimp only; grind)) ?_
            first | rw [g2] | rw [g4] | rw [g5] | rw [g7] | rw [g8] | rw [g9] | rw [g10] | rw [m4] | rw [fl2] | skip
            refine jr_cast d_m_flies_92 c_m_155 rfl ⟨_, rfl, ca_mO_mO⟩ ?_
            refine jr_geti d_m_flies_95 f_m_197 rfl ?_
            refine jr_icmp_eq (tgt := 104) d_m_flies_98 (by decide) (fun c98 => ?_) (fun c98 => ?_)
            · skip
              (have hpo : I (43, c, 0) r ≤ I (12, t, j) 5 ∧ I (12, t, j) 5 < I (44, c, 0) r ∧ (I (46, c, 0) r = 10 ∨ I (46, c, 0) r = I (13, b + k, 0) 0) := by clear ih hT hN; grind); rw [q_ct, if_pos hpo] at hT; (have hZ := hT (hq r (by omega))); clear hT hN ih; subst hZ
              refine jr_aload_n d_m_flies_104 rfl rfl ?_
              refine jr_iconst (v := 0) d_m_flies_105 (by decide) ?_
              refine jr_puti d_m_flies_106 f_m_199 (Or.inl rfl) rfl ?_
              refine jr_aload_n d_m_flies_109 rfl rfl ?_
              refine jr_iload_n d_m_flies_110 rfl rfl ?_
              refine jv_V1v d_m_flies_111 l_m_200 k_mF_push ⟨Nat.le_of_ble_eq_true rfl, Nat.le_of_ble_eq_true rfl⟩ rfl rfl (Nat.le_of_ble_eq_true rfl) (show jc_Ct y_mF_push _ _ _ _ (none, q_ho I t j x, _, _, 0, 0) from (by rw [← q_ho_eq]; exact ct_mF_push hf (by rw [jc_up_s]; decide) (by rw [jc_up_s]; decide))) (by first | decide | exact Nat.zero_le _ | (dsimp only; omega) | (dsimp only; grind)) (by first | decide | exact Nat.zero_le _ | (dsimp only; omega) | (dsimp only; grind)) ?_
              refine jr_aload_n d_m_flies_114 rfl rfl ?_
              refine jr_aload d_m_flies_115 rfl ?_
              refine jr_getr d_m_flies_117 f_m_78 rfl rfl ?_
              try simp only [jc_up_s, jc_up_k, jc_up_t, jc_cl_s, jc_cl_t, ne_eq, Nat.reduceEqDiff, not_false_eq_true, Nat.reduceAdd]
              first | rw [g2] | rw [g4] | rw [g5] | rw [g7] | rw [g8] | rw [g9] | rw [g10] | rw [m4] | rw [fl2] | skip
              refine jr_iload d_m_flies_120 rfl ?_
              refine jr_iald d_m_flies_122 rfl rfl rfl (jinv (by rw [jle, a1, j0I]; omega) (by rw [a3]; show r < 20; omega)) ?_
              try simp only [jc_up_s, jc_up_k, jc_up_t, jc_cl_s, jc_cl_t, ne_eq, Nat.reduceEqDiff, not_false_eq_true, Nat.reduceAdd]
              rw [a3]; (try (rw [show q_ho I t j x (45, c, 0) r = I (45, c, 0) r from by unfold q_ho; rw [jc_up_t _ _ _ _ _ _ _ _ (by decide), jc_up_t _ _ _ _ _ _ _ _ (by decide), jc_up_t _ _ _ _ _ _ _ _ (by decide)]]))
              refine jr_puti d_m_flies_123 f_m_195 (Or.inl rfl) rfl ?_
              exact jr_retX (v := none) d_m_flies_126 (by first | exact Nat.le_refl _ | exact Nat.zero_le _ | (dsimp only; omega)) (by first | exact Nat.le_refl _ | exact Nat.zero_le _ | (dsimp only; omega)) (by first | with_reducible rfl | (dsimp only; rfl; done) | (exfalso; grind)) (by first | with_reducible rfl | (dsimp only; rfl; done) | (exfalso; grind)) (by first | with_reducible rfl | (dsimp only; rfl; done) | (exfalso; grind)) (by first | with_reducible rfl | (dsimp only; rfl; done) | (exfalso; grind))
            · skip
              refine jr_goto (tgt := 127) d_m_flies_101 (by decide) ?_
              refine jr_iinc d_m_flies_127 rfl jinc1 ?_
              refine jr_goto (tgt := 21) d_m_flies_130 (by decide) ?_
              (have hne : ¬ (I (43, c, 0) r ≤ I (12, t, j) 5 ∧ I (12, t, j) 5 < I (44, c, 0) r ∧ (I (46, c, 0) r = 10 ∨ I (46, c, 0) r = I (13, b + k, 0) 0)) := by clear ih hT hN; grind); rw [q_ct, if_neg hne] at hT hN; exact (by have e := ih (r + 1) (by omega) hT hN; rw [← jof1 (by omega)] at e; exact e)
