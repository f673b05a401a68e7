theorem ct_m_code_r {I : jc_I} {O : jc_O} {live : jc_L → Prop} {p r : Int32} (hM : qM O) (hx : ¬ ((0 ≤ p ∧ p ≤ 8) ∧ (0 ≤ r ∧ r ≤ 2) ∧ ¬ 0 < I (10, 0, 0) 3)) : jc_Ct y_m_code [.inr (some (10, 0, 0)), .inl p, .inl r] I O live (some (.inl (-1)), I, O, live, 0, 0) := by
  refine jc_Ct.of (by decide +kernel) (Or.inl rfl) (Nat.le_of_ble_eq_true rfl) ?_
  refine jr_iload_n d_m_code_0 rfl rfl ?_
  refine jr_if_lt (tgt := 26) d_m_code_1 (by decide) (fun c1 => ?_) (fun c1 => ?_)
  · skip
    refine jr_iconst (v := (-1)) d_m_code_26 (by decide) ?_
    exact jr_retX (v := some _) d_m_code_27 (by first | exact Nat.le_refl _ | exact Nat.zero_le _ | (dsimp only; omega)) (by first | exact Nat.le_refl _ | exact Nat.zero_le _ | (dsimp only; omega)) (by first | with_reducible rfl | (dsimp only; rfl; done) | (rfl; done) | (exfalso; grind)) (by first | with_reducible rfl | (dsimp only; rfl; done) | (rfl; done) | (exfalso; grind)) (by first | with_reducible rfl | (dsimp only; rfl; done) | (rfl; done) | (exfalso; grind)) (by first | with_reducible rfl | (dsimp only; rfl; done) | (rfl; done) | (exfalso; grind))
  · skip
    refine jr_iload_n d_m_code_4 rfl rfl ?_
    refine jr_bipush (v := 8) d_m_code_5 (by decide) ?_
    refine jr_icmp_gt (tgt := 26) d_m_code_7 (by decide) (fun c7 => ?_) (fun c7 => ?_)
    · skip
      refine jr_iconst (v := (-1)) d_m_code_26 (by decide) ?_
      exact jr_retX (v := some _) d_m_code_27 (by first | exact Nat.le_refl _ | exact Nat.zero_le _ | (dsimp only; omega)) (by first | exact Nat.le_refl _ | exact Nat.zero_le _ | (dsimp only; omega)) (by first | with_reducible rfl | (dsimp only; rfl; done) | (rfl; done) | (exfalso; grind)) (by first | with_reducible rfl | (dsimp only; rfl; done) | (rfl; done) | (exfalso; grind)) (by first | with_reducible rfl | (dsimp only; rfl; done) | (rfl; done) | (exfalso; grind)) (by first | with_reducible rfl | (dsimp only; rfl; done) | (rfl; done) | (exfalso; grind))
    · skip
      refine jr_iload_n d_m_code_10 rfl rfl ?_
      refine jr_if_lt (tgt := 26) d_m_code_11 (by decide) (fun c11 => ?_) (fun c11 => ?_)
      · skip
        refine jr_iconst (v := (-1)) d_m_code_26 (by decide) ?_
        exact jr_retX (v := some _) d_m_code_27 (by first | exact Nat.le_refl _ | exact Nat.zero_le _ | (dsimp only; omega)) (by first | exact Nat.le_refl _ | exact Nat.zero_le _ | (dsimp only; omega)) (by first | with_reducible rfl | (dsimp only; rfl; done) | (rfl; done) | (exfalso; grind)) (by first | with_reducible rfl | (dsimp only; rfl; done) | (rfl; done) | (exfalso; grind)) (by first | with_reducible rfl | (dsimp only; rfl; done) | (rfl; done) | (exfalso; grind)) (by first | with_reducible rfl | (dsimp only; rfl; done) | (rfl; done) | (exfalso; grind))
      · skip
        refine jr_iload_n d_m_code_14 rfl rfl ?_
        refine jr_iconst (v := 2) d_m_code_15 (by decide) ?_
        refine jr_icmp_gt (tgt := 26) d_m_code_16 (by decide) (fun c16 => ?_) (fun c16 => ?_)
        · skip
          refine jr_iconst (v := (-1)) d_m_code_26 (by decide) ?_
          exact jr_retX (v := some _) d_m_code_27 (by first | exact Nat.le_refl _ | exact Nat.zero_le _ | (dsimp only; omega)) (by first | exact Nat.le_refl _ | exact Nat.zero_le _ | (dsimp only; omega)) (by first | with_reducible rfl | (dsimp only; rfl; done) | (rfl; done) | (exfalso; grind)) (by first | with_reducible rfl | (dsimp only; rfl; done) | (rfl; done) | (exfalso; grind)) (by first | with_reducible rfl | (dsimp only; rfl; done) | (rfl; done) | (exfalso; grind)) (by first | with_reducible rfl | (dsimp only; rfl; done) | (rfl; done) | (exfalso; grind))
        · skip
          refine jr_aload_n d_m_code_19 rfl rfl ?_
          refine jr_geti d_m_code_20 f_m_29 rfl ?_
          refine jr_if_le (tgt := 28) d_m_code_23 (by decide) (fun c23 => ?_) (fun c23 => ?_)
          · skip
            exfalso; clear hM; grind
          · skip
            refine jr_iconst (v := (-1)) d_m_code_26 (by decide) ?_
            exact jr_retX (v := some _) d_m_code_27 (by first | exact Nat.le_refl _ | exact Nat.zero_le _ | (dsimp only; omega)) (by first | exact Nat.le_refl _ | exact Nat.zero_le _ | (dsimp only; omega)) (by first | with_reducible rfl | (dsimp only; rfl; done) | (rfl; done) | (exfalso; grind)) (by first | with_reducible rfl | (dsimp only; rfl; done) | (rfl; done) | (exfalso; grind)) (by first | with_reducible rfl | (dsimp only; rfl; done) | (rfl; done) | (exfalso; grind)) (by first | with_reducible rfl | (dsimp only; rfl; done) | (rfl; done) | (exfalso; grind))
theorem ct_m_code_f {I : jc_I} {O : jc_O} {live : jc_L → Prop} {p r : Int32} (hM : qM O) (hx : ((0 ≤ p ∧ p ≤ 8) ∧ (0 ≤ r ∧ r ≤ 2) ∧ ¬ 0 < I (10, 0, 0) 3)) (hf : I (15, 0, 0) 1 = 40) : jc_Ct y_m_code [.inr (some (10, 0, 0)), .inl p, .inl r] I O live (some (.inl (-12)), I, O, live, 0, 0) := by
  obtain ⟨m0, m2, m4, m6, m7⟩ := id hM
  refine jc_Ct.of (by decide +kernel) (Or.inl rfl) (Nat.le_of_ble_eq_true rfl) ?_
  refine jr_iload_n d_m_code_0 rfl rfl ?_
  refine jr_if_lt (tgt := 26) d_m_code_1 (by decide) (fun c1 => ?_) (fun c1 => ?_)
  · skip
    exfalso; clear hM; grind
  · skip
    refine jr_iload_n d_m_code_4 rfl rfl ?_
    refine jr_bipush (v := 8) d_m_code_5 (by decide) ?_
    refine jr_icmp_gt (tgt := 26) d_m_code_7 (by decide) (fun c7 => ?_) (fun c7 => ?_)
    · skip
      exfalso; clear hM; grind
    · skip
      refine jr_iload_n d_m_code_10 rfl rfl ?_
      refine jr_if_lt (tgt := 26) d_m_code_11 (by decide) (fun c11 => ?_) (fun c11 => ?_)
      · skip
        exfalso; clear hM; grind
      · skip
        refine jr_iload_n d_m_code_14 rfl rfl ?_
        refine jr_iconst (v := 2) d_m_code_15 (by decide) ?_
        refine jr_icmp_gt (tgt := 26) d_m_code_16 (by decide) (fun c16 => ?_) (fun c16 => ?_)
        · skip
          exfalso; clear hM; grind
        · skip
          refine jr_aload_n d_m_code_19 rfl rfl ?_
          refine jr_geti d_m_code_20 f_m_29 rfl ?_
          refine jr_if_le (tgt := 28) d_m_code_23 (by decide) (fun c23 => ?_) (fun c23 => ?_)
          · skip
            refine jr_aload_n d_m_code_28 rfl rfl ?_
            refine jr_getr d_m_code_29 f_m_10 rfl rfl ?_
            first | rw [m0] | skip
            refine jv_V0r d_m_code_32 l_m_33 k_aL_size ⟨Nat.le_of_ble_eq_true rfl, Nat.le_of_ble_eq_true rfl⟩ rfl rfl (Nat.le_of_ble_eq_true rfl) (ct_aL_size) (by first | decide | exact Nat.zero_le _ | (dsimp only; omega) | (dsimp only; grind)) (by first | decide | exact Nat.zero_le _ | (dsimp only; omega) | (dsimp only; grind)) ?_
            refine jr_bipush (v := 40) d_m_code_35 (by decide) ?_
            refine jr_icmp_ne (tgt := 43) d_m_code_37 (by decide) (fun c37 => ?_) (fun c37 => ?_)
            · skip
              exact absurd hf c37
            · skip
              refine jr_bipush (v := (-12)) d_m_code_40 (by decide) ?_
              exact jr_retX (v := some _) d_m_code_42 (by first | exact Nat.le_refl _ | exact Nat.zero_le _ | (dsimp only; omega)) (by first | exact Nat.le_refl _ | exact Nat.zero_le _ | (dsimp only; omega)) (by first | with_reducible rfl | (dsimp only; rfl; done) | (rfl; done) | (exfalso; grind)) (by first | with_reducible rfl | (dsimp only; rfl; done) | (rfl; done) | (exfalso; grind)) (by first | with_reducible rfl | (dsimp only; rfl; done) | (rfl; done) | (exfalso; grind)) (by first | with_reducible rfl | (dsimp only; rfl; done) | (rfl; done) | (exfalso; grind))
          · skip
            exfalso; clear hM; grind
def q_k1 (I : jc_I) (cn : Nat) (p r : Int32) : jc_I := qc_I (jc_cl I (11, cn, 0) 0) cn p r
def q_k1O (O : jc_O) (cn : Nat) : jc_O := jc_up (qc_O (jc_cl O (11, cn, 0) none) cn) (10, 0, 0) 1 (some (11, cn, 0))
def q_k1l (live : jc_L → Prop) (cn : Nat) : jc_L → Prop := qc_l (jadd (11, cn, 0) live) cn
def q_ki (I : jc_I) (O : jc_O) (live : jc_L → Prop) (cn : Nat) (p r : Int32) : jc_S := l_add (q_k1 I cn p r) (q_k1O O cn) (q_k1l live cn) 0 (11, cn, 0)
theorem qc_O_t {O : jc_O} {c a : Nat} {u : Nat × Nat} {k : Nat} (h1 : a ≠ 11) (h2 : ¬ (40 ≤ a ∧ a ≤ 46)) : qc_O O c (a, u) k = O (a, u) k := by
  unfold qc_O
  have g : ∀ b : Nat, 40 ≤ b → b ≤ 46 → a ≠ b := fun b x y e => h2 ⟨by omega, by omega⟩
  simp only [jc_up_t _ _ _ _ _ _ _ _ h1, jc_cl_t _ _ _ _ _ _ _ (g 40 (by omega) (by omega)), jc_cl_t _ _ _ _ _ _ _ (g 41 (by omega) (by omega)), jc_cl_t _ _ _ _ _ _ _ (g 42 (by omega) (by omega)), jc_cl_t _ _ _ _ _ _ _ (g 43 (by omega) (by omega)), jc_cl_t _ _ _ _ _ _ _ (g 44 (by omega) (by omega)), jc_cl_t _ _ _ _ _ _ _ (g 45 (by omega) (by omega)), jc_cl_t _ _ _ _ _ _ _ (g 46 (by omega) (by omega))]
theorem qc_I_t {I : jc_I} {c a : Nat} {p r : Int32} {u : Nat × Nat} {k : Nat} (h1 : a ≠ 11) (h2 : ¬ (40 ≤ a ∧ a ≤ 46)) : qc_I I c p r (a, u) k = I (a, u) k := by
  unfold qc_I
  have g : ∀ b : Nat, 40 ≤ b → b ≤ 46 → a ≠ b := fun b x y e => h2 ⟨by omega, by omega⟩
  simp only [jc_up_t _ _ _ _ _ _ _ _ h1, jc_cl_t _ _ _ _ _ _ _ (g 40 (by omega) (by omega)), jc_cl_t _ _ _ _ _ _ _ (g 41 (by omega) (by omega)), jc_cl_t _ _ _ _ _ _ _ (g 42 (by omega) (by omega)), jc_cl_t _ _ _ _ _ _ _ (g 43 (by omega) (by omega)), jc_cl_t _ _ _ _ _ _ _ (g 44 (by omega) (by omega)), jc_cl_t _ _ _ _ _ _ _ (g 45 (by omega) (by omega)), jc_cl_t _ _ _ _ _ _ _ (g 46 (by omega) (by omega))]
theorem qc_l_l {live : jc_L → Prop} {c : Nat} {q : jc_L} (h : qc_l live c q) : live q ∨ (40 ≤ q.1 ∧ q.1 ≤ 46 ∧ q.2 = (c, 0)) := by
  unfold qc_l at h
  rcases h with e | e | e | e | e | e | e | e <;> first | exact Or.inl e | (refine Or.inr ?_; rw [e]; exact ⟨by simp, by simp, rfl⟩)
theorem ql.k1 {I : jc_I} {O : jc_O} {live : jc_L → Prop} {y n cn : Nat} {p r : Int32} {f : Nat → jc_L} (h : ql I O live y n f) : ql (q_k1 I cn p r) (q_k1O O cn) (q_k1l live cn) y n f := by
  refine h.to ?_ ?_ (fun c i => ?_) (fun c hc => ?_)
  · unfold q_k1; rw [qc_I_t (by decide) (by decide), jc_cl_t _ _ _ _ _ _ _ (by decide)]
  · unfold q_k1O; rw [jc_up_t _ _ _ _ _ _ _ _ (by decide), qc_O_t (by decide) (by decide), jc_cl_t _ _ _ _ _ _ _ (by decide)]
  · unfold q_k1O; rw [jc_up_t _ _ _ _ _ _ _ _ (by decide), qc_O_t (by decide) (by decide), jc_cl_t _ _ _ _ _ _ _ (by decide)]
  · rcases qc_l_l hc with g | g
    · rcases g with g | g
      · cases g
      · exact g
    · exact absurd g.2.1 (by simp)
theorem ct_m_code_n {I : jc_I} {O : jc_O} {live : jc_L → Prop} {p r : Int32} {cn : Nat} (hM : qM O) (hx : ((0 ≤ p ∧ p ≤ 8) ∧ (0 ≤ r ∧ r ≤ 2) ∧ ¬ 0 < I (10, 0, 0) 3)) (hl : ql I O live 0 cn qCo) (hc4 : cn < 40) (fc : ¬ live (11, cn, 0)) (f0 : ¬ live (40, cn, 0)) (f1 : ¬ live (41, cn, 0)) (f2 : ¬ live (42, cn, 0)) (f3 : ¬ live (43, cn, 0)) (f4 : ¬ live (44, cn, 0)) (f5 : ¬ live (45, cn, 0)) (f6 : ¬ live (46, cn, 0)) : jc_Ct y_m_code [.inr (some (10, 0, 0)), .inl p, .inl r] I O live (some (.inl ((q_ki I O live cn p r).1 (15, 0, 0) 1 - 1)), (q_ki I O live cn p r).1, (q_ki I O live cn p r).2.1, (q_ki I O live cn p r).2.2.1, (q_ki I O live cn p r).2.2.2.1 + 8, (q_ki I O live cn p r).2.2.2.2 + 220) := by
  obtain ⟨m0, m2, m4, m6, m7⟩ := id hM
  have hq0 : q_k1O O cn (10, 0, 0) 0 = some (15, 0, 0) := by unfold q_k1O; rw [jc_up_k _ _ _ _ _ _ (by decide), qc_O_t (by decide) (by decide), jc_cl_t _ _ _ _ _ _ _ (by decide)]; exact m0
  have hq1 : q_k1O O cn (10, 0, 0) 1 = some (11, cn, 0) := jc_up_s _ _ _ _
  have hs0 : (q_ki I O live cn p r).2.1 (10, 0, 0) 0 = some (15, 0, 0) := by unfold q_ki; rw [l_add_O (by decide) (by decide)]; exact hq0
  have hsto : jc_sto "java/lang/Object" (some (11, cn, 0)) := fun q9 e9 => by cases e9; exact ⟨_, _, rfl, rfl, Or.inr ca_mC_oO⟩
  refine jc_Ct.of (by decide +kernel) (Or.inl rfl) (Nat.le_of_ble_eq_true rfl) ?_
  refine jr_iload_n d_m_code_0 rfl rfl ?_
  refine jr_if_lt (tgt := 26) d_m_code_1 (by decide) (fun c1 => ?_) (fun c1 => ?_)
  · skip
    exfalso; clear hM; grind
  · skip
    refine jr_iload_n d_m_code_4 rfl rfl ?_
    refine jr_bipush (v := 8) d_m_code_5 (by decide) ?_
    refine jr_icmp_gt (tgt := 26) d_m_code_7 (by decide) (fun c7 => ?_) (fun c7 => ?_)
    · skip
      exfalso; clear hM; grind
    · skip
      refine jr_iload_n d_m_code_10 rfl rfl ?_
      refine jr_if_lt (tgt := 26) d_m_code_11 (by decide) (fun c11 => ?_) (fun c11 => ?_)
      · skip
        exfalso; clear hM; grind
      · skip
        refine jr_iload_n d_m_code_14 rfl rfl ?_
        refine jr_iconst (v := 2) d_m_code_15 (by decide) ?_
        refine jr_icmp_gt (tgt := 26) d_m_code_16 (by decide) (fun c16 => ?_) (fun c16 => ?_)
        · skip
          exfalso; clear hM; grind
        · skip
          refine jr_aload_n d_m_code_19 rfl rfl ?_
          refine jr_geti d_m_code_20 f_m_29 rfl ?_
          refine jr_if_le (tgt := 28) d_m_code_23 (by decide) (fun c23 => ?_) (fun c23 => ?_)
          · skip
            refine jr_aload_n d_m_code_28 rfl rfl ?_
            refine jr_getr d_m_code_29 f_m_10 rfl rfl ?_
            first | rw [m0] | rw [hq0] | rw [hq1] | rw [hs0] | skip
            refine jv_V0r d_m_code_32 l_m_33 k_aL_size ⟨Nat.le_of_ble_eq_true rfl, Nat.le_of_ble_eq_true rfl⟩ rfl rfl (Nat.le_of_ble_eq_true rfl) (ct_aL_size) (by first | decide | exact Nat.zero_le _ | (dsimp only; omega) | (dsimp only; grind) | (omega)) (by first | decide | exact Nat.zero_le _ | (dsimp only; omega) | (dsimp only; grind) | (omega)) ?_
            refine jr_bipush (v := 40) d_m_code_35 (by decide) ?_
            refine jr_icmp_ne (tgt := 43) d_m_code_37 (by decide) (fun c37 => ?_) (fun c37 => ?_)
            · skip
              refine jr_aload_n d_m_code_43 rfl rfl ?_
              refine jr_new (11, cn, 0) d_m_code_44 n_m_37 rfl (fc) (by first | decide | (dsimp only; omega)) (by first | decide | (dsimp only; omega)) ?_
              refine jr_dup d_m_code_47 ?_
              refine jr_iload_n d_m_code_48 rfl rfl ?_
              refine jr_iload_n d_m_code_49 rfl rfl ?_
              refine jv_I2vA d_m_code_50 l_m_39 k_mC_init ⟨Nat.le_of_ble_eq_true rfl, Nat.le_of_ble_eq_true rfl⟩ (Nat.le_of_ble_eq_true rfl) (show jc_Ct y_mC_init _ _ _ _ (none, q_k1 I cn p r, qc_O (jc_cl O (11, cn, 0) none) cn, q_k1l live cn, 7, 208) from ct_mC_init (c := cn) (by simp [*]) (by simp [*]) (by simp [*]) (by simp [*]) (by simp [*]) (by simp [*]) (by simp [*])) (fun q9 h9 => by unfold q_k1l qc_l; simp only [jadd]; exact Or.inr (Or.inr (Or.inr (Or.inr (Or.inr (Or.inr (Or.inr h9))))))) (by first | decide | exact Nat.zero_le _ | (dsimp only; omega) | (dsimp only; grind) | (omega)) (by first | decide | exact Nat.zero_le _ | (dsimp only; omega) | (dsimp only; grind) | (omega)) ?_
              refine jr_putr d_m_code_53 f_m_42 (Or.inl rfl) rfl rfl ?_
              change jc_R _ _ _ _ _ (q_k1O O cn) _ _ _ _
              refine jr_aload_n d_m_code_56 rfl rfl ?_
              refine jr_getr d_m_code_57 f_m_10 rfl rfl ?_
              skip
              first | rw [m0] | rw [hq0] | rw [hq1] | rw [hs0] | skip
              refine jr_aload_n d_m_code_60 rfl rfl ?_
              refine jr_getr d_m_code_61 f_m_42 rfl rfl ?_
              skip
              first | rw [m0] | rw [hq0] | rw [hq1] | rw [hs0] | skip
              refine jv_V1rA d_m_code_64 l_m_46 k_aL_add1 ⟨Nat.le_of_ble_eq_true rfl, Nat.le_of_ble_eq_true rfl⟩ rfl rfl (Nat.le_of_ble_eq_true rfl) (show jc_Ct y_aL_add1 _ _ _ _ (some (.inl 1), (q_ki I O live cn p r).1, (q_ki I O live cn p r).2.1, (q_ki I O live cn p r).2.2.1, (q_ki I O live cn p r).2.2.2.1, (q_ki I O live cn p r).2.2.2.2) from ct_aL_add (x := 0) hl.k1 hsto) (fun q9 h9 => l_add_live q9 h9) (by first | decide | exact Nat.zero_le _ | (dsimp only; omega) | (dsimp only; grind) | (omega)) (by first | decide | exact Nat.zero_le _ | (dsimp only; omega) | (dsimp only; grind) | (omega)) ?_
              refine jr_pop d_m_code_67 ?_
              refine jr_aload_n d_m_code_68 rfl rfl ?_
              refine jr_getr d_m_code_69 f_m_10 rfl rfl ?_
              skip
              first | rw [m0] | rw [hq0] | rw [hq1] | rw [hs0] | skip
              refine jv_V0r d_m_code_72 l_m_33 k_aL_size ⟨Nat.le_of_ble_eq_true rfl, Nat.le_of_ble_eq_true rfl⟩ rfl rfl (Nat.le_of_ble_eq_true rfl) (ct_aL_size) (by first | decide | exact Nat.zero_le _ | (dsimp only; omega) | (dsimp only; grind) | (omega)) (by first | decide | exact Nat.zero_le _ | (dsimp only; omega) | (dsimp only; grind) | (omega)) ?_
              refine jr_iconst (v := 1) d_m_code_75 (by decide) ?_
              refine jr_isub d_m_code_76 ?_
              exact jr_retX (v := some _) d_m_code_77 (by first | exact Nat.le_refl _ | exact Nat.zero_le _ | (dsimp only; omega) | (omega)) (by first | exact Nat.le_refl _ | exact Nat.zero_le _ | (dsimp only; omega) | (omega)) (by first | with_reducible rfl | (dsimp only; rfl; done) | (rfl; done) | (exfalso; grind)) (by first | with_reducible rfl | (dsimp only; rfl; done) | (rfl; done) | (exfalso; grind)) (by first | with_reducible rfl | (dsimp only; rfl; done) | (rfl; done) | (exfalso; grind)) (by first | with_reducible rfl | (dsimp only; rfl; done) | (rfl; done) | (exfalso; grind))
            · skip
              exfalso; rw [hl.sz] at c37; have c37 := congrArg Int32.toInt c37; rw [jofI (by omega), show (40 : Int32).toInt = 40 from by decide] at c37; omega
          · skip
            exfalso; clear hM; grind
theorem lp_m_reset {I : jc_I} {O : jc_O} {live : jc_L → Prop} (g6 : O (10, 0, 0) 6 = some (50, 0, 0)) : ∀ (m r : Nat), r + m = 4 → jc_R y_m_reset 19 [some (.inr (some (10, 0, 0))), some (.inl (Int32.ofNat r))] [] (jc_zr I (50, 0, 0) r 0) O live 0 0 (none, jc_zr I (50, 0, 0) 4 0, O, live, 0, 0) := by
  intro m
  induction m with
  | zero =>
    intro r hm
    (have a1 := jofI (n := r) (by omega)); (have a3 := jofN (n := r) (by omega)); (have a4 : (4 : Int32).toInt = 4 := by decide)
    refine jr_iload_n d_m_reset_19 rfl rfl ?_
    refine jr_iconst (v := 4) d_m_reset_20 (by decide) ?_
    refine jr_icmp_ge (tgt := 37) d_m_reset_21 (by decide) (fun c21 => ?_) (fun c21 => ?_)
    · skip
      exact jr_retX (v := none) d_m_reset_37 (by first | exact Nat.le_refl _ | exact Nat.zero_le _ | (dsimp only; omega)) (by first | exact Nat.le_refl _ | exact Nat.zero_le _ | (dsimp only; omega)) (by first | with_reducible rfl | (dsimp only; (rw [show r = 4 from by omega]); done) | ((rw [show r = 4 from by omega]); done) | (exfalso; grind)) (by first | with_reducible rfl | (dsimp only; (rw [show r = 4 from by omega]); done) | ((rw [show r = 4 from by omega]); done) | (exfalso; grind)) (by first | with_reducible rfl | (dsimp only; (rw [show r = 4 from by omega]); done) | ((rw [show r = 4 from by omega]); done) | (exfalso; grind)) (by first | with_reducible rfl | (dsimp only; (rw [show r = 4 from by omega]); done) | ((rw [show r = 4 from by omega]); done) | (exfalso; grind))
    · skip
      exfalso; rw [jle, a1, a4] at c21; omega
  | succ m ih =>
    intro r hm
    (have a1 := jofI (n := r) (by omega)); (have a3 := jofN (n := r) (by omega)); (have a4 : (4 : Int32).toInt = 4 := by decide)
    refine jr_iload_n d_m_reset_19 rfl rfl ?_
    refine jr_iconst (v := 4) d_m_reset_20 (by decide) ?_
    refine jr_icmp_ge (tgt := 37) d_m_reset_21 (by decide) (fun c21 => ?_) (fun c21 => ?_)
    · skip
      exfalso; rw [jle, a1, a4] at c21; omega
    · skip
      refine jr_aload_n d_m_reset_24 rfl rfl ?_
      refine jr_getr d_m_reset_25 f_m_22 rfl rfl ?_
      first | rw [g6] | skip
      refine jr_iload_n d_m_reset_28 rfl rfl ?_
      refine jr_iconst (v := 0) d_m_reset_29 (by decide) ?_
      refine jr_iast d_m_reset_30 rfl rfl rfl (jinv (by rw [jle, a1, j0I]; omega) (by rw [a3]; show r < 4; omega)) ?_
      rw [a3, jc_zr_s]
      refine jr_iinc d_m_reset_31 rfl jinc1 ?_
      refine jr_goto (tgt := 19) d_m_reset_34 (by decide) ?_
      exact (by have e := ih (r + 1) (by omega); rw [← jof1 (by omega)] at e; exact e)
theorem ct_m_reset {I : jc_I} {O : jc_O} {live : jc_L → Prop} {n : Nat} {f : Nat → jc_L} (hM : qM O) (hl : ql I O live 2 n f) : jc_Ct y_m_reset [.inr (some (10, 0, 0))] I O live (none, jc_zr (jc_up (jc_up (jc_up I (10, 0, 0) 3 0) (15, 2, 0) 2 (I (15, 2, 0) 2 + 1)) (15, 2, 0) 1 0) (50, 0, 0) 4 0, jc_up (jc_zr O (60, 2, lcap O 2) n none) (10, 0, 0) 1 none, live, 0, 0) := by
  obtain ⟨m0, m2, m4, m6, m7⟩ := id hM
  refine jc_Ct.of (by decide +kernel) (rfl) (Nat.le_of_ble_eq_true rfl) ?_
  refine jr_aload_n d_m_reset_0 rfl rfl ?_
  refine jr_iconst (v := 0) d_m_reset_1 (by decide) ?_
  refine jr_puti d_m_reset_2 f_m_29 (Or.inl rfl) rfl ?_
  refine jr_aload_n d_m_reset_5 rfl rfl ?_
  refine jr_getr d_m_reset_6 f_m_19 rfl rfl ?_
  try simp only [jc_up_s, jc_up_k, jc_up_t, jc_cl_s, jc_cl_t, ne_eq, Nat.reduceEqDiff, not_false_eq_true, Nat.reduceAdd]
  first | rw [m4] | skip
  refine jv_V0v d_m_reset_9 l_m_245 k_aL_clear ⟨Nat.le_of_ble_eq_true rfl, Nat.le_of_ble_eq_true rfl⟩ rfl rfl (Nat.le_of_ble_eq_true rfl) (show jc_Ct y_aL_clear _ _ _ _ (none, jc_up (jc_up (jc_up I (10, 0, 0) 3 0) (15, 2, 0) 2 (I (15, 2, 0) 2 + 1)) (15, 2, 0) 1 0, jc_zr O (60, 2, lcap O 2) n none, _, 0, 0) from (by have e := ct_aL_clearq (hl.to (I' := jc_up I (10, 0, 0) 3 0) (jc_up_t _ _ _ _ _ _ _ _ (by decide)) rfl (fun _ _ => rfl) (fun _ h => h)); rw [jc_up_t _ _ _ _ _ _ _ _ (show (15 : Nat) ≠ 10 by decide)] at e; exact e)) (by first | decide | exact Nat.zero_le _ | (dsimp only; omega) | (dsimp only; grind)) (by first | decide | exact Nat.zero_le _ | (dsimp only; omega) | (dsimp only; grind)) ?_
  refine jr_aload_n d_m_reset_12 rfl rfl ?_
  refine jr_null d_m_reset_13 ?_
  refine jr_putr d_m_reset_14 f_m_42 (Or.inl rfl) rfl rfl ?_
  refine jr_iconst (v := 0) d_m_reset_17 (by decide) ?_
  refine jr_istore_n d_m_reset_18 rfl (Nat.le_of_ble_eq_true rfl) ?_
  exact (by have e := lp_m_reset (I := jc_up (jc_up (jc_up I (10, 0, 0) 3 0) (15, 2, 0) 2 (I (15, 2, 0) 2 + 1)) (15, 2, 0) 1 0) (O := jc_up (jc_zr O (60, 2, lcap O 2) n none) (10, 0, 0) 1 none) (live := live) (by rw [jc_up_k _ _ _ _ _ _ (by decide)]; show jc_zr _ _ _ _ _ _ = _; unfold jc_zr; rw [if_neg (by simp)]; exact m6) 4 0 (by omega); rw [jc_zr_0] at e; exact e)
