/-- all codes of the reference may be judged -/
def qB (I : jc_I) (cn : Nat) : Prop := ∀ d, d < cn → qr I d ∧ (∀ i, i < (I (11, d, 0) 6).toNatClampNeg → 0 ≤ I (41, d, 0) i ∧ I (41, d, 0) i ≤ 26) ∧ ∀ i, p_lk (bq I) d i = 0 ∨ 0 < p_lk (bq I) d i
theorem qB.to {I J : jc_I} {cn : Nat} (h : qB I cn) (e : ∀ q k, q.1 = 11 ∨ q.1 = 15 ∨ (40 ≤ q.1 ∧ q.1 ≤ 46) → J q k = I q k) : qB J cn := by
  have eb : bq J = bq I := bq_eq (fun q k hq => e q k (by omega))
  intro d hd
  obtain ⟨a, b, c⟩ := h d hd
  unfold qr at *
  rw [eb, e _ 11 (Or.inl rfl), e _ 6 (Or.inl rfl)]
  refine ⟨fun r hr => ?_, fun i hi => ?_, c⟩
  · rw [e _ r (by simp)]; exact a r hr
  · rw [e _ i (by simp)]; exact b i hi
theorem qE.B {I J : jc_I} (h : qE I J) {cn : Nat} (hB : qB I cn) : qB J cn := hB.to (fun q k hq => h q k (fun g => by rw [g] at hq; simp at hq) (fun g => by rw [g.1] at hq; simp at hq))
theorem qZ.B {z : Nat} {I J : jc_I} (h : qZ z I J) {cn : Nat} (hB : qB I cn) : qB J cn := hB.to (fun q k hq => h.1 q k (fun g => by rw [g] at hq; simp at hq))
theorem qk_good {I : jc_I} {O : jc_O} {c : Nat} (h : qk I O) : qk (q_good I c).2 O := by
  have ar : ∀ (J : jc_I) (r : Nat) (b : Int32), qk J O → qk (q_ar J c r b).2 O := fun J r b h => qk.ite h (qk.ite (qk.ite h (qk.ite h (qk_up h (by decide) (by decide)))) (qk.ite (qk_up (qk_51 h) (by decide) (by decide)) h))
  have gl : ∀ (m r : Nat) (J : jc_I), qk J O → qk (q_gl c m r J).2 O := by
    intro m
    induction m with
    | zero => intro r J h; exact h
    | succ m ih => intro r J h; exact (((ar J r _ h).and (fun J2 h2 => h2.gs))).and (fun J2 h2 => ih (r + 1) J2 h2)
  exact qk.ite (qk.ite h (gl _ _ _ (qk_up h (by decide) (by decide)))) h
theorem qE_good {I : jc_I} {c : Nat} : qE I (q_good I c).2 := qE.ite (qE.ite qE.rf (qE_8.tr (qE_gl _ _ _))) qE.rf
theorem lp_m_ag141 {O : jc_O} {live : jc_L → Prop} {z cn : Nat} {fi : Int32} {nc ns : Nat} {u0 u1 u2 : Option jc_V} (hcn : cn ≤ 40) : ∀ (m : Nat) (I : jc_I) (c : Nat), qA I O live cn → qB I cn → qk I O → (∀ k, I (52, z, 0) k = 0 ∨ I (52, z, 0) k = 1) → c + m = cn → ∃ (v : Int32) (K : jc_I), (v = 0 ∨ v = 1) ∧ (v = 1 ↔ ∀ d, c ≤ d → d < cn → I (52, z, 0) d ≠ 0 → p_good (bq I) d) ∧ qE I K ∧ qk K O ∧ jc_R y_m_isAllGood 141 [some (.inr (some (10, 0, 0))), some (.inl fi), some (.inr (some (52, z, 0))), u0, some (.inl (Int32.ofNat c)), u1, u2] [] I O live nc ns (some (.inl v), K, O, live, nc, ns) := by
  intro m
  induction m with
  | zero =>
    intro I c hA hB hk h01 hm
    obtain ⟨m0, m2, m4, m6, m7⟩ := id hA.1; (have hsz := hA.2.1.sz); (have a1 := jofI (n := c) (by omega)); (have ac := jofN (n := c) (by omega)); (have acn := jofI (n := cn) (by omega))
    refine ⟨1, I, Or.inr rfl, ⟨fun _ d a b => absurd b (by omega), fun _ => rfl⟩, qE.rf, hk, ?_⟩
    refine jr_iload d_m_isAllGood_141 rfl ?_
    refine jr_aload_n d_m_isAllGood_143 rfl rfl ?_
    refine jr_getr d_m_isAllGood_144 f_m_10 rfl rfl ?_
    first | rw [m0] | skip
    refine jv_V0r d_m_isAllGood_147 l_m_33 k_aL_size ⟨Nat.le_of_ble_eq_true rfl, Nat.le_of_ble_eq_true rfl⟩ rfl rfl (Nat.le_of_ble_eq_true rfl) (ct_aL_size) (by first | decide | exact Nat.zero_le _ | (dsimp only; omega) | (dsimp only; first | exact h01 _ | (clear hA hB h01; grind)) | (exact Nat.le_refl _)) (by first | decide | exact Nat.zero_le _ | (dsimp only; omega) | (dsimp only; first | exact h01 _ | (clear hA hB h01; grind)) | (exact Nat.le_refl _)) ?_
    rw [hsz]
    refine jr_icmp_ge (tgt := 187) d_m_isAllGood_150 (by decide) (fun c150 => ?_) (fun c150 => ?_)
    · skip
      refine jr_iconst (v := 1) d_m_isAllGood_187 (by decide) ?_
      exact jr_retX (v := some _) d_m_isAllGood_188 (by first | exact Nat.le_refl _ | exact Nat.zero_le _ | (dsimp only; omega) | (exact Nat.le_refl _)) (by first | exact Nat.le_refl _ | exact Nat.zero_le _ | (dsimp only; omega) | (exact Nat.le_refl _)) (by first | with_reducible rfl | (dsimp only; rfl; done) | (rfl; done) | (exfalso; first | exact h01 _ | (clear hA hB h01; grind))) (by first | with_reducible rfl | (dsimp only; rfl; done) | (rfl; done) | (exfalso; first | exact h01 _ | (clear hA hB h01; grind))) (by first | with_reducible rfl | (dsimp only; rfl; done) | (rfl; done) | (exfalso; first | exact h01 _ | (clear hA hB h01; grind))) (by first | with_reducible rfl | (dsimp only; rfl; done) | (rfl; done) | (exfalso; first | exact h01 _ | (clear hA hB h01; grind)))
    · skip
      exfalso; rw [jle, a1, acn] at c150; omega
  | succ m ih =>
    intro I c hA hB hk h01 hm
    obtain ⟨m0, m2, m4, m6, m7⟩ := id hA.1; (have hsz := hA.2.1.sz); (have a1 := jofI (n := c) (by omega)); (have ac := jofN (n := c) (by omega)); (have acn := jofI (n := cn) (by omega))
    by_cases hme : I (52, z, 0) c = 0
    · obtain ⟨v, K, h1, h2, h3, h4, e⟩ := ih I (c + 1) hA hB hk h01 (by omega)
      refine ⟨v, K, h1, h2.trans ⟨fun g d a b g2 => ?_, fun g d a b g2 => g d (by omega) b g2⟩, h3, h4, ?_⟩
      · by_cases x : d = c
        · subst x; exact absurd hme g2
        · exact g d (by omega) b g2
      refine jr_iload d_m_isAllGood_141 rfl ?_
      refine jr_aload_n d_m_isAllGood_143 rfl rfl ?_
      refine jr_getr d_m_isAllGood_144 f_m_10 rfl rfl ?_
      first | rw [m0] | skip
      refine jv_V0r d_m_isAllGood_147 l_m_33 k_aL_size ⟨Nat.le_of_ble_eq_true rfl, Nat.le_of_ble_eq_true rfl⟩ rfl rfl (Nat.le_of_ble_eq_true rfl) (ct_aL_size) (by first | decide | exact Nat.zero_le _ | (dsimp only; omega) | (dsimp only; first | exact h01 _ | (clear hA hB h01; grind)) | (exact Nat.le_refl _)) (by first | decide | exact Nat.zero_le _ | (dsimp only; omega) | (dsimp only; first | exact h01 _ | (clear hA hB h01; grind)) | (exact Nat.le_refl _)) ?_
      rw [hsz]
      refine jr_icmp_ge (tgt := 187) d_m_isAllGood_150 (by decide) (fun c150 => ?_) (fun c150 => ?_)
      · skip
        exfalso; rw [jle, a1, acn] at c150; omega
      · skip
        refine jr_aload_n d_m_isAllGood_153 rfl rfl ?_
        refine jr_iload d_m_isAllGood_154 rfl ?_
        refine jr_zald d_m_isAllGood_156 rfl rfl rfl (jinv (by rw [jle, a1, j0I]; omega) (by rw [ac]; show c < 40; omega)) ?_
        rw [ac]
        refine jr_if_eq (tgt := 181) d_m_isAllGood_157 (by decide) (fun c157 => ?_) (fun c157 => ?_)
        · skip
          refine jr_iinc d_m_isAllGood_181 rfl jinc1 ?_
          refine jr_goto (tgt := 141) d_m_isAllGood_184 (by decide) ?_
          exact (by rw [← jof1 (by omega)] at e; exact e)
        · skip
          exfalso; exact c157 hme
    · obtain ⟨hc, hn, hp1, hp2⟩ := hA.2.2 c (by omega)
      have hgi := q_good_iff hn (hB c (by omega)).1 (hB c (by omega)).2.1 (hB c (by omega)).2.2
      by_cases hg : (q_good I c).1 = 0
      · refine ⟨0, (q_good I c).2, Or.inl rfl, ⟨fun g => absurd g (by decide), fun g => ?_⟩, qE_good, qk_good hk, ?_⟩
        · have := hgi.mpr (g c (Nat.le_refl _) (by omega) hme)
          rw [hg] at this
          exact absurd this (by decide)
        refine jr_iload d_m_isAllGood_141 rfl ?_
        refine jr_aload_n d_m_isAllGood_143 rfl rfl ?_
        refine jr_getr d_m_isAllGood_144 f_m_10 rfl rfl ?_
        first | rw [m0] | skip
        refine jv_V0r d_m_isAllGood_147 l_m_33 k_aL_size ⟨Nat.le_of_ble_eq_true rfl, Nat.le_of_ble_eq_true rfl⟩ rfl rfl (Nat.le_of_ble_eq_true rfl) (ct_aL_size) (by first | decide | exact Nat.zero_le _ | (dsimp only; omega) | (dsimp only; first | exact h01 _ | (clear hA hB h01; grind)) | (exact Nat.le_refl _)) (by first | decide | exact Nat.zero_le _ | (dsimp only; omega) | (dsimp only; first | exact h01 _ | (clear hA hB h01; grind)) | (exact Nat.le_refl _)) ?_
        rw [hsz]
        refine jr_icmp_ge (tgt := 187) d_m_isAllGood_150 (by decide) (fun c150 => ?_) (fun c150 => ?_)
        · skip
          exfalso; rw [jle, a1, acn] at c150; omega
        · skip
          refine jr_aload_n d_m_isAllGood_153 rfl rfl ?_
          refine jr_iload d_m_isAllGood_154 rfl ?_
          refine jr_zald d_m_isAllGood_156 rfl rfl rfl (jinv (by rw [jle, a1, j0I]; omega) (by rw [ac]; show c < 40; omega)) ?_
          rw [ac]
          refine jr_if_eq (tgt := 181) d_m_isAllGood_157 (by decide) (fun c157 => ?_) (fun c157 => ?_)
          · skip
            exfalso; exact hme c157
          · skip
            refine jr_aload_n d_m_isAllGood_160 rfl rfl ?_
            refine jr_aload_n d_m_isAllGood_161 rfl rfl ?_
            refine jr_getr d_m_isAllGood_162 f_m_10 rfl rfl ?_
            first | rw [m0] | skip
            refine jr_iload d_m_isAllGood_165 rfl ?_
            refine jv_V1r d_m_isAllGood_167 l_m_126 k_aL_get ⟨Nat.le_of_ble_eq_true rfl, Nat.le_of_ble_eq_true rfl⟩ rfl rfl (Nat.le_of_ble_eq_true rfl) (ct_aL_getq hA.2.1 rfl (k := c) (by omega)) (by first | decide | exact Nat.zero_le _ | (dsimp only; omega) | (dsimp only; first | exact h01 _ | (clear hA hB h01; grind)) | (exact Nat.le_refl _)) (by first | decide | exact Nat.zero_le _ | (dsimp only; omega) | (dsimp only; first | exact h01 _ | (clear hA hB h01; grind)) | (exact Nat.le_refl _)) ?_
            first | rw [m0] | skip
            refine jr_cast d_m_isAllGood_170 c_m_37 rfl ⟨_, rfl, ca_mC_mC⟩ ?_
            refine jv_V1r d_m_isAllGood_173 l_m_130 k_m_isGood ⟨Nat.le_of_ble_eq_true rfl, Nat.le_of_ble_eq_true rfl⟩ rfl rfl (Nat.le_of_ble_eq_true rfl) (ct_m_isGood hA hk hc hn (hB c (by omega)).2.1) (by first | decide | exact Nat.zero_le _ | (dsimp only; omega) | (dsimp only; first | exact h01 _ | (clear hA hB h01; grind)) | (exact Nat.le_refl _)) (by first | decide | exact Nat.zero_le _ | (dsimp only; omega) | (dsimp only; first | exact h01 _ | (clear hA hB h01; grind)) | (exact Nat.le_refl _)) ?_
            refine jr_if_ne (tgt := 181) d_m_isAllGood_176 (by decide) (fun c176 => ?_) (fun c176 => ?_)
            · skip
              exfalso; exact c176 hg
            · skip
              refine jr_iconst (v := 0) d_m_isAllGood_179 (by decide) ?_
              exact jr_retX (v := some _) d_m_isAllGood_180 (by first | exact Nat.le_refl _ | exact Nat.zero_le _ | (dsimp only; omega) | (exact Nat.le_refl _)) (by first | exact Nat.le_refl _ | exact Nat.zero_le _ | (dsimp only; omega) | (exact Nat.le_refl _)) (by first | with_reducible rfl | (dsimp only; rfl; done) | (rfl; done) | (exfalso; first | exact h01 _ | (clear hA hB h01; grind))) (by first | with_reducible rfl | (dsimp only; rfl; done) | (rfl; done) | (exfalso; first | exact h01 _ | (clear hA hB h01; grind))) (by first | with_reducible rfl | (dsimp only; rfl; done) | (rfl; done) | (exfalso; first | exact h01 _ | (clear hA hB h01; grind))) (by first | with_reducible rfl | (dsimp only; rfl; done) | (rfl; done) | (exfalso; first | exact h01 _ | (clear hA hB h01; grind)))
      · have hg1 : p_good (bq I) c := hgi.mp (q_good01.resolve_left hg)
        have hE : qE I (q_good I c).2 := qE_good
        have eq52 : ∀ k, (q_good I c).2 (52, z, 0) k = I (52, z, 0) k := fun k => hE _ _ (by simp) (by simp)
        obtain ⟨v, K, h1, h2, h3, h4, e⟩ := ih (q_good I c).2 (c + 1) (hE.A hA) (hE.B hB) (qk_good hk) (fun k => by rw [eq52]; exact h01 k) (by omega)
        refine ⟨v, K, h1, h2.trans ⟨fun g d a b g2 => ?_, fun g d a b g2 => by rw [hE.bkq]; exact g d (by omega) b (by rw [eq52] at g2; exact g2)⟩, hE.tr h3, h4, ?_⟩
        · by_cases x : d = c
          · subst x; exact hg1
          · have := g d (by omega) b (by rw [eq52]; exact g2)
            rw [hE.bkq] at this
            exact this
        refine jr_iload d_m_isAllGood_141 rfl ?_
        refine jr_aload_n d_m_isAllGood_143 rfl rfl ?_
        refine jr_getr d_m_isAllGood_144 f_m_10 rfl rfl ?_
        first | rw [m0] | skip
        refine jv_V0r d_m_isAllGood_147 l_m_33 k_aL_size ⟨Nat.le_of_ble_eq_true rfl, Nat.le_of_ble_eq_true rfl⟩ rfl rfl (Nat.le_of_ble_eq_true rfl) (ct_aL_size) (by first | decide | exact Nat.zero_le _ | (dsimp only; omega) | (dsimp only; first | exact h01 _ | (clear hA hB h01; grind)) | (exact Nat.le_refl _)) (by first | decide | exact Nat.zero_le _ | (dsimp only; omega) | (dsimp only; first | exact h01 _ | (clear hA hB h01; grind)) | (exact Nat.le_refl _)) ?_
        rw [hsz]
        refine jr_icmp_ge (tgt := 187) d_m_isAllGood_150 (by decide) (fun c150 => ?_) (fun c150 => ?_)
        · skip
          exfalso; rw [jle, a1, acn] at c150; omega
        · skip
          refine jr_aload_n d_m_isAllGood_153 rfl rfl ?_
          refine jr_iload d_m_isAllGood_154 rfl ?_
          refine jr_zald d_m_isAllGood_156 rfl rfl rfl (jinv (by rw [jle, a1, j0I]; omega) (by rw [ac]; show c < 40; omega)) ?_
          rw [ac]
          refine jr_if_eq (tgt := 181) d_m_isAllGood_157 (by decide) (fun c157 => ?_) (fun c157 => ?_)
          · skip
            exfalso; exact hme c157
          · skip
            refine jr_aload_n d_m_isAllGood_160 rfl rfl ?_
            refine jr_aload_n d_m_isAllGood_161 rfl rfl ?_
            refine jr_getr d_m_isAllGood_162 f_m_10 rfl rfl ?_
            first | rw [m0] | skip
            refine jr_iload d_m_isAllGood_165 rfl ?_
            refine jv_V1r d_m_isAllGood_167 l_m_126 k_aL_get ⟨Nat.le_of_ble_eq_true rfl, Nat.le_of_ble_eq_true rfl⟩ rfl rfl (Nat.le_of_ble_eq_true rfl) (ct_aL_getq hA.2.1 rfl (k := c) (by omega)) (by first | decide | exact Nat.zero_le _ | (dsimp only; omega) | (dsimp only; first | exact h01 _ | (clear hA hB h01; grind)) | (exact Nat.le_refl _)) (by first | decide | exact Nat.zero_le _ | (dsimp only; omega) | (dsimp only; first | exact h01 _ | (clear hA hB h01; grind)) | (exact Nat.le_refl _)) ?_
            first | rw [m0] | skip
            refine jr_cast d_m_isAllGood_170 c_m_37 rfl ⟨_, rfl, ca_mC_mC⟩ ?_
            refine jv_V1r d_m_isAllGood_173 l_m_130 k_m_isGood ⟨Nat.le_of_ble_eq_true rfl, Nat.le_of_ble_eq_true rfl⟩ rfl rfl (Nat.le_of_ble_eq_true rfl) (ct_m_isGood hA hk hc hn (hB c (by omega)).2.1) (by first | decide | exact Nat.zero_le _ | (dsimp only; omega) | (dsimp only; first | exact h01 _ | (clear hA hB h01; grind)) | (exact Nat.le_refl _)) (by first | decide | exact Nat.zero_le _ | (dsimp only; omega) | (dsimp only; first | exact h01 _ | (clear hA hB h01; grind)) | (exact Nat.le_refl _)) ?_
            refine jr_if_ne (tgt := 181) d_m_isAllGood_176 (by decide) (fun c176 => ?_) (fun c176 => ?_)
            · skip
              refine jr_iinc d_m_isAllGood_181 rfl jinc1 ?_
              refine jr_goto (tgt := 141) d_m_isAllGood_184 (by decide) ?_
              exact (by rw [← jof1 (by omega)] at e; exact e)
            · skip
              exfalso; exact hg c176
