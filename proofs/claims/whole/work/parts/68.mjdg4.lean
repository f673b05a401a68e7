/-- all codes of the reference may be judged -/
def qB (I : jc_I) (cn : Nat) : Prop := ∀ d, d < cn → qr I d ∧ (∀ i, i < (I (11, d, 0) 6).toNatClampNeg → 0 ≤ I (41, d, 0) i ∧ I (41, d, 0) i ≤ 26) ∧ ∀ i, p_lk (bq I) d i = 0 ∨ 0 < p_lk (bq I) d i
theorem qB.to {I J : jc_I} {cn : Nat} (h : qB I cn) (e : ∀ q k, q.1 = 11 ∨ q.1 = 15 ∨ (40 ≤ q.1 ∧ q.1 ≤ 46) → J q k = I q k) : qB J cn := by
  have eb : bq J = bq I := bq_eq (fun q k hq => e q k (by omega))
  intro d hd
  obtain ⟨a, b, c⟩ := h d hd
  unfold qr at *
  rw [eb, e _ 11 (Or.inl rfl), e _ 6 (Or.inl rfl)]
  refine ⟨fun r hr => ?_, fun i hi => ?_, c⟩
  · rw [e _ r (by simp)]; exact a r hr
  · rw [e _ i (by simp)]; exact b i hi
theorem qE.B {I J : jc_I} (h : qE I J) {cn : Nat} (hB : qB I cn) : qB J cn := hB.to (fun q k hq => h q k (fun g => by rw [g] at hq; simp at hq) (fun g => by rw [g.1] at hq; simp at hq))
theorem qZ.B {z : Nat} {I J : jc_I} (h : qZ z I J) {cn : Nat} (hB : qB I cn) : qB J cn := hB.to (fun q k hq => h.1 q k (fun g => by rw [g] at hq; simp at hq))
theorem qk_good {I : jc_I} {O : jc_O} {c : Nat} (h : qk I O) : qk (q_good I c).2 O := by
  have ar : ∀ (J : jc_I) (r : Nat) (b : Int32), qk J O → qk (q_ar J c r b).2 O := fun J r b h => qk.ite h (qk.ite (qk.ite h (qk.ite h (qk_up h (by decide) (by decide)))) (qk.ite (qk_up (qk_51 h) (by decide) (by decide)) h))
  have gl : ∀ (m r : Nat) (J : jc_I), qk J O → qk (q_gl c m r J).2 O := by
    intro m
    induction m with
    | zero => intro r J h; exact h
    | succ m ih => intro r J h; exact (((ar J r _ h).and (fun J2 h2 => h2.gs))).and (fun J2 h2 => ih (r + 1) J2 h2)
  exact qk.ite (qk.ite h (gl _ _ _ (qk_up h (by decide) (by decide)))) h
theorem qE_good {I : jc_I} {c : Nat} : qE I (q_good I c).2 := qE.ite (qE.ite qE.rf (qE_8.tr (qE_gl _ _ _))) qE.rf
theorem lp_m_ag141 {O : jc_O} {live : jc_L → Prop} {z cn : Nat} {fi : Int32} {nc ns : Nat} (hcn : cn ≤ 40) : ∀ (m : Nat) (I : jc_I) (c : Nat), qA I O live cn → qB I cn → qk I O → (∀ k, I (52, z, 0) k = 0 ∨ I (52, z, 0) k = 1) → c + m = cn → ∃ (v : Int32) (K : jc_I), (v = 0 ∨ v = 1) ∧ (v = 1 ↔ ∀ d, c ≤ d → d < cn → I (52, z, 0) d ≠ 0 → p_good (bq I) d) ∧ qE I K ∧ qk K O ∧ ∀ u0 u1 u2 : Option jc_V, jc_R y_m_isAllGood 141 [some (.inr (some (10, 0, 0))), some (.inl fi), some (.inr (some (52, z, 0))), u0, some (.inl (Int32.ofNat c)), u1, u2] [] I O live nc ns (some (.inl v), K, O, live, nc, ns) := by
  intro m
  induction m with
  | zero =>
    intro I c hA hB hk h01 hm
    obtain ⟨m0, m2, m4, m6, m7⟩ := id hA.1; (have hsz := hA.2.1.sz); (have a1 := jofI (n := c) (by omega)); (have ac := jofN (n := c) (by omega)); (have acn := jofI (n := cn) (by omega))
    refine ⟨1, I, Or.inr rfl, ⟨fun _ d a b => absurd b (by omega), fun _ => rfl⟩, qE.rf, hk, fun u0 u1 u2 => ?_⟩
    refine jr_iload d_m_isAllGood_141 rfl ?_
    refine jr_aload_n d_m_isAllGood_143 rfl rfl ?_
    refine jr_getr d_m_isAllGood_144 f_m_10 rfl rfl ?_
    first | rw [m0] | skip
    refine jv_V0r d_m_isAllGood_147 l_m_33 k_aL_size ⟨Nat.le_of_ble_eq_true rfl, Nat.le_of_ble_eq_true rfl⟩ rfl rfl (Nat.le_of_ble_eq_true rfl) (ct_aL_size) (by first | decide | exact Nat.zero_le _ | (dsimp only; omega) | (dsimp only; first | exact h01 _ | (clear hA hB h01; grind)) | (exact Nat.le_refl _)) (by first | decide | exact Nat.zero_le _ | (dsimp only; omega) | (dsimp only; first | exact h01 _ | (clear hA hB h01; grind)) | (exact Nat.le_refl _)) ?_
    rw [hsz]
    refine jr_icmp_ge (tgt := 187) d_m_isAllGood_150 (by decide) (fun c150 => ?_) (fun c150 => ?_)
    · skip
      refine jr_iconst (v := 1) d_m_isAllGood_187 (by decide) ?_
      exact jr_retX (v := some _) d_m_isAllGood_188 (by first | exact Nat.le_refl _ | exact Nat.zero_le _ | (dsimp only; omega) | (exact Nat.le_refl _)) (by first | exact Nat.le_refl _ | exact Nat.zero_le _ | (dsimp only; omega) | (exact Nat.le_refl _)) (by first | with_reducible rfl | (dsimp only; rfl; done) | (rfl; done) | (exfalso; first | exact h01 _ | (clear hA hB h01; grind))) (by first | with_reducible rfl | (dsimp only; rfl; done) | (rfl; done) | (exfalso; first | exact h01 _ | (clear hA hB h01; grind))) (by first | with_reducible rfl | (dsimp only; rfl; done) | (rfl; done) | (exfalso; first | exact h01 _ | (clear hA hB h01; grind))) (by first | with_reducible rfl | (dsimp only; rfl; done) | (rfl; done) | (exfalso; first | exact h01 _ | (clear hA hB h01; grind)))
    · skip
      exfalso; rw [jle, a1, acn] at c150; omega
  | succ m ih =>
    intro I c hA hB hk h01 hm
    obtain ⟨m0, m2, m4, m6, m7⟩ := id hA.1; (have hsz := hA.2.1.sz); (have a1 := jofI (n := c) (by omega)); (have ac := jofN (n := c) (by omega)); (have acn := jofI (n := cn) (by omega))
    by_cases hme : I (52, z, 0) c = 0
    · obtain ⟨v, K, h1, h2, h3, h4, e⟩ := ih I (c + 1) hA hB hk h01 (by omega)
      refine ⟨v, K, h1, h2.trans ⟨fun g d a b g2 => ?_, fun g d a b g2 => g d (by omega) b g2⟩, h3, h4, fun u0 u1 u2 => ?_⟩
      · by_cases x : d = c
        · subst x; exact absurd hme g2
        · exact g d (by omega) b g2
      refine jr_iload d_m_isAllGood_141 rfl ?_
      refine jr_aload_n d_m_isAllGood_143 rfl rfl ?_
      refine jr_getr d_m_isAllGood_144 f_m_10 rfl rfl ?_
      first | rw [m0] | skip
      refine jv_V0r d_m_isAllGood_147 l_m_33 k_aL_size ⟨Nat.le_of_ble_eq_true rfl, Nat.le_of_ble_eq_true rfl⟩ rfl rfl (Nat.le_of_ble_eq_true rfl) (ct_aL_size) (by first | decide | exact Nat.zero_le _ | (dsimp only; omega) | (dsimp only; first | exact h01 _ | (clear hA hB h01; grind)) | (exact Nat.le_refl _)) (by first | decide | exact Nat.zero_le _ | (dsimp only; omega) | (dsimp only; first | exact h01 _ | (clear hA hB h01; grind)) | (exact Nat.le_refl _)) ?_
      rw [hsz]
      refine jr_icmp_ge (tgt := 187) d_m_isAllGood_150 (by decide) (fun c150 => ?_) (fun c150 => ?_)
      · skip
        exfalso; rw [jle, a1, acn] at c150; omega
      · skip
        refine jr_aload_n d_m_isAllGood_153 rfl rfl ?_
        refine jr_iload d_m_isAllGood_154 rfl ?_
        refine jr_zald d_m_isAllGood_156 rfl rfl rfl (jinv (by rw [jle, a1, j0I]; omega) (by rw [ac]; show c < 40; omega)) ?_
        rw [ac]
        refine jr_if_eq (tgt := 181) d_m_isAllGood_157 (by decide) (fun c157 => ?_) (fun c157 => ?_)
        · skip
          refine jr_iinc d_m_isAllGood_181 rfl jinc1 ?_
          refine jr_goto (tgt := 141) d_m_isAllGood_184 (by decide) ?_
          exact (by have e9 := e u0 u1 u2; rw [← jof1 (by omega)] at e9; exact e9)
        · skip
          exfalso; exact c157 hme
    · obtain ⟨hc, hn, hp1, hp2⟩ := hA.2.2 c (by omega)
      have hgi := q_good_iff hn (hB c (by omega)).1 (hB c (by omega)).2.1 (hB c (by omega)).2.2
      by_cases hg : (q_good I c).1 = 0
      · refine ⟨0, (q_good I c).2, Or.inl rfl, ⟨fun g => absurd g (by decide), fun g => ?_⟩, qE_good, qk_good hk, fun u0 u1 u2 => ?_⟩
        · have := hgi.mpr (g c (Nat.le_refl _) (by omega) hme)
          rw [hg] at this
          exact absurd this (by decide)
        refine jr_iload d_m_isAllGood_141 rfl ?_
        refine jr_aload_n d_m_isAllGood_143 rfl rfl ?_
        refine jr_getr d_m_isAllGood_144 f_m_10 rfl rfl ?_
        first | rw [m0] | skip
        refine jv_V0r d_m_isAllGood_147 l_m_33 k_aL_size ⟨Nat.le_of_ble_eq_true rfl, Nat.le_of_ble_eq_true rfl⟩ rfl rfl (Nat.le_of_ble_eq_true rfl) (ct_aL_size) (by first | decide | exact Nat.zero_le _ | (dsimp only; omega) | (dsimp only; first | exact h01 _ | (clear hA hB h01; grind)) | (exact Nat.le_refl _)) (by first | decide | exact Nat.zero_le _ | (dsimp only; omega) | (dsimp only; first | exact h01 _ | (clear hA hB h01; grind)) | (exact Nat.le_refl _)) ?_
        rw [hsz]
        refine jr_icmp_ge (tgt := 187) d_m_isAllGood_150 (by decide) (fun c150 => ?_) (fun c150 => ?_)
        · skip
          exfalso; rw [jle, a1, acn] at c150; omega
        · skip
          refine jr_aload_n d_m_isAllGood_153 rfl rfl ?_
          refine jr_iload d_m_isAllGood_154 rfl ?_
          refine jr_zald d_m_isAllGood_156 rfl rfl rfl (jinv (by rw [jle, a1, j0I]; omega) (by rw [ac]; show c < 40; omega)) ?_
          rw [ac]
          refine jr_if_eq (tgt := 181) d_m_isAllGood_157 (by decide) (fun c157 => ?_) (fun c157 => ?_)
          · skip
            exfalso; exact hme c157
          · skip
            refine jr_aload_n d_m_isAllGood_160 rfl rfl ?_
            refine jr_aload_n d_m_isAllGood_161 rfl rfl ?_
            refine jr_getr d_m_isAllGood_162 f_m_10 rfl rfl ?_
            first | rw [m0] | skip
            refine jr_iload d_m_isAllGood_165 rfl ?_
            refine jv_V1r d_m_isAllGood_167 l_m_126 k_aL_get ⟨Nat.le_of_ble_eq_true rfl, Nat.le_of_ble_eq_true rfl⟩ rfl rfl (Nat.le_of_ble_eq_true rfl) (ct_aL_getq hA.2.1 rfl (k := c) (by omega)) (by first | decide | exact Nat.zero_le _ | (dsimp only; omega) | (dsimp only; first | exact h01 _ | (clear hA hB h01; grind)) | (exact Nat.le_refl _)) (by first | decide | exact Nat.zero_le _ | (dsimp only; omega) | (dsimp only; first | exact h01 _ | (clear hA hB h01; grind)) | (exact Nat.le_refl _)) ?_
            first | rw [m0] | skip
            refine jr_cast d_m_isAllGood_170 c_m_37 rfl ⟨_, rfl, ca_mC_mC⟩ ?_
            refine jv_V1r d_m_isAllGood_173 l_m_130 k_m_isGood ⟨Nat.le_of_ble_eq_true rfl, Nat.le_of_ble_eq_true rfl⟩ rfl rfl (Nat.le_of_ble_eq_true rfl) (ct_m_isGood hA hk hc hn (hB c (by omega)).2.1) (by first | decide | exact Nat.zero_le _ | (dsimp only; omega) | (dsimp only; first | exact h01 _ | (clear hA hB h01; grind)) | (exact Nat.le_refl _)) (by first | decide | exact Nat.zero_le _ | (dsimp only; omega) | (dsimp only; first | exact h01 _ | (clear hA hB h01; grind)) | (exact Nat.le_refl _)) ?_
            refine jr_if_ne (tgt := 181) d_m_isAllGood_176 (by decide) (fun c176 => ?_) (fun c176 => ?_)
            · skip
              exfalso; exact c176 hg
            · skip
              refine jr_iconst (v := 0) d_m_isAllGood_179 (by decide) ?_
              exact jr_retX (v := some _) d_m_isAllGood_180 (by first | exact Nat.le_refl _ | exact Nat.zero_le _ | (dsimp only; omega) | (exact Nat.le_refl _)) (by first | exact Nat.le_refl _ | exact Nat.zero_le _ | (dsimp only; omega) | (exact Nat.le_refl _)) (by first | with_reducible rfl | (dsimp only; rfl; done) | (rfl; done) | (exfalso; first | exact h01 _ | (clear hA hB h01; grind))) (by first | with_reducible rfl | (dsimp only; rfl; done) | (rfl; done) | (exfalso; first | exact h01 _ | (clear hA hB h01; grind))) (by first | with_reducible rfl | (dsimp only; rfl; done) | (rfl; done) | (exfalso; first | exact h01 _ | (clear hA hB h01; grind))) (by first | with_reducible rfl | (dsimp only; rfl; done) | (rfl; done) | (exfalso; first | exact h01 _ | (clear hA hB h01; grind)))
      · have hg1 : p_good (bq I) c := hgi.mp (q_good01.resolve_left hg)
        have hE : qE I (q_good I c).2 := qE_good
        have eq52 : ∀ k, (q_good I c).2 (52, z, 0) k = I (52, z, 0) k := fun k => hE _ _ (by simp) (by simp)
        obtain ⟨v, K, h1, h2, h3, h4, e⟩ := ih (q_good I c).2 (c + 1) (hE.A hA) (hE.B hB) (qk_good hk) (fun k => by rw [eq52]; exact h01 k) (by omega)
        refine ⟨v, K, h1, h2.trans ⟨fun g d a b g2 => ?_, fun g d a b g2 => by rw [hE.bkq]; exact g d (by omega) b (by rw [eq52] at g2; exact g2)⟩, hE.tr h3, h4, fun u0 u1 u2 => ?_⟩
        · by_cases x : d = c
          · subst x; exact hg1
          · have := g d (by omega) b (by rw [eq52]; exact g2)
            rw [hE.bkq] at this
            exact this
        refine jr_iload d_m_isAllGood_141 rfl ?_
        refine jr_aload_n d_m_isAllGood_143 rfl rfl ?_
        refine jr_getr d_m_isAllGood_144 f_m_10 rfl rfl ?_
        first | rw [m0] | skip
        refine jv_V0r d_m_isAllGood_147 l_m_33 k_aL_size ⟨Nat.le_of_ble_eq_true rfl, Nat.le_of_ble_eq_true rfl⟩ rfl rfl (Nat.le_of_ble_eq_true rfl) (ct_aL_size) (by first | decide | exact Nat.zero_le _ | (dsimp only; omega) | (dsimp only; first | exact h01 _ | (clear hA hB h01; grind)) | (exact Nat.le_refl _)) (by first | decide | exact Nat.zero_le _ | (dsimp only; omega) | (dsimp only; first | exact h01 _ | (clear hA hB h01; grind)) | (exact Nat.le_refl _)) ?_
        rw [hsz]
        refine jr_icmp_ge (tgt := 187) d_m_isAllGood_150 (by decide) (fun c150 => ?_) (fun c150 => ?_)
        · skip
          exfalso; rw [jle, a1, acn] at c150; omega
        · skip
          refine jr_aload_n d_m_isAllGood_153 rfl rfl ?_
          refine jr_iload d_m_isAllGood_154 rfl ?_
          refine jr_zald d_m_isAllGood_156 rfl rfl rfl (jinv (by rw [jle, a1, j0I]; omega) (by rw [ac]; show c < 40; omega)) ?_
          rw [ac]
          refine jr_if_eq (tgt := 181) d_m_isAllGood_157 (by decide) (fun c157 => ?_) (fun c157 => ?_)
          · skip
            exfalso; exact hme c157
          · skip
            refine jr_aload_n d_m_isAllGood_160 rfl rfl ?_
            refine jr_aload_n d_m_isAllGood_161 rfl rfl ?_
            refine jr_getr d_m_isAllGood_162 f_m_10 rfl rfl ?_
            first | rw [m0] | skip
            refine jr_iload d_m_isAllGood_165 rfl ?_
            refine jv_V1r d_m_isAllGood_167 l_m_126 k_aL_get ⟨Nat.le_of_ble_eq_true rfl, Nat.le_of_ble_eq_true rfl⟩ rfl rfl (Nat.le_of_ble_eq_true rfl) (ct_aL_getq hA.2.1 rfl (k := c) (by omega)) (by first | decide | exact Nat.zero_le _ | (dsimp only; omega) | (dsimp only; first | exact h01 _ | (clear hA hB h01; grind)) | (exact Nat.le_refl _)) (by first | decide | exact Nat.zero_le _ | (dsimp only; omega) | (dsimp only; first | exact h01 _ | (clear hA hB h01; grind)) | (exact Nat.le_refl _)) ?_
            first | rw [m0] | skip
            refine jr_cast d_m_isAllGood_170 c_m_37 rfl ⟨_, rfl, ca_mC_mC⟩ ?_
            refine jv_V1r d_m_isAllGood_173 l_m_130 k_m_isGood ⟨Nat.le_of_ble_eq_true rfl, Nat.le_of_ble_eq_true rfl⟩ rfl rfl (Nat.le_of_ble_eq_true rfl) (ct_m_isGood hA hk hc hn (hB c (by omega)).2.1) (by first | decide | exact Nat.zero_le _ | (dsimp only; omega) | (dsimp only; first | exact h01 _ | (clear hA hB h01; grind)) | (exact Nat.le_refl _)) (by first | decide | exact Nat.zero_le _ | (dsimp only; omega) | (dsimp only; first | exact h01 _ | (clear hA hB h01; grind)) | (exact Nat.le_refl _)) ?_
            refine jr_if_ne (tgt := 181) d_m_isAllGood_176 (by decide) (fun c176 => ?_) (fun c176 => ?_)
            · skip
              refine jr_iinc d_m_isAllGood_181 rfl jinc1 ?_
              refine jr_goto (tgt := 141) d_m_isAllGood_184 (by decide) ?_
              exact (by have e9 := e u0 u1 u2; rw [← jof1 (by omega)] at e9; exact e9)
            · skip
              exfalso; exact hg c176
theorem qZ.k {z : Nat} {I J : jc_I} (h : qZ z I J) {O : jc_O} (hk : qk I O) : qk J O := ⟨hk.1, by rw [h.1 _ _ (by simp)]; exact hk.2.1, by rw [h.1 _ _ (by simp)]; exact hk.2.2⟩
theorem lp_m_ag11 {O : jc_O} {live : jc_L → Prop} {z d cn : Nat} {fi : Int32} {nc ns : Nat} (hcn : cn ≤ 40) : ∀ (f : Nat) (I : jc_I), qA I O live cn → qB I cn → qk I O → (∀ k, I (52, z, 0) k = 0 ∨ I (52, z, 0) k = 1) → qRe (bq I) z d cn I → I (52, z, 0) d = 1 → 40 - sF (I (52, z, 0)) 40 < f → ∃ (v : Int32) (K : jc_I), (v = 0 ∨ v = 1) ∧ (v = 1 ↔ p_all (bq I) d) ∧ (∀ q k, q ≠ (52, z, 0) → q ≠ (51, 0, 0) → ¬ (q = (10, 0, 0) ∧ k = 8) → K q k = I q k) ∧ qk K O ∧ ∀ u1 u2 u3 : Option jc_V, jc_R y_m_isAllGood 11 [some (.inr (some (10, 0, 0))), some (.inl fi), some (.inr (some (52, z, 0))), some (.inl 1), u1, u2, u3] [] I O live nc ns (some (.inl v), K, O, live, nc, ns) := by
  intro f
  induction f with
  | zero => intro I _ _ _ _ _ _ h; omega
  | succ f ih =>
    intro I hA hB hk h01 hR hd hf
    have hsz := hA.2.1.sz
    have hZ : qZ z I (q_co z cn 0 (0, I)).2 := qZ_co cn 0 (0, I)
    have key : ∃ (v : Int32) (K : jc_I), (v = 0 ∨ v = 1) ∧ (v = 1 ↔ p_all (bq I) d) ∧ (∀ q k, q ≠ (52, z, 0) → q ≠ (51, 0, 0) → ¬ (q = (10, 0, 0) ∧ k = 8) → K q k = I q k) ∧ qk K O ∧ ∀ v1 v2 v3, jc_R y_m_isAllGood 11 [some (.inr (some (10, 0, 0))), some (.inl fi), some (.inr (some (52, z, 0))), some (.inl (q_co z cn 0 (0, I)).1), v1, v2, v3] [] (q_co z cn 0 (0, I)).2 O live nc ns (some (.inl v), K, O, live, nc, ns) := by
      rcases qMo.co hcn cn 0 (0, I) (Or.inl ⟨rfl, rfl⟩) hsz with ⟨h0, hI⟩ | ⟨h1, hlt⟩
      · obtain ⟨_, hcl⟩ := q_co_zero cn 0 I h0
        rw [h0, hI]
        have hall : (∀ e, 0 ≤ e → e < cn → I (52, z, 0) e ≠ 0 → p_good (bq I) e) ↔ p_all (bq I) d := by
          constructor
          · intro g e he
            have hm : ∀ e, p_rch (bq I) d e → e < cn ∧ I (52, z, 0) e ≠ 0 := by
              intro e he
              refine he (fun e => e < cn ∧ I (52, z, 0) e ≠ 0) ⟨(hR d (by rw [hd]; decide)).1, by rw [hd]; decide⟩ ?_
              intro e i ih1 a1 a2 a3 a4
              have hw : ((bq I).an e i).toNatClampNeg < cn := by
                have h9 := jlN a3 a4
                rw [show (bq I).cn = Int32.ofNat cn from hsz, jofI (by omega)] at h9
                omega
              refine ⟨hw, fun g0 => ?_⟩
              exact hcl e (Nat.zero_le _) (by rw [Nat.zero_add]; exact ih1.1) ih1.2 i a1 ⟨a2, ⟨a3, a4⟩, g0⟩
            exact g e (Nat.zero_le _) (hm e he).1 (hm e he).2
          · intro g e _ he hm
            exact g e (hR e hm).2
        obtain ⟨v, K, b1, b2, b3, b4, e⟩ := lp_m_ag141 (O := O) (live := live) (z := z) (fi := fi) (nc := nc) (ns := ns) hcn cn I 0 hA hB hk h01 (by omega)
        refine ⟨v, K, b1, b2.trans hall, fun q k _ a b => b3 q k a b, b4, fun v1 v2 v3 => ?_⟩
        refine jr_iload_n d_m_isAllGood_11 rfl rfl ?_
        refine jr_if_eq (tgt := 138) d_m_isAllGood_12 (by decide) (fun c12 => ?_) (fun c12 => ?_)
        · skip
          refine jr_iconst (v := 0) d_m_isAllGood_138 (by decide) ?_
          refine jr_istore d_m_isAllGood_139 (Nat.le_of_ble_eq_true rfl) ?_
          exact e _ _ _
        · skip
          exact absurd rfl c12
      · rw [h1]
        have hbk := hZ.bkq
        have hlt : sF (I (52, z, 0)) 40 < sF ((q_co z cn 0 (0, I)).2 (52, z, 0)) 40 := hlt
        obtain ⟨v, K, b1, b2, b3, b4, e⟩ := ih (q_co z cn 0 (0, I)).2 (hZ.A hA) (hZ.B hB) (hZ.k hk) (hZ.2.2 h01) (by rw [hbk]; exact qRe.co hcn cn 0 (0, I) hR rfl hsz h01) (hZ.2.1 d hd) (by have := sF_le (f := (q_co z cn 0 (0, I)).2 (52, z, 0)) 40; omega)
        refine ⟨v, K, b1, ?_, fun q k a b c => (b3 q k a b c).trans (hZ.1 q k a), b4, e⟩
        rw [hbk] at b2
        exact b2
    obtain ⟨v, K, b1, b2, b3, b4, h11⟩ := key
    refine ⟨v, K, b1, b2, b3, b4, fun u1 u2 u3 => ?_⟩
    have h20 : jc_R y_m_isAllGood 20 [some (.inr (some (10, 0, 0))), some (.inl fi), some (.inr (some (52, z, 0))), some (.inl 0), some (.inl 0), u2, u3] [] I O live nc ns (some (.inl v), K, O, live, nc, ns) := by
      refine lp_m_ag20 hcn (Nat.le_refl _) (Nat.le_refl _) cn I 0 0 u2 u3 hA h01 (by omega) (fun v1 v2 v3 => ?_)
      refine jr_goto (tgt := 11) d_m_isAllGood_135 (by decide) ?_
      exact h11 v1 v2 v3
    refine jr_iload_n d_m_isAllGood_11 rfl rfl ?_
    refine jr_if_eq (tgt := 138) d_m_isAllGood_12 (by decide) (fun c12 => ?_) (fun c12 => ?_)
    · skip
      exact absurd c12 (by decide)
    · skip
      refine jr_iconst (v := 0) d_m_isAllGood_15 (by decide) ?_
      refine jr_istore_n d_m_isAllGood_16 rfl (Nat.le_of_ble_eq_true rfl) ?_
      refine jr_iconst (v := 0) d_m_isAllGood_17 (by decide) ?_
      refine jr_istore d_m_isAllGood_18 (Nat.le_of_ble_eq_true rfl) ?_
      exact h20
theorem ct_m_isAllGood {I : jc_I} {O : jc_O} {live : jc_L → Prop} {z d cn : Nat} {fi : Int32} (hcn : cn ≤ 40) (hA : qA I O live cn) (hB : qB I cn) (hk : qk I O) (hfi : fi = Int32.ofNat d) (hd : d < cn) (hf : ¬ live (52, z, 0)) : ∃ (v : Int32) (K : jc_I), (v = 0 ∨ v = 1) ∧ (v = 1 ↔ p_all (bq I) d) ∧ (∀ q k, q ≠ (52, z, 0) → q ≠ (51, 0, 0) → ¬ (q = (10, 0, 0) ∧ k = 8) → K q k = I q k) ∧ qk K O ∧ jc_Ct y_m_isAllGood [.inr (some (10, 0, 0)), .inl fi] I O live (some (.inl v), K, jc_cl O (52, z, 0) none, jadd (52, z, 0) live, 1, 40) := by
  subst hfi
  have hne : ∀ q : jc_L, q.1 ≠ 52 → ∀ k, jc_up (jc_cl I (52, z, 0) 0) (52, z, 0) d 1 q k = I q k := fun q hq k => by
    have hq9 : q ≠ (52, z, 0) := fun g => hq (by rw [g])
    rw [jc_up_q _ _ _ _ _ _ hq9]
    exact if_neg hq9
  have hA2 : qA (jc_up (jc_cl I (52, z, 0) 0) (52, z, 0) d 1) (jc_cl O (52, z, 0) none) (jadd (52, z, 0) live) cn := by
    obtain ⟨h1, h2, h3⟩ := hA.to (J := jc_up (jc_cl I (52, z, 0) 0) (52, z, 0) d 1) (fun q k hq => hne q (by omega) k)
    refine ⟨h1.to (fun k => jc_cl_t _ _ _ _ _ _ _ (by decide)), h2.to rfl (jc_cl_t _ _ _ _ _ _ _ (by decide)) (fun c k => jc_cl_t _ _ _ _ _ _ _ (by decide)) (fun c hc => ?_), fun e he => ?_⟩
    · rcases hc with g | g
      · cases g
      · exact g
    · obtain ⟨a1, a2, a3⟩ := h3 e he
      refine ⟨?_, a2, a3⟩
      unfold qc at *
      simp only [jc_cl_t _ _ _ _ _ _ _ (show (11 : Nat) ≠ 52 by decide)]
      exact a1
  have hB2 : qB (jc_up (jc_cl I (52, z, 0) 0) (52, z, 0) d 1) cn := hB.to (fun q k hq => hne q (by omega) k)
  have hk2 : qk (jc_up (jc_cl I (52, z, 0) 0) (52, z, 0) d 1) (jc_cl O (52, z, 0) none) := ⟨(jc_cl_t _ _ _ _ _ _ _ (by decide)).trans hk.1, by rw [hne _ (by simp)]; exact hk.2.1, by rw [hne _ (by simp)]; exact hk.2.2⟩
  have eb : bq (jc_up (jc_cl I (52, z, 0) 0) (52, z, 0) d 1) = bq I := bq_eq (fun q k hq => hne q (by omega) k)
  have h52 : ∀ k, jc_up (jc_cl I (52, z, 0) 0) (52, z, 0) d 1 (52, z, 0) k = if k = d then 1 else 0 := by
    intro k
    by_cases e : k = d
    · rw [if_pos e, e, jc_up_s]
    · rw [if_neg e, jc_up_k _ _ _ _ _ _ e, jc_cl_s]
  obtain ⟨v, K, b1, b2, b3, b4, e⟩ := lp_m_ag11 (live := jadd (52, z, 0) live) (z := z) (d := d) (fi := Int32.ofNat d) (nc := 0 + 1) (ns := 0 + 40) hcn 41 _ hA2 hB2 hk2 (fun k => by rw [h52]; split; exact Or.inr rfl; exact Or.inl rfl) (fun k hk9 => by
    rw [h52] at hk9
    by_cases g : k = d
    · subst g; exact ⟨hd, p_rch.self⟩
    · rw [if_neg g] at hk9; exact absurd rfl hk9) (by rw [h52, if_pos rfl]) (by omega)
  refine ⟨v, K, b1, by rw [eb] at b2; exact b2, fun q k a b c => (b3 q k a b c).trans ?_, ⟨hk.1, b4.2.1, b4.2.2⟩, ?_⟩
  · rw [jc_up_q _ _ _ _ _ _ a]; exact if_neg a
  refine jc_Ct.of (by decide +kernel) (Or.inr ⟨rfl, b1⟩) (Nat.le_of_ble_eq_true rfl) ?_
  refine jr_bipush (v := 40) d_m_isAllGood_0 (by decide) ?_
  refine jr_newa (N := 40) (52, z, 0) d_m_isAllGood_2 ac_boolean rfl rfl rfl rfl rfl (hf) (by decide) (by decide) (by decide) (by first | decide | (dsimp only; omega)) (by first | decide | (dsimp only; omega)) ?_
  refine jr_astore_n d_m_isAllGood_4 rfl (Nat.le_of_ble_eq_true rfl) ?_
  refine jr_aload_n d_m_isAllGood_5 rfl rfl ?_
  refine jr_iload_n d_m_isAllGood_6 rfl rfl ?_
  refine jr_iconst (v := 1) d_m_isAllGood_7 (by decide) ?_
  refine jr_zast d_m_isAllGood_8 rfl rfl rfl (by grind) (jinv (by rw [jle, jofI (by omega), j0I]; omega) (by rw [jofN (by omega)]; show d < 40; omega)) ?_
  rw [jofN (by omega)]
  refine jr_iconst (v := 1) d_m_isAllGood_9 (by decide) ?_
  refine jr_istore_n d_m_isAllGood_10 rfl (Nat.le_of_ble_eq_true rfl) ?_
  exact e _ _ _
