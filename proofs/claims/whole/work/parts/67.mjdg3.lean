def q_c1 (z c k : Nat) (s : Int32 × jc_I) : Int32 × jc_I := if s.2 (41, c, 0) k = 18 ∧ (0 ≤ s.2 (42, c, 0) k ∧ s.2 (42, c, 0) k < s.2 (15, 0, 0) 1) ∧ s.2 (52, z, 0) (s.2 (42, c, 0) k).toNatClampNeg = 0 then (1, jc_up s.2 (52, z, 0) (s.2 (42, c, 0) k).toNatClampNeg 1) else s
def q_cl (z c : Nat) : Nat → Nat → Int32 × jc_I → Int32 × jc_I
  | 0, _, s => s
  | m + 1, r, s => q_cl z c m (r + 1) (q_c1 z c r s)
def q_cc (z c : Nat) (s : Int32 × jc_I) : Int32 × jc_I := if s.2 (52, z, 0) c = 0 then s else q_cl z c (s.2 (11, c, 0) 6).toNatClampNeg 0 s
def q_co (z : Nat) : Nat → Nat → Int32 × jc_I → Int32 × jc_I
  | 0, _, s => s
  | m + 1, c, s => q_co z m (c + 1) (q_cc z c s)
/-- only what was met changes -/
def qZ (z : Nat) (I J : jc_I) : Prop := (∀ q k, q ≠ (52, z, 0) → J q k = I q k) ∧ (∀ k, I (52, z, 0) k = 1 → J (52, z, 0) k = 1) ∧ ((∀ k, I (52, z, 0) k = 0 ∨ I (52, z, 0) k = 1) → ∀ k, J (52, z, 0) k = 0 ∨ J (52, z, 0) k = 1)
theorem qZ.rf {z : Nat} {I : jc_I} : qZ z I I := ⟨fun _ _ _ => rfl, fun _ h => h, fun h => h⟩
theorem qZ.tr {z : Nat} {I J K : jc_I} (h : qZ z I J) (h2 : qZ z J K) : qZ z I K := ⟨fun q k a => (h2.1 q k a).trans (h.1 q k a), fun k a => h2.2.1 k (h.2.1 k a), fun a => h2.2.2 (h.2.2 a)⟩
theorem qZ.up {z k : Nat} {I : jc_I} : qZ z I (jc_up I (52, z, 0) k 1) := by
  refine ⟨fun q k' a => jc_up_q _ _ _ _ _ _ a, fun k' a => ?_, fun a k' => ?_⟩
  · by_cases e : k' = k
    · subst e; exact jc_up_s _ _ _ _
    · rw [jc_up_k _ _ _ _ _ _ e]; exact a
  · by_cases e : k' = k
    · subst e; rw [jc_up_s]; exact Or.inr rfl
    · rw [jc_up_k _ _ _ _ _ _ e]; exact a k'
theorem qZ_c1 {z c k : Nat} {s : Int32 × jc_I} : qZ z s.2 (q_c1 z c k s).2 := by
  unfold q_c1
  split
  · exact qZ.up
  · exact qZ.rf
theorem qZ_cl {z c : Nat} : ∀ (m r : Nat) (s : Int32 × jc_I), qZ z s.2 (q_cl z c m r s).2
  | 0, _, _ => qZ.rf
  | m + 1, r, s => qZ_c1.tr (qZ_cl m (r + 1) _)
theorem qZ_cc {z c : Nat} {s : Int32 × jc_I} : qZ z s.2 (q_cc z c s).2 := by
  unfold q_cc
  split
  · exact qZ.rf
  · exact qZ_cl _ _ _
theorem qZ_co {z : Nat} : ∀ (m c : Nat) (s : Int32 × jc_I), qZ z s.2 (q_co z m c s).2
  | 0, _, _ => qZ.rf
  | m + 1, c, s => qZ_cc.tr (qZ_co m (c + 1) _)
theorem qZ.A {z : Nat} {I J : jc_I} (h : qZ z I J) {O : jc_O} {live : jc_L → Prop} {cn : Nat} (hA : qA I O live cn) : qA J O live cn := hA.to (fun q k hq => h.1 q k (fun g => by rw [g] at hq; simp at hq))
theorem qZ.bkq {z : Nat} {I J : jc_I} (h : qZ z I J) : bq J = bq I := bq_eq (fun q k hq => h.1 q k (fun g => by rw [g] at hq; simp at hq))
theorem jz1 {x : Int32} (h : x = 0 ∨ x = 1) (h2 : ¬ x = 0) : x = 1 := h.resolve_left h2
theorem lp_m_ag49 {O : jc_O} {live : jc_L → Prop} {z c cn : Nat} {fi : Int32} {nc ns : Nat} {Z : jc_Z} (hcn : cn ≤ 40) (hc9 : c < cn) (hz1 : nc ≤ Z.2.2.2.2.1) (hz2 : ns ≤ Z.2.2.2.2.2) : ∀ (m : Nat) (I : jc_I) (mo : Int32) (r : Nat), qA I O live cn → (∀ k, I (52, z, 0) k = 0 ∨ I (52, z, 0) k = 1) → I (52, z, 0) c = 1 → r + m = (I (11, c, 0) 6).toNatClampNeg → (∀ u, jc_R y_m_isAllGood 129 [some (.inr (some (10, 0, 0))), some (.inl fi), some (.inr (some (52, z, 0))), some (.inl (q_cl z c m r (mo, I)).1), some (.inl (Int32.ofNat c)), some (.inr (some (11, c, 0))), u] [] (q_cl z c m r (mo, I)).2 O live nc ns Z) → jc_R y_m_isAllGood 49 [some (.inr (some (10, 0, 0))), some (.inl fi), some (.inr (some (52, z, 0))), some (.inl mo), some (.inl (Int32.ofNat c)), some (.inr (some (11, c, 0))), some (.inl (Int32.ofNat r))] [] I O live nc ns Z := by
  intro m
  induction m with
  | zero =>
    intro I mo r hA h01 hm0 hm hK
    obtain ⟨m0, m2, m4, m6, m7⟩ := id hA.1; obtain ⟨hc, hn, hp1, hp2⟩ := hA.2.2 c hc9; obtain ⟨g2, g4, g5, g7, g8, g9, g10⟩ := id hc; obtain ⟨n1, n2, n3, n4, n5, n6⟩ := id hn; (have hsz := hA.2.1.sz); (have a2 := jNI n3); (have a4 := jle.mp n4); rw [show (60 : Int32).toInt = 60 from by decide] at a4; (have a1 := jofI (n := r) (by omega)); (have a3 := jofN (n := r) (by omega)); (have ac := jofN (n := c) (by omega)); (have ac1 := jofI (n := c) (by omega)); (have acn := jofI (n := cn) (by omega))
    refine jr_iload d_m_isAllGood_49 rfl ?_
    refine jr_aload d_m_isAllGood_51 rfl ?_
    refine jr_geti d_m_isAllGood_53 f_m_56 rfl ?_
    refine jr_icmp_ge (tgt := 129) d_m_isAllGood_56 (by decide) (fun c56 => ?_) (fun c56 => ?_)
    · skip
      exact hK _
    · skip
      exfalso; rw [jle, a1] at c56; omega
  | succ m ih =>
    intro I mo r hA h01 hm0 hm hK
    obtain ⟨m0, m2, m4, m6, m7⟩ := id hA.1; obtain ⟨hc, hn, hp1, hp2⟩ := hA.2.2 c hc9; obtain ⟨g2, g4, g5, g7, g8, g9, g10⟩ := id hc; obtain ⟨n1, n2, n3, n4, n5, n6⟩ := id hn; (have hsz := hA.2.1.sz); (have a2 := jNI n3); (have a4 := jle.mp n4); rw [show (60 : Int32).toInt = 60 from by decide] at a4; (have a1 := jofI (n := r) (by omega)); (have a3 := jofN (n := r) (by omega)); (have ac := jofN (n := c) (by omega)); (have ac1 := jofI (n := c) (by omega)); (have acn := jofI (n := cn) (by omega))
    refine jr_iload d_m_isAllGood_49 rfl ?_
    refine jr_aload d_m_isAllGood_51 rfl ?_
    refine jr_geti d_m_isAllGood_53 f_m_56 rfl ?_
    refine jr_icmp_ge (tgt := 129) d_m_isAllGood_56 (by decide) (fun c56 => ?_) (fun c56 => ?_)
    · skip
      exfalso; rw [jle, a1] at c56; omega
    · skip
      refine jr_aload_n d_m_isAllGood_59 rfl rfl ?_
      refine jr_iload d_m_isAllGood_60 rfl ?_
      refine jr_zald d_m_isAllGood_62 rfl rfl rfl (jinv (by rw [jle, ac1, j0I]; omega) (by rw [ac]; show c < 40; omega)) ?_
      rw [ac]
      refine jr_if_eq (tgt := 129) d_m_isAllGood_63 (by decide) (fun c63 => ?_) (fun c63 => ?_)
      · skip
        exfalso; rw [hm0] at c63; exact absurd c63 (by decide)
      · skip
        refine jr_aload d_m_isAllGood_66 rfl ?_
        refine jr_getr d_m_isAllGood_68 f_m_59 rfl rfl ?_
        first | rw [g2] | rw [g4] | rw [g5] | rw [g7] | rw [g8] | rw [g9] | rw [g10] | rw [m0] | skip
        refine jr_iload d_m_isAllGood_71 rfl ?_
        refine jr_iald d_m_isAllGood_73 rfl rfl rfl (jinv (by rw [jle, a1, j0I]; omega) (by rw [a3]; show r < 60; omega)) ?_
        rw [a3]
        refine jr_bipush (v := 18) d_m_isAllGood_74 (by decide) ?_
        refine jr_icmp_ne (tgt := 123) d_m_isAllGood_76 (by decide) (fun c76 => ?_) (fun c76 => ?_)
        · skip
          refine jr_iinc d_m_isAllGood_123 rfl jinc1 ?_
          refine jr_goto (tgt := 49) d_m_isAllGood_126 (by decide) ?_
          (have hst : q_c1 z c r (mo, I) = (mo, I) := by unfold q_c1; exact if_neg (by clear ih hK hA h01; grind)); (have hK2 := hK); rw [q_cl, hst] at hK2; exact (by have e := ih I mo (r + 1) hA h01 hm0 (by omega) hK2; rw [← jof1 (by omega)] at e; exact e)
        · skip
          refine jr_aload_n d_m_isAllGood_79 rfl rfl ?_
          refine jr_aload d_m_isAllGood_80 rfl ?_
          refine jr_getr d_m_isAllGood_82 f_m_62 rfl rfl ?_
          first | rw [g2] | rw [g4] | rw [g5] | rw [g7] | rw [g8] | rw [g9] | rw [g10] | rw [m0] | skip
          refine jr_iload d_m_isAllGood_85 rfl ?_
          refine jr_iald d_m_isAllGood_87 rfl rfl rfl (jinv (by rw [jle, a1, j0I]; omega) (by rw [a3]; show r < 60; omega)) ?_
          rw [a3]
          refine jv_V1r d_m_isAllGood_88 l_m_123 k_m_isCode ⟨Nat.le_of_ble_eq_true rfl, Nat.le_of_ble_eq_true rfl⟩ rfl rfl (Nat.le_of_ble_eq_true rfl) (ct_m_isCode m0) (by first | decide | exact Nat.zero_le _ | (dsimp only; omega) | (dsimp only; first | exact h01 _ | (clear ih hK hA h01; grind)) | (first | exact hz1 | exact hz2)) (by first | decide | exact Nat.zero_le _ | (dsimp only; omega) | (dsimp only; first | exact h01 _ | (clear ih hK hA h01; grind)) | (first | exact hz1 | exact hz2)) ?_
          refine jr_if_eq (tgt := 123) d_m_isAllGood_91 (by decide) (fun c91 => ?_) (fun c91 => ?_)
          · skip
            refine jr_iinc d_m_isAllGood_123 rfl jinc1 ?_
            refine jr_goto (tgt := 49) d_m_isAllGood_126 (by decide) ?_
            (have hst : q_c1 z c r (mo, I) = (mo, I) := by unfold q_c1; exact if_neg (by clear ih hK hA h01; grind)); (have hK2 := hK); rw [q_cl, hst] at hK2; exact (by have e := ih I mo (r + 1) hA h01 hm0 (by omega) hK2; rw [← jof1 (by omega)] at e; exact e)
          · skip
            refine jr_aload_n d_m_isAllGood_94 rfl rfl ?_
            refine jr_aload d_m_isAllGood_95 rfl ?_
            refine jr_getr d_m_isAllGood_97 f_m_62 rfl rfl ?_
            first | rw [g2] | rw [g4] | rw [g5] | rw [g7] | rw [g8] | rw [g9] | rw [g10] | rw [m0] | skip
            refine jr_iload d_m_isAllGood_100 rfl ?_
            refine jr_iald d_m_isAllGood_102 rfl rfl rfl (jinv (by rw [jle, a1, j0I]; omega) (by rw [a3]; show r < 60; omega)) ?_
            rw [a3]
            refine jr_zald d_m_isAllGood_103 rfl rfl rfl (jinv (by clear ih hK hA h01; grind) (by have h9 := jlN (i := I (42, c, 0) r) (n := I (15, 0, 0) 1) (by clear ih hK hA h01; grind) (by clear ih hK hA h01; grind); rw [hsz, acn] at h9; show _ < 40; omega)) ?_
            refine jr_if_eq (tgt := 110) d_m_isAllGood_104 (by decide) (fun c104 => ?_) (fun c104 => ?_)
            · skip
              refine jr_aload_n d_m_isAllGood_110 rfl rfl ?_
              refine jr_aload d_m_isAllGood_111 rfl ?_
              refine jr_getr d_m_isAllGood_113 f_m_62 rfl rfl ?_
              first | rw [g2] | rw [g4] | rw [g5] | rw [g7] | rw [g8] | rw [g9] | rw [g10] | rw [m0] | skip
              refine jr_iload d_m_isAllGood_116 rfl ?_
              refine jr_iald d_m_isAllGood_118 rfl rfl rfl (jinv (by rw [jle, a1, j0I]; omega) (by rw [a3]; show r < 60; omega)) ?_
              rw [a3]
              refine jr_iconst (v := 1) d_m_isAllGood_119 (by decide) ?_
              refine jr_zast d_m_isAllGood_120 rfl rfl rfl (by first | exact h01 _ | (clear ih hK hA h01; grind)) (jinv (by clear ih hK hA h01; grind) (by have h9 := jlN (i := I (42, c, 0) r) (n := I (15, 0, 0) 1) (by clear ih hK hA h01; grind) (by clear ih hK hA h01; grind); rw [hsz, acn] at h9; show _ < 40; omega)) ?_
              refine jr_iconst (v := 1) d_m_isAllGood_121 (by decide) ?_
              refine jr_istore_n d_m_isAllGood_122 rfl (Nat.le_of_ble_eq_true rfl) ?_
              refine jr_iinc d_m_isAllGood_123 rfl jinc1 ?_
              refine jr_goto (tgt := 49) d_m_isAllGood_126 (by decide) ?_
              (have hst : q_c1 z c r (mo, I) = (1, jc_up I (52, z, 0) (I (42, c, 0) r).toNatClampNeg 1) := by unfold q_c1; exact if_pos (by clear ih hK hA h01; grind)); (have hK2 := hK); rw [q_cl, hst] at hK2; exact (by have e := ih _ 1 (r + 1) (qZ.up.A hA) (qZ.up.2.2 h01) (qZ.up.2.1 c hm0) (by rw [qZ.up.1 _ 6 (by simp)]; omega) hK2; rw [← jof1 (by omega)] at e; exact e)
            · skip
              refine jr_goto (tgt := 123) d_m_isAllGood_107 (by decide) ?_
              refine jr_iinc d_m_isAllGood_123 rfl jinc1 ?_
              refine jr_goto (tgt := 49) d_m_isAllGood_126 (by decide) ?_
              (have hst : q_c1 z c r (mo, I) = (mo, I) := by unfold q_c1; exact if_neg (by clear ih hK hA h01; grind)); (have hK2 := hK); rw [q_cl, hst] at hK2; exact (by have e := ih I mo (r + 1) hA h01 hm0 (by omega) hK2; rw [← jof1 (by omega)] at e; exact e)
theorem lp_m_ag20 {O : jc_O} {live : jc_L → Prop} {z cn : Nat} {fi : Int32} {nc ns : Nat} {Z : jc_Z} (hcn : cn ≤ 40) (hz1 : nc ≤ Z.2.2.2.2.1) (hz2 : ns ≤ Z.2.2.2.2.2) : ∀ (m : Nat) (I : jc_I) (mo : Int32) (c : Nat) (u1 u2 : Option jc_V), qA I O live cn → (∀ k, I (52, z, 0) k = 0 ∨ I (52, z, 0) k = 1) → c + m = cn → (∀ v1 v2 v3, jc_R y_m_isAllGood 135 [some (.inr (some (10, 0, 0))), some (.inl fi), some (.inr (some (52, z, 0))), some (.inl (q_co z m c (mo, I)).1), v1, v2, v3] [] (q_co z m c (mo, I)).2 O live nc ns Z) → jc_R y_m_isAllGood 20 [some (.inr (some (10, 0, 0))), some (.inl fi), some (.inr (some (52, z, 0))), some (.inl mo), some (.inl (Int32.ofNat c)), u1, u2] [] I O live nc ns Z := by
  intro m
  induction m with
  | zero =>
    intro I mo c u1 u2 hA h01 hm hK
    obtain ⟨m0, m2, m4, m6, m7⟩ := id hA.1; (have hsz := hA.2.1.sz); (have a1 := jofI (n := c) (by omega)); (have ac := jofN (n := c) (by omega)); (have acn := jofI (n := cn) (by omega))
    refine jr_iload d_m_isAllGood_20 rfl ?_
    refine jr_aload_n d_m_isAllGood_22 rfl rfl ?_
    refine jr_getr d_m_isAllGood_23 f_m_10 rfl rfl ?_
    first | rw [m0] | skip
    refine jv_V0r d_m_isAllGood_26 l_m_33 k_aL_size ⟨Nat.le_of_ble_eq_true rfl, Nat.le_of_ble_eq_true rfl⟩ rfl rfl (Nat.le_of_ble_eq_true rfl) (ct_aL_size) (by first | decide | exact Nat.zero_le _ | (dsimp only; omega) | (dsimp only; grind) | (first | exact hz1 | exact hz2)) (by first | decide | exact Nat.zero_le _ | (dsimp only; omega) | (dsimp only; grind) | (first | exact hz1 | exact hz2)) ?_
    rw [hsz]
    refine jr_icmp_ge (tgt := 135) d_m_isAllGood_29 (by decide) (fun c29 => ?_) (fun c29 => ?_)
    · skip
      exact hK _ _ _
    · skip
      exfalso; rw [jle, a1, acn] at c29; omega
  | succ m ih =>
    intro I mo c u1 u2 hA h01 hm hK
    obtain ⟨m0, m2, m4, m6, m7⟩ := id hA.1; (have hsz := hA.2.1.sz); (have a1 := jofI (n := c) (by omega)); (have ac := jofN (n := c) (by omega)); (have acn := jofI (n := cn) (by omega))
    have h49 : jc_R y_m_isAllGood 49 [some (.inr (some (10, 0, 0))), some (.inl fi), some (.inr (some (52, z, 0))), some (.inl mo), some (.inl (Int32.ofNat c)), some (.inr (some (11, c, 0))), some (.inl 0)] [] I O live nc ns Z := by
      obtain ⟨hc, hn, hp1, hp2⟩ := hA.2.2 c (by omega)
      obtain ⟨g2, g4, g5, g7, g8, g9, g10⟩ := id hc
      have ac1 := a1
      by_cases hme : I (52, z, 0) c = 0
      · skip
        refine jr_iload d_m_isAllGood_49 rfl ?_
        refine jr_aload d_m_isAllGood_51 rfl ?_
        refine jr_geti d_m_isAllGood_53 f_m_56 rfl ?_
        refine jr_icmp_ge (tgt := 129) d_m_isAllGood_56 (by decide) (fun c56 => ?_) (fun c56 => ?_)
        · skip
          refine jr_iinc d_m_isAllGood_129 rfl jinc1 ?_
          refine jr_goto (tgt := 20) d_m_isAllGood_132 (by decide) ?_
          exact (by have e := ih I mo (c + 1) (some (.inr (some (11, c, 0)))) (some (.inl 0)) hA h01 (by omega) (by rw [q_co, show q_cc z c (mo, I) = (mo, I) from if_pos hme] at hK; exact hK); rw [← jof1 (by omega)] at e; exact e)
        · skip
          refine jr_aload_n d_m_isAllGood_59 rfl rfl ?_
          refine jr_iload d_m_isAllGood_60 rfl ?_
          refine jr_zald d_m_isAllGood_62 rfl rfl rfl (jinv (by rw [jle, ac1, j0I]; omega) (by rw [ac]; show c < 40; omega)) ?_
          rw [ac]
          refine jr_if_eq (tgt := 129) d_m_isAllGood_63 (by decide) (fun c63 => ?_) (fun c63 => ?_)
          · skip
            refine jr_iinc d_m_isAllGood_129 rfl jinc1 ?_
            refine jr_goto (tgt := 20) d_m_isAllGood_132 (by decide) ?_
            exact (by have e := ih I mo (c + 1) (some (.inr (some (11, c, 0)))) (some (.inl 0)) hA h01 (by omega) (by rw [q_co, show q_cc z c (mo, I) = (mo, I) from if_pos hme] at hK; exact hK); rw [← jof1 (by omega)] at e; exact e)
          · skip
            exfalso; exact c63 hme
      · refine lp_m_ag49 hcn (by omega) hz1 hz2 (I (11, c, 0) 6).toNatClampNeg I mo 0 hA h01 (jz1 (h01 c) hme) (by omega) (fun u => ?_)
        skip
        refine jr_iinc d_m_isAllGood_129 rfl jinc1 ?_
        refine jr_goto (tgt := 20) d_m_isAllGood_132 (by decide) ?_
        exact (by have e := ih _ _ (c + 1) (some (.inr (some (11, c, 0)))) u (qZ_cl _ _ _ |>.A hA) ((qZ_cl _ _ _).2.2 h01) (by omega) (by rw [q_co, show q_cc z c (mo, I) = q_cl z c (I (11, c, 0) 6).toNatClampNeg 0 (mo, I) from if_neg hme] at hK; exact hK); rw [← jof1 (by omega)] at e; exact e)
    refine jr_iload d_m_isAllGood_20 rfl ?_
    refine jr_aload_n d_m_isAllGood_22 rfl rfl ?_
    refine jr_getr d_m_isAllGood_23 f_m_10 rfl rfl ?_
    first | rw [m0] | skip
    refine jv_V0r d_m_isAllGood_26 l_m_33 k_aL_size ⟨Nat.le_of_ble_eq_true rfl, Nat.le_of_ble_eq_true rfl⟩ rfl rfl (Nat.le_of_ble_eq_true rfl) (ct_aL_size) (by first | decide | exact Nat.zero_le _ | (dsimp only; omega) | (dsimp only; grind) | (first | exact hz1 | exact hz2)) (by first | decide | exact Nat.zero_le _ | (dsimp only; omega) | (dsimp only; grind) | (first | exact hz1 | exact hz2)) ?_
    rw [hsz]
    refine jr_icmp_ge (tgt := 135) d_m_isAllGood_29 (by decide) (fun c29 => ?_) (fun c29 => ?_)
    · skip
      exfalso; rw [jle, a1, acn] at c29; omega
    · skip
      refine jr_aload_n d_m_isAllGood_32 rfl rfl ?_
      refine jr_getr d_m_isAllGood_33 f_m_10 rfl rfl ?_
      first | rw [m0] | skip
      refine jr_iload d_m_isAllGood_36 rfl ?_
      refine jv_V1r d_m_isAllGood_38 l_m_126 k_aL_get ⟨Nat.le_of_ble_eq_true rfl, Nat.le_of_ble_eq_true rfl⟩ rfl rfl (Nat.le_of_ble_eq_true rfl) (ct_aL_getq hA.2.1 rfl (k := c) (by omega)) (by first | decide | exact Nat.zero_le _ | (dsimp only; omega) | (dsimp only; grind) | (first | exact hz1 | exact hz2)) (by first | decide | exact Nat.zero_le _ | (dsimp only; omega) | (dsimp only; grind) | (first | exact hz1 | exact hz2)) ?_
      first | rw [m0] | skip
      refine jr_cast d_m_isAllGood_41 c_m_37 rfl ⟨_, rfl, ca_mC_mC⟩ ?_
      refine jr_astore d_m_isAllGood_44 (Nat.le_of_ble_eq_true rfl) ?_
      refine jr_iconst (v := 0) d_m_isAllGood_46 (by decide) ?_
      refine jr_istore d_m_isAllGood_47 (Nat.le_of_ble_eq_true rfl) ?_
      exact h49
/-- what the round over all codes says -/
theorem q_c1_more {z c k : Nat} {s : Int32 × jc_I} (h : s.1 = 1) : (q_c1 z c k s).1 = 1 := by
  unfold q_c1
  split
  · rfl
  · exact h
theorem q_cl_more {z c : Nat} : ∀ (m r : Nat) (s : Int32 × jc_I), s.1 = 1 → (q_cl z c m r s).1 = 1
  | 0, _, _, h => h
  | m + 1, r, s, h => q_cl_more m (r + 1) _ (q_c1_more h)
theorem q_cc_more {z c : Nat} {s : Int32 × jc_I} (h : s.1 = 1) : (q_cc z c s).1 = 1 := by
  unfold q_cc
  split
  · exact h
  · exact q_cl_more _ _ _ h
theorem q_co_more {z : Nat} : ∀ (m c : Nat) (s : Int32 × jc_I), s.1 = 1 → (q_co z m c s).1 = 1
  | 0, _, _, h => h
  | m + 1, c, s, h => q_co_more m (c + 1) _ (q_cc_more h)
def qNew (z c k : Nat) (I : jc_I) : Prop := I (41, c, 0) k = 18 ∧ (0 ≤ I (42, c, 0) k ∧ I (42, c, 0) k < I (15, 0, 0) 1) ∧ I (52, z, 0) (I (42, c, 0) k).toNatClampNeg = 0
theorem q_cl_zero {z c : Nat} : ∀ (m r : Nat) (I : jc_I), (q_cl z c m r (0, I)).1 = 0 → (q_cl z c m r (0, I)).2 = I ∧ ∀ k, r ≤ k → k < r + m → ¬ qNew z c k I
  | 0, r, I, _ => ⟨rfl, fun k a b => absurd b (by omega)⟩
  | m + 1, r, I, h => by
    rw [q_cl] at h ⊢
    by_cases hn : qNew z c r I
    · have e : q_c1 z c r (0, I) = (1, jc_up I (52, z, 0) (I (42, c, 0) r).toNatClampNeg 1) := if_pos hn
      rw [e, q_cl_more _ _ _ rfl] at h
      exact absurd h (by decide)
    · have e : q_c1 z c r (0, I) = (0, I) := if_neg hn
      rw [e] at h ⊢
      obtain ⟨h1, h2⟩ := q_cl_zero m (r + 1) I h
      refine ⟨h1, fun k a b => ?_⟩
      by_cases g : k = r
      · subst g; exact hn
      · exact h2 k (by omega) (by omega)
theorem q_co_zero {z : Nat} : ∀ (m c : Nat) (I : jc_I), (q_co z m c (0, I)).1 = 0 → (q_co z m c (0, I)).2 = I ∧ ∀ d, c ≤ d → d < c + m → I (52, z, 0) d ≠ 0 → ∀ k, k < (I (11, d, 0) 6).toNatClampNeg → ¬ qNew z d k I
  | 0, c, I, _ => ⟨rfl, fun d a b => absurd b (by omega)⟩
  | m + 1, c, I, h => by
    rw [q_co] at h ⊢
    have hcc : (q_cc z c (0, I)).1 = 0 := by
      by_cases h1 : (q_cc z c (0, I)).1 = 1
      · rw [q_co_more _ _ _ h1] at h; exact absurd h (by decide)
      · unfold q_cc at h1 ⊢
        split
        · rfl
        · rename_i hm
          rw [if_neg hm] at h1
          clear h
          suffices ∀ (m r : Nat) (s : Int32 × jc_I), s.1 = 0 ∨ s.1 = 1 → (q_cl z c m r s).1 = 0 ∨ (q_cl z c m r s).1 = 1 from (this _ _ _ (Or.inl rfl)).resolve_right h1
          intro m
          induction m with
          | zero => intro r s hs; exact hs
          | succ m ih =>
            intro r s hs
            refine ih (r + 1) _ ?_
            unfold q_c1
            split
            · exact Or.inr rfl
            · exact hs
    have hc2 : q_cc z c (0, I) = (0, I) ∧ (I (52, z, 0) c ≠ 0 → ∀ k, k < (I (11, c, 0) 6).toNatClampNeg → ¬ qNew z c k I) := by
      unfold q_cc at hcc ⊢
      by_cases hm : I (52, z, 0) c = 0
      · rw [if_pos hm]; exact ⟨rfl, fun g => absurd hm g⟩
      · rw [if_neg hm] at hcc ⊢
        obtain ⟨h1, h2⟩ := q_cl_zero _ _ _ hcc
        exact ⟨Prod.ext hcc h1, fun _ k hk => h2 k (Nat.zero_le _) (by rw [Nat.zero_add]; exact hk)⟩
    rw [hc2.1] at h ⊢
    obtain ⟨h1, h2⟩ := q_co_zero m (c + 1) I h
    refine ⟨h1, fun d a b => ?_⟩
    by_cases g : d = c
    · subst g; exact hc2.2
    · exact h2 d (by omega) (by omega)
/-- more was met -/
def qMo (z : Nat) (I : jc_I) (s : Int32 × jc_I) : Prop := (s.1 = 0 ∧ s.2 = I) ∨ (s.1 = 1 ∧ sF (I (52, z, 0)) 40 < sF (s.2 (52, z, 0)) 40)
theorem sF_mono {f g : Nat → Int32} : ∀ n, (∀ d, f d ≠ 0 → g d ≠ 0) → sF f n ≤ sF g n
  | 0, _ => Nat.le_refl _
  | n + 1, h => by
    have := sF_mono (f := f) (g := g) n h
    rw [sF, sF]
    by_cases e : f n = 0
    · rw [if_pos e]; omega
    · rw [if_neg e, if_neg (h n e)]; omega
theorem qMo.c1 {z c k : Nat} {I : jc_I} {s : Int32 × jc_I} {cn : Nat} (h : qMo z I s) (hcn : cn ≤ 40) (hsz : s.2 (15, 0, 0) 1 = Int32.ofNat cn) : qMo z I (q_c1 z c k s) := by
  unfold q_c1
  split
  · rename_i hc
    have hw : (s.2 (42, c, 0) k).toNatClampNeg < 40 := by
      have h9 := jlN hc.2.1.1 hc.2.1.2
      rw [hsz, jofI (by omega)] at h9
      omega
    have hup : sF (jc_up s.2 (52, z, 0) (s.2 (42, c, 0) k).toNatClampNeg 1 (52, z, 0)) 40 = sF (s.2 (52, z, 0)) 40 + 1 := sF_up hc.2.2 (by rw [jc_up_s]; decide) (fun e he => jc_up_k _ _ _ _ _ _ he) 40 hw
    refine Or.inr ⟨rfl, ?_⟩
    show _ < sF (jc_up s.2 (52, z, 0) (s.2 (42, c, 0) k).toNatClampNeg 1 (52, z, 0)) 40
    rw [hup]
    rcases h with ⟨_, e⟩ | ⟨_, e⟩
    · rw [e]; omega
    · omega
  · exact h
theorem qMo.cl {z c : Nat} {I : jc_I} {cn : Nat} (hcn : cn ≤ 40) : ∀ (m r : Nat) (s : Int32 × jc_I), qMo z I s → s.2 (15, 0, 0) 1 = Int32.ofNat cn → qMo z I (q_cl z c m r s)
  | 0, _, _, h, _ => h
  | m + 1, r, s, h, hs => qMo.cl hcn m (r + 1) _ (h.c1 hcn hs) ((qZ_c1.1 _ _ (by simp)).trans hs)
theorem qMo.co {z : Nat} {I : jc_I} {cn : Nat} (hcn : cn ≤ 40) : ∀ (m c : Nat) (s : Int32 × jc_I), qMo z I s → s.2 (15, 0, 0) 1 = Int32.ofNat cn → qMo z I (q_co z m c s)
  | 0, _, _, h, _ => h
  | m + 1, c, s, h, hs => by
    rw [q_co]
    refine qMo.co hcn m (c + 1) _ ?_ ((qZ_cc.1 _ _ (by simp)).trans hs)
    unfold q_cc
    split
    · exact h
    · exact qMo.cl hcn _ _ _ h hs
/-- what is met is led to -/
def qRe (B : jc_B) (z d cn : Nat) (I : jc_I) : Prop := ∀ k, I (52, z, 0) k ≠ 0 → k < cn ∧ p_rch B d k
theorem qRe.c1 {B : jc_B} {z d cn c k : Nat} {s : Int32 × jc_I} (h : qRe B z d cn s.2) (hb : bq s.2 = B) (hcn : cn ≤ 40) (hsz : s.2 (15, 0, 0) 1 = Int32.ofNat cn) (hc : s.2 (52, z, 0) c ≠ 0) (hk : k < (s.2 (11, c, 0) 6).toNatClampNeg) : qRe B z d cn (q_c1 z c k s).2 := by
  unfold q_c1
  split
  · rename_i hn
    intro e he
    have he : jc_up s.2 (52, z, 0) (s.2 (42, c, 0) k).toNatClampNeg 1 (52, z, 0) e ≠ 0 := he
    by_cases g : e = (s.2 (42, c, 0) k).toNatClampNeg
    · subst g
      have h9 := jlN hn.2.1.1 hn.2.1.2
      rw [hsz, jofI (by omega)] at h9
      refine ⟨by omega, ?_⟩
      subst hb
      exact (h c hc).2.call hk hn.1 hn.2.1.1 hn.2.1.2
    · rw [jc_up_k _ _ _ _ _ _ g] at he
      exact h e he
  · exact h
theorem qRe.cl {B : jc_B} {z d cn c : Nat} (hcn : cn ≤ 40) : ∀ (m r : Nat) (s : Int32 × jc_I), qRe B z d cn s.2 → bq s.2 = B → s.2 (15, 0, 0) 1 = Int32.ofNat cn → (∀ k, s.2 (52, z, 0) k = 0 ∨ s.2 (52, z, 0) k = 1) → s.2 (52, z, 0) c = 1 → r + m ≤ (s.2 (11, c, 0) 6).toNatClampNeg → qRe B z d cn (q_cl z c m r s).2
  | 0, _, _, h, _, _, _, _, _ => h
  | m + 1, r, s, h, hb, hs, h01, hc, hr => qRe.cl hcn m (r + 1) _ (h.c1 hb hcn hs (by rw [hc]; decide) (by omega)) (qZ_c1.bkq.trans hb) ((qZ_c1.1 _ _ (by simp)).trans hs) (qZ_c1.2.2 h01) (qZ_c1.2.1 c hc) (by rw [qZ_c1.1 _ _ (by simp)]; omega)
theorem qRe.co {B : jc_B} {z d cn : Nat} (hcn : cn ≤ 40) : ∀ (m c : Nat) (s : Int32 × jc_I), qRe B z d cn s.2 → bq s.2 = B → s.2 (15, 0, 0) 1 = Int32.ofNat cn → (∀ k, s.2 (52, z, 0) k = 0 ∨ s.2 (52, z, 0) k = 1) → qRe B z d cn (q_co z m c s).2
  | 0, _, _, h, _, _, _ => h
  | m + 1, c, s, h, hb, hs, h01 => by
    rw [q_co]
    refine qRe.co hcn m (c + 1) _ ?_ (qZ_cc.bkq.trans hb) ((qZ_cc.1 _ _ (by simp)).trans hs) (qZ_cc.2.2 h01)
    unfold q_cc
    split
    · exact h
    · rename_i hm
      exact qRe.cl hcn _ _ _ h hb hs h01 (jz1 (h01 c) hm) (by omega)
