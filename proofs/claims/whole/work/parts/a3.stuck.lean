/-- how many threads wait, from thread r on -/
def cK (J : jc_I) (O : jc_O) : Nat → Nat → Int32 → Int32
  | 0, _, a => a
  | m + 1, r, a => if J (9, r, 0) 4 = 1 ∨ J (9, r, 0) 4 = 2 then cK J O m (r + 1) a else if aw J O r = 0 then 0 else cK J O m (r + 1) (a + 1)
theorem lp_stuck {J : jc_I} {O : jc_O} {live : jc_L → Prop} {tc : Nat} (hM : jw_M O) (h8 : J (4, 0, 0) 4 ≤ 8) (hc : J (4, 0, 0) 4 = Int32.ofNat tc) (ht8 : tc ≤ 8) (hs : ∀ t, t < tc → O (35, 0, 0) t = some (9, t, 0)) (hAW : ∀ t, t < tc → jc_Ct y_M_awaitedBy [.inr (some (4, 0, 0)), .inr (some (9, t, 0))] J O live (some (.inl (aw J O t)), J, O, live, 0, 0)) : ∀ (m r : Nat) (a : Int32) (u : Option jc_V), r + m = tc → jc_R y_M_countStuck 4 [some (.inr (some (4, 0, 0))), some (.inl a), some (.inl (Int32.ofNat r)), u] [] J O live 0 0 (some (.inl (cK J O m r a)), J, O, live, 0, 0) := by
  intro m
  induction m with
  | zero =>
    intro r a u hm
    have a1 := jofI (n := r) (by omega)
    have a2 := jofI (n := tc) (by omega)
    refine jr_iload_n d_M_countStuck_4 rfl rfl ?_
    refine jr_aload_n d_M_countStuck_5 rfl rfl ?_
    refine jr_geti d_M_countStuck_6 f_M_29 rfl ?_
    refine jr_icmp_ge (tgt := 48) d_M_countStuck_9 (by decide) (fun c9 => ?_) (fun c9 => ?_)
    · skip
      refine jr_iload_n d_M_countStuck_48 rfl rfl ?_
      exact jr_retX (v := some _) d_M_countStuck_49 (by first | exact Nat.le_refl _ | exact Nat.zero_le _ | (dsimp only; omega)) (by first | exact Nat.le_refl _ | exact Nat.zero_le _ | (dsimp only; omega)) (by first | with_reducible rfl | (dsimp only; rfl; done) | (rfl; done) | (exfalso; grind)) (by first | with_reducible rfl | (dsimp only; rfl; done) | (rfl; done) | (exfalso; grind)) (by first | with_reducible rfl | (dsimp only; rfl; done) | (rfl; done) | (exfalso; grind)) (by first | with_reducible rfl | (dsimp only; rfl; done) | (rfl; done) | (exfalso; grind))
    · skip
      exfalso; rw [hc, jle, a2, a1] at c9; omega
  | succ m ih =>
    intro r a u hm
    have a1 := jofI (n := r) (by omega)
    have a2 := jofI (n := tc) (by omega)
    refine jr_iload_n d_M_countStuck_4 rfl rfl ?_
    refine jr_aload_n d_M_countStuck_5 rfl rfl ?_
    refine jr_geti d_M_countStuck_6 f_M_29 rfl ?_
    refine jr_icmp_ge (tgt := 48) d_M_countStuck_9 (by decide) (fun c9 => ?_) (fun c9 => ?_)
    · skip
      exfalso; rw [hc, jle, a2, a1] at c9; omega
    · skip
      refine jr_aload_n d_M_countStuck_12 rfl rfl ?_
      refine jr_iload_n d_M_countStuck_13 rfl rfl ?_
      refine jv_V1r d_M_countStuck_14 l_M_122 k_M_find ⟨Nat.le_of_ble_eq_true rfl, Nat.le_of_ble_eq_true rfl⟩ rfl rfl (Nat.le_of_ble_eq_true rfl) (ct_M_find hM.2.2.2 h8) (by first | decide | exact Nat.zero_le _ | (dsimp only; omega) | (dsimp only; grind)) (by first | decide | exact Nat.zero_le _ | (dsimp only; omega) | (dsimp only; grind)) ?_
      rw [if_pos (show (0 : Int32) ≤ Int32.ofNat r ∧ Int32.ofNat r < J (4, 0, 0) 4 from by rw [hc, jle, jlt, a1, a2, j0I]; omega), jofN (by omega), hs r (by omega)]
      refine jr_astore_n d_M_countStuck_17 rfl (Nat.le_of_ble_eq_true rfl) ?_
      refine jr_aload_n d_M_countStuck_18 rfl rfl ?_
      refine jr_ifnull (tgt := 42) d_M_countStuck_19 (by decide) (fun c19 => by cases c19) (fun q19 c19 => ?_)
      refine jr_aload_n d_M_countStuck_22 rfl rfl ?_
      refine jv_V0r d_M_countStuck_23 l_M_60 k_S_hasEnded ⟨Nat.le_of_ble_eq_true rfl, Nat.le_of_ble_eq_true rfl⟩ rfl rfl (Nat.le_of_ble_eq_true rfl) (ct_S_hasEnded) (by first | decide | exact Nat.zero_le _ | (dsimp only; omega) | (dsimp only; grind)) (by first | decide | exact Nat.zero_le _ | (dsimp only; omega) | (dsimp only; grind)) ?_
      refine jr_if_ne (tgt := 42) d_M_countStuck_26 (by decide) (fun c26 => ?_) (fun c26 => ?_)
      · skip
        rw [cK, if_pos (Decidable.not_not.mp (fun g => c26 (if_neg g)))]
        refine jr_iinc d_M_countStuck_42 rfl jinc1 ?_
        refine jr_goto (tgt := 4) d_M_countStuck_45 (by decide) ?_
        exact (by have e := ih (r + 1) a (some (.inr (some (9, r, 0)))) (by omega); rw [← jof1 (by omega)] at e; exact e)
      · skip
        rw [cK, if_neg (fun g => by rw [if_pos g] at c26; exact absurd c26 (by decide))]
        refine jr_aload_n d_M_countStuck_29 rfl rfl ?_
        refine jr_aload_n d_M_countStuck_30 rfl rfl ?_
        refine jv_V1r d_M_countStuck_31 l_M_64 k_M_awaitedBy ⟨Nat.le_of_ble_eq_true rfl, Nat.le_of_ble_eq_true rfl⟩ rfl rfl (Nat.le_of_ble_eq_true rfl) (hAW r (by omega)) (by first | decide | exact Nat.zero_le _ | (dsimp only; omega) | (dsimp only; grind)) (by first | decide | exact Nat.zero_le _ | (dsimp only; omega) | (dsimp only; grind)) ?_
        refine jr_if_ne (tgt := 39) d_M_countStuck_34 (by decide) (fun c34 => ?_) (fun c34 => ?_)
        · skip
          rw [if_neg c34]
          refine jr_iinc d_M_countStuck_39 rfl jinc1 ?_
          refine jr_iinc d_M_countStuck_42 rfl jinc1 ?_
          refine jr_goto (tgt := 4) d_M_countStuck_45 (by decide) ?_
          exact (by have e := ih (r + 1) (a + 1) (some (.inr (some (9, r, 0)))) (by omega); rw [← jof1 (by omega)] at e; exact e)
        · skip
          rw [if_pos c34]
          refine jr_iconst (v := 0) d_M_countStuck_37 (by decide) ?_
          exact jr_retX (v := some _) d_M_countStuck_38 (by first | exact Nat.le_refl _ | exact Nat.zero_le _ | (dsimp only; omega)) (by first | exact Nat.le_refl _ | exact Nat.zero_le _ | (dsimp only; omega)) (by first | with_reducible rfl | (dsimp only; rfl; done) | (rfl; done) | (exfalso; grind)) (by first | with_reducible rfl | (dsimp only; rfl; done) | (rfl; done) | (exfalso; grind)) (by first | with_reducible rfl | (dsimp only; rfl; done) | (rfl; done) | (exfalso; grind)) (by first | with_reducible rfl | (dsimp only; rfl; done) | (rfl; done) | (exfalso; grind))
theorem ct_M_countStuck {I : jc_I} {O : jc_O} {live : jc_L → Prop} {tc : Nat} (hM : jw_M O) (h8 : I (4, 0, 0) 4 ≤ 8) (hc : I (4, 0, 0) 4 = Int32.ofNat tc) (ht8 : tc ≤ 8) (hs : ∀ t, t < tc → O (35, 0, 0) t = some (9, t, 0)) (hAW : ∀ t, t < tc → jc_Ct y_M_awaitedBy [.inr (some (4, 0, 0)), .inr (some (9, t, 0))] I O live (some (.inl (aw I O t)), I, O, live, 0, 0)) : jc_Ct y_M_countStuck [.inr (some (4, 0, 0))] I O live (some (.inl (cK I O tc 0 0)), I, O, live, 0, 0) := by
  refine jc_Ct.of (by decide +kernel) (Or.inl rfl) (Nat.le_of_ble_eq_true rfl) ?_
  refine jr_iconst (v := 0) d_M_countStuck_0 (by decide) ?_
  refine jr_istore_n d_M_countStuck_1 rfl (Nat.le_of_ble_eq_true rfl) ?_
  refine jr_iconst (v := 0) d_M_countStuck_2 (by decide) ?_
  refine jr_istore_n d_M_countStuck_3 rfl (Nat.le_of_ble_eq_true rfl) ?_
  exact lp_stuck hM h8 hc ht8 hs hAW tc 0 0 none (by omega)
theorem lp_mstuck {J I : jc_I} {O Q : jc_O} {live : jc_L → Prop} {b tc tn : Nat} (hM : qM O) (ht : ql I O live 1 tn qTh) (hc : I (10, 0, 0) 3 = Int32.ofNat tc) (ht8 : tc ≤ tn) (htn : tn ≤ 8) (hHU : ∀ t, t < tc → jc_Ct y_m_isHeldUp [.inr (some (10, 0, 0)), .inr (some (14, t, 0))] I O live (some (.inl (q_hu I t b)), I, O, live, 0, 0)) (hE : ∀ t, t < tc → (¬ I (14, t, 0) 4 ≤ 0 ↔ (J (9, t, 0) 4 = 1 ∨ J (9, t, 0) 4 = 2))) (hA : ∀ t, t < tc → (q_hu I t b = 0 ↔ aw J Q t = 0)) : ∀ (m r : Nat) (a : Int32), r + m = tc → jc_R y_m_stuck 4 [some (.inr (some (10, 0, 0))), some (.inl a), some (.inl (Int32.ofNat r))] [] I O live 0 0 (some (.inl (cK J Q m r a)), I, O, live, 0, 0) := by
  intro m
  induction m with
  | zero =>
    intro r a hm
    have a1 := jofI (n := r) (by omega)
    have a2 := jofI (n := tc) (by omega)
    refine jr_iload_n d_m_stuck_4 rfl rfl ?_
    refine jr_aload_n d_m_stuck_5 rfl rfl ?_
    refine jr_geti d_m_stuck_6 f_m_29 rfl ?_
    refine jr_icmp_ge (tgt := 61) d_m_stuck_9 (by decide) (fun c9 => ?_) (fun c9 => ?_)
    · skip
      refine jr_iload_n d_m_stuck_61 rfl rfl ?_
      exact jr_retX (v := some _) d_m_stuck_62 (by first | exact Nat.le_refl _ | exact Nat.zero_le _ | (dsimp only; omega)) (by first | exact Nat.le_refl _ | exact Nat.zero_le _ | (dsimp only; omega)) (by first | with_reducible rfl | (dsimp only; rfl; done) | (rfl; done) | (exfalso; grind)) (by first | with_reducible rfl | (dsimp only; rfl; done) | (rfl; done) | (exfalso; grind)) (by first | with_reducible rfl | (dsimp only; rfl; done) | (rfl; done) | (exfalso; grind)) (by first | with_reducible rfl | (dsimp only; rfl; done) | (rfl; done) | (exfalso; grind))
    · skip
      exfalso; rw [hc, jle, a2, a1] at c9; omega
  | succ m ih =>
    intro r a hm
    have a1 := jofI (n := r) (by omega)
    have a2 := jofI (n := tc) (by omega)
    refine jr_iload_n d_m_stuck_4 rfl rfl ?_
    refine jr_aload_n d_m_stuck_5 rfl rfl ?_
    refine jr_geti d_m_stuck_6 f_m_29 rfl ?_
    refine jr_icmp_ge (tgt := 61) d_m_stuck_9 (by decide) (fun c9 => ?_) (fun c9 => ?_)
    · skip
      exfalso; rw [hc, jle, a2, a1] at c9; omega
    · skip
      refine jr_aload_n d_m_stuck_12 rfl rfl ?_
      refine jr_getr d_m_stuck_13 f_m_16 rfl rfl ?_
      first | rw [hM.2.1] | skip
      refine jr_iload_n d_m_stuck_16 rfl rfl ?_
      refine jv_V1r d_m_stuck_17 l_m_126 k_aL_get ⟨Nat.le_of_ble_eq_true rfl, Nat.le_of_ble_eq_true rfl⟩ rfl rfl (Nat.le_of_ble_eq_true rfl) (ct_aL_getq ht rfl (by omega)) (by first | decide | exact Nat.zero_le _ | (dsimp only; omega) | (dsimp only; grind)) (by first | decide | exact Nat.zero_le _ | (dsimp only; omega) | (dsimp only; grind)) ?_
      first | rw [hM.2.1] | skip
      refine jr_cast d_m_stuck_20 c_m_137 rfl ⟨_, rfl, ca_mT_mT⟩ ?_
      refine jr_geti d_m_stuck_23 f_m_163 rfl ?_
      refine jr_if_le (tgt := 32) d_m_stuck_26 (by decide) (fun c26 => ?_) (fun c26 => ?_)
      · skip
        rw [cK, if_neg (fun g => ((hE r (by omega)).mpr g) c26)]
        refine jr_aload_n d_m_stuck_32 rfl rfl ?_
        refine jr_aload_n d_m_stuck_33 rfl rfl ?_
        refine jr_getr d_m_stuck_34 f_m_16 rfl rfl ?_
        first | rw [hM.2.1] | skip
        refine jr_iload_n d_m_stuck_37 rfl rfl ?_
        refine jv_V1r d_m_stuck_38 l_m_126 k_aL_get ⟨Nat.le_of_ble_eq_true rfl, Nat.le_of_ble_eq_true rfl⟩ rfl rfl (Nat.le_of_ble_eq_true rfl) (ct_aL_getq ht rfl (by omega)) (by first | decide | exact Nat.zero_le _ | (dsimp only; omega) | (dsimp only; grind)) (by first | decide | exact Nat.zero_le _ | (dsimp only; omega) | (dsimp only; grind)) ?_
        first | rw [hM.2.1] | skip
        refine jr_cast d_m_stuck_41 c_m_137 rfl ⟨_, rfl, ca_mT_mT⟩ ?_
        refine jv_V1r d_m_stuck_44 l_m_166 k_m_isHeldUp ⟨Nat.le_of_ble_eq_true rfl, Nat.le_of_ble_eq_true rfl⟩ rfl rfl (Nat.le_of_ble_eq_true rfl) (hHU r (by omega)) (by first | decide | exact Nat.zero_le _ | (dsimp only; omega) | (dsimp only; grind)) (by first | decide | exact Nat.zero_le _ | (dsimp only; omega) | (dsimp only; grind)) ?_
        refine jr_if_ne (tgt := 52) d_m_stuck_47 (by decide) (fun c47 => ?_) (fun c47 => ?_)
        · skip
          rw [if_neg (fun g => c47 ((hA r (by omega)).mpr g))]
          refine jr_iinc d_m_stuck_52 rfl jinc1 ?_
          refine jr_iinc d_m_stuck_55 rfl jinc1 ?_
          refine jr_goto (tgt := 4) d_m_stuck_58 (by decide) ?_
          exact (by have e := ih (r + 1) (a + 1) (by omega); rw [← jof1 (by omega)] at e; exact e)
        · skip
          rw [if_pos ((hA r (by omega)).mp c47)]
          refine jr_iconst (v := 0) d_m_stuck_50 (by decide) ?_
          exact jr_retX (v := some _) d_m_stuck_51 (by first | exact Nat.le_refl _ | exact Nat.zero_le _ | (dsimp only; omega)) (by first | exact Nat.le_refl _ | exact Nat.zero_le _ | (dsimp only; omega)) (by first | with_reducible rfl | (dsimp only; rfl; done) | (rfl; done) | (exfalso; grind)) (by first | with_reducible rfl | (dsimp only; rfl; done) | (rfl; done) | (exfalso; grind)) (by first | with_reducible rfl | (dsimp only; rfl; done) | (rfl; done) | (exfalso; grind)) (by first | with_reducible rfl | (dsimp only; rfl; done) | (rfl; done) | (exfalso; grind))
      · skip
        rw [cK, if_pos ((hE r (by omega)).mp c26)]
        refine jr_goto (tgt := 55) d_m_stuck_29 (by decide) ?_
        refine jr_iinc d_m_stuck_55 rfl jinc1 ?_
        refine jr_goto (tgt := 4) d_m_stuck_58 (by decide) ?_
        exact (by have e := ih (r + 1) a (by omega); rw [← jof1 (by omega)] at e; exact e)
theorem ct_m_stuck {I : jc_I} {O : jc_O} {live : jc_L → Prop} {b tc tn : Nat} {J : jc_I} {Q : jc_O} (hM : qM O) (ht : ql I O live 1 tn qTh) (hc : I (10, 0, 0) 3 = Int32.ofNat tc) (ht8 : tc ≤ tn) (htn : tn ≤ 8) (hHU : ∀ t, t < tc → jc_Ct y_m_isHeldUp [.inr (some (10, 0, 0)), .inr (some (14, t, 0))] I O live (some (.inl (q_hu I t b)), I, O, live, 0, 0)) (hE : ∀ t, t < tc → (¬ I (14, t, 0) 4 ≤ 0 ↔ (J (9, t, 0) 4 = 1 ∨ J (9, t, 0) 4 = 2))) (hA : ∀ t, t < tc → (q_hu I t b = 0 ↔ aw J Q t = 0)) : jc_Ct y_m_stuck [.inr (some (10, 0, 0))] I O live (some (.inl (cK J Q tc 0 0)), I, O, live, 0, 0) := by
  refine jc_Ct.of (by decide +kernel) (Or.inl rfl) (Nat.le_of_ble_eq_true rfl) ?_
  refine jr_iconst (v := 0) d_m_stuck_0 (by decide) ?_
  refine jr_istore_n d_m_stuck_1 rfl (Nat.le_of_ble_eq_true rfl) ?_
  refine jr_iconst (v := 0) d_m_stuck_2 (by decide) ?_
  refine jr_istore_n d_m_stuck_3 rfl (Nat.le_of_ble_eq_true rfl) ?_
  exact lp_mstuck hM ht hc ht8 htn hHU hE hA tc 0 0 (by omega)
theorem st_stuck {X : jc_I} {Y : jc_O} {L : jc_L → Prop} {S : Int} {N : Nat} (g : GS X Y L S N) : ST y_J_stuck y_m_stuck [] X Y L S N := by
  obtain ⟨b, n, tc, sn, cn, zc, D, fn, e, hc, hr, hx⟩ := id g
  have h1 := hc.tcn
  have h2 := hc.sn8
  have c1 := ct_M_countStuck (live := L) hc.M hc.h8 hc.tc1 (by omega) (fun t ht => (hc.st t (by omega)).1.1) (fun t ht => (GG.ri hc hr hx ht).cy.awc)
  have c2 := ct_m_stuck (J := X) (Q := Y) (b := b) hr.qa.1 hr.th hr.tc1 h1 h2 (fun t ht => (GG.ri hc hr hx ht).HU) (fun t ht => by
    have ri := GG.ri hc hr hx ht
    rw [ri.e4]
    rcases ri.cy.go with ⟨w, _⟩ | ⟨w, _⟩
    · rw [w]; decide
    · rcases w with w | w <;> rw [w] <;> decide) (fun t ht => by
    have ri := GG.ri hc hr hx ht
    rcases ri.hu with ⟨w1, w2⟩ | ⟨w1, w2, _⟩
    · rw [w1, w2]
    · rw [w2]; exact ⟨fun z => absurd z (by decide), fun z => absurd z w1⟩)
  exact ST.same g (ct_J_stuck (I1 := X) (O1 := Y) (live1 := L) (mc1 := 0) (ms1 := 0) hc.jJ c1) c2
