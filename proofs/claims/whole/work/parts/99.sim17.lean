variable {D : Nat → Nat}
theorem BU.tr {a b c d a' b' c' d' xt n n1 n2 fn fn1 fn2 : Nat} {P P1 P2 : jc_O} (h : BU a b c d P P1 xt n n1 fn fn1) (h2 : BU a' b' c' d' P1 P2 xt n1 n2 fn1 fn2) : BU (a + a') (b + b') (c + c') (d + d') P P2 xt n n2 fn fn2 := by
  unfold BU at *
  omega
theorem RK.up14 {t b n xt k : Nat} {v : Int32} {I : jc_I} {P : jc_O} {lv : jc_L → Prop} : RK t b n xt I P lv (jc_up I (14, t, 0) k v) P lv := ⟨fun q k' h1 _ _ _ _ _ _ _ => jc_up_q _ _ _ _ _ _ (fun g => h1 (by rw [g]; simp)), fun _ _ _ _ _ _ _ _ _ => rfl, fun _ h => h, fun _ h => Or.inl h⟩
theorem nu146 {x b n t : Nat} : nu x b n D (14, t, 0) 6 = none := by
  unfold nu
  rw [if_neg (by simp), if_neg (by simp), if_neg (by simp), if_pos rfl, if_neg (by decide), if_neg (fun g => absurd g.1.2 (by decide))]
theorem mu96 {x b n t : Nat} : mu x b n D (9, t, 0) 6 = none := by
  unfold mu
  rw [if_neg (by simp), if_neg (by simp), if_neg (by simp), if_pos rfl, if_neg (by decide), if_neg (fun g => absurd g.1.2 (by decide))]
theorem e146 {I : jc_I} {t : Nat} {v : Int32} {k : Nat} (hk : k = 3 ∨ k = 6) : ∀ q k', ¬ (q = (14, t, 0) ∧ (k' = 3 ∨ k' = 6)) → jc_up I (14, t, 0) k v q k' = I q k' := fun q k' g => if_neg (fun w => g ⟨w.1, by omega⟩)
section
variable {J I : jc_I} {O P : jc_O} {live lv : jc_L → Prop} {S : Int} {t b n xt fn m c9 : Nat}
theorem RI.stop (h : RI J O live I P lv S t b n xt fn m c9 D) (hg : J (9, t, 0) 4 = 0) (hs : S < 2147483646) (hf : ¬ full J) (ho : oh J O t ≠ 0) : ∃ x, jc_Ct y_m_step [.inr (some (10, 0, 0)), .inr (some (14, t, 0))] (jc_up I (14, t, 0) 6 0) P lv (none, jc_up (jc_up I (14, t, 0) 6 0) (14, t, 0) 6 x, P, lv, 0, 0) ∧ x ≠ 0 ∧ RI (jc_up J (9, t, 0) 6 1) O live (jc_up (jc_up I (14, t, 0) 6 0) (14, t, 0) 6 x) P lv S t b n xt fn m c9 D := by
  have hx := h.cy.X hg hs hf
  obtain ⟨j, hj⟩ : ∃ j, j + 1 = m := ⟨m - 1, by have := hx.np; omega⟩
  obtain ⟨i, K, K', tp⟩ := TP.of (hx.TH.top j hj)
  have r0 := h.rx.to14 (e146 (v := 0) (k := 6) (Or.inr rfl))
  have f0 := h.fr.to14 (e146 (v := 0) (k := 6) (Or.inr rfl))
  have s0 : Sim t b n D J (jc_up I (14, t, 0) 6 0) := (h.sm t).upR nu146
  have hjT := (h.cy.TH.jTe hj).1
  obtain ⟨rb, qf9, eo, ea⟩ := RB.of hx hj tp r0 f0 s0
  rw [h.cy.oh1 hj] at ho
  have hD : j < D t := by have := h.Dt; omega
  have hc : m_op J t j (cd O t j) = 20 ∧ (1 ≤ f_pk J t j 0 ∧ f_pk J t j 0 ≤ J (3, 0, 0) 2) ∧ J (7, (f_pk J t j 0 - 1).toNatClampNeg, 0) 2 ≠ -1 ∧ J (7, (f_pk J t j 0 - 1).toNatClampNeg, 0) 2 ≠ J (9, t, 0) 0 := by
    unfold m_oha at ho
    split at ho
    · assumption
    · exact absurd rfl ho
  obtain ⟨hc1, hc2, hc3, hc4⟩ := hc
  have hop : (bk J).op (cd O t j) i = 20 := (tp.op hx.C).1.symm.trans hc1
  have eo2 := eo.trans hop
  have hp := tp.pi
  rw [hop, p_ins_20] at hp
  obtain ⟨e1, -⟩ := p_take_some hp
  subst e1
  obtain ⟨q1, q2, q3, q4⟩ := q_bnd hD tp.tf.d tp.tf.le s0
  have etp : q_tp (jc_up I (14, t, 0) 6 0) t j = f_pk J t j 0 := by rw [s0.tp hD tp.tf.d tp.tf.le, n_tp tp.tf.d tp.tf.le, ← n_pk tp.tf.d tp.tf.le]
  obtain ⟨k1, k2⟩ := ob_k h.cn h.rx.qt.n3 hc2
  have s2 := s0 (7, (f_pk J t j 0 - 1).toNatClampNeg, 0) 2 _ (mu72 k1)
  have s3 := s0 (7, (f_pk J t j 0 - 1).toNatClampNeg, 0) 3 _ (mu73 k1)
  have s9 : J (9, t, 0) 0 = jc_up I (14, t, 0) 6 0 (14, t, 0) 0 := s0 (9, t, 0) 0 _ rfl
  have hth := (h.cy.ho.th _ k2).resolve_left (fun z => hc3 z.1)
  have hR := ct_m_step_20 rb.a1 rb.a2 rb.a3 rb.a4 rb.a5 rb.a6 rb.a7 rb.a8 (fun q h => h) (ct_m_monitor_w r0.qt qf9 (q1 (by simp)) q3 (by rw [etp]; exact hc2.1) (by rw [etp]; exact k1) eo2 (by rw [etp, ← s2, ← s3, ← s9]; exact ⟨by rw [jlt, j0I]; omega, hc4⟩)) (Or.inl eo2)
  rw [etp] at hR
  have e9 : ∀ k, k ≠ 6 → jc_up J (9, t, 0) 6 1 (9, t, 0) k = J (9, t, 0) k := fun k hk => jc_up_k _ _ _ _ _ _ hk
  refine ⟨_, hR, fun g => by rw [g] at hc2; exact absurd hc2.1 (by decide), ?_⟩
  have hjT2 : jT (jc_up J (9, t, 0) 6 1) t = j := by unfold jT at *; rw [e9 2 (by decide)]; exact hjT
  have hb : bk (jc_up J (9, t, 0) 6 1) = bk J := bk_eq (fun q k hq => jc_up_q _ _ _ _ _ _ (fun g => by rw [g] at hq; simp at hq))
  refine ⟨h.cy.to (fun q k g => if_neg (fun w => g ⟨w.1, Or.inr w.2⟩)) (Or.inr (jc_up_s _ _ _ _)), r0.to14 (e146 (Or.inr rfl)), f0.to14 (e146 (Or.inr rfl)), fun x => (((h.sm x).upC mu96).upR nu146).upR nu146, h.Dt, (jc_up_t _ _ _ _ _ _ _ _ (by decide)).trans h.cn, Or.inr ⟨jc_up_s _ _ _ _, (e9 4 (by decide)).trans hg, ?_, ?_, ?_, ?_⟩, fun d hd => ?_, fun c hc => ?_⟩
  · rw [hjT2, ← hc1]
    unfold m_op
    rw [jc_up_t _ _ _ _ _ _ _ _ (by decide), jc_up_t _ _ _ _ _ _ _ _ (by decide), jc_up_t _ _ _ _ _ _ _ _ (by decide)]
  · rw [hjT2, jc_up_s]
    unfold f_pk
    rw [jc_up_t _ _ _ _ _ _ _ _ (by decide), jc_up_t _ _ _ _ _ _ _ _ (by decide)]
  · rw [jc_up_s]; exact hc2.1
  · rw [jc_up_s, jc_up_t _ _ _ _ _ _ _ _ (by decide)]; exact hc2.2
  · intro r hr
    rw [jc_up_t _ _ _ _ _ _ _ _ (by decide), jc_up_t _ _ _ _ _ _ _ _ (by decide)] at hr ⊢
    exact h.qr d hd r hr
  · rw [hb] at hc ⊢; exact h.rs c hc
theorem ri_step (h : RI J O live I P lv S t b n xt fn m c9 D) (hg : J (9, t, 0) 4 = 0) (hs : S < 2147483646) (hf : ¬ full J) (ho : oh J O t = 0) : ∃ (J' : jc_I) (O' : jc_O) (live' : jc_L → Prop) (mc ms : Nat) (I' : jc_I) (P' : jc_O) (lv' : jc_L → Prop) (mc' ms' n' fn' m' : Nat), SF J O live t (jT J t) = (J', O', live', mc, ms) ∧ jc_Ct y_M_step [.inr (some (4, 0, 0)), .inr (some (9, t, 0))] J O live (none, J', O', live', mc, ms) ∧ jc_Ct y_m_step [.inr (some (10, 0, 0)), .inr (some (14, t, 0))] (jc_up I (14, t, 0) 6 0) P lv (none, I', P', lv', mc', ms') ∧ I' (14, t, 0) 6 = 0 ∧ RI J' O' live' (jc_up I' (14, t, 0) 3 (I' (14, t, 0) 3 + 1)) P' lv' (S + 1) t b n' xt fn' m' c9 (dU D t m') ∧ CF t J O live J' O' live' ∧ BU mc ms mc' ms' P P' xt n n' fn fn' ∧ RK t b n xt I P lv (jc_up I' (14, t, 0) 3 (I' (14, t, 0) 3 + 1)) P' lv' := by
  have hx := h.cy.X hg hs hf
  obtain ⟨j, hj⟩ : ∃ j, j + 1 = m := ⟨m - 1, by have := hx.np; omega⟩
  obtain ⟨i, K, K', tp⟩ := TP.of (hx.TH.top j hj)
  have r0 := h.rx.to14 (e146 (v := 0) (k := 6) (Or.inr rfl))
  have f0 := h.fr.to14 (e146 (v := 0) (k := 6) (Or.inr rfl))
  have hjT := (h.cy.TH.jTe hj).1
  rw [h.cy.oh1 hj] at ho
  have hqr0 : ∀ d, d < c9 → qr (jc_up I (14, t, 0) 6 0) d := fun d hd r hr => by
    rw [jc_up_t _ _ _ _ _ _ _ _ (by decide)] at hr ⊢
    exact h.qr d hd r hr
  obtain ⟨J', O', live', mc, ms, I', P', lv', mc', ms', n', fn', m', hP, hR, cp, r1, f1, s1, w1, w2, w3, w4, w5, w6, hsf⟩ := step_all hx hj r0 f0 (Sim.cs h.sm) h.Dt h.cn hqr0 (h.rs _ tp.tf.cn) ho
  have hm30 : m' ≤ 30 := Nat.le_trans r1.qt.mf r1.f30
  have hcy := CY.step hx cp w2 hm30
  have e3 : I' (14, t, 0) 3 + 1 = J' (9, t, 0) 3 := by
    rw [w3, jc_up_k _ _ _ _ _ _ (by decide), cp.n3]
    have : J (9, t, 0) 3 = I (14, t, 0) 3 := h.sm (t + 1) (9, t, 0) 3 ((14, t, 0), 3) (by unfold mu; simp)
    unfold s_cs
    rw [jc_up_k _ _ _ _ _ _ (by decide), jc_up_s, this]
  have hb : bk J' = bk J := cp.o.bk.trans ot_cs.bk
  have hcl := hP
  have hnn := w5.1
  have hrk : RK t b n xt I P lv (jc_up I' (14, t, 0) 3 (I' (14, t, 0) 3 + 1)) P' lv' := (RK.up14.tr w6 (Nat.le_refl _)).tr (RK.up14 (n := n)) (Nat.le_refl _)
  refine ⟨J', O', live', mc, ms, I', P', lv', mc', ms', n', fn', m', by rw [hjT]; exact hsf, hP, hR, by rw [w4, jc_up_s], ⟨hcy, r1.to14 (e146 (Or.inl rfl)), f1.to14 (e146 (Or.inl rfl)), s1.back e3.symm, dU_s, w1, Or.inl ⟨?_, ?_⟩, fun d hd r hr => ?_, fun c hc => ?_⟩, CF.cs.tr cp.F, w5, hrk⟩
  · rw [cp.n6]; unfold s_cs; rw [jc_up_s]
  · rw [jc_up_k _ _ _ _ _ _ (by decide), w4, jc_up_s]
  · have e1 : ∀ q k, q.1 = 11 ∨ q.1 = 45 → jc_up I' (14, t, 0) 3 (I' (14, t, 0) 3 + 1) q k = I q k := fun q k hq => hrk.1 q k (by omega) (by omega) (by omega) (by omega) (fun g => by rw [g] at hq; simp at hq) (fun g => by rw [g] at hq; simp at hq) (by omega) (fun g => by rw [g.1] at hq; simp at hq)
    rw [e1 _ _ (by simp)] at hr ⊢
    exact h.qr d hd r hr
  · rw [hb] at hc ⊢; exact h.rs c hc
end
/-- the first side's run, as a function -/
def AF (t : Nat) : Nat → jc_I → jc_O → (jc_L → Prop) → Int32 × jc_S
  | 0, J, O, live => (av J O t, J, O, live, 0, 0)
  | m + 1, J, O, live =>
    if (J (9, t, 0) 4 = 1 ∨ J (9, t, 0) 4 = 2) ∨ aw J O t ≠ 0 then (av J O t, J, O, live, 0, 0)
    else if 2000 ≤ J (3, 0, 0) 2 ∨ 40000 ≤ J (3, 0, 0) 3 then (-12, J, O, live, 0, 0)
    else if oh J O t ≠ 0 then AF t m (jc_up J (9, t, 0) 6 1) O live
    else ((AF t m (SF J O live t (jT J t)).1 (SF J O live t (jT J t)).2.1 (SF J O live t (jT J t)).2.2.1).1, (AF t m (SF J O live t (jT J t)).1 (SF J O live t (jT J t)).2.1 (SF J O live t (jT J t)).2.2.1).2.1, (AF t m (SF J O live t (jT J t)).1 (SF J O live t (jT J t)).2.1 (SF J O live t (jT J t)).2.2.1).2.2.1, (AF t m (SF J O live t (jT J t)).1 (SF J O live t (jT J t)).2.1 (SF J O live t (jT J t)).2.2.1).2.2.2.1, (SF J O live t (jT J t)).2.2.2.1 + (AF t m (SF J O live t (jT J t)).1 (SF J O live t (jT J t)).2.1 (SF J O live t (jT J t)).2.2.1).2.2.2.2.1, (SF J O live t (jT J t)).2.2.2.2 + (AF t m (SF J O live t (jT J t)).1 (SF J O live t (jT J t)).2.1 (SF J O live t (jT J t)).2.2.1).2.2.2.2.2)
/-- both sides' loops, from round r on -/
def RO (t w r : Nat) (x : Int32) (J : jc_I) (O : jc_O) (live : jc_L → Prop) (I : jc_I) (P : jc_O) (lv : jc_L → Prop) (S : Int) (b n xt fn c9 : Nat) (D : Nat → Nat) (m : Nat) (Z : Int32 × jc_S) : Prop :=
  (∀ nc ns mcT msT, nc + Z.2.2.2.2.1 ≤ mcT → ns + Z.2.2.2.2.2 ≤ msT → jc_R y_M_advance 2 [some (.inr (some (4, 0, 0))), some (.inr (some (9, t, 0))), some (.inl (Int32.ofNat w)), some (.inl (Int32.ofNat r))] [] J O live nc ns (some (.inl Z.1), Z.2.1, Z.2.2.1, Z.2.2.2.1, mcT, msT)) ∧
  ∃ (I' : jc_I) (P' : jc_O) (lv' : jc_L → Prop) (mc' ms' n' fn' m' : Nat), (∀ nc ns mcT msT, nc + mc' ≤ mcT → ns + ms' ≤ msT → jc_R y_m_run 41 [some (.inr (some (10, 0, 0))), some (.inl x), some (.inl (Int32.ofNat w)), some (.inr (some (14, t, 0))), some (.inl (Int32.ofNat r))] [] I P lv nc ns (some (.inl Z.1), I', P', lv', mcT, msT)) ∧ RI Z.2.1 Z.2.2.1 Z.2.2.2.1 I' P' lv' (S + (m : Int)) t b n' xt fn' m' c9 (dU D t m') ∧ CF t J O live Z.2.1 Z.2.2.1 Z.2.2.2.1 ∧ BU Z.2.2.2.2.1 Z.2.2.2.2.2 mc' ms' P P' xt n n' fn fn' ∧ RK t b n xt I P lv I' P' lv'
theorem RO.same {t w r : Nat} {x v : Int32} {J I : jc_I} {O P : jc_O} {live lv : jc_L → Prop} {S : Int} {b n xt fn md c9 m : Nat} (h : RI J O live I P lv S t b n xt fn md c9 D) (hC : ∀ nc ns mcT msT, nc ≤ mcT → ns ≤ msT → jc_R y_M_advance 2 [some (.inr (some (4, 0, 0))), some (.inr (some (9, t, 0))), some (.inl (Int32.ofNat w)), some (.inl (Int32.ofNat r))] [] J O live nc ns (some (.inl v), J, O, live, mcT, msT)) (hR : ∀ nc ns mcT msT, nc ≤ mcT → ns ≤ msT → jc_R y_m_run 41 [some (.inr (some (10, 0, 0))), some (.inl x), some (.inl (Int32.ofNat w)), some (.inr (some (14, t, 0))), some (.inl (Int32.ofNat r))] [] I P lv nc ns (some (.inl v), I, P, lv, mcT, msT)) : RO t w r x J O live I P lv S b n xt fn c9 D m (v, J, O, live, 0, 0) :=
  ⟨fun nc ns a b h1 h2 => hC nc ns a b h1 h2, I, P, lv, 0, 0, n, fn, md, fun nc ns a b h1 h2 => hR nc ns a b h1 h2, by rw [dU_e h.Dt]; exact h.mono (by omega), CF.rf, BU.z, RK.loc (j := 0) rl.rf⟩
theorem run_all {t w b xt c9 : Nat} {x : Int32} (hw : w ≤ 10000) : ∀ (m r : Nat) (J : jc_I) (O : jc_O) (live : jc_L → Prop) (I : jc_I) (P : jc_O) (lv : jc_L → Prop) (S : Int) (n fn md : Nat) (D : Nat → Nat), RI J O live I P lv S t b n xt fn md c9 D → r + m = w → S + (m : Int) < 2147483600 → RO t w r x J O live I P lv S b n xt fn c9 D m (AF t m J O live) := by
  intro m
  induction m with
  | zero =>
    intro r J O live I P lv S n fn md D h hr hS
    rw [AF]
    exact RO.same h (fun nc ns a b h1 h2 => adv_out h.cy.awc (by omega) hw h1 h2) (fun nc ns a b h1 h2 => by rw [← h.rve]; exact rn_out h.HU (by omega) hw h1 h2)
  | succ m ih =>
    intro r J O live I P lv S n fn md D h hr hS
    have hs0 := h.cy.s0
    by_cases hE : (J (9, t, 0) 4 = 1 ∨ J (9, t, 0) 4 = 2) ∨ aw J O t ≠ 0
    · rw [AF, if_pos hE]
      exact RO.same h (fun nc ns a b h1 h2 => adv_end h.cy.awc (by omega) hw hE h1 h2) (fun nc ns a b h1 h2 => by rw [← h.rve]; exact rn_end h.HU (by omega) hw (h.nE.mpr hE) h1 h2)
    · have hE1 : ¬ (J (9, t, 0) 4 = 1 ∨ J (9, t, 0) 4 = 2) := fun g => hE (Or.inl g)
      have hE2 : aw J O t = 0 := Decidable.not_not.mp (fun g => hE (Or.inr g))
      have hg : J (9, t, 0) 4 = 0 := (h.cy.go.resolve_right (fun g => hE1 g.1)).1
      have hR1 : I (14, t, 0) 4 = 0 := h.e4.trans hg
      have hR2 : q_hu I t b = 0 := Decidable.not_not.mp (fun g => hE (h.nE.mp (Or.inr g)))
      by_cases hF : 2000 ≤ J (3, 0, 0) 2 ∨ 40000 ≤ J (3, 0, 0) 3
      · rw [AF, if_neg hE, if_pos hF]
        exact RO.same h (fun nc ns a b h1 h2 => adv_full h.cy.M h.cy.awc (by omega) hw hE1 hE2 hF h1 h2) (fun nc ns a b h1 h2 => rn_full h.rx.qt.M h.HU (by omega) hw hR1 hR2 (h.fu.mpr hF) h1 h2)
      · have hF2 : ¬ (2000 ≤ I (15, 2, 0) 1 ∨ 40000 ≤ I (10, 0, 0) 5) := fun g => hF (h.fu.mp g)
        by_cases hO : oh J O t ≠ 0
        · rw [AF, if_neg hE, if_neg hF, if_pos hO]
          obtain ⟨y, hst, hy, h1⟩ := h.stop hg (by omega) hF hO
          obtain ⟨g1, I', P', lv', mc', ms', n', fn', m', g2, g3, g4, g5, g6⟩ := ih (r + 1) _ _ _ _ _ _ _ _ _ _ _ h1 (by omega) (by omega)
          refine ⟨fun nc ns a b h1 h2 => adv_stop h.cy.M h.cy.awc h.cy.ohc (by omega) hw hE1 hE2 hF hO (by dsimp only; omega) (by dsimp only; omega) (g1 nc ns a b h1 h2), I', P', lv', mc', ms', n', fn', m', fun nc ns a b h1 h2 => rn_wait h.rx.qt.M h.HU (by omega) hw hR1 hR2 hF2 hst (fun _ g => g) (by rw [jc_up_s]; exact hy) (by dsimp only; omega) (by dsimp only; omega) (g2 nc ns a b h1 h2), g3.mono (by omega), CF.up9.tr g4, g5, (RK.up14.tr RK.up14 (Nat.le_refl _)).tr g6 (Nat.le_refl _)⟩
        · have hO : oh J O t = 0 := Decidable.not_not.mp hO
          obtain ⟨J1, O1, live1, mc, ms, I1, P1, lv1, mc1, ms1, n1, fn1, m1, hsf, hP, hR, hW, h1, c1, b1, k1⟩ := ri_step h hg (by omega) hF hO
          rw [AF, if_neg hE, if_neg hF, if_neg (fun g => g hO), hsf]
          dsimp only
          obtain ⟨g1, I', P', lv', mc', ms', n', fn', m', g2, g3, g4, g5, g6⟩ := ih (r + 1) _ _ _ _ _ _ _ _ _ _ _ h1 (by omega) (by omega)
          refine ⟨fun nc ns a b h1 h2 => ?_, I', P', lv', mc1 + mc', ms1 + ms', n', fn', m', fun nc ns a b h1 h2 => ?_, ?_, c1.tr g4, b1.tr g5, k1.tr g6 b1.1⟩
          · dsimp only at h1 h2 ⊢
            exact adv_step h.cy.M h.cy.awc h.cy.ohc (by omega) hw hE1 hE2 hF hO hP c1.l1 (by dsimp only; omega) (by dsimp only; omega) (g1 (nc + mc) (ns + ms) a b (by omega) (by omega))
          · exact rn_step h.rx.qt.M h.HU (by omega) hw hR1 hR2 hF2 hR (fun q g => k1.2.2.1 q g) hW (by dsimp only; omega) (by dsimp only; omega) (g2 (nc + mc1) (ns + ms1) a b (by omega) (by omega))
          · rw [dU_dU] at g3
            exact g3.mono (by omega)
