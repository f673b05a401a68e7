theorem th_new {X : jc_I} {Y : jc_O} {L : jc_L → Prop} {S : Int} {N b n sn cn zc c : Nat} {D fn : Nat → Nat} {x : Int32} (e : b + n = N) (hc : GC X Y L S sn sn cn D) (hr : GR X Y L b n sn sn cn zc D fn) (hx : GX X Y X Y sn cn b n D) (ex : x = Int32.ofNat c) (hcc : c < cn) (hb : 0 ≤ x ∧ x < X (1, 0, 0) 1) (hp : ¬ 0 < X (6, c, 0) 1) (hv : ¬ (g_thr X c).1 = 0) (hal : p_all (bk X) c) (hs8 : sn < 8) : ST y_J_thread y_m_thread [.inl x] X Y L S N := by
  have h4 := hc.c4
  have hxc : x.toNatClampNeg = c := by rw [ex, jofN (by omega)]
  have jK : jE X (g_thr X c).2 := jE_thr
  have hK4 : (g_thr X c).2 (4, 0, 0) 4 = Int32.ofNat sn := (jK _ _ (by simp) (by simp)).trans hc.tc1
  obtain ⟨s1, s2, s3, s4⟩ := hc.sf sn (Nat.le_refl _)
  have c0 := ct_M_begin_w (live := L) hc.M hc.A hc.G hb hxc hp hv hK4 hs8 s1 s2 s3 (fun j _ => s4 j)
  have hcK := hc.toJ jK.C2
  have hcN := hcK.newS hs8
  have hbN : bk (s_nI (g_thr X c).2 sn) = bk (g_thr X c).2 := bk_eq (fun q k hq => s_nI_e (by omega) (fun g => by rw [g] at hq; simp at hq) (fun g => by rw [g] at hq; simp at hq))
  have hGC := hcN.begin (Nat.lt_succ_self sn) hcc (by rw [hbN, jK.bk]; exact hal)
  generalize (g_thr X c).2 = K at *
  have nI1 : ∀ q k, ¬ ((q.1 = 8 ∨ q.1 = 32 ∨ q.1 = 33) ∧ q.2.1 = sn) → q ≠ (9, sn, 0) → q ≠ (34, sn, 0) → s_nI K sn q k = K q k := fun q k g1 g2 g3 => s_nI_e g1 g2 g3
  have nI2 : ∀ q k, q ≠ (9, sn, 0) → q ≠ (34, sn, 0) → s_nI K sn q k = 0 ∨ s_nI K sn q k = K q k := fun q k g1 g2 => s_nI_0 g1 g2
  have nI3 := s_nI_9 (J := K) (t := sn)
  rw [hK4] at nI3
  have nO1 : ∀ q k, ¬ ((q.1 = 8 ∨ q.1 = 32 ∨ q.1 = 33) ∧ q.2.1 = sn) → q ≠ (9, sn, 0) → q ≠ (34, sn, 0) → ¬ (q = (35, 0, 0) ∧ k = sn) → s_nO Y sn q k = Y q k := fun q k g1 g2 g3 g4 => s_nO_e g1 g2 g3 g4
  have nL1 : ∀ q, ¬ ((q.1 = 8 ∨ q.1 = 32 ∨ q.1 = 33) ∧ q.2.1 = sn) → q ≠ (9, sn, 0) → q ≠ (34, sn, 0) → (s_nl L sn q ↔ L q) := fun q g1 g2 g3 => s_nl_e g1 g2 g3
  have nL2 : ∀ q, L q → s_nl L sn q := fun q g => s_mkl_in 30 (Or.inr (Or.inr g))
  generalize s_nI K sn = KN at *
  generalize s_nO Y sn = YN at *
  generalize s_nl L sn = LN at *
  have hKN4 : KN (4, 0, 0) 4 = Int32.ofNat sn := (nI1 _ _ (by simp) (by simp) (by simp)).trans hK4
  obtain ⟨a1, a2, a3, a4, a5, a6⟩ := j_bg_v (K := KN) (t := sn) (v := Int32.ofNat (sn + 1)) (by rw [hKN4, jof1 (by omega)])
  rw [show s_bg KN sn (4, 0, 0) 4 + 1 - 1 = Int32.ofNat sn from by rw [s_bg_e (by simp) (by simp) (by simp), hKN4, jof1 (by omega), jofs (by omega)]] at c0
  have c1 := ct_J_thread hc.jJ nL2 c0
  have aX : ∀ q k, ¬ ((q.1 = 8 ∨ q.1 = 9 ∨ q.1 = 32 ∨ q.1 = 33 ∨ q.1 = 34) ∧ q.2.1 = sn) → ¬ (q = (4, 0, 0) ∧ k = 4) → q.1 ≠ 2 → ¬ (25 ≤ q.1 ∧ q.1 ≤ 28) → j_bg KN sn q k = X q k := fun q k g1 g2 g3 g4 => ((a1 q k (fun g => g1 (by rw [g]; simp)) (fun g => g1 (by rw [g]; simp)) (fun g => g1 (by rw [g]; simp)) g2).trans (nI1 q k (fun g => g1 ⟨by omega, g.2⟩) (fun g => g1 (by rw [g]; simp)) (fun g => g1 (by rw [g]; simp)))).trans (jK q k g3 g4)
  have oX : ∀ q k, ¬ ((q.1 = 8 ∨ q.1 = 9 ∨ q.1 = 32 ∨ q.1 = 33 ∨ q.1 = 34) ∧ q.2.1 = sn) → ¬ (q = (35, 0, 0) ∧ k = sn) → ¬ (q = (1, 0, 0) ∧ k = 2) → jc_up (jc_up YN (8, sn, 0) 2 (some (6, c, 0))) (1, 0, 0) 2 none q k = Y q k := fun q k g1 g2 g3 => ((if_neg g3).trans (if_neg (fun g => g1 (by rw [g.1]; simp)))).trans (nO1 q k (fun g => g1 ⟨by omega, g.2⟩) (fun g => g1 (by rw [g]; simp)) (fun g => g1 (by rw [g]; simp)) g2)
  have ac : jc_up (jc_up YN (8, sn, 0) 2 (some (6, c, 0))) (1, 0, 0) 2 none (8, sn, 0) 2 = some (6, c, 0) := by rw [jc_up_t _ _ _ _ _ _ _ _ (by decide), jc_up_s]
  have an : jc_up (jc_up YN (8, sn, 0) 2 (some (6, c, 0))) (1, 0, 0) 2 none (1, 0, 0) 2 = none := jc_up_s _ _ _ _
  generalize j_bg KN sn = X1 at *
  generalize jc_up (jc_up YN (8, sn, 0) 2 (some (6, c, 0))) (1, 0, 0) 2 none = Y1 at *
  have cR : ∀ q k, isR q.1 = true → X1 q k = X q k := fun q k hq => by have := isR_s hq; exact aX q k (by omega) (fun g => by rw [g.1] at this; simp at this) (by omega) (by omega)
  have oR : ∀ q k, isR q.1 = true → Y1 q k = Y q k := fun q k hq => by have := isR_s hq; exact oX q k (by omega) (fun g => by rw [g.1] at this; simp at this) (fun g => by rw [g.1] at this; simp at this)
  have lR : ∀ q, isR q.1 = true → (LN q ↔ L q) := fun q hq => by have := isR_s hq; exact nL1 q (by omega) (fun g => by rw [g] at this; simp at this) (fun g => by rw [g] at this; simp at this)
  have hr1 := hr.to cR oR lR
  have hx1 := hx.to (J' := X) (O' := Y) (fun _ _ _ => rfl) (fun _ _ _ => rfl) cR oR
  obtain ⟨v, K2, v01, viff, k2e, k2q, hG⟩ := ct_m_isAllGood hc.c4 hr1.qa (GG.qB hc hx1) hr1.k ex hcc (hr1.mt zc (Nat.le_refl _))
  have hv1 : v = 1 := viff.mpr (by rw [(hx1.sm 0).bkq]; exact hal)
  have hrK := hr1.met k2e k2q
  have hK3 : K2 (10, 0, 0) 3 = Int32.ofNat sn := hrK.tc1
  have hrO := hrK.to10 (I' := K2) (P' := jc_up (jc_cl Y1 (52, zc, 0) none) (10, 0, 0) 1 none) (tc' := sn) (fun _ _ _ _ => rfl) (fun q k _ g => if_neg g) hrK.tc1
  have hrN := hrO.newT (V := K2 (10, 0, 0) 3) hs8
  have hth1 := hrO.th.t1 (t := sn) (xt := 10 + sn) (V := K2 (10, 0, 0) 3) (by omega)
  obtain ⟨w1, w2, w3⟩ := l_add_cost (e := (14, sn, 0)) hth1
  have mE : ∀ q k, q ≠ (14, sn, 0) → q ≠ (15, 10 + sn, 0) → q ≠ (15, 1, 0) → (∀ z, q ≠ (60, 1, z)) → (l_add (q_t1 K2 sn (10 + sn) (K2 (10, 0, 0) 3)) (q_t1O (jc_up (jc_cl Y1 (52, zc, 0) none) (10, 0, 0) 1 none) sn (10 + sn)) (q_t1l (jadd (52, zc, 0) LN) sn (10 + sn)) 1 (14, sn, 0)).1 q k = K2 q k := fun q k g1 g2 g3 g4 => (l_add_Iq g3 g4).trans (t1_e g1 g2)
  have mO : ∀ q k, q ≠ (14, sn, 0) → q ≠ (15, 10 + sn, 0) → q ≠ (15, 1, 0) → (∀ z, q ≠ (60, 1, z)) → (l_add (q_t1 K2 sn (10 + sn) (K2 (10, 0, 0) 3)) (q_t1O (jc_up (jc_cl Y1 (52, zc, 0) none) (10, 0, 0) 1 none) sn (10 + sn)) (q_t1l (jadd (52, zc, 0) LN) sn (10 + sn)) 1 (14, sn, 0)).2.1 q k = jc_up (jc_cl Y1 (52, zc, 0) none) (10, 0, 0) 1 none q k := fun q k g1 g2 g3 g4 => (l_add_Oq g3 g4).trans (t1O_e g1 g2)
  have mL : ∀ q, q ≠ (14, sn, 0) → q ≠ (15, 10 + sn, 0) → (∀ z, q ≠ (60, 1, z)) → (l_add (q_t1 K2 sn (10 + sn) (K2 (10, 0, 0) 3)) (q_t1O (jc_up (jc_cl Y1 (52, zc, 0) none) (10, 0, 0) 1 none) sn (10 + sn)) (q_t1l (jadd (52, zc, 0) LN) sn (10 + sn)) 1 (14, sn, 0)).2.2.1 q → jadd (52, zc, 0) LN q := fun q g1 g2 g4 g => by
    rcases l_add_l g with w | ⟨z, w⟩
    · exact t1l_e g1 g2 w
    · exact absurd w (g4 z)
  have mL2 : ∀ q, jadd (52, zc, 0) LN q → (l_add (q_t1 K2 sn (10 + sn) (K2 (10, 0, 0) 3)) (q_t1O (jc_up (jc_cl Y1 (52, zc, 0) none) (10, 0, 0) 1 none) sn (10 + sn)) (q_t1l (jadd (52, zc, 0) LN) sn (10 + sn)) 1 (14, sn, 0)).2.2.1 q := fun q g => l_add_live q (Or.inr (Or.inr g))
  have m14 : ∀ i, (l_add (q_t1 K2 sn (10 + sn) (K2 (10, 0, 0) 3)) (q_t1O (jc_up (jc_cl Y1 (52, zc, 0) none) (10, 0, 0) 1 none) sn (10 + sn)) (q_t1l (jadd (52, zc, 0) LN) sn (10 + sn)) 1 (14, sn, 0)).1 (14, sn, 0) i = q_t1 K2 sn (10 + sn) (K2 (10, 0, 0) 3) (14, sn, 0) i := fun i => l_add_Iq (by simp) (by simp)
  have t14 := t1_14 (I := K2) (t := sn) (xt := 10 + sn) (V := K2 (10, 0, 0) 3)
  have mcap : lcap (l_add (q_t1 K2 sn (10 + sn) (K2 (10, 0, 0) 3)) (q_t1O (jc_up (jc_cl Y1 (52, zc, 0) none) (10, 0, 0) 1 none) sn (10 + sn)) (q_t1l (jadd (52, zc, 0) LN) sn (10 + sn)) 1 (14, sn, 0)).2.1 (10 + sn) = 0 := by
    unfold lcap
    rw [l_add_Oq (by simp; omega) (by simp), t1O_14.2]
    rfl
  have e15 : X (1, 0, 0) 1 = X1 (15, 0, 0) 1 := hx1.sm 0 (1, 0, 0) 1 _ rfl
  have e6 : X (6, c, 0) 1 = X1 (11, c, 0) 0 := hx1.sm 0 (6, c, 0) 1 _ rfl
  obtain ⟨f1, f2, f3⟩ := hrO.tf sn (Nat.le_refl _)
  have d00 := fun hPU => ct_m_thread_w (t := sn) (xt := 10 + sn) (fn := fn sn) hr1.qa.1 (by rw [← e15]; exact hb) hr1.qa.2.1 ex hcc (by rw [← e6]; exact hp) hG (by rw [hv1]; decide) hK3 hs8 hrO.th hth1 f1 f2 hrN.qa.2.1 hPU
  generalize l_add (q_t1 K2 sn (10 + sn) (K2 (10, 0, 0) 3)) (q_t1O (jc_up (jc_cl Y1 (52, zc, 0) none) (10, 0, 0) 1 none) sn (10 + sn)) (q_t1l (jadd (52, zc, 0) LN) sn (10 + sn)) 1 (14, sn, 0) = M at *
  have hM3 : M.1 (10, 0, 0) 3 = Int32.ofNat sn := (mE _ _ (by simp) (by simp) (by simp) (by simp)).trans hK3
  have hrC := hrN.to10 (I' := jc_up M.1 (10, 0, 0) 3 (M.1 (10, 0, 0) 3 + 1)) (P' := M.2.1) (tc' := sn + 1) (fun q k _ g => if_neg g) (fun _ _ _ _ => rfl) (by rw [jc_up_s, hM3, jof1 (by omega)])
  have hPU := (hrC.rx0 (Nat.lt_succ_self sn)).pu (by decide)
  have d0 := d00 hPU
  have hq0 := GG.qr hc hx1 c hcc
  have hq1 : qr (jc_up M.1 (10, 0, 0) 3 (M.1 (10, 0, 0) 3 + 1)) c := fun r hr9 => by
    rw [jc_up_t _ _ _ _ _ _ _ _ (by decide), mE _ _ (by simp) (by simp) (by simp) (by simp), k2e _ _ (by simp) (by simp) (by simp)] at hr9
    rw [jc_up_t _ _ _ _ _ _ _ _ (by decide), mE _ _ (by simp) (by simp) (by simp) (by simp), k2e _ _ (by simp) (by simp) (by simp)]
    exact hq0 r hr9
  have hGR := hrC.begin (x := x) (Nat.lt_succ_self sn) hcc hq1
  obtain ⟨b1, b2, b3, b4, b5, b6, b7⟩ := q_bg_v (x := x) (c := (11, c, 0)) hPU (hrN.fz sn)
  have hqf := q_pu_f (x := x) (c := (11, c, 0)) hPU
  obtain ⟨-, u1, u2, u3, u4⟩ := q_pu_fs (x := x) (c := (11, c, 0)) hPU
  have hPe : ∀ q k, q ≠ (12, sn, 0) → q ≠ (48, sn, 0) → q ≠ (49, sn, 0) → q ≠ (15, 10 + sn, 0) → (∀ z, q ≠ (60, 10 + sn, z)) → (q_pu (qt_bg (jc_up M.1 (10, 0, 0) 3 (M.1 (10, 0, 0) 3 + 1)) sn) M.2.1 M.2.2.1 sn (10 + sn) 0 x (11, c, 0)).2.1 q k = M.2.1 q k := fun q k g1 g2 g3 g4 g5 => q_pu_O g1 g2 g3 g4 g5
  have hLv : ∀ q, M.2.2.1 q → (q_pu (qt_bg (jc_up M.1 (10, 0, 0) 3 (M.1 (10, 0, 0) 3 + 1)) sn) M.2.1 M.2.2.1 sn (10 + sn) 0 x (11, c, 0)).2.2.1 q := q_pu_live
  have hLl : ∀ q, (q_pu (qt_bg (jc_up M.1 (10, 0, 0) 3 (M.1 (10, 0, 0) 3 + 1)) sn) M.2.1 M.2.2.1 sn (10 + sn) 0 x (11, c, 0)).2.2.1 q → M.2.2.1 q ∨ q = (12, sn, 0) ∨ q = (48, sn, 0) ∨ q = (49, sn, 0) ∨ ∃ z, q = (60, 10 + sn, z) := fun q g => q_pu_l g
  generalize q_pu (qt_bg (jc_up M.1 (10, 0, 0) 3 (M.1 (10, 0, 0) 3 + 1)) sn) M.2.1 M.2.2.1 sn (10 + sn) 0 x (11, c, 0) = Z at *
  rw [hM3, jof1 (by omega)] at b5
  have hval : Z.1 (14, sn, 0) 0 = Int32.ofNat sn := by
    rw [b1 _ _ (by simp) (by simp) (by simp) (by simp) (by simp) (by simp), m14, t14.1]
    exact hK3
  rw [hval] at d0
  have smK : SimF b n D K K2 := hx1.sm.toQ jK.C2 (fun q k _ h51 h52 h8 => k2e q k (fun g => h52 (by rw [g])) (fun g => h51 (by rw [g])) h8)
  have hf0 := hr.f0 sn (Nat.le_refl _)
  have smN : SimF b n D KN M.1 := fun y => (smK y).newT (fun i k => hrK.fz sn i k (by rw [hf0.1]; exact Nat.zero_le _)) nI1 nI2 nI3 mE ⟨(m14 0).trans (t14.1.trans hK3), fun i hi => (m14 i).trans (t14.2.1 i hi)⟩
  have sm : SimF b n (dU D sn 1) X1 Z.1 := fun y => (smN y).begin (xt := 10 + sn) rfl a1 a2 a3 a4 a5 b1 b2 b3 b4 b5
  have cC : ∀ q k, isC q.1 = true → Z.1 q k = X1 q k := fun q k hq => by
    have := isC_s hq
    rw [b1 q k (fun g => by rw [g] at this; simp at this) (fun g => by rw [g] at this; simp at this) (fun g => by rw [g.1] at this; simp at this) (fun g => by rw [g] at this; simp at this) (fun z g => by rw [g] at this; simp at this) (fun g => by rw [g.1] at this; simp at this), mE q k (fun g => by rw [g] at this; simp at this) (fun g => by rw [g] at this; simp at this) (fun g => by rw [g] at this; simp at this) (fun z g => by rw [g] at this; simp at this)]
    exact k2e q k (fun g => by rw [g] at this; simp at this) (fun g => by rw [g] at this; simp at this) (fun g => by rw [g.1] at this; simp at this)
  have oC : ∀ q k, isC q.1 = true → Z.2.1 q k = Y1 q k := fun q k hq => by
    have := isC_s hq
    rw [hPe q k (fun g => by rw [g] at this; simp at this) (fun g => by rw [g] at this; simp at this) (fun g => by rw [g] at this; simp at this) (fun g => by rw [g] at this; simp at this) (fun z g => by rw [g] at this; simp at this), mO q k (fun g => by rw [g] at this; simp at this) (fun g => by rw [g] at this; simp at this) (fun g => by rw [g] at this; simp at this) (fun z g => by rw [g] at this; simp at this), jc_up_q _ _ _ _ _ _ (fun g => by rw [g] at this; simp at this)]
    exact met_O q k (by omega)
  have lC : ∀ q, isC q.1 = true → (Z.2.2.1 q ↔ LN q) := fun q hq => by
    have := isC_s hq
    refine ⟨fun g => ?_, fun g => hLv q (mL2 q (Or.inr g))⟩
    rcases hLl q g with w | w | w | w | ⟨z, w⟩
    · exact (met_L q (by omega)).mp (mL q (fun g => by rw [g] at this; simp at this) (fun g => by rw [g] at this; simp at this) (fun z g => by rw [g] at this; simp at this) w)
    all_goals (rw [w] at this; simp at this)
  have hGX : GX X1 Y1 Z.1 Z.2.1 (sn + 1) cn b n (dU D sn 1) := by
    refine GX.begin (K := K) hx1 sm (fun _ _ => trivial) (fun q k g1 g2 g3 g4 _ => aX q k g1 g2 g3 g4) a6 (fun u i hu => oX _ _ (by simp [hu]) (by simp) (by simp)) ac an (fun u i hu => ?_) (fun u hu => ?_) b6 (fun u i hu => ?_) hqf.2 (b7.trans ex) ?_
    · rw [b1 _ _ (by simp [hu]) (by simp) (by simp) (by simp) (by simp) (by simp), mE _ _ (by simp) (by simp) (by simp) (by simp)]
      exact k2e _ _ (by simp) (by simp) (by simp)
    · rw [b1 _ _ (by simp) (by simp) (by simp [hu]) (by simp) (by simp) (by simp), mE _ _ (by simp [hu]) (by simp) (by simp) (by simp)]
      exact k2e _ _ (by simp) (by simp) (by simp)
    · rw [hPe _ _ (by simp [hu]) (by simp) (by simp) (by simp) (by simp), mO _ _ (by simp) (by simp) (by simp) (by simp), jc_up_t _ _ _ _ _ _ _ _ (by decide)]
      exact met_O _ _ (by simp)
    · rw [hPe _ _ (by simp) (by simp) (by simp) (by simp) (by simp), mO _ _ (by simp) (by simp) (by simp) (by simp), jc_up_s]
  have hcap : lcap Z.2.1 2 = lcap Y 2 := by unfold lcap; rw [hPe _ _ (by simp) (by simp) (by simp) (by simp; omega) (by simp), mO _ _ (by simp) (by simp; omega) (by simp) (by simp), jc_up_t _ _ _ _ _ _ _ _ (by decide), met_O _ _ (by simp), oR _ _ rfl]
  have hfu : fnU (fn sn) 0 = 1 := by rw [hf0.1]; rfl
  rw [hfu, hf0.1, mcap] at u1 u2
  rw [hf0.1, mcap] at u3
  refine ⟨_, _, _, _, _, _, _, _, _, _, _, N, c1, nL2, d0, fun q h => hLv q (mL2 q (Or.inr h)), ⟨b, n, sn + 1, sn + 1, cn, zc + 1, _, _, e, (hGC.to cC oC lC).mono (by omega), hGR, hGX.to cC oC (fun _ _ _ => rfl) (fun _ _ _ => rfl)⟩, ?_, ?_, fun i j => aX _ _ (by simp) (by simp) (by simp) (by simp), fun i j => ?_⟩
  · rw [hcap]
    rcases u3 with u3 | u3 <;> rcases w3 with w3 | w3 <;> omega
  · rw [hcap]
    rcases u3 with u3 | u3 <;> rcases w3 with w3 | w3 <;> omega
  · rw [b1 _ _ (by simp) (by simp) (by simp) (by simp) (by simp) (by simp), mE _ _ (by simp) (by simp) (by simp) (by simp), k2e _ _ (by simp) (by simp) (by simp)]
    exact aX _ _ (by simp) (by simp) (by simp) (by simp)
theorem st_thread {X : jc_I} {Y : jc_O} {L : jc_L → Prop} {S : Int} {N : Nat} {x : Int32} (g : GS X Y L S N) : ST y_J_thread y_m_thread [.inl x] X Y L S N := by
  obtain ⟨b, n, tc, sn, cn, zc, D, fn, e, hc, hr, hx⟩ := id g
  have h1 := hc.tcn
  have h8 := hc.sn8
  have h4 := hc.c4
  have e15 : X (1, 0, 0) 1 = X (15, 0, 0) 1 := hx.sm 0 (1, 0, 0) 1 _ rfl
  by_cases hb : 0 ≤ x ∧ x < X (1, 0, 0) 1
  · obtain ⟨ex, hcc⟩ := hc.fndc hb
    generalize x.toNatClampNeg = c at ex hcc
    have hxc : x.toNatClampNeg = c := by rw [ex, jofN (by omega)]
    have e6 : X (6, c, 0) 1 = X (11, c, 0) 0 := hx.sm 0 (6, c, 0) 1 _ rfl
    by_cases hp : 0 < X (6, c, 0) 1
    · exact ST.same g (ct_J_thread (live1 := L) hc.jJ (fun _ h => h) (ct_M_begin_p hc.M hc.A hb hxc hp)) (ct_m_thread_p hr.qa.1 (by rw [← e15]; exact hb) hr.qa.2.1 ex hcc (by rw [← e6]; exact hp))
    · have jK : jE X (g_thr X c).2 := jE_thr
      have it := g_thr_iff hc.jNum hc.jPar (hc.in' hcc)
      have hr1 := hr.to jK.R (fun _ _ _ => rfl) (fun _ _ => Iff.rfl)
      have hx1 := hx.to (J' := X) (O' := Y) (fun _ _ _ => rfl) (fun _ _ _ => rfl) jK.R (fun _ _ _ => rfl)
      have k15 : X (1, 0, 0) 1 = (g_thr X c).2 (15, 0, 0) 1 := hx1.sm 0 (1, 0, 0) 1 _ rfl
      have k6 : X (6, c, 0) 1 = (g_thr X c).2 (11, c, 0) 0 := hx1.sm 0 (6, c, 0) 1 _ rfl
      have hcap : ∀ z, lcap (jc_cl Y (52, z, 0) none) 2 = lcap Y 2 := fun z => by unfold lcap; rw [met_O _ _ (by simp)]
      by_cases hv : (g_thr X c).1 = 0
      · obtain ⟨v, K2, v01, viff, k2e, k2q, hG⟩ := ct_m_isAllGood hc.c4 hr1.qa (GG.qB hc hx1) hr1.k ex hcc (hr1.mt zc (Nat.le_refl _))
        rw [(hx1.sm 0).bkq, ← it, hv] at viff
        have hv0 : v = 0 := v01.resolve_right (fun w => absurd (viff.mp w) (by decide))
        have c1 := ct_J_thread (live1 := L) hc.jJ (fun _ h => h) (ct_M_begin_b (live := L) hc.M hc.A hc.G hb hxc hp hv)
        have d1 := ct_m_thread_b hr1.qa.1 (by rw [← k15]; exact hb) hr1.qa.2.1 ex hcc (by rw [← k6]; exact hp) hG hv0
        refine ⟨_, _, _, _, _, _, _, _, _, _, _, N, c1, fun _ h => h, d1, fun _ h => Or.inr h, (GS.met e hc hr1 hx1 jK k2e k2q).mono (by omega), by rw [hcap]; omega, by rw [hcap]; omega, fun i j => jK _ _ (by simp) (by simp), fun i j => ?_⟩
        rw [k2e _ _ (by simp) (by simp) (by simp)]
        exact jK _ _ (by simp) (by simp)
      · have hv1 : (g_thr X c).1 = 1 := (g_all01 _ _ _).resolve_left hv
        have hal := it.mp hv1
        by_cases ht8 : tc = 8
        · obtain ⟨v, K2, v01, viff, k2e, k2q, hG⟩ := ct_m_isAllGood hc.c4 hr1.qa (GG.qB hc hx1) hr1.k ex hcc (hr1.mt zc (Nat.le_refl _))
          rw [(hx1.sm 0).bkq] at viff
          have hv2 : v = 1 := viff.mpr hal
          have c1 := ct_J_thread (live1 := L) hc.jJ (fun _ h => h) (ct_M_begin_f (live := L) hc.M hc.A hc.G hb hxc hp hv (by rw [jK _ _ (by simp) (by simp), hc.tc1, ht8]; decide))
          have d1 := ct_m_thread_f hr1.qa.1 (by rw [← k15]; exact hb) hr1.qa.2.1 ex hcc (by rw [← k6]; exact hp) hG (by rw [hv2]; decide) (by rw [k2e _ _ (by simp) (by simp) (by simp), hr1.tc1, ht8]; rfl)
          refine ⟨_, _, _, _, _, _, _, _, _, _, _, N, c1, fun _ h => h, d1, fun _ h => Or.inr h, (GS.met e hc hr1 hx1 jK k2e k2q).mono (by omega), by rw [hcap]; omega, by rw [hcap]; omega, fun i j => jK _ _ (by simp) (by simp), fun i j => ?_⟩
          rw [k2e _ _ (by simp) (by simp) (by simp)]
          exact jK _ _ (by simp) (by simp)
        · by_cases hts : tc < sn
          · exact th_old e hc hr hx ex hcc hb hp hv hal hts
          · have : tc = sn := by omega
            subst this
            exact th_new e hc hr hx ex hcc hb hp hv hal (by omega)
  · exact ST.same g (ct_J_thread (live1 := L) hc.jJ (fun _ h => h) (ct_M_begin_n hc.M hc.A hb)) (ct_m_thread_n hr.qa.1 (by rw [← e15]; exact hb))
