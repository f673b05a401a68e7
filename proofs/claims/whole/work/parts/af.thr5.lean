theorem th_old {X : jc_I} {Y : jc_O} {L : jc_L → Prop} {S : Int} {N b n tc sn cn zc c : Nat} {D fn : Nat → Nat} {x : Int32} (e : b + n = N) (hc : GC X Y L S tc sn cn D) (hr : GR X Y L b n tc sn cn zc D fn) (hx : GX X Y X Y tc cn b n D) (ex : x = Int32.ofNat c) (hcc : c < cn) (hb : 0 ≤ x ∧ x < X (1, 0, 0) 1) (hp : ¬ 0 < X (6, c, 0) 1) (hv : ¬ (g_thr X c).1 = 0) (hal : p_all (bk X) c) (htc : tc < sn) : ST y_J_thread y_m_thread [.inl x] X Y L S N := by
  have h8 := hc.sn8
  have h4 := hc.c4
  have hxc : x.toNatClampNeg = c := by rw [ex, jofN (by omega)]
  have jK : jE X (g_thr X c).2 := jE_thr
  have hK4 : (g_thr X c).2 (4, 0, 0) 4 = Int32.ofNat tc := (jK _ _ (by simp) (by simp)).trans hc.tc1
  obtain ⟨⟨s1, s2, s3⟩, s4⟩ := hc.st tc htc
  have c0 := ct_M_begin_o (live := L) hc.M hc.A hc.G hb hxc hp hv hK4 (by omega) s1 s2 (s3 0 (by decide)).1 (s3 0 (by decide)).2.2
  have hcK := hc.toJ jK.C2
  have hGC := hcK.begin htc hcc (by rw [jK.bk]; exact hal)
  generalize (g_thr X c).2 = K at *
  obtain ⟨a1, a2, a3, a4, a5, a6⟩ := j_bg_v (K := K) (t := tc) (v := Int32.ofNat (tc + 1)) (by rw [hK4, jof1 (by omega)])
  rw [show s_bg K tc (4, 0, 0) 4 + 1 - 1 = Int32.ofNat tc from by rw [s_bg_e (by simp) (by simp) (by simp), hK4, jof1 (by omega), jofs (by omega)]] at c0
  have c1 := ct_J_thread hc.jJ (fun _ h => h) c0
  have aX : ∀ q k, ¬ ((q.1 = 8 ∨ q.1 = 9 ∨ q.1 = 32 ∨ q.1 = 33 ∨ q.1 = 34) ∧ q.2.1 = tc) → ¬ (q = (4, 0, 0) ∧ k = 4) → q.1 ≠ 2 → ¬ (25 ≤ q.1 ∧ q.1 ≤ 28) → j_bg K tc q k = X q k := fun q k g1 g2 g3 g4 => (a1 q k (fun g => g1 (by rw [g]; simp)) (fun g => g1 (by rw [g]; simp)) (fun g => g1 (by rw [g]; simp)) g2).trans (jK q k g3 g4)
  have oX : ∀ q k, ¬ (q = (8, tc, 0) ∧ k = 2) → ¬ (q = (1, 0, 0) ∧ k = 2) → jc_up (jc_up Y (8, tc, 0) 2 (some (6, c, 0))) (1, 0, 0) 2 none q k = Y q k := fun q k g1 g2 => (if_neg g2).trans (if_neg g1)
  have ac : jc_up (jc_up Y (8, tc, 0) 2 (some (6, c, 0))) (1, 0, 0) 2 none (8, tc, 0) 2 = some (6, c, 0) := by rw [jc_up_t _ _ _ _ _ _ _ _ (by decide), jc_up_s]
  have an : jc_up (jc_up Y (8, tc, 0) 2 (some (6, c, 0))) (1, 0, 0) 2 none (1, 0, 0) 2 = none := jc_up_s _ _ _ _
  generalize j_bg K tc = X1 at *
  generalize jc_up (jc_up Y (8, tc, 0) 2 (some (6, c, 0))) (1, 0, 0) 2 none = Y1 at *
  have cR : ∀ q k, isR q.1 = true → X1 q k = X q k := fun q k hq => by have := isR_s hq; exact aX q k (by omega) (fun g => by rw [g.1] at this; simp at this) (by omega) (by omega)
  have oR : ∀ q k, isR q.1 = true → Y1 q k = Y q k := fun q k hq => by have := isR_s hq; exact oX q k (fun g => by rw [g.1] at this; simp at this) (fun g => by rw [g.1] at this; simp at this)
  have hr1 := hr.to cR oR (fun _ _ => Iff.rfl)
  have hx1 := hx.to (J' := X) (O' := Y) (fun _ _ _ => rfl) (fun _ _ _ => rfl) cR oR
  obtain ⟨v, K2, v01, viff, k2e, k2q, hG⟩ := ct_m_isAllGood hc.c4 hr1.qa (GG.qB hc hx1) hr1.k ex hcc (hr1.mt zc (Nat.le_refl _))
  have hv1 : v = 1 := viff.mpr (by rw [(hx1.sm 0).bkq]; exact hal)
  have hrK := hr1.met k2e k2q
  have hK3 : K2 (10, 0, 0) 3 = Int32.ofNat tc := hrK.tc1
  have hrO := hrK.to10 (I' := K2) (P' := jc_up (jc_cl Y1 (52, zc, 0) none) (10, 0, 0) 1 none) (tc' := tc) (fun _ _ _ _ => rfl) (fun q k _ g => if_neg g) hrK.tc1
  have hrC := hrK.to10 (I' := jc_up K2 (10, 0, 0) 3 (K2 (10, 0, 0) 3 + 1)) (P' := jc_up (jc_cl Y1 (52, zc, 0) none) (10, 0, 0) 1 none) (tc' := tc + 1) (fun q k _ g => if_neg g) (fun q k _ g => if_neg g) (by rw [jc_up_s, hK3, jof1 (by omega)])
  have hPU := (hrC.rx0 htc).pu (by decide)
  have e15 : X (1, 0, 0) 1 = X1 (15, 0, 0) 1 := hx1.sm 0 (1, 0, 0) 1 _ rfl
  have e6 : X (6, c, 0) 1 = X1 (11, c, 0) 0 := hx1.sm 0 (6, c, 0) 1 _ rfl
  have d0 := ct_m_thread_o (t := tc) (tn := sn) hr1.qa.1 (by rw [← e15]; exact hb) hr1.qa.2.1 ex hcc (by rw [← e6]; exact hp) hG (by rw [hv1]; decide) hK3 (by omega) hrO.qa.2.1 hrO.th htc hPU
  have hq0 := GG.qr hc hx1 c hcc
  have hq1 : qr (jc_up K2 (10, 0, 0) 3 (K2 (10, 0, 0) 3 + 1)) c := fun r hr9 => by
    rw [jc_up_t _ _ _ _ _ _ _ _ (by decide), k2e _ _ (by simp) (by simp) (by simp)] at hr9
    rw [jc_up_t _ _ _ _ _ _ _ _ (by decide), k2e _ _ (by simp) (by simp) (by simp)]
    exact hq0 r hr9
  have hGR := hrC.begin (x := x) htc hcc hq1
  obtain ⟨b1, b2, b3, b4, b5, b6, b7⟩ := q_bg_v (x := x) (c := (11, c, 0)) hPU (hrK.fz tc)
  have hqf := q_pu_f (x := x) (c := (11, c, 0)) hPU
  obtain ⟨-, u1, u2, u3, u4⟩ := q_pu_fs (x := x) (c := (11, c, 0)) hPU
  have hPe : ∀ q k, q ≠ (12, tc, 0) → q ≠ (48, tc, 0) → q ≠ (49, tc, 0) → q ≠ (15, 10 + tc, 0) → (∀ z, q ≠ (60, 10 + tc, z)) → (q_pu (qt_bg (jc_up K2 (10, 0, 0) 3 (K2 (10, 0, 0) 3 + 1)) tc) (jc_up (jc_cl Y1 (52, zc, 0) none) (10, 0, 0) 1 none) (jadd (52, zc, 0) L) tc (10 + tc) 0 x (11, c, 0)).2.1 q k = jc_up (jc_cl Y1 (52, zc, 0) none) (10, 0, 0) 1 none q k := fun q k g1 g2 g3 g4 g5 => q_pu_O g1 g2 g3 g4 g5
  have hLv : ∀ q, (jadd (52, zc, 0) L) q → (q_pu (qt_bg (jc_up K2 (10, 0, 0) 3 (K2 (10, 0, 0) 3 + 1)) tc) (jc_up (jc_cl Y1 (52, zc, 0) none) (10, 0, 0) 1 none) (jadd (52, zc, 0) L) tc (10 + tc) 0 x (11, c, 0)).2.2.1 q := q_pu_live
  have hLl : ∀ q, (q_pu (qt_bg (jc_up K2 (10, 0, 0) 3 (K2 (10, 0, 0) 3 + 1)) tc) (jc_up (jc_cl Y1 (52, zc, 0) none) (10, 0, 0) 1 none) (jadd (52, zc, 0) L) tc (10 + tc) 0 x (11, c, 0)).2.2.1 q → (jadd (52, zc, 0) L) q ∨ q = (12, tc, 0) ∨ q = (48, tc, 0) ∨ q = (49, tc, 0) ∨ ∃ z, q = (60, 10 + tc, z) := fun q g => q_pu_l g
  generalize q_pu (qt_bg (jc_up K2 (10, 0, 0) 3 (K2 (10, 0, 0) 3 + 1)) tc) (jc_up (jc_cl Y1 (52, zc, 0) none) (10, 0, 0) 1 none) (jadd (52, zc, 0) L) tc (10 + tc) 0 x (11, c, 0) = Z at *
  rw [hK3, jof1 (by omega)] at b5
  have s90 : X (9, tc, 0) 0 = X (14, tc, 0) 0 := hx.sm 0 (9, tc, 0) 0 _ rfl
  have hval : Z.1 (14, tc, 0) 0 = Int32.ofNat tc := by
    rw [b1 _ _ (by simp) (by simp) (by simp) (by simp) (by simp) (by simp), k2e _ _ (by simp) (by simp) (by simp), cR _ _ rfl, ← s90]
    exact s4
  rw [hval] at d0
  have smK : SimF b n D K K2 := hx1.sm.toQ jK.C2 (fun q k _ h51 h52 h8 => k2e q k (fun g => h52 (by rw [g])) (fun g => h51 (by rw [g])) h8)
  have sm : SimF b n (dU D tc 1) X1 Z.1 := fun y => (smK y).begin (xt := 10 + tc) rfl a1 a2 a3 a4 a5 b1 b2 b3 b4 b5
  have cC : ∀ q k, isC q.1 = true → Z.1 q k = X1 q k := fun q k hq => by
    have := isC_s hq
    rw [b1 q k (fun g => by rw [g] at this; simp at this) (fun g => by rw [g] at this; simp at this) (fun g => by rw [g.1] at this; simp at this) (fun g => by rw [g] at this; simp at this) (fun z g => by rw [g] at this; simp at this) (fun g => by rw [g.1] at this; simp at this)]
    exact k2e q k (fun g => by rw [g] at this; simp at this) (fun g => by rw [g] at this; simp at this) (fun g => by rw [g.1] at this; simp at this)
  have oC : ∀ q k, isC q.1 = true → Z.2.1 q k = Y1 q k := fun q k hq => by
    have := isC_s hq
    rw [hPe q k (fun g => by rw [g] at this; simp at this) (fun g => by rw [g] at this; simp at this) (fun g => by rw [g] at this; simp at this) (fun g => by rw [g] at this; simp at this) (fun z g => by rw [g] at this; simp at this), jc_up_q _ _ _ _ _ _ (fun g => by rw [g] at this; simp at this)]
    exact met_O q k (by omega)
  have lC : ∀ q, isC q.1 = true → (Z.2.2.1 q ↔ L q) := fun q hq => by
    have := isC_s hq
    refine ⟨fun g => ?_, fun g => hLv q (Or.inr g)⟩
    rcases hLl q g with w | w | w | w | ⟨z, w⟩
    · exact (met_L q (by omega)).mp w
    all_goals (rw [w] at this; simp at this)
  have hGX : GX X1 Y1 Z.1 Z.2.1 (tc + 1) cn b n (dU D tc 1) := by
    refine GX.begin (K := K) hx1 sm (fun _ _ => trivial) (fun q k g1 g2 g3 g4 _ => aX q k g1 g2 g3 g4) a6 (fun u i hu => oX _ _ (by simp [hu]) (by simp)) ac an (fun u i hu => ?_) (fun u hu => ?_) b6 (fun u i hu => ?_) hqf.2 (b7.trans ex) ?_
    · rw [b1 _ _ (by simp [hu]) (by simp) (by simp) (by simp) (by simp) (by simp)]
      exact k2e _ _ (by simp) (by simp) (by simp)
    · rw [b1 _ _ (by simp) (by simp) (by simp [hu]) (by simp) (by simp) (by simp)]
      exact k2e _ _ (by simp) (by simp) (by simp)
    · rw [hPe _ _ (by simp [hu]) (by simp) (by simp) (by simp) (by simp), jc_up_t _ _ _ _ _ _ _ _ (by decide)]
      exact met_O _ _ (by simp)
    · rw [hPe _ _ (by simp) (by simp) (by simp) (by simp) (by simp), jc_up_s]
  have hcap : lcap Z.2.1 2 = lcap Y 2 := by unfold lcap; rw [hPe _ _ (by simp) (by simp) (by simp) (by simp; omega) (by simp), jc_up_t _ _ _ _ _ _ _ _ (by decide), met_O _ _ (by simp), oR _ _ rfl]
  have hfn := (hr.ts tc htc).2.2.2.2.1
  have hfu : fnU (fn tc) 0 ≤ fn tc + 1 := by unfold fnU; split <;> omega
  refine ⟨_, _, _, _, _, _, _, _, _, _, _, N, c1, fun _ h => h, d0, fun q h => hLv q (Or.inr h), ⟨b, n, tc + 1, sn, cn, zc + 1, _, _, e, (hGC.to cC oC lC).mono (by omega), hGR, hGX.to cC oC (fun _ _ _ => rfl) (fun _ _ _ => rfl)⟩, ?_, ?_, fun i j => aX _ _ (by simp) (by simp) (by simp) (by simp), fun i j => ?_⟩
  · rw [hcap]
    rcases u3 with u3 | u3 <;> omega
  · rw [hcap]
    rcases u3 with u3 | u3 <;> omega
  · rw [b1 _ _ (by simp) (by simp) (by simp) (by simp) (by simp) (by simp), k2e _ _ (by simp) (by simp) (by simp)]
    exact aX _ _ (by simp) (by simp) (by simp) (by simp)
