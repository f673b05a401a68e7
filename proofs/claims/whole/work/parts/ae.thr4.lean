theorem met_O {Y : jc_O} {z : Nat} : ∀ q k, q.1 ≠ 52 → jc_cl Y (52, z, 0) none q k = Y q k := fun q k h => if_neg (fun g => h (by rw [g]))
theorem met_L {L : jc_L → Prop} {z : Nat} : ∀ q, q.1 ≠ 52 → (jadd (52, z, 0) L q ↔ L q) := fun q h => ⟨fun g => g.elim (fun w => absurd (by rw [w]) h) id, Or.inr⟩
theorem GR.met {I K2 : jc_I} {P : jc_O} {lv : jc_L → Prop} {b n tc sn cn zc : Nat} {D fn : Nat → Nat} (h : GR I P lv b n tc sn cn zc D fn) (k2e : ∀ q k, q ≠ (52, zc, 0) → q ≠ (51, 0, 0) → ¬ (q = (10, 0, 0) ∧ k = 8) → K2 q k = I q k) (k2q : qk K2 P) : GR K2 (jc_cl P (52, zc, 0) none) (jadd (52, zc, 0) lv) b n tc sn cn (zc + 1) D fn := by
  refine h.toQ (fun q k _ h51 h52 h8 => k2e q k (fun g => h52 (by rw [g])) (fun g => h51 (by rw [g])) h8) (fun q k _ h52 => met_O q k h52) (fun q _ h52 => met_L q h52) ?_ (fun z hz w => ?_)
  · unfold qk at *
    rw [met_O _ _ (by simp)]
    exact k2q
  · rcases w with w | w
    · have := congrArg (fun q : jc_L => q.2.1) w
      dsimp only at this
      omega
    · exact h.mt z (by omega) w
theorem GS.met {X K K2 : jc_I} {Y : jc_O} {L : jc_L → Prop} {S : Int} {N b n tc sn cn zc : Nat} {D fn : Nat → Nat} (e : b + n = N) (hc : GC X Y L S tc sn cn D) (hr1 : GR K Y L b n tc sn cn zc D fn) (hx1 : GX X Y K Y tc cn b n D) (jK : jE X K) (k2e : ∀ q k, q ≠ (52, zc, 0) → q ≠ (51, 0, 0) → ¬ (q = (10, 0, 0) ∧ k = 8) → K2 q k = K q k) (k2q : qk K2 Y) : GS K2 (jc_cl Y (52, zc, 0) none) (jadd (52, zc, 0) L) S N := by
  have kC : ∀ q k, isC2 q.1 = true → K2 q k = X q k := fun q k hq => by
    have := isC2_s hq
    rw [k2e q k (fun g => by rw [g] at this; simp at this) (fun g => by rw [g] at this; simp at this) (fun g => by rw [g.1] at this; simp at this)]
    exact jK.C2 q k hq
  have oC : ∀ q k, isC q.1 = true → jc_cl Y (52, zc, 0) none q k = Y q k := fun q k hq => by have := isC_s hq; exact met_O q k (by omega)
  have lC : ∀ q, isC q.1 = true → (jadd (52, zc, 0) L q ↔ L q) := fun q hq => by have := isC_s hq; exact met_L q (by omega)
  refine ⟨b, n, tc, sn, cn, zc + 1, D, fn, e, (hc.toJ kC).to (fun _ _ _ => rfl) oC lC, hr1.met k2e k2q, ?_⟩
  have w := hx1.toQ (J' := K2) (I' := K2) (P' := jc_cl Y (52, zc, 0) none) kC (fun q k _ h51 h52 h8 => k2e q k (fun g => h52 (by rw [g])) (fun g => h51 (by rw [g])) h8) (fun q k _ h52 => met_O q k h52)
  exact w.to (fun _ _ _ => rfl) oC (fun _ _ _ => rfl) (fun _ _ _ => rfl)
/-- the first side's thread that begins -/
theorem j_bg_v {K : jc_I} {t : Nat} {v : Int32} (hv : K (4, 0, 0) 4 + 1 = v) : (∀ q k, q ≠ (9, t, 0) → q ≠ (8, t, 0) → q ≠ (33, t, 0) → ¬ (q = (4, 0, 0) ∧ k = 4) → j_bg K t q k = K q k) ∧ (j_bg K t (9, t, 0) 2 = 1 ∧ j_bg K t (9, t, 0) 3 = 0 ∧ j_bg K t (9, t, 0) 4 = 0 ∧ j_bg K t (9, t, 0) 5 = 0 ∧ j_bg K t (9, t, 0) 0 = K (9, t, 0) 0) ∧ (j_bg K t (8, t, 0) 3 = 0 ∧ j_bg K t (8, t, 0) 4 = 0) ∧ (∀ k, j_bg K t (33, t, 0) k = if k < 8 then 0 else K (33, t, 0) k) ∧ j_bg K t (4, 0, 0) 4 = v ∧ j_bg K t (9, t, 0) 6 = 0 := by
  obtain ⟨b2, b3, b4, b5, b6, b83, b84, b33⟩ := s_bg_v (J := K) (t := t)
  have e : ∀ a u k, a ≠ 4 → j_bg K t (a, u) k = s_bg K t (a, u) k := fun a u k h => jc_up_t _ _ _ _ _ _ _ _ h
  refine ⟨fun q k g1 g2 g3 g4 => ?_, ⟨?_, ?_, ?_, ?_, ?_⟩, ⟨?_, ?_⟩, fun k => ?_, ?_, ?_⟩
  · unfold j_bg
    have w : ∀ Z : jc_I, jc_up Z (4, 0, 0) 4 (s_bg K t (4, 0, 0) 4 + 1) q k = Z q k := fun Z => if_neg g4
    rw [w]
    exact s_bg_e (fun g => g1 g.1) (fun g => g2 g.1) (fun g => g3 g.1)
  · rw [e _ _ _ (by decide)]; exact b2
  · rw [e _ _ _ (by decide)]; exact b3
  · rw [e _ _ _ (by decide)]; exact b4
  · rw [e _ _ _ (by decide)]; exact b5
  · rw [e _ _ _ (by decide)]; exact s_bg_e (by simp) (by simp) (by simp)
  · rw [e _ _ _ (by decide)]; exact b83
  · rw [e _ _ _ (by decide)]; exact b84
  · rw [e _ _ _ (by decide)]; exact b33 k
  · unfold j_bg
    rw [jc_up_s, s_bg_e (by simp) (by simp) (by simp)]
    exact hv
  · rw [e _ _ _ (by decide)]; exact b6
/-- the second side's thread that begins -/
theorem q_bg_v {I : jc_I} {P : jc_O} {lv : jc_L → Prop} {t xt fn : Nat} {x w : Int32} {c : jc_L} (hP : PU (qt_bg (jc_up I (10, 0, 0) 3 w) t) P lv t xt fn 0) (hz : ∀ i k, fn ≤ i → I (12, t, i) k = 0 ∧ I (48, t, i) k = 0 ∧ I (49, t, i) k = 0) : (∀ q k, q ≠ (12, t, 0) → q ≠ (48, t, 0) → ¬ (q = (14, t, 0) ∧ 2 ≤ k ∧ k ≤ 6) → q ≠ (15, xt, 0) → (∀ z, q ≠ (60, xt, z)) → ¬ (q = (10, 0, 0) ∧ k = 3) → (q_pu (qt_bg (jc_up I (10, 0, 0) 3 w) t) P lv t xt 0 x c).1 q k = I q k) ∧ ((q_pu (qt_bg (jc_up I (10, 0, 0) 3 w) t) P lv t xt 0 x c).1 (14, t, 0) 2 = 1 ∧ (q_pu (qt_bg (jc_up I (10, 0, 0) 3 w) t) P lv t xt 0 x c).1 (14, t, 0) 3 = 0 ∧ (q_pu (qt_bg (jc_up I (10, 0, 0) 3 w) t) P lv t xt 0 x c).1 (14, t, 0) 4 = 0 ∧ (q_pu (qt_bg (jc_up I (10, 0, 0) 3 w) t) P lv t xt 0 x c).1 (14, t, 0) 5 = 0) ∧ ((q_pu (qt_bg (jc_up I (10, 0, 0) 3 w) t) P lv t xt 0 x c).1 (12, t, 0) 4 = 0 ∧ (q_pu (qt_bg (jc_up I (10, 0, 0) 3 w) t) P lv t xt 0 x c).1 (12, t, 0) 5 = 0) ∧ (∀ k, (q_pu (qt_bg (jc_up I (10, 0, 0) 3 w) t) P lv t xt 0 x c).1 (48, t, 0) k = if k < 8 then 0 else I (48, t, 0) k) ∧ (q_pu (qt_bg (jc_up I (10, 0, 0) 3 w) t) P lv t xt 0 x c).1 (10, 0, 0) 3 = w ∧ (q_pu (qt_bg (jc_up I (10, 0, 0) 3 w) t) P lv t xt 0 x c).1 (14, t, 0) 6 = 0 ∧ (q_pu (qt_bg (jc_up I (10, 0, 0) 3 w) t) P lv t xt 0 x c).1 (12, t, 0) 1 = x := by
  have e : ∀ q k, q ≠ (10, 0, 0) → ¬ (q = (14, t, 0) ∧ 2 ≤ k ∧ k ≤ 6) → qt_bg (jc_up I (10, 0, 0) 3 w) t q k = I q k := fun q k g1 g2 => by rw [qt_bg_e g2, jc_up_q _ _ _ _ _ _ g1]
  have hz2 : ∀ i k, fn ≤ i → qt_bg (jc_up I (10, 0, 0) 3 w) t (12, t, i) k = 0 ∧ qt_bg (jc_up I (10, 0, 0) 3 w) t (48, t, i) k = 0 ∧ qt_bg (jc_up I (10, 0, 0) 3 w) t (49, t, i) k = 0 := fun i k hi => by
    rw [e _ _ (by simp) (by simp), e _ _ (by simp) (by simp), e _ _ (by simp) (by simp)]
    exact hz i k hi
  obtain ⟨n1, n2, n3, n4, n5, n6⟩ := q_pu_N (x := x) (c := c) hP hz2
  have v : ∀ k, 3 ≤ k ∧ k ≤ 6 → (q_pu (qt_bg (jc_up I (10, 0, 0) 3 w) t) P lv t xt 0 x c).1 (14, t, 0) k = 0 := fun k hk => by
    rw [q_pu_I (by simp) (by simp) (by simp) (fun g => by have := g.2; omega) (by simp) (by simp)]
    exact qt_bg_v (by omega)
  refine ⟨fun q k g1 g2 g3 g4 g5 g6 => ?_, ⟨n6, v 3 (by decide), v 4 (by decide), v 5 (by decide)⟩, ⟨n2, n3⟩, fun k => ?_, ?_, v 6 (by decide), n1⟩
  · by_cases h49 : q = (49, t, 0)
    · subst h49
      rw [n5 k, e _ _ (by simp) (by simp)]
    · rw [q_pu_I g1 g2 h49 (fun g => g3 ⟨g.1, by omega⟩) g4 g5, qt_bg_e g3]
      exact if_neg g6
  · rw [n4 k, e _ _ (by simp) (by simp)]
  · rw [q_pu_I (by simp) (by simp) (by simp) (by simp) (by simp) (by simp), qt_bg_e (by simp), jc_up_s]
/-- what ties both sides once a thread has begun -/
theorem GX.begin {X K J' I0 I' : jc_I} {Y O' P0 P' : jc_O} {tc cn b n c : Nat} {D : Nat → Nat} (hx : GX X Y I0 P0 tc cn b n D) (sm : SimF b n (dU D tc 1) J' I') (h0 : ∀ t, t < tc → True)
    (a1 : ∀ q k, ¬ ((q.1 = 8 ∨ q.1 = 9 ∨ q.1 = 32 ∨ q.1 = 33 ∨ q.1 = 34) ∧ q.2.1 = tc) → ¬ (q = (4, 0, 0) ∧ k = 4) → q.1 ≠ 2 → ¬ (25 ≤ q.1 ∧ q.1 ≤ 28) → isC q.1 = true → J' q k = X q k) (a6 : J' (9, tc, 0) 6 = 0) (ao : ∀ u i, u ≠ tc → O' (8, u, i) 2 = Y (8, u, i) 2) (ac : O' (8, tc, 0) 2 = some (6, c, 0)) (an : O' (1, 0, 0) 2 = none)
    (b1 : ∀ u i, u ≠ tc → I' (12, u, i) 1 = I0 (12, u, i) 1) (b14 : ∀ u, u ≠ tc → I' (14, u, 0) 6 = I0 (14, u, 0) 6) (b6 : I' (14, tc, 0) 6 = 0) (bo : ∀ u i, u ≠ tc → P' (12, u, i) 0 = P0 (12, u, i) 0) (bc : P' (12, tc, 0) 0 = some (11, c, 0)) (bx : I' (12, tc, 0) 1 = Int32.ofNat c) (bn : P' (10, 0, 0) 1 = none) : GX J' O' I' P' (tc + 1) cn b n (dU D tc 1) := by
  refine ⟨sm, (a1 _ _ (by simp) (by simp) (by simp) (by simp) rfl).trans hx.cn, fun u hu => ?_, fun u hu => ?_, Or.inl ⟨an, bn⟩⟩
  · by_cases hut : u = tc
    · subst hut
      rw [dU_s]
      intro i hi
      have : i = 0 := by omega
      subst this
      have hcd : cd O' u 0 = c := by unfold cd; rw [ac]; rfl
      rw [hcd]
      exact ⟨bc, bx⟩
    · rw [dU_n hut]
      intro i hi
      have ec : cd O' u i = cd Y u i := by unfold cd; rw [ao u i hut]
      rw [ec, bo u i hut, b1 u i hut]
      exact hx.fr u (by omega) i hi
  · by_cases hut : u = tc
    · subst hut
      exact Or.inl ⟨a6, b6⟩
    · have e9 : ∀ k, J' (9, u, 0) k = X (9, u, 0) k := fun k => a1 _ _ (by simp [hut]) (by simp) (by simp) (by simp) rfl
      have e8 : ∀ j k, J' (8, u, j) k = X (8, u, j) k := fun j k => a1 _ _ (by simp [hut]) (by simp) (by simp) (by simp) rfl
      have e32 : ∀ j k, J' (32, u, j) k = X (32, u, j) k := fun j k => a1 _ _ (by simp [hut]) (by simp) (by simp) (by simp) rfl
      rcases hx.wt u (by omega) with ⟨w1, w2⟩ | ⟨w1, w2, w3, w4, w5, w6⟩
      · left
        rw [e9, b14 u hut]
        exact ⟨w1, w2⟩
      · right
        have hjT : jT J' u = jT X u := by unfold jT; rw [e9]
        have ec : cd O' u (jT X u) = cd Y u (jT X u) := by unfold cd; rw [ao u _ hut]
        rw [e9, e9, b14 u hut, hjT, ec, a1 (3, 0, 0) 2 (by simp) (by simp) (by simp) (by simp) rfl]
        refine ⟨w1, w2, ?_, ?_, w5, w6⟩
        · rw [← w3]
          unfold m_op
          rw [e8, a1 _ _ (by simp) (by simp) (by simp) (by simp) rfl, a1 (21, _, _) _ (by simp) (by simp) (by simp) (by simp) rfl]
        · rw [← w4]
          unfold f_pk
          rw [e8, e32]
