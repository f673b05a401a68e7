theorem ct_M_advance {I : jc_I} {O : jc_O} {live : jc_L → Prop} {t w mc ms : Nat} {v : Int32} {J1 : jc_I} {O1 : jc_O} {live1 : jc_L → Prop} (h : jc_R y_M_advance 2 [some (.inr (some (4, 0, 0))), some (.inr (some (9, t, 0))), some (.inl (Int32.ofNat w)), some (.inl (Int32.ofNat 0))] [] I O live 0 0 (some (.inl v), J1, O1, live1, mc, ms)) : jc_Ct y_M_advance [.inr (some (4, 0, 0)), .inr (some (9, t, 0)), .inl (Int32.ofNat w)] I O live (some (.inl v), J1, O1, live1, mc, ms) := by
  refine jc_Ct.of (by decide +kernel) (Or.inl rfl) (Nat.le_of_ble_eq_true rfl) ?_
  refine jr_iconst (v := 0) d_M_advance_0 (by decide) ?_
  refine jr_istore_n d_M_advance_1 rfl (Nat.le_of_ble_eq_true rfl) ?_
  exact h
/-- both sides, between calls: what is left open is how far they are -/
def GS (X : jc_I) (Y : jc_O) (L : jc_L → Prop) (S : Int) (N : Nat) : Prop := ∃ (b n tc sn cn zc : Nat) (D fn : Nat → Nat), b + n = N ∧ GC X Y L S tc sn cn D ∧ GR X Y L b n tc sn cn zc D fn ∧ GX X Y X Y tc cn b n D
/-- a call is answered alike by both sides -/
def ST (y1 y2 : jc_Y) (as : List jc_V) (X : jc_I) (Y : jc_O) (L : jc_L → Prop) (S : Int) (N : Nat) : Prop := ∃ (v : Int32) (X1 : jc_I) (Y1 : jc_O) (L1 : jc_L → Prop) (mc ms : Nat) (X2 : jc_I) (Y2 : jc_O) (L2 : jc_L → Prop) (mc' ms' N' : Nat),
  jc_Ct y1 (.inr (some (0, 0, 0)) :: as) X Y L (some (.inl v), X1, Y1, L1, mc, ms) ∧ (∀ q, L q → L1 q) ∧ jc_Ct y2 (.inr (some (10, 0, 0)) :: as) X1 Y1 L1 (some (.inl v), X2, Y2, L2, mc', ms') ∧ (∀ q, L1 q → L2 q) ∧ GS X2 Y2 L2 (S + 10000) N' ∧ mc + mc' + 4 * N + lcap Y 2 ≤ 4 * N' + lcap Y2 2 + 200 ∧ ms + ms' + 24 * N + 4 * lcap Y 2 ≤ 24 * N' + 4 * lcap Y2 2 + 2000 ∧ (∀ k j, X1 (96, k, 0) j = X (96, k, 0) j) ∧ (∀ k j, X2 (96, k, 0) j = X (96, k, 0) j)
theorem GC.mono {J : jc_I} {O : jc_O} {live : jc_L → Prop} {S S' : Int} {tc sn cn : Nat} {D : Nat → Nat} (h : GC J O live S tc sn cn D) (hs : S ≤ S') : GC J O live S' tc sn cn D := ⟨h.jJ, h.M, h.G, h.H, h.A, h.C, h.ho.mono hs, by have := h.s0; omega, h.th, h.rs, h.lk, h.ra, h.cs, h.c4, h.cf, h.rz, h.rf, h.tc1, h.tcn, h.sn8, h.st, h.sf, h.ths⟩
theorem GS.mono {X : jc_I} {Y : jc_O} {L : jc_L → Prop} {S S' : Int} {N : Nat} (h : GS X Y L S N) (hs : S ≤ S') : GS X Y L S' N := by
  obtain ⟨b, n, tc, sn, cn, zc, D, fn, e, a1, a2, a3⟩ := h
  exact ⟨b, n, tc, sn, cn, zc, D, fn, e, a1.mono hs, a2, a3⟩
theorem ST.same {y1 y2 : jc_Y} {as : List jc_V} {X : jc_I} {Y : jc_O} {L : jc_L → Prop} {S : Int} {N : Nat} {v : Int32} (g : GS X Y L S N) (h1 : jc_Ct y1 (.inr (some (0, 0, 0)) :: as) X Y L (some (.inl v), X, Y, L, 0, 0)) (h2 : jc_Ct y2 (.inr (some (10, 0, 0)) :: as) X Y L (some (.inl v), X, Y, L, 0, 0)) : ST y1 y2 as X Y L S N :=
  ⟨v, X, Y, L, 0, 0, X, Y, L, 0, 0, N, h1, fun _ h => h, h2, fun _ h => h, g.mono (by omega), by omega, by omega, fun _ _ => rfl, fun _ _ => rfl⟩
section
variable {J : jc_I} {O : jc_O} {live : jc_L → Prop} {S : Int} {tc sn cn : Nat} {D : Nat → Nat}
theorem GC.h8 (h : GC J O live S tc sn cn D) : J (4, 0, 0) 4 ≤ 8 := by
  have := h.tcn
  have := h.sn8
  rw [h.tc1, jle, jofI (by omega), show (8 : Int32).toInt = 8 from by decide]
  omega
theorem GC.fnd (h : GC J O live S tc sn cn D) {x : Int32} (hx : 0 ≤ x ∧ x < J (4, 0, 0) 4) : x = Int32.ofNat x.toNatClampNeg ∧ x.toNatClampNeg < tc := by
  have := h.tcn
  have := h.sn8
  exact m_x hx.1 (by rw [← h.tc1]; exact hx.2) (by omega)
end
theorem CF.R {t : Nat} {J J' : jc_I} {O O' : jc_O} {live live' : jc_L → Prop} (h : CF t J O live J' O' live') : (∀ q k, isR q.1 = true → J' q k = J q k) ∧ (∀ q k, isR q.1 = true → O' q k = O q k) ∧ (∀ q, isR q.1 = true → (live' q ↔ live q)) :=
  ⟨fun q k hq => by have := isR_s hq; exact h.o q k (by omega) (by omega) (by omega) (by omega) (by omega), fun q k hq => by have := isR_s hq; exact h.oo q k (by omega) (by omega) (by omega) (by omega), fun q hq => by have := isR_s hq; exact ⟨fun g => (h.l2 q g).elim id (fun w => absurd w (by omega)), h.l1 q⟩⟩
theorem RK.C {t b n xt : Nat} {I I' : jc_I} {P P' : jc_O} {lv lv' : jc_L → Prop} (h : RK t b n xt I P lv I' P' lv') : (∀ q k, isC q.1 = true → I' q k = I q k) ∧ (∀ q k, isC q.1 = true → P' q k = P q k) ∧ (∀ q, isC q.1 = true → (lv' q ↔ lv q)) := by
  refine ⟨fun q k hq => ?_, fun q k hq => ?_, fun q hq => ?_⟩ <;> have := isC_s hq
  · exact h.1 q k (by omega) (by omega) (by omega) (by omega) (fun g => by rw [g] at this; simp at this) (fun g => by rw [g] at this; simp at this) (by omega) (fun g => by rw [g.1] at this; simp at this)
  · exact h.2.1 q k (by omega) (by omega) (by omega) (fun g => by rw [g] at this; simp at this) (fun g => by rw [g] at this; simp at this) (fun c g => by rw [g] at this; simp at this) (fun c g => by rw [g] at this; simp at this)
  · refine ⟨fun g => ?_, h.2.2.1 q⟩
    rcases h.2.2.2 q g with w | w | w | ⟨z, w⟩ | ⟨z, w⟩ | w
    · exact w
    · omega
    · omega
    · rw [w] at this; simp at this
    · rw [w] at this; simp at this
    · omega
theorem st_run {X : jc_I} {Y : jc_O} {L : jc_L → Prop} {S : Int} {N : Nat} {x w : Int32} (g : GS X Y L S N) (hS : S + 10000 < 2147483600) : ST y_J_run y_m_run [.inl x, .inl w] X Y L S N := by
  obtain ⟨b, n, tc, sn, cn, zc, D, fn, e, hc, hr, hx⟩ := id g
  have h1 := hc.tcn
  have h2 := hc.sn8
  have et : X (4, 0, 0) 4 = X (10, 0, 0) 3 := hc.tc1.trans hr.tc1.symm
  by_cases hb : (0 ≤ x ∧ x < X (4, 0, 0) 4) ∧ (0 ≤ w ∧ w ≤ 10000)
  · obtain ⟨ex, ht⟩ := hc.fnd hb.1
    have ew : w = Int32.ofNat w.toNatClampNeg ∧ w.toNatClampNeg < 10001 := by
      have e1 := jNI hb.2.1
      have e2 := jle.mp hb.2.2
      rw [show (10000 : Int32).toInt = 10000 from by decide] at e2
      exact ⟨Int32.toInt_inj.mp (by rw [jofI (by omega), e1]), by omega⟩
    generalize x.toNatClampNeg = t at ex ht
    generalize w.toNatClampNeg = wn at ew
    obtain ⟨ew, hw⟩ := ew
    have hw2 : wn ≤ 10000 := by omega
    have ri := GG.ri hc hr hx ht
    obtain ⟨g1, -, -, -, -, -, -, -, -, -, -, cf, -, -⟩ := run_all (x := x) hw2 wn 0 X Y L X Y L S n (fn t) (D t) D ri (by omega) (by omega)
    obtain ⟨c1, c2, c3⟩ := cf.R
    have hr2 := hr.to c1 c2 c3
    have hx2 := hx.to (J' := X) (O' := Y) (fun _ _ _ => rfl) (fun _ _ _ => rfl) c1 c2
    have ri2 := GG.ri hc hr2 hx2 ht
    obtain ⟨-, I', P', lv', mc', ms', n', fn', m', g2, g3, -, g5, g6⟩ := run_all (x := x) hw2 wn 0 X Y L _ _ _ S n (fn t) (D t) D ri2 (by omega) (by omega)
    have hC1 := ct_M_advance (g1 0 0 (AF t wn X Y L).2.2.2.2.1 (AF t wn X Y L).2.2.2.2.2 (by omega) (by omega))
    have hR1 := ct_m_run_y (x := x) (t := t) hr2.qa.1 hr2.th ex (by omega) (by rw [c1 _ _ rfl, ← et]; exact hb.1) hw2 (g2 0 0 mc' ms' (by omega) (by omega))
    have hJ1 := ct_J_run_y (x := x) (w := w) hc.jJ hc.M hc.h8 hb.1 (by rw [ex, jofN (by omega)]) (hc.st t (by omega)).1.1 hb.2 cf.l1 (by rw [ew]; exact hC1)
    obtain ⟨k1, k2, k3⟩ := g6.C
    have hGC := (hc.run cf g3.cy).to k1 k2 k3
    have hGR := hr2.run (by omega) g6 g3.rx g5.1
    have hGX := (hx2.run cf g6 g3).to k1 k2 (I' := I') (P' := P') (fun _ _ _ => rfl) (fun _ _ _ => rfl)
    have hcap : lcap (AF t wn X Y L).2.2.1 2 = lcap Y 2 := by unfold lcap; rw [c2 _ _ rfl]
    have hf30 := g3.rx.f30
    have hc7 := g3.rx.c7
    obtain ⟨u1, u2, u3, u4, u5, u6⟩ := g5
    rw [hcap] at u5 u6
    refine ⟨_, _, _, _, _, _, _, _, _, _, _, b + n', hJ1, cf.l1, by rw [ew]; exact hR1, g6.2.2.1, ⟨b, n', tc, sn, cn, zc, _, _, rfl, hGC.mono (by omega), hGR, hGX⟩, by omega, by omega, fun k j => cf.o _ _ (by simp) (by simp) (by simp) (by simp) (by simp), fun k j => ?_⟩
    rw [g6.1 _ _ (by simp) (by simp) (by simp) (by simp) (by simp) (by simp) (by simp) (by simp)]
    exact cf.o _ _ (by simp) (by simp) (by simp) (by simp) (by simp)
  · refine ST.same g (ct_J_run_n hc.jJ hc.M hc.h8 hb (fun t ht => ?_)) (ct_m_run_n hr.qa.1 (by rw [← et]; exact hb))
    rw [hc.tc1, jofI (by omega)] at ht
    exact (hc.st t (by omega)).1.1
theorem st_global {X : jc_I} {Y : jc_O} {L : jc_L → Prop} {S : Int} {N : Nat} {x : Int32} (g : GS X Y L S N) : ST y_J_global y_m_global [.inl x] X Y L S N := by
  obtain ⟨b, n, tc, sn, cn, zc, D, fn, e, hc, hr, hx⟩ := id g
  have h1 := ct_J_global (live := L) (x := x) (I := X) hc.jJ hc.H.2.1
  have h2 := ct_m_global (live := L) (i := x) (I := X) hr.qa.1
  have ev : (if 0 ≤ x ∧ x ≤ 3 then (if 0 ≤ x ∧ x < 4 then X (31, 0, 0) x.toNatClampNeg else 0) else -14) = (if 0 ≤ x ∧ x < 4 then X (50, 0, 0) x.toNatClampNeg else -14) := by
    rw [hx.sm 0 (31, 0, 0) x.toNatClampNeg _ rfl]
    by_cases hb : 0 ≤ x ∧ x < 4
    · rw [if_pos hb, if_pos (by clear hc hr hx g h1 h2; grind), if_pos hb]
    · rw [if_neg (show ¬ (0 ≤ x ∧ x ≤ 3) from by clear hc hr hx g h1 h2; grind), if_neg hb]
  rw [ev] at h1
  exact ST.same g h1 h2
theorem st_object {X : jc_I} {Y : jc_O} {L : jc_L → Prop} {S : Int} {N : Nat} {x w : Int32} (g : GS X Y L S N) : ST y_J_object y_m_object [.inl x, .inl w] X Y L S N := by
  obtain ⟨b, n, tc, sn, cn, zc, D, fn, e, hc, hr, hx⟩ := id g
  have ec : X (3, 0, 0) 2 = X (15, 2, 0) 1 := hx.sm 0 (3, 0, 0) 2 _ rfl
  by_cases hb : 1 ≤ x ∧ x ≤ X (3, 0, 0) 2
  · obtain ⟨k1, k2⟩ := ob_k hx.cn hr.n3 hb
    have hn := hr.n3
    have ek : x - 1 = Int32.ofNat (x - 1).toNatClampNeg := by
      have e1 := jsubN hb.1
      have hx1 := jle.mp hb.1
      rw [j1I] at hx1
      have h0 : 0 ≤ x - 1 := by clear hc hr hx g; grind
      apply Int32.toInt_inj.mp
      rw [jofI (by omega), jNI h0]
    generalize hk : (x - 1).toNatClampNeg = k at *
    have h1 := ct_J_object_y (live := L) (w := w) hc.jJ hc.H hb hk
    have h2 := ct_m_object_y (w := w) hr.qa.1 hr.ob ek k1 (by rw [← ec]; exact hb) (hr.of k k1)
    rw [← hx.sm 0 (7, k, 0) 1 _ (mu71 k1), ← hx.sm 0 (7, k, 0) 2 _ (mu72 k1), ← hx.sm 0 (7, k, 0) 3 _ (mu73 k1)] at h2
    have ev : (if 10 ≤ w ∧ w < 18 then X (47, b + k, 0) (w - 10).toNatClampNeg else if w = 0 then X (7, k, 0) 1 else if w = 1 then X (7, k, 0) 2 else if w = 2 then X (7, k, 0) 3 else -14) = (if 10 ≤ w ∧ w < 18 then X (29, k, 0) (w - 10).toNatClampNeg else if w = 0 then X (7, k, 0) 1 else if w = 1 then X (7, k, 0) 2 else if w = 2 then X (7, k, 0) 3 else -14) := by
      by_cases hw : 10 ≤ w ∧ w < 18
      · rw [if_pos hw, if_pos hw]
        have h8 : (w - 10).toNatClampNeg < 8 := by
          have h0 : 0 ≤ w - 10 := by clear hc hr hx g h1 h2; grind
          have h7 : w - 10 < 8 := by clear hc hr hx g h1 h2; grind
          have := jlN h0 h7
          rw [show (8 : Int32).toInt = 8 from by decide] at this
          omega
        exact (hx.sm 0 (29, k, 0) _ _ (mu29 k1 h8)).symm
      · rw [if_neg hw, if_neg hw]
    rw [ev] at h2
    exact ST.same g h1 h2
  · exact ST.same g (ct_J_object_n hc.jJ hc.H hb) (ct_m_object_n hr.qa.1 (by rw [← ec]; exact hb))
theorem st_told {X : jc_I} {Y : jc_O} {L : jc_L → Prop} {S : Int} {N : Nat} {x w : Int32} (g : GS X Y L S N) : ST y_J_told y_m_told [.inl x, .inl w] X Y L S N := by
  obtain ⟨b, n, tc, sn, cn, zc, D, fn, e, hc, hr, hx⟩ := id g
  have h1 := hc.tcn
  have h2 := hc.sn8
  have et : X (4, 0, 0) 4 = X (10, 0, 0) 3 := hc.tc1.trans hr.tc1.symm
  by_cases hb : 0 ≤ x ∧ x < X (4, 0, 0) 4
  · obtain ⟨ex, ht⟩ := hc.fnd hb
    generalize x.toNatClampNeg = t at ex ht
    have ri := GG.ri hc hr hx ht
    have hxt : x.toNatClampNeg = t := by rw [ex, jofN (by omega)]
    have h14 : ∀ k, k = 2 ∨ k = 4 ∨ k = 5 → X (9, t, 0) k = X (14, t, 0) k := fun k hk => hx.sm 0 (9, t, 0) k ((14, t, 0), k) (by rcases hk with rfl | rfl | rfl <;> (unfold mu; simp))
    have h143 : X (9, t, 0) 3 = X (14, t, 0) 3 := hx.sm (t + 1) (9, t, 0) 3 ((14, t, 0), 3) (by unfold mu; simp)
    have h6 : aw X Y t = (if X (14, t, 0) 4 = 0 ∧ q_hu X t b ≠ 0 then X (14, t, 0) 6 else 0) := by
      rcases ri.hu with ⟨a, a2⟩ | ⟨a, a2, a3, a4⟩
      · rw [a, a2, if_neg (fun w => w.2 rfl)]
      · rw [if_pos ⟨by rw [← h14 4 (by simp)]; exact a4, by rw [a2]; decide⟩]; exact a3
    cases hD : D t with
    | zero =>
      have h0 : X (9, t, 0) 2 = 0 := by rw [ri.cy.TH.fc, hD]; rfl
      have c1 := ct_J_told_y (live := L) (w := w) hc.jJ hc.M hc.h8 hb hxt ri.cy.st.1 ri.cy.awc (ct_S_tellN ri.cy.st.2.1 h0)
      have c2 := ct_m_told_0 (w := w) hr.qa.1 hr.th ex (by omega) (by rw [← et]; exact hb) hr.ob ri.wn (by rw [← h14 2 (by simp)]; exact h0)
      rw [← h6, ← h14 2 (by simp), ← h14 5 (by simp), ← h143] at c2
      have ev : (if w = 6 then aw X Y t else (if w = 0 then X (9, t, 0) 3 else if w = 1 then X (9, t, 0) 2 else if w = 2 then X (9, t, 0) 5 else if w = 3 then -1 else if w = 4 then -1 else if w = 5 then 0 else -14)) = (if w = 0 then X (9, t, 0) 3 else if w = 1 then X (9, t, 0) 2 else if w = 2 then X (9, t, 0) 5 else if w = 3 then -1 else if w = 4 then -1 else if w = 5 then 0 else if w = 6 then aw X Y t else -14) := by
        by_cases w6 : w = 6
        · subst w6; simp +decide only [if_true, if_false]
        · rw [if_neg w6, if_neg w6]
      rw [ev] at c1
      exact ST.same g c1 c2
    | succ j =>
      obtain ⟨hT, hf, hd, hcd, hin, hC, hn⟩ := ri.cy.top (j := j) (by omega)
      have c1 := ct_J_told_y (live := L) (w := w) hc.jJ hc.M hc.h8 hb hxt ri.cy.st.1 ri.cy.awc (ct_S_tell hT hcd)
      have hle := ri.cy.TH.le
      have hfc := ri.cy.TH.fc
      have hd1 : X (14, t, 0) 2 - 1 = Int32.ofNat j := by rw [← h14 2 (by simp), hfc, hD, jofs (by omega)]
      have c2 := ct_m_told_y (w := w) hr.qa.1 hr.th ex (by omega) (by rw [← et]; exact hb) hr.ob ri.wn (by rw [← h14 2 (by simp), hfc, hD, jlt, jofI (by omega), j0I]; omega) ri.rx.qt.m1 ri.rx.qt.fs hd1 (by have := ri.rx.qt.mf; omega)
      have e3 : X (12, t, j) 1 = X (6, cd Y t j, 0) 0 := by rw [(ri.fr j (by omega)).2, (hc.A.2.2.2 _ hin).2.2.2.2.1]
      have e4 : X (12, t, j) 5 = X (8, t, j) 4 := (hx.sm 0).at
      have e5 : X (12, t, j) 4 = X (8, t, j) 3 := (hx.sm 0).d (by omega)
      rw [← h6, ← h14 2 (by simp), ← h14 5 (by simp), ← h143, e3, e4, e5] at c2
      have ev : (if w = 6 then aw X Y t else (if w = 0 then X (9, t, 0) 3 else if w = 1 then X (9, t, 0) 2 else if w = 2 then X (9, t, 0) 5 else if w = 3 then X (6, cd Y t j, 0) 0 else if w = 4 then X (8, t, j) 4 else if w = 5 then X (8, t, j) 3 else -14)) = (if w = 0 then X (9, t, 0) 3 else if w = 1 then X (9, t, 0) 2 else if w = 2 then X (9, t, 0) 5 else if w = 3 then X (6, cd Y t j, 0) 0 else if w = 4 then X (8, t, j) 4 else if w = 5 then X (8, t, j) 3 else if w = 6 then aw X Y t else -14) := by
        by_cases w6 : w = 6
        · subst w6; simp +decide only [if_true, if_false]
        · rw [if_neg w6, if_neg w6]
      rw [ev] at c1
      exact ST.same g c1 c2
  · exact ST.same g (ct_J_told_n hc.jJ hc.M hc.h8 hb) (ct_m_told_n hr.qa.1 (by rw [← et]; exact hb))
theorem st_value {X : jc_I} {Y : jc_O} {L : jc_L → Prop} {S : Int} {N : Nat} {x w : Int32} (g : GS X Y L S N) : ST y_J_value y_m_value [.inl x, .inl w] X Y L S N := by
  obtain ⟨b, n, tc, sn, cn, zc, D, fn, e, hc, hr, hx⟩ := id g
  have h1 := hc.tcn
  have h2 := hc.sn8
  have et : X (4, 0, 0) 4 = X (10, 0, 0) 3 := hc.tc1.trans hr.tc1.symm
  by_cases hb : 0 ≤ x ∧ x < X (4, 0, 0) 4
  · obtain ⟨ex, ht⟩ := hc.fnd hb
    generalize x.toNatClampNeg = t at ex ht
    have ri := GG.ri hc hr hx ht
    have hxt : x.toNatClampNeg = t := by rw [ex, jofN (by omega)]
    have h142 : X (9, t, 0) 2 = X (14, t, 0) 2 := hx.sm 0 (9, t, 0) 2 ((14, t, 0), 2) (by unfold mu; simp)
    cases hD : D t with
    | zero =>
      have h0 : X (9, t, 0) 2 = 0 := by rw [ri.cy.TH.fc, hD]; rfl
      exact ST.same g (ct_J_value_0 hc.jJ hc.M hc.h8 hb hxt ri.cy.st.1 ri.cy.st.2.1 h0) (ct_m_value_0 hr.qa.1 hr.th ex (by omega) (by rw [← et]; exact hb) (by rw [← h142]; exact h0))
    | succ j =>
      obtain ⟨hT, hf, hd, hcd, hin, hC, hn⟩ := ri.cy.top (j := j) (by omega)
      have hle := ri.cy.TH.le
      have hfc := ri.cy.TH.fc
      have e4 : X (12, t, j) 4 = X (8, t, j) 3 := (hx.sm 0).d (by omega)
      have e5 : X (11, cd Y t j, 0) 3 = X (6, cd Y t j, 0) 7 := (hx.sm 0 (6, cd Y t j, 0) 7 _ rfl).symm
      have c1 := ct_J_value_y (live := L) (w := w) hc.jJ hc.M hc.h8 hb hxt ri.cy.st.1 hT hf hd hcd hn
      have c2 := ct_m_value_y (w := w) (c := cd Y t j) hr.qa.1 hr.th ex (by omega) (by rw [← et]; exact hb) (by rw [← h142]; exact (ri.cy.TH.jTe (j := j) (by omega)).2) ri.rx.qt.m1 ri.rx.qt.fs (by rw [← h142, hfc, hD, jofs (by omega)]) (by have := ri.rx.qt.mf; omega) (ri.rx.fr j (by have := ri.rx.qt.mf; omega)) (by rw [e4]; exact hd.1) (by rw [e4]; exact hd.2) (ri.fr j (by omega)).1 (by rw [e5]; exact hn.2.1)
      have ev : (if 0 ≤ w then f_pk X t j w else f_la X t j (cd Y t j) (-1 - w)) = (if 0 ≤ w then (if w < X (12, t, j) 4 then X (49, t, j) (X (12, t, j) 4 - 1 - w).toNatClampNeg else 0) else (if -1 - w < X (11, cd Y t j, 0) 3 then X (48, t, j) (-1 - w).toNatClampNeg else 0)) := by
        rw [e4, e5, (hx.sm 0).va, (hx.sm 0).lo]
        by_cases hw : 0 ≤ w
        · rw [if_pos hw, if_pos hw]
          unfold f_pk
          by_cases hw2 : w < X (8, t, j) 3
          · rw [if_pos ⟨hw, hw2⟩, if_pos hw2]
          · rw [if_neg (fun z => hw2 z.2), if_neg hw2]
        · rw [if_neg hw, if_neg hw]
          unfold f_la
          have h0 : 0 ≤ -1 - w := by clear hc hr hx g ri c1 c2; grind
          by_cases hw2 : -1 - w < X (6, cd Y t j, 0) 7
          · rw [if_pos ⟨h0, hw2⟩, if_pos hw2]
          · rw [if_neg (fun z => hw2 z.2), if_neg hw2]
      rw [ev] at c1
      exact ST.same g c1 c2
  · exact ST.same g (ct_J_value_n hc.jJ hc.M hc.h8 hb) (ct_m_value_n hr.qa.1 (by rw [← et]; exact hb))
