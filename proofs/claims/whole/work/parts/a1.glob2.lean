theorem isR_s {a : Nat} (h : isR a = true) : (10 ≤ a ∧ a ≤ 15) ∨ (40 ≤ a ∧ a ≤ 60) := by
  simp only [isR, Bool.or_eq_true, Bool.and_eq_true, Nat.ble_eq] at h
  exact h
theorem isC_s {a : Nat} (h : isC a = true) : a < 10 ∨ (20 ≤ a ∧ a ≤ 35) := by
  simp only [isC, Bool.or_eq_true, Bool.and_eq_true, Nat.ble_eq, Nat.blt_eq] at h
  exact h
section
variable {x b n : Nat} {D : Nat → Nat} {q : jc_L} {k : Nat} {z : jc_L × Nat}
theorem mu_C (h : mu x b n D q k = some z) : isC q.1 = true := by
  by_cases e8 : q.1 = 8
  · rw [e8]; rfl
  by_cases e32 : q.1 = 32
  · rw [e32]; rfl
  by_cases e33 : q.1 = 33
  · rw [e33]; rfl
  by_cases e9 : q.1 = 9
  · rw [e9]; rfl
  by_cases e7 : q.1 = 7
  · rw [e7]; rfl
  by_cases e29 : q.1 = 29
  · rw [e29]; rfl
  by_cases e3 : q.1 = 3
  · rw [e3]; rfl
  by_cases e31 : q.1 = 31
  · rw [e31]; rfl
  by_cases e4 : q.1 = 4
  · rw [e4]; rfl
  by_cases e1 : q.1 = 1
  · rw [e1]; rfl
  by_cases e6 : q.1 = 6
  · rw [e6]; rfl
  by_cases e20 : q.1 = 20
  · rw [e20]; rfl
  by_cases e21 : q.1 = 21
  · rw [e21]; rfl
  by_cases e22 : q.1 = 22
  · rw [e22]; rfl
  by_cases e5 : q.1 = 5
  · rw [e5]; rfl
  unfold mu at h
  rw [if_neg e8, if_neg e32, if_neg e33, if_neg e9, if_neg (fun g => e7 g.1), if_neg (fun g => e29 g.1), if_neg (fun g => e3 (by rw [g])), if_neg (fun g => e31 (by rw [g])), if_neg (fun g => e4 (by rw [g.1])), if_neg (fun g => e1 (by rw [g.1])), if_neg e6, if_neg e20, if_neg e21, if_neg e22, if_neg e5] at h
  cases h
theorem nu_R (h : nu x b n D q k = some z) : isR q.1 = true := by
  by_cases e12 : q.1 = 12
  · rw [e12]; rfl
  by_cases e49 : q.1 = 49
  · rw [e49]; rfl
  by_cases e48 : q.1 = 48
  · rw [e48]; rfl
  by_cases e14 : q.1 = 14
  · rw [e14]; rfl
  by_cases e13 : q.1 = 13
  · rw [e13]; rfl
  by_cases e47 : q.1 = 47
  · rw [e47]; rfl
  by_cases e15 : q.1 = 15
  · rw [e15]; rfl
  by_cases e10 : q.1 = 10
  · rw [e10]; rfl
  by_cases e50 : q.1 = 50
  · rw [e50]; rfl
  by_cases e11 : q.1 = 11
  · rw [e11]; rfl
  by_cases e40 : q.1 = 40
  · rw [e40]; rfl
  by_cases e41 : q.1 = 41
  · rw [e41]; rfl
  by_cases e42 : q.1 = 42
  · rw [e42]; rfl
  by_cases e43 : q.1 = 43
  · rw [e43]; rfl
  by_cases e44 : q.1 = 44
  · rw [e44]; rfl
  by_cases e45 : q.1 = 45
  · rw [e45]; rfl
  by_cases e46 : q.1 = 46
  · rw [e46]; rfl
  unfold nu at h
  rw [if_neg e12, if_neg e49, if_neg e48, if_neg e14, if_neg (fun g => e13 g.1), if_neg (fun g => e47 g.1), if_neg (fun g => e15 (by rw [g.1])), if_neg (fun g => e10 (by rw [g])), if_neg (fun g => e50 (by rw [g])), if_neg (fun g => e15 (by rw [g.1])), if_neg e11, if_neg e40, if_neg e41, if_neg e42, if_neg e43, if_neg e44, if_neg e45, if_neg e46] at h
  cases h
end
theorem SimF.to {b n : Nat} {D : Nat → Nat} {J J' I I' : jc_I} (h : SimF b n D J I) (e : ∀ q k, isC q.1 = true → J' q k = J q k) (e2 : ∀ q k, isR q.1 = true → I' q k = I q k) : SimF b n D J' I' := fun x => ((h x).toC (fun q k z hz => e q k (mu_C hz))).toR (fun q k z hz => e2 q k (nu_R hz))
/-- what ties both sides, between calls -/
def GX (J : jc_I) (O : jc_O) (I : jc_I) (P : jc_O) (tc cn b n : Nat) (D : Nat → Nat) : Prop := (SimF b n D J I) ∧ (J (3, 0, 0) 2 = Int32.ofNat n) ∧ (∀ t, t < tc → FRc I P O t (D t)) ∧ (∀ t, t < tc → WT J O I t) ∧ ((O (1, 0, 0) 2 = none ∧ P (10, 0, 0) 1 = none) ∨ (tc = 0 ∧ ∃ c, c < cn ∧ O (1, 0, 0) 2 = some (6, c, 0) ∧ P (10, 0, 0) 1 = some (11, c, 0)))
theorem GX.sm {J : jc_I} {O : jc_O} {I : jc_I} {P : jc_O} {tc cn b n : Nat} {D : Nat → Nat} (h9 : GX J O I P tc cn b n D) : SimF b n D J I := h9.1
theorem GX.cn {J : jc_I} {O : jc_O} {I : jc_I} {P : jc_O} {tc cn b n : Nat} {D : Nat → Nat} (h9 : GX J O I P tc cn b n D) : J (3, 0, 0) 2 = Int32.ofNat n := h9.2.1
theorem GX.fr {J : jc_I} {O : jc_O} {I : jc_I} {P : jc_O} {tc cn b n : Nat} {D : Nat → Nat} (h9 : GX J O I P tc cn b n D) : ∀ t, t < tc → FRc I P O t (D t) := h9.2.2.1
theorem GX.wt {J : jc_I} {O : jc_O} {I : jc_I} {P : jc_O} {tc cn b n : Nat} {D : Nat → Nat} (h9 : GX J O I P tc cn b n D) : ∀ t, t < tc → WT J O I t := h9.2.2.2.1
theorem GX.op {J : jc_I} {O : jc_O} {I : jc_I} {P : jc_O} {tc cn b n : Nat} {D : Nat → Nat} (h9 : GX J O I P tc cn b n D) : (O (1, 0, 0) 2 = none ∧ P (10, 0, 0) 1 = none) ∨ (tc = 0 ∧ ∃ c, c < cn ∧ O (1, 0, 0) 2 = some (6, c, 0) ∧ P (10, 0, 0) 1 = some (11, c, 0)) := h9.2.2.2.2
theorem GX.to {J J' I I' : jc_I} {O O' P P' : jc_O} {tc cn b n : Nat} {D : Nat → Nat} (h : GX J O I P tc cn b n D) (e : ∀ q k, isC q.1 = true → J' q k = J q k) (eo : ∀ q k, isC q.1 = true → O' q k = O q k) (e2 : ∀ q k, isR q.1 = true → I' q k = I q k) (eo2 : ∀ q k, isR q.1 = true → P' q k = P q k) : GX J' O' I' P' tc cn b n D := by
  refine ⟨h.sm.to e e2, (e _ _ rfl).trans h.cn, fun t ht => ?_, fun t ht => ?_, ?_⟩
  · have w : FRc (ctI isR I) (ctO isR P) (ctO isC O) t (D t) := h.fr t ht
    rw [← ctI_e e2, ← ctO_e eo2, ← ctO_e eo] at w
    exact w
  · have w : WT (ctI isC J) (ctO isC O) (ctI isR I) t := h.wt t ht
    rw [← ctI_e e, ← ctO_e eo, ← ctI_e e2] at w
    exact w
  · rw [eo _ _ rfl, eo2 _ _ rfl]
    exact h.op
section
variable {J I : jc_I} {O P : jc_O} {live lv : jc_L → Prop} {S : Int} {b n tc sn cn zc : Nat} {D fn : Nat → Nat}
theorem GC.in_ (h : GC J O live S tc sn cn D) {c : Nat} (hc : (c : Int) < (bk J).cn.toInt) : c < cn := by
  have hc : (c : Int) < (J (1, 0, 0) 1).toInt := hc
  have := h.c4
  rw [h.cs, jofI (by omega)] at hc
  omega
theorem GC.in' (h : GC J O live S tc sn cn D) {c : Nat} (hc : c < cn) : (c : Int) < (bk J).cn.toInt := by
  show (c : Int) < (J (1, 0, 0) 1).toInt
  have := h.c4
  rw [h.cs, jofI (by omega)]
  omega
theorem GG.qr (hc : GC J O live S tc sn cn D) (hx : GX J O I P tc cn b n D) : ∀ d, d < cn → qr I d := fun d hd r hr => by
  have e1 : J (6, d, 0) 9 = I (11, d, 0) 11 := hx.sm 0 (6, d, 0) 9 _ rfl
  have e2 : J (5, d, r) 2 = I (45, d, 0) r := hx.sm 0 (5, d, r) 2 _ rfl
  rw [← e1] at hr
  rw [← e2]
  exact hc.ra d r hd hr
theorem GG.ri (hc : GC J O live S tc sn cn D) (hr : GR I P lv b n tc sn cn zc D fn) (hx : GX J O I P tc cn b n D) {t : Nat} (ht : t < tc) : RI J O live I P lv S t b n (10 + t) (fn t) (D t) cn D := by
  have h1 := hc.tcn
  have h2 := hc.sn8
  obtain ⟨a1, a2, a3⟩ := hc.ths t ht
  obtain ⟨s1, s2⟩ := hc.st t (by omega)
  obtain ⟨t1, t2, t3, t4, t5, t6, t7⟩ := hr.ts t (by omega)
  have hb := hr.mb
  refine ⟨⟨hc.M, hc.H, hc.A, hc.C, hc.ho, hc.s0, hc.th, s1, s2, by omega, a1, a2, a3⟩, ⟨⟨hr.qa.1, hr.ob, t1, t2, t3, t4, fun j hj => ?_, by rw [hr.mk, jofN (by omega)], (hr.o2 _ (Nat.le_refl _)).1, (hr.o2 _ (Nat.le_refl _)).2, hr.n3, by omega⟩, hr.qa, t6, hr.ff t, hr.fz t, t5, hr.of, hr.mk, hb, hr.o2, rfl, t7⟩, hx.fr t ht, hx.sm, rfl, hx.cn, hx.wt t ht, GG.qr hc hx, hc.rs⟩
  have hcd := hc.in_ (a1.any hj).cn
  have e : cR P t j = cd O t j := by unfold cR; rw [(hx.fr t ht j hj).1]; rfl
  have w := hr.qa.2.2 _ hcd
  refine ⟨t6 j (by omega), ?_, ?_, ?_, ?_⟩
  · rw [e]; exact (hx.fr t ht j hj).1
  · rw [e]; exact w.1
  · rw [e]; exact w.2.1
  · rw [e]; exact GG.qr hc hx _ hcd
end
section
variable {J J' I I' : jc_I} {O O' P P' : jc_O} {live live' lv lv' : jc_L → Prop} {S S' : Int} {b n n' tc sn cn zc t m' fn' : Nat} {D fn : Nat → Nat}
theorem dU_n {D : Nat → Nat} {t m u : Nat} (h : u ≠ t) : dU D t m u = D u := if_neg h
theorem GC.run (hc : GC J O live S tc sn cn D) (cf : CF t J O live J' O' live') (cy : CY J' O' live' S' t m') : GC J' O' live' S' tc sn cn (dU D t m') := by
  have e : ∀ q k, ¬ ((q.1 = 8 ∨ q.1 = 32 ∨ q.1 = 33 ∨ q.1 = 9) ∧ q.2.1 = t) → q.1 ≠ 7 → q.1 ≠ 29 → q.1 ≠ 31 → q.1 ≠ 3 → J' q k = J q k := fun q k g1 g2 g3 g4 g5 => cf.o q k (fun w e => g1 ⟨w, e⟩) g2 g3 g4 g5
  have e1 : ∀ q k, q.1 = 1 ∨ q.1 = 4 ∨ q.1 = 5 ∨ q.1 = 6 ∨ q.1 = 20 → J' q k = J q k := fun q k hq => e q k (by omega) (by omega) (by omega) (by omega) (by omega)
  have hb : bk J' = bk J := cf.o.bk
  have eo : ∀ q k, q.1 ≠ 8 → q.1 ≠ 7 → q.1 ≠ 29 → q.1 ≠ 30 → O' q k = O q k := fun q k g1 g2 g3 g4 => cf.oo q k (fun w => g1 w.1) g2 g3 g4
  have el : ∀ q, q.1 ≠ 7 → q.1 ≠ 29 → live' q → live q := fun q g1 g2 g => (cf.l2 q g).elim id (fun w => absurd w (by omega))
  refine ⟨?_, cy.M, ?_, cy.H, cy.A, cy.C, cy.ho, cy.s0, cy.th, by rw [hb]; exact hc.rs, fun c i h1 h2 => ?_, fun c r h1 h2 => ?_, (e1 _ _ (by simp)).trans hc.cs, hc.c4, fun c h1 => ?_, fun c r k h1 => ?_, fun c r h1 h2 => ?_, (e1 _ _ (by simp)).trans hc.tc1, hc.tcn, hc.sn8, fun u hu => ?_, fun u hu => ?_, fun u hu => ?_⟩
  · have := hc.jJ
    unfold jw_J at *
    rw [eo _ _ (by simp) (by simp) (by simp) (by simp), eo _ _ (by simp) (by simp) (by simp) (by simp), eo _ _ (by simp) (by simp) (by simp) (by simp), eo _ _ (by simp) (by simp) (by simp) (by simp)]
    exact this
  · have := hc.G
    unfold jw_G at *
    rw [eo _ _ (by simp) (by simp) (by simp) (by simp), eo _ _ (by simp) (by simp) (by simp) (by simp), eo _ _ (by simp) (by simp) (by simp) (by simp), eo _ _ (by simp) (by simp) (by simp) (by simp), eo _ _ (by simp) (by simp) (by simp) (by simp)]
    exact this
  · rw [e1 _ _ (by simp)] at h2 ⊢
    exact hc.lk c i h1 h2
  · rw [e1 _ _ (by simp)] at h2 ⊢
    exact hc.ra c r h1 h2
  · obtain ⟨g1, g2, g3, g4, g5⟩ := hc.cf c h1
    exact ⟨fun w => g1 (el _ (by simp) (by simp) w), fun w => g2 (el _ (by simp) (by simp) w), fun w => g3 (el _ (by simp) (by simp) w), fun w => g4 (el _ (by simp) (by simp) w), fun w => g5 (el _ (by simp) (by simp) w)⟩
  · exact ⟨(e1 _ _ (by simp)).trans (hc.rz c r k h1).1, fun w => (hc.rz c r k h1).2 (el _ (by simp) (by simp) w)⟩
  · rw [e1 _ _ (by simp)] at h2
    exact fun w => hc.rf c r h1 h2 (el _ (by simp) (by simp) w)
  · refine ⟨(hc.st u hu).1.to cf.oo, ?_⟩
    by_cases hut : u = t
    · subst hut; exact cy.nu
    · rw [e _ _ (by simp [hut]) (by simp) (by simp) (by simp) (by simp)]
      exact (hc.st u hu).2
  · obtain ⟨g1, g2, g3, g4⟩ := hc.sf u hu
    refine ⟨(eo _ _ (by simp) (by simp) (by simp) (by simp)).trans g1, fun w => g2 (el _ (by simp) (by simp) w), fun w => g3 (el _ (by simp) (by simp) w), fun j => ⟨fun w => (g4 j).1 (el _ (by simp) (by simp) w), fun w => (g4 j).2.1 (el _ (by simp) (by simp) w), fun w => (g4 j).2.2 (el _ (by simp) (by simp) w)⟩⟩
  · by_cases hut : u = t
    · subst hut
      rw [dU_s]
      exact ⟨cy.TH, cy.go, cy.b6⟩
    · obtain ⟨g1, g2, g3⟩ := hc.ths u hu
      have e9 : ∀ k, J' (9, u, 0) k = J (9, u, 0) k := fun k => e _ _ (by simp [hut]) (by simp) (by simp) (by simp) (by simp)
      rw [dU_n hut, e9, e9]
      refine ⟨g1.to hb cf.v (e9 2) (fun q k hq hqt => e q k (fun w => hut (hqt.symm.trans w.2)) (by omega) (by omega) (by omega) (by omega)) (fun j => cf.oo _ _ (fun w => hut w.2.1) (by simp) (by simp) (by simp)), g2, g3⟩
theorem GR.run (hr : GR I P lv b n tc sn cn zc D fn) (ht : t < sn) (rk : RK t b n (10 + t) I P lv I' P' lv') (rx : RX I' P' lv' t b n' (10 + t) fn' m' cn) (hn : n ≤ n') : GR I' P' lv' b n' tc sn cn zc (dU D t m') (dU fn t fn') := by
  obtain ⟨r1, r2, r3, r4⟩ := rk
  have e10 : ∀ k, k ≠ 5 → I' (10, 0, 0) k = I (10, 0, 0) k := fun k hk => r1 _ _ (by simp) (by simp) (by simp) (by simp) (by simp) (by simp) (by simp) (by simp [hk])
  have h15 : ∀ y, y ≠ 10 + t → ((15, y, 0) : jc_L) ≠ (15, 10 + t, 0) := fun y hne g => hne (congrArg (fun w : jc_L => w.2.1) g)
  have h152 : ∀ y, y ≠ 2 → ((15, y, 0) : jc_L) ≠ (15, 2, 0) := fun y hne g => hne (congrArg (fun w : jc_L => w.2.1) g)
  have h60 : ∀ y c z, y ≠ 10 + t → ((60, y, c) : jc_L) ≠ (60, 10 + t, z) := fun y c z hne g => hne (congrArg (fun w : jc_L => w.2.1) g)
  have h602 : ∀ y c z, y ≠ 2 → ((60, y, c) : jc_L) ≠ (60, 2, z) := fun y c z hne g => hne (congrArg (fun w : jc_L => w.2.1) g)
  have hl : ∀ y, y ≠ 10 + t → y ≠ 2 → ∀ {m : Nat} {f : Nat → jc_L}, ql I P lv y m f → ql I' P' lv' y m f := fun y hy hy2 m f g => g.to (r1 _ _ (by simp) (by simp) (by simp) (by simp) (h152 y hy2) (h15 y hy) (by simp) (by simp)) (r2 _ _ (by simp) (by simp) (by simp) (h152 y hy2) (h15 y hy) (by simp) (by simp)) (fun c k => r2 _ _ (by simp) (by simp) (by simp) (by simp) (by simp) (fun z => h602 y c z hy2) (fun z => h60 y c z hy)) (fun c g => by
    rcases r4 _ g with w | w | w | ⟨z, w⟩ | ⟨z, w⟩ | w
    · exact w
    · exact absurd w.1 (by simp)
    · exact absurd w.1 (by simp)
    · exact absurd w (h602 y c z hy2)
    · exact absurd w (h60 y c z hy)
    · exact absurd w.1 (by simp))
  have el : ∀ q, q.1 ≠ 13 → q.1 ≠ 47 → q.1 ≠ 60 → ¬ ((q.1 = 12 ∨ q.1 = 48 ∨ q.1 = 49) ∧ q.2.1 = t) → lv' q → lv q := fun q g1 g2 g3 g4 g => by
    rcases r4 _ g with w | w | w | ⟨z, w⟩ | ⟨z, w⟩ | w
    · exact w
    · exact absurd w.1 g1
    · exact absurd w.1 g2
    · exact absurd (by rw [w]) g3
    · exact absurd (by rw [w]) g3
    · exact absurd w g4
  refine ⟨rx.qa, ?_, rx.qt.ob, hl 1 (by omega) (by omega) hr.th, rx.of, rx.o2, rx.mk, rx.mb, rx.qt.n3, (e10 3 (by decide)).trans hr.tc1, fun u hu => ?_, fun u i hi => ?_, fun u i k hi => ?_, fun u hu => ?_, fun u hu => ?_, fun c hc => ?_, fun z hz => ?_⟩
  · refine ⟨rx.qa.1.2.2.2.2, ?_⟩
    rw [e10 8 (by decide)]
    exact hr.k.2
  · by_cases hut : u = t
    · subst hut
      rw [dU_s, dU_s]
      exact ⟨rx.qt.m1, rx.qt.fs, rx.qt.d, rx.qt.mf, rx.f30, rx.fr, rx.c7⟩
    · obtain ⟨t1, t2, t3, t4, t5, t6, t7⟩ := hr.ts u hu
      rw [dU_n hut, dU_n hut]
      have hx : lcap P' (10 + u) = lcap P (10 + u) := by unfold lcap; rw [r2 _ _ (by simp) (by simp) (by simp) (h152 _ (by omega)) (h15 _ (by omega)) (by simp) (by simp)]
      refine ⟨(r2 _ _ (by simp) (by simp) (by simp) (by simp) (by simp) (by simp) (by simp)).trans t1, hl _ (by omega) (by omega) t2, ?_, t4, t5, fun i hi => ?_, by rw [hx]; exact t7⟩
      · rw [r1 _ _ (by simp [hut]) (by simp) (by simp) (by simp) (by simp) (by simp) (by simp) (by simp)]
        exact t3
      · unfold qf
        rw [r2 _ _ (by simp [hut]) (by simp) (by simp) (by simp) (by simp) (by simp) (by simp), r2 _ _ (by simp [hut]) (by simp) (by simp) (by simp) (by simp) (by simp) (by simp)]
        exact t6 i hi
  · by_cases hut : u = t
    · subst hut
      rw [dU_s] at hi
      exact rx.ff i hi
    · rw [dU_n hut] at hi
      obtain ⟨g1, g2, g3⟩ := hr.ff u i hi
      exact ⟨fun w => g1 (el _ (by simp) (by simp) (by simp) (by simp [hut]) w), fun w => g2 (el _ (by simp) (by simp) (by simp) (by simp [hut]) w), fun w => g3 (el _ (by simp) (by simp) (by simp) (by simp [hut]) w)⟩
  · by_cases hut : u = t
    · subst hut
      rw [dU_s] at hi
      exact rx.fz i k hi
    · rw [dU_n hut] at hi
      rw [r1 _ _ (by simp [hut]) (by simp) (by simp) (by simp) (by simp) (by simp) (by simp) (by simp), r1 _ _ (by simp [hut]) (by simp) (by simp) (by simp) (by simp) (by simp) (by simp) (by simp), r1 _ _ (by simp [hut]) (by simp) (by simp) (by simp) (by simp) (by simp) (by simp) (by simp)]
      exact hr.fz u i k hi
  · have hut : u ≠ t := by omega
    rw [dU_n hut, dU_n hut]
    exact hr.f0 u hu
  · have hut : u ≠ t := by omega
    obtain ⟨g1, g2, g3⟩ := hr.tf u hu
    refine ⟨fun w => g1 (el _ (by simp) (by simp) (by simp) (by simp) w), fun w => g2 (el _ (by simp) (by simp) (by simp) (by simp) w), fun c g => ?_⟩
    rcases r4 _ g with w | w | w | ⟨z, w⟩ | ⟨z, w⟩ | w
    · exact g3 c w
    · exact absurd w.1 (by simp)
    · exact absurd w.1 (by simp)
    · exact absurd w (h602 _ c z (by omega))
    · exact absurd w (h60 _ c z (by omega))
    · exact absurd w.1 (by simp)
  · obtain ⟨g1, g2, g3, g4, g5, g6, g7, g8⟩ := hr.cf c hc
    exact ⟨fun w => g1 (el _ (by simp) (by simp) (by simp) (by simp) w), fun w => g2 (el _ (by simp) (by simp) (by simp) (by simp) w), fun w => g3 (el _ (by simp) (by simp) (by simp) (by simp) w), fun w => g4 (el _ (by simp) (by simp) (by simp) (by simp) w), fun w => g5 (el _ (by simp) (by simp) (by simp) (by simp) w), fun w => g6 (el _ (by simp) (by simp) (by simp) (by simp) w), fun w => g7 (el _ (by simp) (by simp) (by simp) (by simp) w), fun w => g8 (el _ (by simp) (by simp) (by simp) (by simp) w)⟩
  · exact fun w => hr.mt z hz (el _ (by simp) (by simp) (by simp) (by simp) w)
theorem GX.run (hx : GX J O I P tc cn b n D) (cf : CF t J O live J' O' live') (rk : RK t b n (10 + t) I P lv I' P' lv') (ri : RI J' O' live' I' P' lv' S' t b n' (10 + t) fn' m' cn (dU D t m')) : GX J' O' I' P' tc cn b n' (dU D t m') := by
  obtain ⟨r1, r2, r3, r4⟩ := rk
  have e : ∀ q k, ¬ ((q.1 = 8 ∨ q.1 = 32 ∨ q.1 = 33 ∨ q.1 = 9) ∧ q.2.1 = t) → q.1 ≠ 7 → q.1 ≠ 29 → q.1 ≠ 31 → q.1 ≠ 3 → J' q k = J q k := fun q k g1 g2 g3 g4 g5 => cf.o q k (fun w e => g1 ⟨w, e⟩) g2 g3 g4 g5
  refine ⟨ri.sm, ri.cn, fun u hu => ?_, fun u hu => ?_, ?_⟩
  · by_cases hut : u = t
    · subst hut
      rw [dU_s]
      exact ri.fr
    · rw [dU_n hut]
      intro i hi
      have ec : cd O' u i = cd O u i := by unfold cd; rw [cf.oo _ _ (fun w => hut w.2.1) (by simp) (by simp) (by simp)]
      rw [ec, r2 _ _ (by simp [hut]) (by simp) (by simp) (by simp) (by simp) (by simp) (by simp), r1 _ _ (by simp [hut]) (by simp) (by simp) (by simp) (by simp) (by simp) (by simp) (by simp)]
      exact hx.fr u hu i hi
  · by_cases hut : u = t
    · subst hut
      exact ri.wt
    · have e9 : ∀ k, J' (9, u, 0) k = J (9, u, 0) k := fun k => e _ _ (by simp [hut]) (by simp) (by simp) (by simp) (by simp)
      have e8 : ∀ j k, J' (8, u, j) k = J (8, u, j) k := fun j k => e _ _ (by simp [hut]) (by simp) (by simp) (by simp) (by simp)
      have e32 : ∀ j k, J' (32, u, j) k = J (32, u, j) k := fun j k => e _ _ (by simp [hut]) (by simp) (by simp) (by simp) (by simp)
      have e14 : I' (14, u, 0) 6 = I (14, u, 0) 6 := r1 _ _ (by simp [hut]) (by simp) (by simp) (by simp) (by simp) (by simp) (by simp) (by simp)
      rcases hx.wt u hu with ⟨w1, w2⟩ | ⟨w1, w2, w3, w4, w5, w6⟩
      · left
        rw [e9, e14]
        exact ⟨w1, w2⟩
      · right
        have hjT : jT J' u = jT J u := by unfold jT; rw [e9]
        have ec : cd O' u (jT J u) = cd O u (jT J u) := by unfold cd; rw [cf.oo _ _ (fun w => hut w.2.1) (by simp) (by simp) (by simp)]
        rw [e9, e9, e14, hjT, ec]
        refine ⟨w1, w2, ?_, ?_, w5, (cf.v _ ⟨?_, w6⟩).2⟩
        · rw [← w3]
          unfold m_op
          rw [e8, e _ _ (by simp) (by simp) (by simp) (by simp) (by simp), e (21, _, _) _ (by simp) (by simp) (by simp) (by simp) (by simp)]
        · rw [← w4]
          unfold f_pk
          rw [e8, e32]
        · rw [jle, j0I]
          rw [jle, j1I] at w5
          omega
  · rw [cf.oo _ _ (by simp) (by simp) (by simp) (by simp), r2 _ _ (by simp) (by simp) (by simp) (by simp) (by simp) (by simp) (by simp)]
    exact hx.op
end
