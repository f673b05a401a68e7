def isC2 (a : Nat) : Bool := Nat.blt a 2 || (Nat.ble 3 a && Nat.ble a 9) || (Nat.ble 20 a && Nat.ble a 24) || (Nat.ble 29 a && Nat.ble a 35)
def isR3 (a : Nat) : Bool := (Nat.ble 10 a && Nat.ble a 15) || (Nat.ble 40 a && Nat.ble a 50) || (Nat.ble 53 a && Nat.ble a 60)
def isR4 (a : Nat) : Bool := (Nat.ble 11 a && Nat.ble a 15) || (Nat.ble 40 a && Nat.ble a 50) || (Nat.ble 53 a && Nat.ble a 60)
theorem isC2_s {a : Nat} (h : isC2 a = true) : a < 2 ∨ (3 ≤ a ∧ a ≤ 9) ∨ (20 ≤ a ∧ a ≤ 24) ∨ (29 ≤ a ∧ a ≤ 35) := by
  simp only [isC2, Bool.or_eq_true, Bool.and_eq_true, Nat.ble_eq, Nat.blt_eq] at h
  omega
theorem isR3_s {a : Nat} (h : isR3 a = true) : isR a = true ∧ a ≠ 51 ∧ a ≠ 52 := by
  simp only [isR3, isR, Bool.or_eq_true, Bool.and_eq_true, Nat.ble_eq] at h ⊢
  omega
theorem isR4_s {a : Nat} (h : isR4 a = true) : isR a = true ∧ a ≠ 51 ∧ a ≠ 52 ∧ a ≠ 10 := by
  simp only [isR4, isR, Bool.or_eq_true, Bool.and_eq_true, Nat.ble_eq] at h ⊢
  omega
theorem GC.toJ {J J' : jc_I} {O : jc_O} {live : jc_L → Prop} {S : Int} {tc sn cn : Nat} {D : Nat → Nat} (h : GC J O live S tc sn cn D) (e : ∀ q k, isC2 q.1 = true → J' q k = J q k) : GC J' O live S tc sn cn D := by
  have w : GC (ctI isC2 J) O live S tc sn cn D := h
  rw [← ctI_e e] at w
  exact w
/-- the judge's own cells may change -/
theorem GR.toQ {I I' : jc_I} {P P' : jc_O} {lv lv' : jc_L → Prop} {b n tc sn cn zc zc' : Nat} {D fn : Nat → Nat} (h : GR I P lv b n tc sn cn zc D fn) (e : ∀ q k, isR q.1 = true → q.1 ≠ 51 → q.1 ≠ 52 → ¬ (q = (10, 0, 0) ∧ k = 8) → I' q k = I q k) (eo : ∀ q k, isR q.1 = true → q.1 ≠ 52 → P' q k = P q k) (el : ∀ q, isR q.1 = true → q.1 ≠ 52 → (lv' q ↔ lv q)) (hk : qk I' P') (hmt : ∀ z, zc' ≤ z → ¬ lv' (52, z, 0)) : GR I' P' lv' b n tc sn cn zc' D fn := by
  have e4 : ∀ q k, isR4 q.1 = true → I' q k = I q k := fun q k hq => by
    obtain ⟨a1, a2, a3, a4⟩ := isR4_s hq
    exact e q k a1 a2 a3 (fun g => a4 (by rw [g.1]))
  have eo3 : ∀ q k, isR3 q.1 = true → P' q k = P q k := fun q k hq => by
    obtain ⟨a1, a2, a3⟩ := isR3_s hq
    exact eo q k a1 a3
  have el3 : ∀ q, isR3 q.1 = true → (lv' q ↔ lv q) := fun q hq => by
    obtain ⟨a1, a2, a3⟩ := isR3_s hq
    exact el q a1 a3
  have e1 := ctI_e e4
  have e2 := ctO_e eo3
  have e3 := ctL_e el3
  refine ⟨?_, hk, ?_, ?_, ?_, ?_, (e _ _ rfl (by simp) (by simp) (by simp)).trans h.mk, h.mb, h.n3, (e _ _ rfl (by simp) (by simp) (by simp)).trans h.tc1, ?_, ?_, ?_, h.f0, ?_, ?_, hmt⟩
  · have w : qA (ctI isR4 I) (ctO isR3 P) (ctL isR3 lv) cn := h.qa
    rw [← e1, ← e2, ← e3] at w
    exact w
  · have w : ql (ctI isR4 I) (ctO isR3 P) (ctL isR3 lv) 2 n (qO b) := h.ob
    rw [← e1, ← e2, ← e3] at w
    exact w
  · have w : ql (ctI isR4 I) (ctO isR3 P) (ctL isR3 lv) 1 sn qTh := h.th
    rw [← e1, ← e2, ← e3] at w
    exact w
  · exact fun k hk => (eo _ _ rfl (by simp)).trans (h.of k hk)
  · exact fun k hk => ⟨fun g => (h.o2 k hk).1 ((el _ rfl (by simp)).mp g), fun g => (h.o2 k hk).2 ((el _ rfl (by simp)).mp g)⟩
  · have w : ∀ t, t < sn → (ctO isR3 P) (14, t, 0) 1 = some (15, 10 + t, 0) ∧ ql (ctI isR4 I) (ctO isR3 P) (ctL isR3 lv) (10 + t) (fn t) (qFr t) ∧ (ctI isR4 I) (14, t, 0) 2 = Int32.ofNat (D t) ∧ D t ≤ fn t ∧ fn t ≤ 30 ∧ (∀ i, i < fn t → qf (ctO isR3 P) t i) ∧ lcap (ctO isR3 P) (10 + t) ≤ 70 := h.ts
    rw [← e1, ← e2, ← e3] at w
    exact w
  · have w : ∀ t i, fn t ≤ i → ¬ (ctL isR3 lv) (12, t, i) ∧ ¬ (ctL isR3 lv) (48, t, i) ∧ ¬ (ctL isR3 lv) (49, t, i) := h.ff
    rw [← e3] at w
    exact w
  · have w : ∀ t i k, fn t ≤ i → (ctI isR4 I) (12, t, i) k = 0 ∧ (ctI isR4 I) (48, t, i) k = 0 ∧ (ctI isR4 I) (49, t, i) k = 0 := h.fz
    rw [← e1] at w
    exact w
  · have w : ∀ t, sn ≤ t → ¬ (ctL isR3 lv) (14, t, 0) ∧ ¬ (ctL isR3 lv) (15, 10 + t, 0) ∧ ∀ c, ¬ (ctL isR3 lv) (60, 10 + t, c) := h.tf
    rw [← e3] at w
    exact w
  · have w : ∀ c, cn ≤ c → ¬ (ctL isR3 lv) (11, c, 0) ∧ ¬ (ctL isR3 lv) (40, c, 0) ∧ ¬ (ctL isR3 lv) (41, c, 0) ∧ ¬ (ctL isR3 lv) (42, c, 0) ∧ ¬ (ctL isR3 lv) (43, c, 0) ∧ ¬ (ctL isR3 lv) (44, c, 0) ∧ ¬ (ctL isR3 lv) (45, c, 0) ∧ ¬ (ctL isR3 lv) (46, c, 0) := h.cf
    rw [← e3] at w
    exact w
section
variable {x b n : Nat} {D : Nat → Nat} {q : jc_L} {k : Nat} {z : jc_L × Nat}
theorem mu_n2 (h : mu x b n D q k = some z) : isC2 q.1 = true := by
  by_cases e8 : q.1 = 8
  · rw [e8]; rfl
  by_cases e32 : q.1 = 32
  · rw [e32]; rfl
  by_cases e33 : q.1 = 33
  · rw [e33]; rfl
  by_cases e9 : q.1 = 9
  · rw [e9]; rfl
  by_cases e7 : q.1 = 7
  · rw [e7]; rfl
  by_cases e29 : q.1 = 29
  · rw [e29]; rfl
  by_cases e3 : q.1 = 3
  · rw [e3]; rfl
  by_cases e31 : q.1 = 31
  · rw [e31]; rfl
  by_cases e4 : q.1 = 4
  · rw [e4]; rfl
  by_cases e1 : q.1 = 1
  · rw [e1]; rfl
  by_cases e6 : q.1 = 6
  · rw [e6]; rfl
  by_cases e20 : q.1 = 20
  · rw [e20]; rfl
  by_cases e21 : q.1 = 21
  · rw [e21]; rfl
  by_cases e22 : q.1 = 22
  · rw [e22]; rfl
  by_cases e5 : q.1 = 5
  · rw [e5]; rfl
  unfold mu at h
  rw [if_neg e8, if_neg e32, if_neg e33, if_neg e9, if_neg (fun g => e7 g.1), if_neg (fun g => e29 g.1), if_neg (fun g => e3 (by rw [g])), if_neg (fun g => e31 (by rw [g])), if_neg (fun g => e4 (by rw [g.1])), if_neg (fun g => e1 (by rw [g.1])), if_neg e6, if_neg e20, if_neg e21, if_neg e22, if_neg e5] at h
  cases h
theorem nu_n8 : nu x b n D (10, 0, 0) 8 = none := rfl
theorem nu_51 (h : q.1 = 51 ∨ q.1 = 52) : nu x b n D q k = none := by
  unfold nu
  rw [if_neg (by omega), if_neg (by omega), if_neg (by omega), if_neg (by omega), if_neg (by omega), if_neg (by omega), if_neg (fun g => by rw [g.1] at h; simp at h), if_neg (fun g => by rw [g] at h; simp at h), if_neg (fun g => by rw [g] at h; simp at h), if_neg (fun g => by rw [g.1] at h; simp at h), if_neg (by omega), if_neg (by omega), if_neg (by omega), if_neg (by omega), if_neg (by omega), if_neg (by omega), if_neg (by omega), if_neg (by omega)]
end
theorem SimF.toQ {b n : Nat} {D : Nat → Nat} {J J' I I' : jc_I} (h : SimF b n D J I) (e : ∀ q k, isC2 q.1 = true → J' q k = J q k) (e2 : ∀ q k, isR q.1 = true → q.1 ≠ 51 → q.1 ≠ 52 → ¬ (q = (10, 0, 0) ∧ k = 8) → I' q k = I q k) : SimF b n D J' I' := fun x => ((h x).toC (fun q k z hz => e q k (mu_n2 hz))).toR (fun q k z hz => e2 q k (nu_R hz) (fun g => by rw [nu_51 (Or.inl g)] at hz; cases hz) (fun g => by rw [nu_51 (Or.inr g)] at hz; cases hz) (fun g => by rw [g.1, g.2, nu_n8] at hz; cases hz))
theorem GX.toQ {J J' I I' : jc_I} {O P P' : jc_O} {tc cn b n : Nat} {D : Nat → Nat} (h : GX J O I P tc cn b n D) (e : ∀ q k, isC2 q.1 = true → J' q k = J q k) (e2 : ∀ q k, isR q.1 = true → q.1 ≠ 51 → q.1 ≠ 52 → ¬ (q = (10, 0, 0) ∧ k = 8) → I' q k = I q k) (eo2 : ∀ q k, isR q.1 = true → q.1 ≠ 52 → P' q k = P q k) : GX J' O I' P' tc cn b n D := by
  have e4 : ∀ q k, isR4 q.1 = true → I' q k = I q k := fun q k hq => by
    obtain ⟨a1, a2, a3, a4⟩ := isR4_s hq
    exact e2 q k a1 a2 a3 (fun g => a4 (by rw [g.1]))
  have eo3 : ∀ q k, isR3 q.1 = true → P' q k = P q k := fun q k hq => by
    obtain ⟨a1, a2, a3⟩ := isR3_s hq
    exact eo2 q k a1 a3
  refine ⟨h.sm.toQ e e2, (e _ _ rfl).trans h.cn, fun t ht => ?_, fun t ht => ?_, ?_⟩
  · have w : FRc (ctI isR4 I) (ctO isR3 P) O t (D t) := h.fr t ht
    rw [← ctI_e e4, ← ctO_e eo3] at w
    exact w
  · have w : WT (ctI isC2 J) O (ctI isR4 I) t := h.wt t ht
    rw [← ctI_e e, ← ctI_e e4] at w
    exact w
  · rw [eo2 _ _ rfl (by simp)]
    exact h.op
section
variable {J I : jc_I} {O P : jc_O} {live lv : jc_L → Prop} {S : Int} {b n tc sn cn zc : Nat} {D fn : Nat → Nat}
theorem GG.qB (hc : GC J O live S tc sn cn D) (hx : GX J O I P tc cn b n D) : qB I cn := fun d hd => by
  have eb : bq I = bk J := (hx.sm 0).bkq
  have hin := hc.in' hd
  refine ⟨GG.qr hc hx d hd, fun i hi => ?_, fun i => ?_⟩
  · have e1 : J (6, d, 0) 8 = I (11, d, 0) 6 := hx.sm 0 (6, d, 0) 8 _ rfl
    have e2 : J (21, d, 0) i = I (41, d, 0) i := hx.sm 0 (21, d, 0) i _ rfl
    rw [← e1] at hi
    rw [← e2]
    have w := hc.C.ins d i hin hi
    exact ⟨w.1, w.2.1⟩
  · rw [eb]
    unfold p_lk
    split
    · rename_i g
      have h0 := jNI g.1
      have hlc := (hc.C.lc d hin).1
      have h1 := jlt.mp g.2
      have h2 := jNI hlc
      right
      have := hc.lk d i.toNatClampNeg hd (by
        show i.toNatClampNeg < ((bk J).lc d).toNatClampNeg
        omega)
      show 0 < J (20, d, 0) i.toNatClampNeg
      rcases this with w | w <;> rw [w] <;> decide
    · exact Or.inl rfl
theorem GC.fndc (h : GC J O live S tc sn cn D) {x : Int32} (hx : 0 ≤ x ∧ x < J (1, 0, 0) 1) : x = Int32.ofNat x.toNatClampNeg ∧ x.toNatClampNeg < cn := by
  have := h.c4
  exact m_x hx.1 (by rw [← h.cs]; exact hx.2) (by omega)
theorem GC.jPar (h : GC J O live S tc sn cn D) : jPar J := fun d hd => h.C.par d hd
theorem GC.jNum (h : GC J O live S tc sn cn D) : jNum J := ⟨h.A.2.1, h.A.2.2.1, fun d hd => ⟨(h.A.2.2.2 d hd).2.2.2.2.1, (h.A.2.2.2 d hd).2.2.1⟩⟩
end
theorem jE.C2 {J J' : jc_I} (h : jE J J') : ∀ q k, isC2 q.1 = true → J' q k = J q k := fun q k hq => by have := isC2_s hq; exact h q k (by omega) (by omega)
theorem jE.R {J J' : jc_I} (h : jE J J') : ∀ q k, isR q.1 = true → J' q k = J q k := fun q k hq => by have := isR_s hq; exact h q k (by omega) (by omega)
theorem qE.C {J J' : jc_I} (h : qE J J') : ∀ q k, isC q.1 = true → J' q k = J q k := fun q k hq => by have := isC_s hq; exact h q k (fun g => by rw [g] at this; simp at this) (fun g => by rw [g.1] at this; simp at this)
theorem qE.R {J J' : jc_I} (h : qE J J') : ∀ q k, isR q.1 = true → q.1 ≠ 51 → q.1 ≠ 52 → ¬ (q = (10, 0, 0) ∧ k = 8) → J' q k = J q k := fun q k hq h51 _ h8 => h q k (fun g => h51 (by rw [g])) h8
theorem isC2_C {a : Nat} (h : isC2 a = true) : isC a = true := by
  simp only [isC2, isC, Bool.or_eq_true, Bool.and_eq_true, Nat.ble_eq, Nat.blt_eq] at h ⊢
  omega
theorem st_judge {X : jc_I} {Y : jc_O} {L : jc_L → Prop} {S : Int} {N : Nat} {x : Int32} (g : GS X Y L S N) : ST y_J_judge y_m_judge [.inl x] X Y L S N := by
  obtain ⟨b, n, tc, sn, cn, zc, D, fn, e, hc, hr, hx⟩ := id g
  have ec : X (1, 0, 0) 1 = X (15, 0, 0) 1 := hx.sm 0 (1, 0, 0) 1 _ rfl
  by_cases hb : 0 ≤ x ∧ x < X (1, 0, 0) 1
  · obtain ⟨ex, hcn⟩ := hc.fndc hb
    have hc4 := hc.c4
    generalize x.toNatClampNeg = c at ex hcn
    have hxc : x.toNatClampNeg = c := by rw [ex, jofN (by omega)]
    have h1 := ct_J_judge_y (live := L) hc.jJ hc.A hc.G hb hxc
    have j1 : jE X (g_good X c) := jE_good
    have hr1 := hr.to j1.R (fun _ _ _ => rfl) (fun _ _ => Iff.rfl)
    have hx1 := hx.to (J' := X) (O' := Y) (fun _ _ _ => rfl) (fun _ _ _ => rfl) j1.R (fun _ _ _ => rfl)
    have hB := GG.qB hc hx1 c hcn
    have w := hr1.qa.2.2 c hcn
    have h2 := ct_m_judge_y (x := x) hr1.qa hr1.k w.1 w.2.1 hB.2.1 ex hcn
    have i1 := g_good_iff (c := c) hc.jPar (hc.A.2.2.2 c (hc.in' hcn)).2.2.1
    have i2 := q_good_iff (I := g_good X c) (c := c) w.2.1 hB.1 hB.2.1 hB.2.2
    rw [(hx1.sm 0).bkq] at i2
    have ev : (q_good (g_good X c) c).1 = g_good X c (2, 0, 0) 7 := by
      rcases g01_good (I := X) (c := c) with a | a <;> rcases q_good01 (I := g_good X c) (c := c) with a2 | a2
      · rw [a, a2]
      · exact absurd (i1.mpr (i2.mp a2)) (by rw [a]; decide)
      · exact absurd (i2.mpr (i1.mp a)) (by rw [a2]; decide)
      · rw [a, a2]
    rw [ev] at h2
    have q1 : qE (g_good X c) (q_good (g_good X c) c).2 := qE_good
    refine ⟨_, _, _, _, _, _, _, _, _, _, _, N, h1, fun _ h => h, h2, fun _ h => h, ⟨b, n, tc, sn, cn, zc, D, fn, e, (hc.toJ (fun q k hq => (q1.C q k (isC2_C hq)).trans (j1.C2 q k hq))).mono (by omega), hr1.toQ q1.R (fun _ _ _ _ => rfl) (fun _ _ _ => Iff.rfl) (qk_good hr1.k) hr1.mt, hx1.toQ (fun q k hq => (q1.C q k (isC2_C hq)).trans (j1.C2 q k hq)) q1.R (fun _ _ _ _ => rfl)⟩, by omega, by omega, fun k j => j1 _ _ (by simp) (by simp), fun k j => ?_⟩
    rw [q1 _ _ (by simp) (by simp)]
    exact j1 _ _ (by simp) (by simp)
  · exact ST.same g (ct_J_judge_n hc.jJ hc.A hb) (ct_m_judge_n hr.qa.1 (by rw [← ec]; exact hb))
