section
variable {x b b' n n' : Nat} {D : Nat → Nat} {q : jc_L} {k : Nat}
theorem mu_eq (h7 : q.1 ≠ 7) (h29 : q.1 ≠ 29) : mu x b n D q k = mu x b' n' D q k := by
  unfold mu
  rw [if_neg (c := q.1 = 7 ∧ q.2.1 < n ∧ q.2.2 = 0) (fun g => h7 g.1), if_neg (c := q.1 = 29 ∧ q.2.1 < n ∧ k < 8 ∧ q.2.2 = 0) (fun g => h29 g.1), if_neg (c := q.1 = 7 ∧ q.2.1 < n' ∧ q.2.2 = 0) (fun g => h7 g.1), if_neg (c := q.1 = 29 ∧ q.2.1 < n' ∧ k < 8 ∧ q.2.2 = 0) (fun g => h29 g.1)]
theorem mu_00 (h : q.1 = 7 ∨ q.1 = 29) : mu x b 0 D q k = none := by
  unfold mu
  rw [if_neg (by omega), if_neg (by omega), if_neg (by omega), if_neg (by omega), if_neg (fun g => Nat.not_lt_zero _ g.2.1), if_neg (fun g => Nat.not_lt_zero _ g.2.1), if_neg (fun g => by rw [g] at h; simp at h), if_neg (fun g => by rw [g] at h; simp at h), if_neg (fun g => by rw [g.1] at h; simp at h), if_neg (fun g => by rw [g.1] at h; simp at h), if_neg (by omega), if_neg (by omega), if_neg (by omega), if_neg (by omega), if_neg (by omega)]
end
theorem Sim.zero {x b n b' : Nat} {D : Nat → Nat} {J I : jc_I} (h : Sim x b n D J I) : Sim x b' 0 D J I := fun q k z hz => by
  by_cases h7 : q.1 = 7 ∨ q.1 = 29
  · rw [mu_00 h7] at hz; cases hz
  · exact h q k z (by rw [mu_eq (b' := b') (n' := 0) (by omega) (by omega)]; exact hz)
theorem sr_reset {X : jc_I} {Y : jc_O} {L : jc_L → Prop} {S : Int} {N : Nat} (g : GS X Y L S N) : ∃ (X1 : jc_I) (Y1 : jc_O) (X2 : jc_I) (Y2 : jc_O), jc_Ct y_J_reset [.inr (some (0, 0, 0))] X Y L (none, X1, Y1, L, 0, 0) ∧ jc_Ct y_m_reset [.inr (some (10, 0, 0))] X1 Y1 L (none, X2, Y2, L, 0, 0) ∧ GS X2 Y2 L S N ∧ lcap Y2 2 = lcap Y 2 ∧ (∀ k j, X1 (96, k, 0) j = X (96, k, 0) j) ∧ (∀ k j, X2 (96, k, 0) j = X (96, k, 0) j) := by
  obtain ⟨b, n, tc, sn, cn, zc, D, fn, e, hc, hr, hx⟩ := id g
  have h1 := ct_J_reset (live := L) (I := X) hc.jJ hc.H.2.1
  generalize hX1 : jc_zr (jc_up (jc_up X (4, 0, 0) 4 0) (3, 0, 0) 2 0) (31, 0, 0) 4 0 = X1 at h1
  generalize hY1 : jc_up Y (1, 0, 0) 2 none = Y1 at h1
  have c1 : ∀ q k, ¬ (q = (4, 0, 0) ∧ k = 4) → ¬ (q = (3, 0, 0) ∧ k = 2) → q ≠ (31, 0, 0) → X1 q k = X q k := fun q k g1 g2 g3 => by
    rw [← hX1]
    have a1 : ∀ Z : jc_I, jc_zr Z (31, 0, 0) 4 0 q k = Z q k := fun Z => if_neg (fun w => g3 w.1)
    have a2 : ∀ Z : jc_I, jc_up Z (3, 0, 0) 2 0 q k = Z q k := fun Z => if_neg g2
    have a3 : jc_up X (4, 0, 0) 4 0 q k = X q k := if_neg g1
    rw [a1, a2, a3]
  have v32 : X1 (3, 0, 0) 2 = 0 := by
    rw [← hX1]
    unfold jc_zr
    rw [if_neg (by simp), jc_up_s]
  have v44 : X1 (4, 0, 0) 4 = 0 := by
    rw [← hX1]
    unfold jc_zr
    rw [if_neg (by simp), jc_up_t _ _ _ _ _ _ _ _ (by decide), jc_up_s]
  have v31 : ∀ i, i < 4 → X1 (31, 0, 0) i = 0 := fun i hi => by
    rw [← hX1]
    unfold jc_zr
    rw [if_pos ⟨rfl, hi⟩]
  have o1 : ∀ q k, ¬ (q = (1, 0, 0) ∧ k = 2) → Y1 q k = Y q k := fun q k g1 => by rw [← hY1]; exact if_neg g1
  have cR : ∀ q k, isR q.1 = true → X1 q k = X q k := fun q k hq => by
    have := isR_s hq
    exact c1 q k (fun g => by rw [g.1] at this; simp at this) (fun g => by rw [g.1] at this; simp at this) (fun g => by rw [g] at this; simp at this)
  have oR : ∀ q k, isR q.1 = true → Y1 q k = Y q k := fun q k hq => by
    have := isR_s hq
    exact o1 q k (fun g => by rw [g.1] at this; simp at this)
  have hr1 := hr.to cR oR (fun _ _ => Iff.rfl)
  have hx1 := hx.to (J' := X) (O' := Y) (fun _ _ _ => rfl) (fun _ _ _ => rfl) cR oR
  have h2 := ct_m_reset hr1.qa.1 hr1.ob
  have hGC : GC X1 Y1 L S 0 sn cn D := by
    have eI := ctI_e (f := fun a => isC a && !(Nat.beq a 4) && !(Nat.beq a 3) && !(Nat.beq a 31)) (J := X) (J' := X1) (fun q k hq => by
      exact c1 q k (fun g => by rw [g.1] at hq; exact absurd hq (by decide)) (fun g => by rw [g.1] at hq; exact absurd hq (by decide)) (fun g => by rw [g] at hq; exact absurd hq (by decide)))
    have eO := ctO_e (f := fun a => isC a && !(Nat.beq a 1)) (J := Y) (J' := Y1) (fun q k hq => by
      exact o1 q k (fun g => by rw [g.1] at hq; exact absurd hq (by decide)))
    refine ⟨?_, ?_, ?_, ⟨(o1 _ _ (by simp)).trans hc.H.1, (o1 _ _ (by simp)).trans hc.H.2.1, by rw [v32]; decide, by rw [v32]; decide, fun k hk => by rw [v32, j0I] at hk; omega⟩, ?_, ?_, ⟨by rw [v32]; decide, by rw [v32]; decide, fun k hk => by rw [v32, j0I] at hk; omega, fun k i hk => by rw [v32, j0I] at hk; omega, fun i hi => by rw [v31 i hi]; exact ⟨by decide, by rw [v32]; decide⟩⟩, hc.s0, ?_, ?_, ?_, ?_, (c1 _ _ (by simp) (by simp) (by simp)).trans hc.cs, hc.c4, hc.cf, ?_, ?_, by rw [v44]; rfl, Nat.zero_le _, hc.sn8, ?_, ?_, fun t ht => absurd ht (Nat.not_lt_zero t)⟩
    · have w : jw_J (ctO (fun a => isC a && !(Nat.beq a 1)) Y) := hc.jJ
      rw [← eO] at w; exact w
    · have w : jw_M (ctO (fun a => isC a && !(Nat.beq a 1)) Y) := hc.M
      rw [← eO] at w; exact w
    · have w : jw_G (ctO (fun a => isC a && !(Nat.beq a 1)) Y) := hc.G
      rw [← eO] at w; exact w
    · refine ⟨(o1 _ _ (by simp)).trans hc.A.1, ?_, ?_, ?_⟩
      · rw [c1 _ _ (by simp) (by simp) (by simp)]; exact hc.A.2.1
      · rw [c1 _ _ (by simp) (by simp) (by simp)]; exact hc.A.2.2.1
      · rw [c1 _ _ (by simp) (by simp) (by simp)]
        have w : ∀ k : Nat, (k : Int) < (X (1, 0, 0) 1).toInt → (ctO (fun a => isC a && !(Nat.beq a 1)) Y) (24, 0, 0) k = some (6, k, 0) ∧ jw_C (ctO (fun a => isC a && !(Nat.beq a 1)) Y) k ∧ jw_n (ctI (fun a => isC a && !(Nat.beq a 4) && !(Nat.beq a 3) && !(Nat.beq a 31)) X) k ∧ jw_r (ctI (fun a => isC a && !(Nat.beq a 4) && !(Nat.beq a 3) && !(Nat.beq a 31)) X) (ctO (fun a => isC a && !(Nat.beq a 1)) Y) k ∧ (ctI (fun a => isC a && !(Nat.beq a 4) && !(Nat.beq a 3) && !(Nat.beq a 31)) X) (6, k, 0) 0 = Int32.ofNat k ∧ 0 ≤ (ctI (fun a => isC a && !(Nat.beq a 4) && !(Nat.beq a 3) && !(Nat.beq a 31)) X) (6, k, 0) 1 ∧ (ctI (fun a => isC a && !(Nat.beq a 4) && !(Nat.beq a 3) && !(Nat.beq a 31)) X) (6, k, 0) 1 ≤ 8 := hc.A.2.2.2
        rw [← eO, ← eI] at w; exact w
    · have w : CO (bk (ctI (fun a => isC a && !(Nat.beq a 4) && !(Nat.beq a 3) && !(Nat.beq a 31)) X)) := hc.C
      rw [← eI] at w; exact w
    · have w : ThOK (ctO (fun a => isC a && !(Nat.beq a 1)) Y) L := hc.th
      rw [← eO] at w; exact w
    · have w : ∀ c : Nat, (c : Int) < (bk (ctI (fun a => isC a && !(Nat.beq a 4) && !(Nat.beq a 3) && !(Nat.beq a 31)) X)).cn.toInt → 0 ≤ (bk (ctI (fun a => isC a && !(Nat.beq a 4) && !(Nat.beq a 3) && !(Nat.beq a 31)) X)).res c := hc.rs
      rw [← eI] at w; exact w
    · intro c i h1 h2
      rw [c1 _ _ (by simp) (by simp) (by simp)] at h2 ⊢
      exact hc.lk c i h1 h2
    · intro c r h1 h2
      rw [c1 _ _ (by simp) (by simp) (by simp)] at h2 ⊢
      exact hc.ra c r h1 h2
    · intro c r k h1
      rw [c1 _ _ (by simp) (by simp) (by simp)]
      exact hc.rz c r k h1
    · intro c r h1 h2
      rw [c1 _ _ (by simp) (by simp) (by simp)] at h2
      exact hc.rf c r h1 h2
    · have w : ∀ t, t < sn → St (ctO (fun a => isC a && !(Nat.beq a 1)) Y) t ∧ (ctI (fun a => isC a && !(Nat.beq a 4) && !(Nat.beq a 3) && !(Nat.beq a 31)) X) (9, t, 0) 0 = Int32.ofNat t := hc.st
      rw [← eO, ← eI] at w; exact w
    · intro t ht
      rw [o1 _ _ (by simp)]
      exact hc.sf t ht
  have hcap1 : lcap Y1 2 = lcap Y 2 := by unfold lcap; rw [oR _ _ rfl]
  have hle1 := hr1.ob.le
  have hcp1 := hr1.ob.cp
  generalize hX2 : jc_zr (jc_up (jc_up (jc_up X1 (10, 0, 0) 3 0) (15, 2, 0) 2 (X1 (15, 2, 0) 2 + 1)) (15, 2, 0) 1 0) (50, 0, 0) 4 0 = X2 at h2
  generalize hY2 : jc_up (jc_zr Y1 (60, 2, lcap Y1 2) n none) (10, 0, 0) 1 none = Y2 at h2
  have c2 : ∀ q k, ¬ (q = (10, 0, 0) ∧ k = 3) → q ≠ (15, 2, 0) → q ≠ (50, 0, 0) → X2 q k = X1 q k := fun q k g1 g2 g3 => by
    rw [← hX2]
    have a1 : ∀ Z : jc_I, jc_zr Z (50, 0, 0) 4 0 q k = Z q k := fun Z => if_neg (fun w => g3 w.1)
    have a3 : jc_up X1 (10, 0, 0) 3 0 q k = X1 q k := if_neg g1
    rw [a1, jc_up_q _ _ _ _ _ _ g2, jc_up_q _ _ _ _ _ _ g2, a3]
  have o2 : ∀ q k, ¬ (q = (10, 0, 0) ∧ k = 1) → (∀ c, q ≠ (60, 2, c)) → Y2 q k = Y1 q k := fun q k g1 g2 => by
    rw [← hY2]
    have a1 : ∀ Z : jc_O, jc_up Z (10, 0, 0) 1 none q k = Z q k := fun Z => if_neg g1
    have a2 : jc_zr Y1 (60, 2, lcap Y1 2) n none q k = Y1 q k := if_neg (fun w => g2 _ w.1)
    rw [a1, a2]
  have cC : ∀ q k, isC q.1 = true → X2 q k = X1 q k := fun q k hq => by
    have := isC_s hq
    exact c2 q k (fun g => by rw [g.1] at this; simp at this) (fun g => by rw [g] at this; simp at this) (fun g => by rw [g] at this; simp at this)
  have oC : ∀ q k, isC q.1 = true → Y2 q k = Y1 q k := fun q k hq => by
    have := isC_s hq
    exact o2 q k (fun g => by rw [g.1] at this; simp at this) (fun c g => by rw [g] at this; simp at this)
  have v152 : X2 (15, 2, 0) 1 = 0 := by
    rw [← hX2]
    unfold jc_zr
    rw [if_neg (by simp), jc_up_s]
  have v103 : X2 (10, 0, 0) 3 = 0 := by
    rw [← hX2]
    unfold jc_zr
    rw [if_neg (by simp), jc_up_t _ _ _ _ _ _ _ _ (by decide), jc_up_t _ _ _ _ _ _ _ _ (by decide), jc_up_s]
  have hcap2 : ∀ y, lcap Y2 y = lcap Y1 y := fun y => by unfold lcap; rw [o2 _ _ (by simp) (by simp)]
  have hl : ∀ y, y ≠ 2 → ∀ {m : Nat} {f : Nat → jc_L}, ql X1 Y1 L y m f → ql X2 Y2 L y m f := fun y hy m f g => g.to (c2 _ _ (by simp) (by simp [hy]) (by simp)) (o2 _ _ (by simp) (by simp)) (fun c k => o2 _ _ (by simp) (fun c9 w => hy (congrArg (fun q : jc_L => q.2.1) w))) (fun _ g => g)
  have hM2 : qM Y2 := ⟨(o2 _ _ (by simp) (by simp)).trans hr1.qa.1.1, (o2 _ _ (by simp) (by simp)).trans hr1.qa.1.2.1, (o2 _ _ (by simp) (by simp)).trans hr1.qa.1.2.2.1, (o2 _ _ (by simp) (by simp)).trans hr1.qa.1.2.2.2.1, (o2 _ _ (by simp) (by simp)).trans hr1.qa.1.2.2.2.2⟩
  have hGR : GR X2 Y2 L (b + n) 0 0 sn cn zc D fn := by
    refine ⟨⟨hM2, hl 0 (by decide) hr1.qa.2.1, fun d hd => ?_⟩, ⟨hM2.2.2.2.2, ?_⟩, ⟨by rw [v152]; rfl, Nat.zero_le _, by rw [hcap2]; exact hcp1, by rw [hcap2, o2 _ _ (by simp) (by simp)]; exact hr1.ob.ar, fun k hk => absurd hk (Nat.not_lt_zero k), by rw [hcap2]; exact hr1.ob.fr, fun k hk => absurd hk (Nat.not_lt_zero k)⟩, hl 1 (by decide) hr1.th, fun k hk => absurd hk (Nat.not_lt_zero k), hr1.o2, (c2 _ _ (by simp) (by simp) (by simp)).trans hr1.mk, hr1.mb, Nat.zero_le _, by rw [v103]; rfl, fun t ht => ?_, hr1.ff, fun t i k hi => ?_, hr1.f0, hr1.tf, hr1.cf, hr1.mt⟩
    · obtain ⟨w1, w2, w3⟩ := hr1.qa.2.2 d hd
      refine ⟨?_, ?_, by rw [c2 _ _ (by simp) (by simp) (by simp)]; exact w3⟩
      · unfold qc at *
        rw [o2 _ _ (by simp) (by simp), o2 _ _ (by simp) (by simp), o2 _ _ (by simp) (by simp), o2 _ _ (by simp) (by simp), o2 _ _ (by simp) (by simp), o2 _ _ (by simp) (by simp), o2 _ _ (by simp) (by simp)]
        exact w1
      · unfold qn at *
        rw [c2 _ _ (by simp) (by simp) (by simp), c2 _ _ (by simp) (by simp) (by simp), c2 _ _ (by simp) (by simp) (by simp)]
        exact w2
    · rw [c2 _ _ (by simp) (by simp) (by simp)]
      exact hr1.k.2
    · obtain ⟨t1, t2, t3, t4, t5, t6, t7⟩ := hr1.ts t ht
      refine ⟨(o2 _ _ (by simp) (by simp)).trans t1, hl _ (by omega) t2, (c2 _ _ (by simp) (by simp) (by simp)).trans t3, t4, t5, fun i hi => ?_, by rw [hcap2]; exact t7⟩
      unfold qf
      rw [o2 _ _ (by simp) (by simp), o2 _ _ (by simp) (by simp)]
      exact t6 i hi
    · rw [c2 _ _ (by simp) (by simp) (by simp), c2 _ _ (by simp) (by simp) (by simp), c2 _ _ (by simp) (by simp) (by simp)]
      exact hr1.fz t i k hi
  have hGX : GX X1 Y1 X2 Y2 0 cn (b + n) 0 D := by
    refine ⟨fun x => ?_, by rw [v32]; rfl, fun t ht => absurd ht (Nat.not_lt_zero t), fun t ht => absurd ht (Nat.not_lt_zero t), Or.inl ⟨by rw [← hY1, jc_up_s], by rw [← hY2, jc_up_s]⟩⟩
    have s0 := (hx1.sm x).zero (b' := b + n)
    have s1 := ((((s0.up (q := (4, 0, 0)) (k := 4) (v := 0) rfl).upR (q := (15, 2, 0)) (k := 2) (v := X1 (15, 2, 0) 2 + 1) rfl).up (q := (3, 0, 0)) (k := 2) (v := 0) rfl)).zr (q := (31, 0, 0)) (q' := (50, 0, 0)) (m := 4) (v := 0) (fun k => rfl)
    rw [hX1, hX2] at s1
    exact s1
  exact ⟨X1, Y1, X2, Y2, h1, h2, ⟨b + n, 0, 0, sn, cn, zc, D, fn, e, hGC.to cC oC (fun _ _ => Iff.rfl), hGR, hGX.to cC oC (fun _ _ _ => rfl) (fun _ _ _ => rfl)⟩, (hcap2 2).trans hcap1, fun k j => c1 _ _ (by simp) (by simp) (by simp), fun k j => (c2 _ _ (by simp) (by simp) (by simp)).trans (c1 _ _ (by simp) (by simp) (by simp))⟩
