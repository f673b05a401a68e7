def isC3 (a : Nat) : Bool := Nat.blt a 5 || (Nat.ble 7 a && Nat.ble a 9) || (Nat.ble 24 a && Nat.ble a 35)
def isR5 (a : Nat) : Bool := Nat.beq a 10 || (Nat.ble 12 a && Nat.ble a 15) || (Nat.ble 47 a && Nat.ble a 60)
theorem isC3_s {a : Nat} (h : isC3 a = true) : isC a = true ∧ a ≠ 5 ∧ a ≠ 6 ∧ a ≠ 20 ∧ a ≠ 21 ∧ a ≠ 22 ∧ a ≠ 23 := by
  simp only [isC3, isC, Bool.or_eq_true, Bool.and_eq_true, Nat.ble_eq, Nat.blt_eq] at h ⊢
  omega
theorem isR5_s {a : Nat} (h : isR5 a = true) : isR a = true ∧ a ≠ 11 ∧ ¬ (40 ≤ a ∧ a ≤ 46) := by
  simp only [isR5, isR, Bool.or_eq_true, Bool.and_eq_true, Nat.ble_eq, Nat.beq_eq] at h ⊢
  omega
/-- a code that is open grows: the first side -/
theorem GC.upd {J J' : jc_I} {O O' : jc_O} {live live' : jc_L → Prop} {S : Int} {sn cn c : Nat} {D : Nat → Nat} (h : GC J O live S 0 sn cn D) (hc : c < cn) (e : ∀ q k, isC q.1 = true → ¬ (q.2.1 = c ∧ (q.1 = 6 ∨ q.1 = 20 ∨ q.1 = 21 ∨ q.1 = 22 ∨ q.1 = 5)) → J' q k = J q k) (e6 : ∀ k, k ≠ 7 → k ≠ 8 → k ≠ 9 → J' (6, c, 0) k = J (6, c, 0) k) (eo : ∀ q k, isC q.1 = true → q.1 ≠ 5 → q ≠ (23, c, 0) → O' q k = O q k) (el : ∀ q, isC q.1 = true → ¬ (q.1 = 5 ∧ q.2.1 = c) → (live' q ↔ live q)) (n1 : jw_n J' c) (r1 : jw_r J' O' c) (ins : ∀ i, i < (J' (6, c, 0) 8).toNatClampNeg → insOK (J' (21, c, 0) i) (J' (22, c, 0) i)) (lk : ∀ i, i < (J' (6, c, 0) 7).toNatClampNeg → J' (20, c, 0) i = 1 ∨ J' (20, c, 0) i = 2) (ra : ∀ r, r < (J' (6, c, 0) 9).toNatClampNeg → 0 ≤ J' (5, c, r) 2) (rf : ∀ r, (J' (6, c, 0) 9).toNatClampNeg ≤ r → ¬ live' (5, c, r)) : GC J' O' live' S 0 sn cn D := by
  have e3 := ctI_e (f := isC3) (J := J) (J' := J') (fun q k hq => by obtain ⟨a, b⟩ := isC3_s hq; exact e q k a (by omega))
  have eo3 := ctO_e (f := isC3) (J := O) (J' := O') (fun q k hq => by obtain ⟨a, b⟩ := isC3_s hq; exact eo q k a (by omega) (fun g => by rw [g] at b; simp at b))
  have el3 := ctL_e (f := isC3) (l := live) (l' := live') (fun q hq => by obtain ⟨a, b⟩ := isC3_s hq; exact el q a (by omega))
  have ecn : (bk J').cn = (bk J).cn := e (1, 0, 0) 1 rfl (by simp)
  have e6d : ∀ d k, k ≠ 7 → k ≠ 8 → k ≠ 9 → J' (6, d, 0) k = J (6, d, 0) k := fun d k h7 h8 h9 => by
    by_cases g : d = c
    · subst g; exact e6 k h7 h8 h9
    · exact e _ _ rfl (fun w => g w.1)
  have ed : ∀ a d v k, isC a = true → d ≠ c → J' (a, d, v) k = J (a, d, v) k := fun a d v k ha hd => e _ _ ha (fun w => hd w.1)
  have hA : ∀ k : Nat, (k : Int) < (bk J').cn.toInt → jw_n J' k := fun k hk => by
    by_cases g : k = c
    · subst g; exact n1
    · have := (h.A.2.2.2 k (by rw [ecn] at hk; exact hk)).2.2.1
      unfold jw_n at *
      rw [ed _ _ _ _ rfl g, ed _ _ _ _ rfl g, ed _ _ _ _ rfl g]
      exact this
  refine ⟨?_, ?_, ?_, ?_, ⟨(eo _ _ rfl (by simp) (by simp)).trans h.A.1, by rw [show J' (1, 0, 0) 1 = J (1, 0, 0) 1 from ecn]; exact h.A.2.1, by rw [show J' (1, 0, 0) 1 = J (1, 0, 0) 1 from ecn]; exact h.A.2.2.1, fun k hk => ?_⟩, ⟨by rw [ecn]; exact h.C.n0, by rw [ecn]; exact h.C.n1, fun k hk => ⟨(hA k hk).1, (hA k hk).2.1⟩, fun k hk => ⟨(hA k hk).2.2.1, (hA k hk).2.2.2.1⟩, fun k hk => ⟨(hA k hk).2.2.2.2.1, (hA k hk).2.2.2.2.2⟩, fun k hk => ?_, fun k i hk hi => ?_⟩, ?_, h.s0, ?_, fun k hk => ?_, fun k i hk hi => ?_, fun k r hk hr => ?_, (e _ _ rfl (by simp)).trans h.cs, h.c4, fun k hk => ?_, fun k r i hk => ?_, fun k r hk hr => ?_, (e _ _ rfl (by simp)).trans h.tc1, h.tcn, h.sn8, ?_, ?_, fun t ht => absurd ht (Nat.not_lt_zero t)⟩
  · have w : jw_J (ctO isC3 O) := h.jJ
    rw [← eo3] at w; exact w
  · have w : jw_M (ctO isC3 O) := h.M
    rw [← eo3] at w; exact w
  · have w : jw_G (ctO isC3 O) := h.G
    rw [← eo3] at w; exact w
  · have w : jw_H (ctI isC3 J) (ctO isC3 O) := h.H
    rw [← eo3, ← e3] at w; exact w
  · have w := h.A.2.2.2 k (by rw [show J' (1, 0, 0) 1 = J (1, 0, 0) 1 from ecn] at hk; exact hk)
    refine ⟨(eo _ _ rfl (by simp) (by simp)).trans w.1, ?_, hA k hk, ?_, (e6d k 0 (by decide) (by decide) (by decide)).trans w.2.2.2.2.1, ?_⟩
    · have w2 := w.2.1
      unfold jw_C at *
      rw [eo _ _ rfl (by simp) (by simp), eo _ _ rfl (by simp) (by simp), eo _ _ rfl (by simp) (by simp), eo _ _ rfl (by simp) (by simp)]
      exact w2
    · by_cases g : k = c
      · subst g; exact r1
      · intro r hr
        rw [ed _ _ _ _ rfl g] at hr
        rw [eo _ _ rfl (by simp) (by simp [g])]
        exact w.2.2.2.1 r hr
    · rw [e6d k 1 (by decide) (by decide) (by decide)]
      exact w.2.2.2.2.2
  · show 0 ≤ J' (6, k, 0) 1 ∧ J' (6, k, 0) 1 ≤ 8
    rw [e6d k 1 (by decide) (by decide) (by decide)]
    exact h.C.par k (by rw [ecn] at hk; exact hk)
  · by_cases g : k = c
    · subst g; exact ins i hi
    · have hi : i < (J' (6, k, 0) 8).toNatClampNeg := hi
      show insOK (J' (21, k, 0) i) (J' (22, k, 0) i)
      rw [ed _ _ _ _ rfl g] at hi
      rw [ed _ _ _ _ rfl g, ed _ _ _ _ rfl g]
      exact h.C.ins k i (by rw [ecn] at hk; exact hk) hi
  · have w : HO (ctI isC3 J) S := h.ho
    rw [← e3] at w; exact w
  · have w : ThOK (ctO isC3 O) (ctL isC3 live) := h.th
    rw [← eo3, ← el3] at w; exact w
  · show 0 ≤ J' (6, k, 0) 2
    rw [e6d k 2 (by decide) (by decide) (by decide)]
    exact h.rs k (by rw [ecn] at hk; exact hk)
  · by_cases g : k = c
    · subst g; exact lk i hi
    · rw [ed _ _ _ _ rfl g] at hi ⊢
      exact h.lk k i hk hi
  · by_cases g : k = c
    · subst g; exact ra r hr
    · rw [ed _ _ _ _ rfl g] at hr ⊢
      exact h.ra k r hk hr
  · obtain ⟨g1, g2, g3, g4, g5⟩ := h.cf k hk
    exact ⟨fun w => g1 ((el _ rfl (by simp)).mp w), fun w => g2 ((el _ rfl (by simp)).mp w), fun w => g3 ((el _ rfl (by simp)).mp w), fun w => g4 ((el _ rfl (by simp)).mp w), fun w => g5 ((el _ rfl (by simp)).mp w)⟩
  · have g : k ≠ c := by omega
    exact ⟨(ed _ _ _ _ rfl g).trans (h.rz k r i hk).1, fun w => (h.rz k r i hk).2 ((el _ rfl (by simp [g])).mp w)⟩
  · by_cases g : k = c
    · subst g; exact rf r hr
    · rw [ed _ _ _ _ rfl g] at hr
      exact fun w => h.rf k r hk hr ((el _ rfl (by simp [g])).mp w)
  · have w : ∀ t, t < sn → St (ctO isC3 O) t ∧ (ctI isC3 J) (9, t, 0) 0 = Int32.ofNat t := h.st
    rw [← eo3, ← e3] at w; exact w
  · have w : ∀ t, sn ≤ t → (ctO isC3 O) (35, 0, 0) t = none ∧ ¬ (ctL isC3 live) (9, t, 0) ∧ ¬ (ctL isC3 live) (34, t, 0) ∧ ∀ j, ¬ (ctL isC3 live) (8, t, j) ∧ ¬ (ctL isC3 live) (32, t, j) ∧ ¬ (ctL isC3 live) (33, t, j) := h.sf
    rw [← eo3, ← el3] at w; exact w
/-- the same, the second side -/
theorem GR.upd {I I' : jc_I} {P : jc_O} {lv : jc_L → Prop} {b n tc sn cn zc c : Nat} {D fn : Nat → Nat} (h : GR I P lv b n tc sn cn zc D fn) (e : ∀ q k, isR q.1 = true → ¬ (q.2.1 = c ∧ (q.1 = 11 ∨ (40 ≤ q.1 ∧ q.1 ≤ 46))) → I' q k = I q k) (e11 : I' (11, c, 0) 0 = I (11, c, 0) 0) (hn : qn I' c) : GR I' P lv b n tc sn cn zc D fn := by
  have e3 := ctI_e (f := isR5) (J := I) (J' := I') (fun q k hq => by obtain ⟨a, b⟩ := isR5_s hq; exact e q k a (by omega))
  refine ⟨⟨h.qa.1, ?_, fun d hd => ?_⟩, ?_, ?_, ?_, h.of, h.o2, (e _ _ rfl (by simp)).trans h.mk, h.mb, h.n3, (e _ _ rfl (by simp)).trans h.tc1, ?_, h.ff, ?_, h.f0, h.tf, h.cf, h.mt⟩
  · have w : ql (ctI isR5 I) P lv 0 cn qCo := h.qa.2.1
    rw [← e3] at w; exact w
  · obtain ⟨w1, w2, w3⟩ := h.qa.2.2 d hd
    by_cases g : d = c
    · subst g; exact ⟨w1, hn, by rw [e11]; exact w3⟩
    · refine ⟨w1, ?_, by rw [e _ _ rfl (by simp [g])]; exact w3⟩
      unfold qn at *
      rw [e _ _ rfl (by simp [g]), e _ _ rfl (by simp [g]), e _ _ rfl (by simp [g])]
      exact w2
  · have w : qk (ctI isR5 I) P := h.k
    rw [← e3] at w; exact w
  · have w : ql (ctI isR5 I) P lv 2 n (qO b) := h.ob
    rw [← e3] at w; exact w
  · have w : ql (ctI isR5 I) P lv 1 sn qTh := h.th
    rw [← e3] at w; exact w
  · have w : ∀ t, t < sn → P (14, t, 0) 1 = some (15, 10 + t, 0) ∧ ql (ctI isR5 I) P lv (10 + t) (fn t) (qFr t) ∧ (ctI isR5 I) (14, t, 0) 2 = Int32.ofNat (D t) ∧ D t ≤ fn t ∧ fn t ≤ 30 ∧ (∀ i, i < fn t → qf P t i) ∧ lcap P (10 + t) ≤ 70 := h.ts
    rw [← e3] at w; exact w
  · have w : ∀ t i k, fn t ≤ i → (ctI isR5 I) (12, t, i) k = 0 ∧ (ctI isR5 I) (48, t, i) k = 0 ∧ (ctI isR5 I) (49, t, i) k = 0 := h.fz
    rw [← e3] at w; exact w
/-- a number that grows by one stays below its bound -/
theorem grow {v : Int32} {m : Nat} (h0 : 0 ≤ v) (h1 : ¬ Int32.ofNat m ≤ v) (hm : m < 1000) : ∃ k : Nat, v = Int32.ofNat k ∧ k < m ∧ v.toNatClampNeg = k ∧ (v + 1).toNatClampNeg = k + 1 ∧ v + 1 = Int32.ofNat (k + 1) ∧ 0 ≤ v + 1 ∧ v + 1 ≤ Int32.ofNat m := by
  have e := jNI h0
  rw [jle, jofI (by omega)] at h1
  have ev : v = Int32.ofNat v.toNatClampNeg := by
    apply Int32.toInt_inj.mp
    rw [jofI (by omega), e]
  have e1 : v + 1 = Int32.ofNat (v.toNatClampNeg + 1) := by
    conv => lhs; rw [ev]
    exact jof1 (by omega)
  refine ⟨v.toNatClampNeg, ev, by omega, rfl, ?_, e1, ?_, ?_⟩
  · rw [e1, jofN (by omega)]
  · rw [e1, jle, jofI (by omega), j0I]; omega
  · rw [e1, jle, jofI (by omega), jofI (by omega)]; omega
theorem st_local {X : jc_I} {Y : jc_O} {L : jc_L → Prop} {S : Int} {N : Nat} {x : Int32} (g : GS X Y L S N) : ST y_J_local y_m_local [.inl x] X Y L S N := by
  obtain ⟨b, n, tc, sn, cn, zc, D, fn, e, hc, hr, hx⟩ := id g
  rcases hx.op with ⟨o1, o2⟩ | ⟨ht0, c, hcc, o1, o2⟩
  · exact ST.same g (ct_J_local_n hc.jJ o1) (ct_m_local_n o2)
  · subst ht0
    have hin := hc.in' hcc
    have hA := hc.A.2.2.2 c hin
    obtain ⟨n1, n2, n3, n4, n5, n6⟩ := hA.2.2.1
    have w := hr.qa.2.2 c hcc
    have e7 : X (6, c, 0) 7 = X (11, c, 0) 3 := hx.sm 0 (6, c, 0) 7 _ rfl
    have h1 := ct_J_local_y (live := L) (x := x) hc.jJ o1 hA.2.1.1 n1
    by_cases hk : 1 ≤ x ∧ x ≤ 2
    · by_cases hf : 8 ≤ X (6, c, 0) 7
      · have h2 := ct_m_local_y (live := L) (x := x) o2 w.1 w.2.1
        rw [if_pos hk, if_pos hf, if_pos hk, if_pos hf] at h1
        rw [← e7, if_pos hk, if_pos hf, if_pos hk, if_pos hf] at h2
        exact ST.same g h1 h2
      · rw [if_pos hk, if_neg hf, if_pos hk, if_neg hf] at h1
        obtain ⟨k, k1, k2, k3, k4, k5, k6, k7⟩ := grow (m := 8) n1 hf (by omega)
        rw [k3] at h1
        have c1 : ∀ q i, isR q.1 = true → jc_up (jc_up X (20, c, 0) k x) (6, c, 0) 7 (X (6, c, 0) 7 + 1) q i = X q i := fun q i hq => by
          have := isR_s hq
          rw [jc_up_q _ _ _ _ _ _ (fun g => by rw [g] at this; simp at this), jc_up_q _ _ _ _ _ _ (fun g => by rw [g] at this; simp at this)]
        have hr1 := hr.to c1 (fun _ _ _ => rfl) (fun _ _ => Iff.rfl)
        have hx1 := hx.to (J' := X) (O' := Y) (fun _ _ _ => rfl) (fun _ _ _ => rfl) c1 (fun _ _ _ => rfl)
        have w1 := hr1.qa.2.2 c hcc
        have h2 := ct_m_local_y (live := L) (x := x) o2 w1.1 w1.2.1
        rw [c1 _ _ rfl, ← e7, if_pos hk, if_neg hf, if_pos hk, if_neg hf, k3] at h2
        have hx2 : 1 ≤ x ∧ x ≤ 2 := hk
        have hx12 : x = 1 ∨ x = 2 := by clear h1 h2 hc hr hx hr1 hx1 w w1 g hA; grind
        have hGC : GC (jc_up (jc_up X (20, c, 0) k x) (6, c, 0) 7 (X (6, c, 0) 7 + 1)) Y L S 0 sn cn D := by
          have e6 : ∀ i, i ≠ 7 → jc_up (jc_up X (20, c, 0) k x) (6, c, 0) 7 (X (6, c, 0) 7 + 1) (6, c, 0) i = X (6, c, 0) i := fun i hi => by rw [jc_up_k _ _ _ _ _ _ hi, jc_up_t _ _ _ _ _ _ _ _ (by decide)]
          have ea : ∀ a u i, a ≠ 6 → a ≠ 20 → jc_up (jc_up X (20, c, 0) k x) (6, c, 0) 7 (X (6, c, 0) 7 + 1) (a, u) i = X (a, u) i := fun a u i h6 h20 => by rw [jc_up_t _ _ _ _ _ _ _ _ h6, jc_up_t _ _ _ _ _ _ _ _ h20]
          refine hc.upd hcc (fun q i hq hne => ?_) (fun i h7 _ _ => e6 i h7) (fun _ _ _ _ _ => rfl) (fun _ _ _ => Iff.rfl) ?_ ?_ ?_ ?_ ?_ ?_
          · rw [jc_up_q _ _ _ _ _ _ (fun g => hne (by rw [g]; simp)), jc_up_q _ _ _ _ _ _ (fun g => hne (by rw [g]; simp))]
          · unfold jw_n
            rw [jc_up_s, e6 8 (by decide), e6 9 (by decide)]
            exact ⟨k6, k7, n3, n4, n5, n6⟩
          · intro r hr9
            rw [e6 9 (by decide)] at hr9
            exact hA.2.2.2.1 r hr9
          · intro i hi
            rw [e6 8 (by decide)] at hi
            rw [ea 21 _ _ (by decide) (by decide), ea 22 _ _ (by decide) (by decide)]
            exact hc.C.ins c i hin hi
          · intro i hi
            rw [jc_up_s, k4] at hi
            rw [jc_up_t _ _ _ _ _ _ _ _ (by decide)]
            by_cases g9 : i = k
            · subst g9; rw [jc_up_s]; exact hx12
            · rw [jc_up_k _ _ _ _ _ _ g9]
              exact hc.lk c i hcc (by rw [k3]; omega)
          · intro r hr9
            rw [e6 9 (by decide)] at hr9
            rw [ea 5 _ _ (by decide) (by decide)]
            exact hc.ra c r hcc hr9
          · intro r hr9
            rw [e6 9 (by decide)] at hr9
            exact hc.rf c r hcc hr9
        generalize hX1 : jc_up (jc_up X (20, c, 0) k x) (6, c, 0) 7 (X (6, c, 0) 7 + 1) = X1 at *
        have cC : ∀ q i, isC q.1 = true → jc_up (jc_up X1 (40, c, 0) k x) (11, c, 0) 3 (X (6, c, 0) 7 + 1) q i = X1 q i := fun q i hq => by
          have := isC_s hq
          rw [jc_up_q _ _ _ _ _ _ (fun g => by rw [g] at this; simp at this), jc_up_q _ _ _ _ _ _ (fun g => by rw [g] at this; simp at this)]
        have hGR : GR (jc_up (jc_up X1 (40, c, 0) k x) (11, c, 0) 3 (X (6, c, 0) 7 + 1)) Y L b n 0 sn cn zc D fn := by
          refine hr1.upd (c := c) (fun q i hq hne => ?_) ?_ ?_
          · rw [jc_up_q _ _ _ _ _ _ (fun g => hne (by rw [g]; simp)), jc_up_q _ _ _ _ _ _ (fun g => hne (by rw [g]; simp))]
          · rw [jc_up_k _ _ _ _ _ _ (by decide), jc_up_t _ _ _ _ _ _ _ _ (by decide)]
          · have := w1.2.1
            unfold qn at *
            have e11 : ∀ i, i ≠ 3 → jc_up (jc_up X1 (40, c, 0) k x) (11, c, 0) 3 (X (6, c, 0) 7 + 1) (11, c, 0) i = X1 (11, c, 0) i := fun i hi => by rw [jc_up_k _ _ _ _ _ _ hi, jc_up_t _ _ _ _ _ _ _ _ (by decide)]
            rw [jc_up_s, e11 6 (by decide), e11 11 (by decide)]
            exact ⟨k6, k7, this.2.2⟩
        have hGX : GX X1 Y (jc_up (jc_up X1 (40, c, 0) k x) (11, c, 0) 3 (X (6, c, 0) 7 + 1)) Y 0 cn b n D := by
          refine ⟨fun z => ?_, ?_, fun t ht => absurd ht (Nat.not_lt_zero t), fun t ht => absurd ht (Nat.not_lt_zero t), Or.inr ⟨rfl, c, hcc, o1, o2⟩⟩
          · have s1 := ((hx1.sm z).up (q := (20, c, 0)) (k := k) (v := x) rfl).up (q := (6, c, 0)) (k := 7) (v := X (6, c, 0) 7 + 1) rfl
            rw [hX1] at s1
            exact s1
          · rw [← hX1, jc_up_t _ _ _ _ _ _ _ _ (by decide), jc_up_t _ _ _ _ _ _ _ _ (by decide)]; exact hx.cn
        refine ⟨_, _, _, _, _, _, _, _, _, _, _, N, h1, fun _ h => h, h2, fun _ h => h, ⟨b, n, 0, sn, cn, zc, D, fn, e, (hGC.to cC (fun _ _ _ => rfl) (fun _ _ => Iff.rfl)).mono (by omega), hGR, hGX.to cC (fun _ _ _ => rfl) (fun _ _ _ => rfl) (fun _ _ _ => rfl)⟩, by omega, by omega, fun i j => ?_, fun i j => ?_⟩
        · rw [← hX1, jc_up_t _ _ _ _ _ _ _ _ (by decide), jc_up_t _ _ _ _ _ _ _ _ (by decide)]
        · rw [jc_up_t _ _ _ _ _ _ _ _ (by decide), jc_up_t _ _ _ _ _ _ _ _ (by decide), ← hX1, jc_up_t _ _ _ _ _ _ _ _ (by decide), jc_up_t _ _ _ _ _ _ _ _ (by decide)]
    · have h2 := ct_m_local_y (live := L) (x := x) o2 w.1 w.2.1
      rw [if_neg hk, if_neg hk] at h1
      rw [if_neg hk, if_neg hk] at h2
      exact ST.same g h1 h2
