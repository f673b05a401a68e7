theorem RX.push {I I2 : jc_I} {P : jc_O} {lv : jc_L → Prop} {t b n xt fn n0 c9 j d : Nat} {a : Int32} (h : RX I P lv t b n xt fn n0 c9) (hn : n0 < 30) (hj : j ≤ n0) (hd : d < c9) (hqr : qr I d) (hrc : rc t j n0 xt I I2) (eI : I2 (15, xt, 0) 1 = (q_pu I P lv t xt n0 a (11, d, 0)).1 (15, xt, 0) 1) (eD : I2 (14, t, 0) 2 = (q_pu I P lv t xt n0 a (11, d, 0)).1 (14, t, 0) 2) : RX I2 (q_pu I P lv t xt n0 a (11, d, 0)).2.1 (q_pu I P lv t xt n0 a (11, d, 0)).2.2.1 t b n xt (fnU fn n0) (n0 + 1) c9 := by
  have hPU := h.pu hn
  have hN := q_pu_N (x := a) (c := (11, d, 0)) hPU h.fz
  have hfs := q_pu_fs (x := a) (c := (11, d, 0)) hPU
  have hqf := q_pu_f (x := a) (c := (11, d, 0)) hPU
  have hPe : ∀ q k, q ≠ (12, t, n0) → q ≠ (48, t, n0) → q ≠ (49, t, n0) → q ≠ (15, xt, 0) → (∀ z, q ≠ (60, xt, z)) → (q_pu I P lv t xt n0 a (11, d, 0)).2.1 q k = P q k := fun q k g1 g2 g3 g4 g5 => q_pu_O g1 g2 g3 g4 g5
  have hl : ∀ q, (q_pu I P lv t xt n0 a (11, d, 0)).2.2.1 q → lv q ∨ q = (12, t, n0) ∨ q = (48, t, n0) ∨ q = (49, t, n0) ∨ ∃ z, q = (60, xt, z) := fun q g => q_pu_l g
  generalize (q_pu I P lv t xt n0 a (11, d, 0)) = X at *
  have hx := h.x10
  have hmf := h.qt.mf
  have hf30 := h.f30
  have h60 : ∀ y c z, y ≠ xt → ((60, y, c) : jc_L) ≠ (60, xt, z) := fun y c z hne g => hne (congrArg (fun w : jc_L => w.2.1) g)
  have h15 : ∀ y, y ≠ xt → ((15, y, 0) : jc_L) ≠ (15, xt, 0) := fun y hne g => hne (congrArg (fun w : jc_L => w.2.1) g)
  have eo : ∀ q k, q.1 = 10 ∨ q.1 = 11 ∨ q.1 = 13 ∨ q.1 = 14 → X.2.1 q k = P q k := fun q k hq => hPe q k (fun g => by rw [g] at hq; simp at hq) (fun g => by rw [g] at hq; simp at hq) (fun g => by rw [g] at hq; simp at hq) (fun g => by rw [g] at hq; simp at hq) (fun z g => by rw [g] at hq; simp at hq)
  have ei : ∀ q k, q.1 = 10 ∨ q.1 = 11 ∨ q.1 = 13 ∨ q.1 = 45 → I2 q k = I q k := fun q k hq => hrc q k (fun g => by rw [g] at hq; simp at hq) (fun g => by rw [g] at hq; simp at hq) (fun g => by rw [g] at hq; simp at hq) (fun g => by rw [g.1] at hq; simp at hq) (fun g => by rw [g] at hq; simp at hq) (fun z g => by rw [g] at hq; simp at hq) (fun g => by rw [g.1] at hq; simp at hq)
  have el : ∀ q, q.1 = 13 ∨ q.1 = 47 → X.2.2.1 q → lv q := fun q hq g => by
    rcases hl q g with w | w | w | w | ⟨z, w⟩
    · exact w
    all_goals (rw [w] at hq; simp at hq)
  have eq15 : ∀ y, y ≠ xt → ∀ {m : Nat} {f : Nat → jc_L}, ql I P lv y m f → ql I2 X.2.1 X.2.2.1 y m f := fun y hy m f g => g.to (hrc _ _ (by simp) (by simp) (by simp) (by simp) (h15 y hy) (by simp) (by simp)) (hPe _ _ (by simp) (by simp) (by simp) (h15 y hy) (by simp)) (fun c k => hPe _ _ (by simp) (by simp) (by simp) (by simp) (fun z => h60 y c z hy)) (fun c g => by
    rcases hl _ g with w | w | w | w | ⟨z, w⟩
    · exact w
    · cases w
    · cases w
    · cases w
    · exact absurd w (h60 y c z hy))
  have hfu : (n0 < fn ∧ fnU fn n0 = fn) ∨ (n0 = fn ∧ fnU fn n0 = fn + 1) := by
    unfold fnU
    split
    · exact Or.inl ⟨by assumption, rfl⟩
    · exact Or.inr ⟨by omega, rfl⟩
  have hqc : qc X.2.1 d := by
    have := (h.qa.2.2 d hd).1
    unfold qc at *
    rw [eo _ _ (by simp), eo _ _ (by simp), eo _ _ (by simp), eo _ _ (by simp), eo _ _ (by simp), eo _ _ (by simp), eo _ _ (by simp)]
    exact this
  have hqn : ∀ d, qn I d → qn I2 d := fun d g => by
    unfold qn at *
    rw [ei _ _ (by simp), ei _ _ (by simp), ei _ _ (by simp)]
    exact g
  have hqr2 : qr I2 d := fun r hr => by
    rw [ei _ _ (by simp)] at hr ⊢
    exact hqr r hr
  have hcR : cR X.2.1 t n0 = d := by unfold cR; rw [hqf.2]; rfl
  have hfr : ∀ i, i < fnU fn n0 → qf X.2.1 t i := fun i hi => by
    by_cases e : i = n0
    · subst e; exact hqf.1
    · unfold qf
      rw [hPe _ _ (by simp [e]) (by simp) (by simp) (by simp) (by simp), hPe _ _ (by simp [e]) (by simp) (by simp) (by simp) (by simp)]
      exact h.fr i (by omega)
  refine ⟨⟨h.qt.M.to (fun k => eo _ _ (by simp)), eq15 2 (by omega) h.qt.ob, (eo _ _ (by simp)).trans h.qt.m1, hfs.1.to eI rfl (fun _ _ => rfl) (fun _ g => g), eD.trans hN.2.2.2.2.2, by omega, fun i hi => ?_, by rw [ei _ _ (by simp)]; exact h.qt.md, fun g => h.qt.f1 (el _ (by simp) g), fun g => h.qt.f2 (el _ (by simp) g), h.qt.n3, h.qt.x2⟩, ⟨h.qa.1.to (fun k => eo _ _ (by simp)), eq15 0 (by omega) h.qa.2.1, fun d9 hd9 => ?_⟩, hfr, fun i hi => ?_, fun i k hi => ?_, by omega, fun k hk => (eo _ _ (by simp)).trans (h.of k hk), (ei _ _ (by simp)).trans h.mk, h.mb, fun k hk => ⟨fun g => (h.o2 k hk).1 (el _ (by simp) g), fun g => (h.o2 k hk).2 (el _ (by simp) g)⟩, hx, ?_⟩
  · by_cases e : i = n0
    · subst e
      exact ⟨hqf.1, by rw [hcR]; exact hqf.2, by rw [hcR]; exact hqc, by rw [hcR]; exact hqn d (h.qa.2.2 d hd).2.1, by rw [hcR]; exact hqr2⟩
    · refine (h.qt.F i (by omega)).to2 (fun q k hq => ei q k (by omega)) (fun q k hq => ?_)
      rcases hq with hq | hq
      · exact eo q k (by omega)
      · rw [hq]; exact hPe _ _ (by simp [e]) (by simp) (by simp) (by simp) (by simp)
  · obtain ⟨w1, w2, w3⟩ := h.qa.2.2 d9 hd9
    refine ⟨?_, hqn d9 w2, by rw [ei _ _ (by simp)]; exact w3⟩
    unfold qc at *
    rw [eo _ _ (by simp), eo _ _ (by simp), eo _ _ (by simp), eo _ _ (by simp), eo _ _ (by simp), eo _ _ (by simp), eo _ _ (by simp)]
    exact w1
  · obtain ⟨a1, a2, a3⟩ := h.ff i (by omega)
    have hne : i ≠ n0 := by omega
    refine ⟨fun g => ?_, fun g => ?_, fun g => ?_⟩ <;> rcases hl _ g with w | w | w | w | ⟨z, w⟩ <;> first | exact a1 w | exact a2 w | exact a3 w | (have := congrArg (fun w : jc_L => w.2.2) w; exact hne this) | cases w
  · have hne : i ≠ n0 := by omega
    have hne2 : i ≠ j := by omega
    rw [hrc _ _ (by simp [hne]) (by simp) (by simp) (by simp) (by simp) (by simp) (by simp [hne2]), hrc _ _ (by simp) (by simp [hne]) (by simp) (by simp) (by simp) (by simp) (by simp), hrc _ _ (by simp) (by simp) (by simp [hne]) (by simp) (by simp) (by simp) (by simp)]
    exact h.fz i k (by omega)
  · have := h.c7
    rcases hfs.2.2.2.1 with w | w <;> omega
def isR6 (a : Nat) : Bool := (Nat.ble 11 a && Nat.ble a 15) || (Nat.ble 40 a && Nat.ble a 60)
theorem isR6_s {a : Nat} (h : isR6 a = true) : isR a = true ∧ a ≠ 10 := by
  simp only [isR6, isR, Bool.or_eq_true, Bool.and_eq_true, Nat.ble_eq] at h ⊢
  omega
theorem GR.to10 {I I' : jc_I} {P P' : jc_O} {lv : jc_L → Prop} {b n tc tc' sn cn zc : Nat} {D fn : Nat → Nat} (h : GR I P lv b n tc sn cn zc D fn) (e : ∀ q k, isR q.1 = true → ¬ (q = (10, 0, 0) ∧ k = 3) → I' q k = I q k) (eo : ∀ q k, isR q.1 = true → ¬ (q = (10, 0, 0) ∧ k = 1) → P' q k = P q k) (v : I' (10, 0, 0) 3 = Int32.ofNat tc') : GR I' P' lv b n tc' sn cn zc D fn := by
  have eI := ctI_e (f := isR6) (J := I) (J' := I') (fun q k hq => by obtain ⟨a, b⟩ := isR6_s hq; exact e q k a (fun g => b (by rw [g.1])))
  have eO := ctO_e (f := isR6) (J := P) (J' := P') (fun q k hq => by obtain ⟨a, b⟩ := isR6_s hq; exact eo q k a (fun g => b (by rw [g.1])))
  have hM : qM P' := ⟨(eo _ _ rfl (by simp)).trans h.qa.1.1, (eo _ _ rfl (by simp)).trans h.qa.1.2.1, (eo _ _ rfl (by simp)).trans h.qa.1.2.2.1, (eo _ _ rfl (by simp)).trans h.qa.1.2.2.2.1, (eo _ _ rfl (by simp)).trans h.qa.1.2.2.2.2⟩
  refine ⟨⟨hM, ?_⟩, ⟨hM.2.2.2.2, ?_⟩, ?_, ?_, ?_, h.o2, (e _ _ rfl (by simp)).trans h.mk, h.mb, h.n3, v, ?_, h.ff, ?_, h.f0, h.tf, h.cf, h.mt⟩
  · have w : ql (ctI isR6 I) (ctO isR6 P) lv 0 cn qCo ∧ ∀ d, d < cn → qc (ctO isR6 P) d ∧ qn (ctI isR6 I) d ∧ 0 ≤ (ctI isR6 I) (11, d, 0) 0 ∧ (ctI isR6 I) (11, d, 0) 0 ≤ 8 := h.qa.2
    rw [← eI, ← eO] at w; exact w
  · rw [e _ _ rfl (by simp)]; exact h.k.2
  · have w : ql (ctI isR6 I) (ctO isR6 P) lv 2 n (qO b) := h.ob
    rw [← eI, ← eO] at w; exact w
  · have w : ql (ctI isR6 I) (ctO isR6 P) lv 1 sn qTh := h.th
    rw [← eI, ← eO] at w; exact w
  · have w : ∀ k, k < n → (ctO isR6 P) (13, b + k, 0) 1 = some (47, b + k, 0) := h.of
    rw [← eO] at w; exact w
  · have w : ∀ t, t < sn → (ctO isR6 P) (14, t, 0) 1 = some (15, 10 + t, 0) ∧ ql (ctI isR6 I) (ctO isR6 P) lv (10 + t) (fn t) (qFr t) ∧ (ctI isR6 I) (14, t, 0) 2 = Int32.ofNat (D t) ∧ D t ≤ fn t ∧ fn t ≤ 30 ∧ (∀ i, i < fn t → qf (ctO isR6 P) t i) ∧ lcap (ctO isR6 P) (10 + t) ≤ 70 := h.ts
    rw [← eI, ← eO] at w; exact w
  · have w : ∀ t i k, fn t ≤ i → (ctI isR6 I) (12, t, i) k = 0 ∧ (ctI isR6 I) (48, t, i) k = 0 ∧ (ctI isR6 I) (49, t, i) k = 0 := h.fz
    rw [← eI] at w; exact w
section
variable {I : jc_I} {P : jc_O} {lv : jc_L → Prop} {t xt : Nat} {V : Int32} {q : jc_L} {k : Nat}
theorem t1_e (h : q ≠ (14, t, 0)) (h2 : q ≠ (15, xt, 0)) : q_t1 I t xt V q k = I q k := by
  unfold q_t1
  rw [jc_up_q _ _ _ _ _ _ h, jc_up_q _ _ _ _ _ _ h2]
  unfold jc_cl
  rw [if_neg h2, if_neg h]
theorem t1_14 : q_t1 I t xt V (14, t, 0) 0 = V ∧ (∀ i, i ≠ 0 → q_t1 I t xt V (14, t, 0) i = 0) ∧ q_t1 I t xt V (15, xt, 0) 1 = 0 := by
  unfold q_t1
  refine ⟨jc_up_s _ _ _ _, fun i hi => ?_, ?_⟩
  · rw [jc_up_k _ _ _ _ _ _ hi, jc_up_t _ _ _ _ _ _ _ _ (by decide)]
    unfold jc_cl
    rw [if_neg (by simp), if_pos rfl]
  · rw [jc_up_t _ _ _ _ _ _ _ _ (by decide), jc_up_k _ _ _ _ _ _ (by decide)]
    unfold jc_cl
    rw [if_pos rfl]
theorem t1O_e (h : q ≠ (14, t, 0)) (h2 : q ≠ (15, xt, 0)) : q_t1O P t xt q k = P q k := by
  unfold q_t1O
  rw [jc_up_q _ _ _ _ _ _ h, jc_up_q _ _ _ _ _ _ h2]
  unfold jc_cl
  rw [if_neg h2, if_neg h]
theorem t1O_14 : q_t1O P t xt (14, t, 0) 1 = some (15, xt, 0) ∧ q_t1O P t xt (15, xt, 0) 0 = some (97, 0, 0) := by
  unfold q_t1O
  refine ⟨jc_up_s _ _ _ _, ?_⟩
  rw [jc_up_t _ _ _ _ _ _ _ _ (by decide), jc_up_s]
theorem t1l_e (h : q ≠ (14, t, 0)) (h2 : q ≠ (15, xt, 0)) (g : q_t1l lv t xt q) : lv q := by
  rcases g with g | g | g
  · exact absurd g h2
  · exact absurd g h
  · exact g
end
theorem qTh_sto {k : Nat} : jc_sto "java/lang/Object" (some (qTh k)) := fun q9 e9 => by cases e9; exact ⟨_, _, rfl, rfl, Or.inr ca_mT_oO⟩
theorem ql.t1 {I : jc_I} {P : jc_O} {lv : jc_L → Prop} {t xt y m : Nat} {V : Int32} {f : Nat → jc_L} (h : ql I P lv y m f) (hy : y ≠ xt) : ql (q_t1 I t xt V) (q_t1O P t xt) (q_t1l lv t xt) y m f := h.to (t1_e (by simp) (by simp [hy])) (t1O_e (by simp) (by simp [hy])) (fun c k => t1O_e (by simp) (by simp)) (fun c g => t1l_e (by simp) (by simp) g)
/-- a thread's place that is new: the second side -/
theorem GR.newT {I : jc_I} {P : jc_O} {lv : jc_L → Prop} {b n tc sn cn zc : Nat} {D fn : Nat → Nat} {V : Int32} (h : GR I P lv b n tc sn cn zc D fn) (hs : sn < 8) : GR (l_add (q_t1 I sn (10 + sn) V) (q_t1O P sn (10 + sn)) (q_t1l lv sn (10 + sn)) 1 (14, sn, 0)).1 (l_add (q_t1 I sn (10 + sn) V) (q_t1O P sn (10 + sn)) (q_t1l lv sn (10 + sn)) 1 (14, sn, 0)).2.1 (l_add (q_t1 I sn (10 + sn) V) (q_t1O P sn (10 + sn)) (q_t1l lv sn (10 + sn)) 1 (14, sn, 0)).2.2.1 b n tc (sn + 1) cn zc D fn := by
  have eI : ∀ q k, q ≠ (14, sn, 0) → q ≠ (15, 10 + sn, 0) → q ≠ (15, 1, 0) → (∀ z, q ≠ (60, 1, z)) → (l_add (q_t1 I sn (10 + sn) V) (q_t1O P sn (10 + sn)) (q_t1l lv sn (10 + sn)) 1 (14, sn, 0)).1 q k = I q k := fun q k g1 g2 g3 g4 => (l_add_Iq g3 g4).trans (t1_e g1 g2)
  have eO : ∀ q k, q ≠ (14, sn, 0) → q ≠ (15, 10 + sn, 0) → q ≠ (15, 1, 0) → (∀ z, q ≠ (60, 1, z)) → (l_add (q_t1 I sn (10 + sn) V) (q_t1O P sn (10 + sn)) (q_t1l lv sn (10 + sn)) 1 (14, sn, 0)).2.1 q k = P q k := fun q k g1 g2 g3 g4 => (l_add_Oq g3 g4).trans (t1O_e g1 g2)
  have eL : ∀ q, q ≠ (14, sn, 0) → q ≠ (15, 10 + sn, 0) → (∀ z, q ≠ (60, 1, z)) → (l_add (q_t1 I sn (10 + sn) V) (q_t1O P sn (10 + sn)) (q_t1l lv sn (10 + sn)) 1 (14, sn, 0)).2.2.1 q → lv q := fun q g1 g2 g4 g => by
    rcases l_add_l g with w | ⟨z, w⟩
    · exact t1l_e g1 g2 w
    · exact absurd w (g4 z)
  have hl : ∀ y, y ≠ 1 → y ≠ 10 + sn → ∀ {m : Nat} {f : Nat → jc_L}, ql I P lv y m f → ql (l_add (q_t1 I sn (10 + sn) V) (q_t1O P sn (10 + sn)) (q_t1l lv sn (10 + sn)) 1 (14, sn, 0)).1 (l_add (q_t1 I sn (10 + sn) V) (q_t1O P sn (10 + sn)) (q_t1l lv sn (10 + sn)) 1 (14, sn, 0)).2.1 (l_add (q_t1 I sn (10 + sn) V) (q_t1O P sn (10 + sn)) (q_t1l lv sn (10 + sn)) 1 (14, sn, 0)).2.2.1 y m f := fun y hy hy2 m f g => (g.t1 hy2).other hy
  have hl1 := (h.th.t1 (t := sn) (xt := 10 + sn) (V := V) (by omega)).add (by omega) qTh_sto
  have v1 : (l_add (q_t1 I sn (10 + sn) V) (q_t1O P sn (10 + sn)) (q_t1l lv sn (10 + sn)) 1 (14, sn, 0)).1 (15, 10 + sn, 0) 1 = 0 := (l_add_Iq (by simp; omega) (by simp)).trans t1_14.2.2
  have v2 : (l_add (q_t1 I sn (10 + sn) V) (q_t1O P sn (10 + sn)) (q_t1l lv sn (10 + sn)) 1 (14, sn, 0)).1 (14, sn, 0) 2 = 0 := (l_add_Iq (by simp) (by simp)).trans (t1_14.2.1 2 (by decide))
  have w1 : (l_add (q_t1 I sn (10 + sn) V) (q_t1O P sn (10 + sn)) (q_t1l lv sn (10 + sn)) 1 (14, sn, 0)).2.1 (14, sn, 0) 1 = some (15, 10 + sn, 0) := (l_add_Oq (by simp) (by simp)).trans t1O_14.1
  have w2 : (l_add (q_t1 I sn (10 + sn) V) (q_t1O P sn (10 + sn)) (q_t1l lv sn (10 + sn)) 1 (14, sn, 0)).2.1 (15, 10 + sn, 0) 0 = some (97, 0, 0) := (l_add_Oq (by simp; omega) (by simp)).trans t1O_14.2
  generalize l_add (q_t1 I sn (10 + sn) V) (q_t1O P sn (10 + sn)) (q_t1l lv sn (10 + sn)) 1 (14, sn, 0) = Z at *
  have hM : qM Z.2.1 := h.qa.1.to (fun k => eO _ _ (by simp) (by simp) (by simp) (by simp))
  have hcap0 : lcap Z.2.1 (10 + sn) = 0 := by unfold lcap; rw [w2]; rfl
  obtain ⟨f1, f2⟩ := h.f0 sn (Nat.le_refl _)
  obtain ⟨tf1, tf2, tf3⟩ := h.tf sn (Nat.le_refl _)
  refine ⟨⟨hM, hl 0 (by decide) (by omega) h.qa.2.1, fun d hd => ?_⟩, ⟨hM.2.2.2.2, ?_⟩, hl 2 (by decide) (by omega) h.ob, hl1, fun k hk => (eO _ _ (by simp) (by simp) (by simp) (by simp)).trans (h.of k hk), fun k hk => ⟨fun w => (h.o2 k hk).1 (eL _ (by simp) (by simp) (by simp) w), fun w => (h.o2 k hk).2 (eL _ (by simp) (by simp) (by simp) w)⟩, (eI _ _ (by simp) (by simp) (by simp) (by simp)).trans h.mk, h.mb, h.n3, (eI _ _ (by simp) (by simp) (by simp) (by simp)).trans h.tc1, fun t ht => ?_, fun t i hi => ?_, fun t i k hi => ?_, fun t ht => h.f0 t (by omega), fun t ht => ?_, fun c hc => ?_, fun z hz w => h.mt z hz (eL _ (by simp) (by simp) (by simp) w)⟩
  · obtain ⟨w1, w2, w3⟩ := h.qa.2.2 d hd
    refine ⟨?_, ?_, by rw [eI _ _ (by simp) (by simp) (by simp) (by simp)]; exact w3⟩
    · unfold qc at *
      rw [eO _ _ (by simp) (by simp) (by simp) (by simp), eO _ _ (by simp) (by simp) (by simp) (by simp), eO _ _ (by simp) (by simp) (by simp) (by simp), eO _ _ (by simp) (by simp) (by simp) (by simp), eO _ _ (by simp) (by simp) (by simp) (by simp), eO _ _ (by simp) (by simp) (by simp) (by simp), eO _ _ (by simp) (by simp) (by simp) (by simp)]
      exact w1
    · unfold qn at *
      rw [eI _ _ (by simp) (by simp) (by simp) (by simp), eI _ _ (by simp) (by simp) (by simp) (by simp), eI _ _ (by simp) (by simp) (by simp) (by simp)]
      exact w2
  · rw [eI _ _ (by simp) (by simp) (by simp) (by simp)]
    exact h.k.2
  · by_cases g : t = sn
    · subst g
      rw [f1, f2]
      refine ⟨w1, ⟨v1, Nat.zero_le _, by rw [hcap0]; omega, by rw [hcap0]; exact w2, fun k hk => absurd hk (Nat.not_lt_zero k), fun c hc w => tf3 c (eL _ (by simp) (by simp) (fun z g => by have := congrArg (fun q : jc_L => q.2.1) g; dsimp only at this; omega) w), fun k hk => absurd hk (Nat.not_lt_zero k)⟩, v2, Nat.le_refl _, by decide, fun i hi => absurd hi (Nat.not_lt_zero i), by rw [hcap0]; decide⟩
    · obtain ⟨t1, t2, t3, t4, t5, t6, t7⟩ := h.ts t (by omega)
      have hc : lcap Z.2.1 (10 + t) = lcap P (10 + t) := by unfold lcap; rw [eO _ _ (by simp) (by simp; omega) (by simp; omega) (by simp)]
      refine ⟨(eO _ _ (by simp [g]) (by simp) (by simp) (by simp)).trans t1, hl _ (by omega) (by omega) t2, (eI _ _ (by simp [g]) (by simp) (by simp) (by simp)).trans t3, t4, t5, fun i hi => ?_, by rw [hc]; exact t7⟩
      unfold qf
      rw [eO _ _ (by simp) (by simp) (by simp) (by simp), eO _ _ (by simp) (by simp) (by simp) (by simp)]
      exact t6 i hi
  · obtain ⟨g1, g2, g3⟩ := h.ff t i hi
    exact ⟨fun w => g1 (eL _ (by simp) (by simp) (by simp) w), fun w => g2 (eL _ (by simp) (by simp) (by simp) w), fun w => g3 (eL _ (by simp) (by simp) (by simp) w)⟩
  · rw [eI _ _ (by simp) (by simp) (by simp) (by simp), eI _ _ (by simp) (by simp) (by simp) (by simp), eI _ _ (by simp) (by simp) (by simp) (by simp)]
    exact h.fz t i k hi
  · obtain ⟨g1, g2, g3⟩ := h.tf t (by omega)
    exact ⟨fun w => g1 (eL _ (by simp; omega) (by simp) (by simp) w), fun w => g2 (eL _ (by simp) (by simp; omega) (by simp) w), fun c w => g3 c (eL _ (by simp) (by simp) (fun z g => by have := congrArg (fun q : jc_L => q.2.1) g; dsimp only at this; omega) w)⟩
  · obtain ⟨g1, g2, g3, g4, g5, g6, g7, g8⟩ := h.cf c hc
    exact ⟨fun w => g1 (eL _ (by simp) (by simp) (by simp) w), fun w => g2 (eL _ (by simp) (by simp) (by simp) w), fun w => g3 (eL _ (by simp) (by simp) (by simp) w), fun w => g4 (eL _ (by simp) (by simp) (by simp) w), fun w => g5 (eL _ (by simp) (by simp) (by simp) w), fun w => g6 (eL _ (by simp) (by simp) (by simp) w), fun w => g7 (eL _ (by simp) (by simp) (by simp) w), fun w => g8 (eL _ (by simp) (by simp) (by simp) w)⟩
section
variable {I : jc_I} {t : Nat}
theorem qt_bg_e {q : jc_L} {k : Nat} (h : ¬ (q = (14, t, 0) ∧ 2 ≤ k ∧ k ≤ 6)) : qt_bg I t q k = I q k := by
  unfold qt_bg
  have u : ∀ (Z : jc_I) (i : Nat), 2 ≤ i ∧ i ≤ 6 → jc_up Z (14, t, 0) i 0 q k = Z q k := fun Z i hi => if_neg (fun g => h ⟨g.1, by omega⟩)
  rw [u _ 6 (by decide), u _ 5 (by decide), u _ 4 (by decide), u _ 3 (by decide), u _ 2 (by decide)]
theorem qt_bg_v {k : Nat} (h : 2 ≤ k ∧ k ≤ 6) : qt_bg I t (14, t, 0) k = 0 := by
  unfold qt_bg
  rcases (show k = 2 ∨ k = 3 ∨ k = 4 ∨ k = 5 ∨ k = 6 by omega) with e | e | e | e | e <;> subst e
  · rw [jc_up_k _ _ _ _ _ _ (by decide), jc_up_k _ _ _ _ _ _ (by decide), jc_up_k _ _ _ _ _ _ (by decide), jc_up_k _ _ _ _ _ _ (by decide), jc_up_s]
  · rw [jc_up_k _ _ _ _ _ _ (by decide), jc_up_k _ _ _ _ _ _ (by decide), jc_up_k _ _ _ _ _ _ (by decide), jc_up_s]
  · rw [jc_up_k _ _ _ _ _ _ (by decide), jc_up_k _ _ _ _ _ _ (by decide), jc_up_s]
  · rw [jc_up_k _ _ _ _ _ _ (by decide), jc_up_s]
  · rw [jc_up_s]
end
/-- a thread's place, laid out anew -/
theorem GR.rx0 {I : jc_I} {P : jc_O} {lv : jc_L → Prop} {b n tc sn cn zc t : Nat} {D fn : Nat → Nat} (h : GR I P lv b n tc sn cn zc D fn) (ht : t < sn) : RX (qt_bg I t) P lv t b n (10 + t) (fn t) 0 cn := by
  obtain ⟨t1, t2, t3, t4, t5, t6, t7⟩ := h.ts t ht
  have hb := h.mb
  have e : ∀ q k, q ≠ (14, t, 0) → qt_bg I t q k = I q k := fun q k g => qt_bg_e (fun w => g w.1)
  refine ⟨⟨h.qa.1, h.ob.to (e _ _ (by simp)) rfl (fun _ _ => rfl) (fun _ g => g), t1, t2.to (e _ _ (by simp)) rfl (fun _ _ => rfl) (fun _ g => g), qt_bg_v (by decide), Nat.zero_le _, fun j hj => absurd hj (Nat.not_lt_zero j), by rw [e _ _ (by simp), h.mk, jofN (by omega)], (h.o2 _ (Nat.le_refl _)).1, (h.o2 _ (Nat.le_refl _)).2, h.n3, by omega⟩, h.qa.to (fun q k hq => e q k (fun g => by rw [g] at hq; simp at hq)), t6, h.ff t, fun i k hi => ?_, t5, h.of, (e _ _ (by simp)).trans h.mk, hb, h.o2, rfl, t7⟩
  rw [e _ _ (by simp), e _ _ (by simp), e _ _ (by simp)]
  exact h.fz t i k hi
theorem GR.begin {I : jc_I} {P : jc_O} {lv : jc_L → Prop} {b n tc sn cn zc t d : Nat} {D fn : Nat → Nat} {x : Int32} (h : GR I P lv b n tc sn cn zc D fn) (ht : t < sn) (hd : d < cn) (hqr : qr I d) : GR (q_pu (qt_bg I t) P lv t (10 + t) 0 x (11, d, 0)).1 (q_pu (qt_bg I t) P lv t (10 + t) 0 x (11, d, 0)).2.1 (q_pu (qt_bg I t) P lv t (10 + t) 0 x (11, d, 0)).2.2.1 b n tc sn cn zc (dU D t 1) (dU fn t (fnU (fn t) 0)) := by
  have r0 := h.rx0 ht
  have e : ∀ q k, q ≠ (14, t, 0) → qt_bg I t q k = I q k := fun q k g => qt_bg_e (fun w => g w.1)
  have hq2 : qr (qt_bg I t) d := fun r hr => by
    rw [e _ _ (by simp)] at hr ⊢
    exact hqr r hr
  have r1 := r0.push (a := x) (j := 0) (d := d) (I2 := (q_pu (qt_bg I t) P lv t (10 + t) 0 x (11, d, 0)).1) (by decide) (Nat.le_refl _) hd hq2 (fun q k g1 g2 g3 g4 g5 g6 _ => q_pu_I g1 g2 g3 g4 g5 g6) rfl rfl
  refine h.run ht ⟨fun q k g1 g2 g3 g4 g5 g6 g7 g8 => ?_, fun q k g1 g2 g3 g4 g5 g6 g7 => q_pu_O (fun w => g1 (by rw [w]; simp)) (fun w => g1 (by rw [w]; simp)) (fun w => g1 (by rw [w]; simp)) g5 g7, q_pu_live, fun q g => ?_⟩ r1 (Nat.le_refl _)
  · rw [q_pu_I (fun w => g1 (by rw [w]; simp)) (fun w => g1 (by rw [w]; simp)) (fun w => g1 (by rw [w]; simp)) (fun w => g1 (by rw [w.1]; simp)) g6 (fun z w => g7 (by rw [w]))]
    exact e q k (fun w => g1 (by rw [w]; simp))
  · rcases q_pu_l g with w | w | w | w | w
    · exact Or.inl w
    · rw [w]; simp
    · rw [w]; simp
    · rw [w]; simp
    · exact Or.inr (Or.inr (Or.inr (Or.inr (Or.inl w))))
