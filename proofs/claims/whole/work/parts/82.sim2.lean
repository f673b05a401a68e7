/-- the same thread of the second side -/
def RX (I : jc_I) (P : jc_O) (lv : jc_L → Prop) (t b n xt fn m c9 : Nat) : Prop := (QT I P lv t b n xt fn m) ∧ (qA I P lv c9) ∧ (∀ i, i < fn → qf P t i) ∧ (∀ i, fn ≤ i → ¬ lv (12, t, i) ∧ ¬ lv (48, t, i) ∧ ¬ lv (49, t, i)) ∧ (∀ i k, fn ≤ i → I (12, t, i) k = 0 ∧ I (48, t, i) k = 0 ∧ I (49, t, i) k = 0) ∧ (fn ≤ 30) ∧ (∀ k, k < n → P (13, b + k, 0) 1 = some (47, b + k, 0)) ∧ (I (10, 0, 0) 5 = Int32.ofNat (b + n)) ∧ (b + n ≤ 40000) ∧ (∀ k, b + n ≤ k → ¬ lv (13, k, 0) ∧ ¬ lv (47, k, 0)) ∧ (xt = 10 + t) ∧ (lcap P xt ≤ 70)
theorem RX.qt {I : jc_I} {P : jc_O} {lv : jc_L → Prop} {t b n xt fn m c9 : Nat} (h9 : RX I P lv t b n xt fn m c9) : QT I P lv t b n xt fn m := h9.1
theorem RX.qa {I : jc_I} {P : jc_O} {lv : jc_L → Prop} {t b n xt fn m c9 : Nat} (h9 : RX I P lv t b n xt fn m c9) : qA I P lv c9 := h9.2.1
theorem RX.fr {I : jc_I} {P : jc_O} {lv : jc_L → Prop} {t b n xt fn m c9 : Nat} (h9 : RX I P lv t b n xt fn m c9) : ∀ i, i < fn → qf P t i := h9.2.2.1
theorem RX.ff {I : jc_I} {P : jc_O} {lv : jc_L → Prop} {t b n xt fn m c9 : Nat} (h9 : RX I P lv t b n xt fn m c9) : ∀ i, fn ≤ i → ¬ lv (12, t, i) ∧ ¬ lv (48, t, i) ∧ ¬ lv (49, t, i) := h9.2.2.2.1
theorem RX.fz {I : jc_I} {P : jc_O} {lv : jc_L → Prop} {t b n xt fn m c9 : Nat} (h9 : RX I P lv t b n xt fn m c9) : ∀ i k, fn ≤ i → I (12, t, i) k = 0 ∧ I (48, t, i) k = 0 ∧ I (49, t, i) k = 0 := h9.2.2.2.2.1
theorem RX.f30 {I : jc_I} {P : jc_O} {lv : jc_L → Prop} {t b n xt fn m c9 : Nat} (h9 : RX I P lv t b n xt fn m c9) : fn ≤ 30 := h9.2.2.2.2.2.1
theorem RX.of {I : jc_I} {P : jc_O} {lv : jc_L → Prop} {t b n xt fn m c9 : Nat} (h9 : RX I P lv t b n xt fn m c9) : ∀ k, k < n → P (13, b + k, 0) 1 = some (47, b + k, 0) := h9.2.2.2.2.2.2.1
theorem RX.mk {I : jc_I} {P : jc_O} {lv : jc_L → Prop} {t b n xt fn m c9 : Nat} (h9 : RX I P lv t b n xt fn m c9) : I (10, 0, 0) 5 = Int32.ofNat (b + n) := h9.2.2.2.2.2.2.2.1
theorem RX.mb {I : jc_I} {P : jc_O} {lv : jc_L → Prop} {t b n xt fn m c9 : Nat} (h9 : RX I P lv t b n xt fn m c9) : b + n ≤ 40000 := h9.2.2.2.2.2.2.2.2.1
theorem RX.o2 {I : jc_I} {P : jc_O} {lv : jc_L → Prop} {t b n xt fn m c9 : Nat} (h9 : RX I P lv t b n xt fn m c9) : ∀ k, b + n ≤ k → ¬ lv (13, k, 0) ∧ ¬ lv (47, k, 0) := h9.2.2.2.2.2.2.2.2.2.1
theorem RX.x10 {I : jc_I} {P : jc_O} {lv : jc_L → Prop} {t b n xt fn m c9 : Nat} (h9 : RX I P lv t b n xt fn m c9) : xt = 10 + t := h9.2.2.2.2.2.2.2.2.2.2.1
theorem RX.c7 {I : jc_I} {P : jc_O} {lv : jc_L → Prop} {t b n xt fn m c9 : Nat} (h9 : RX I P lv t b n xt fn m c9) : lcap P xt ≤ 70 := h9.2.2.2.2.2.2.2.2.2.2.2
def FRc (I : jc_I) (P O : jc_O) (t m : Nat) : Prop := ∀ i, i < m → P (12, t, i) 0 = some (11, cd O t i, 0) ∧ I (12, t, i) 1 = Int32.ofNat (cd O t i)
/-- only the frame's own cells and the objects' change -/
def rl (t j : Nat) (I I' : jc_I) : Prop := ∀ q k, ¬ (q = (12, t, j) ∧ (k = 4 ∨ k = 5)) → q ≠ (48, t, j) → q ≠ (49, t, j) → q.1 ≠ 13 → q.1 ≠ 47 → q.1 ≠ 50 → I' q k = I q k
theorem rl.rf {t j : Nat} {I : jc_I} : rl t j I I := fun _ _ _ _ _ _ _ _ => rfl
theorem rl.tr {t j : Nat} {I J K : jc_I} (h : rl t j I J) (h2 : rl t j J K) : rl t j I K := fun q k a b c d e f => (h2 q k a b c d e f).trans (h q k a b c d e f)
theorem rl.u4 {t j : Nat} {I : jc_I} {v : Int32} : rl t j I (jc_up I (12, t, j) 4 v) := fun q k a _ _ _ _ _ => by unfold jc_up; exact if_neg (fun g => a ⟨g.1, Or.inl g.2⟩)
theorem rl.u5 {t j : Nat} {I : jc_I} {v : Int32} : rl t j I (jc_up I (12, t, j) 5 v) := fun q k a _ _ _ _ _ => by unfold jc_up; exact if_neg (fun g => a ⟨g.1, Or.inr g.2⟩)
theorem rl.u48 {t j k : Nat} {I : jc_I} {v : Int32} : rl t j I (jc_up I (48, t, j) k v) := fun q k _ a _ _ _ _ => jc_up_q _ _ _ _ _ _ a
theorem rl.u49 {t j k : Nat} {I : jc_I} {v : Int32} : rl t j I (jc_up I (49, t, j) k v) := fun q k _ _ a _ _ _ => jc_up_q _ _ _ _ _ _ a
theorem rl.ob {t j k : Nat} {q : jc_L} {I : jc_I} {v : Int32} (h : q.1 = 13 ∨ q.1 = 47 ∨ q.1 = 50) : rl t j I (jc_up I q k v) := fun q' k' _ _ _ a b c => jc_up_q _ _ _ _ _ _ (fun g => by subst g; omega)
theorem rl_pop {t j : Nat} {I : jc_I} : rl t j I (q_pop I t j) := rl.u4
theorem rl_psh {t j : Nat} {I : jc_I} {x : Int32} : rl t j I (q_psh I t j x) := rl.u49.tr rl.u4
theorem rl_on {t j : Nat} {I : jc_I} : rl t j I (q_on I t j) := rl.u5
theorem RX.loc {I I' : jc_I} {P : jc_O} {lv : jc_L → Prop} {t b n xt fn m c9 j : Nat} (h : RX I P lv t b n xt fn m c9) (hj : j < m) (e : rl t j I I') : RX I' P lv t b n xt fn m c9 := by
  have e15 : ∀ x k, I' (15, x, 0) k = I (15, x, 0) k := fun x k => e _ _ (by simp) (by simp) (by simp) (by simp) (by simp) (by simp)
  have e10 : ∀ k, I' (10, 0, 0) k = I (10, 0, 0) k := fun k => e _ _ (by simp) (by simp) (by simp) (by simp) (by simp) (by simp)
  have e14 : ∀ k, I' (14, t, 0) k = I (14, t, 0) k := fun k => e _ _ (by simp) (by simp) (by simp) (by simp) (by simp) (by simp)
  have ec : ∀ q k, q.1 = 11 ∨ q.1 = 15 ∨ q.1 = 45 → I' q k = I q k := fun q k hq => e q k (fun g => by rw [g.1] at hq; simp at hq) (fun g => by rw [g] at hq; simp at hq) (fun g => by rw [g] at hq; simp at hq) (by omega) (by omega) (by omega)
  have hmf := h.qt.mf
  refine ⟨⟨h.qt.M, h.qt.ob.to (e15 2 1) rfl (fun _ _ => rfl) (fun _ h => h), h.qt.m1, h.qt.fs.to (e15 xt 1) rfl (fun _ _ => rfl) (fun _ h => h), (e14 2).trans h.qt.d, h.qt.mf, fun i hi => (h.qt.F i hi).to (fun q k hq => ec q k (by omega)), by rw [e10]; exact h.qt.md, h.qt.f1, h.qt.f2, h.qt.n3, h.qt.x2⟩, h.qa.to (fun q k hq => ec q k (by omega)), h.fr, h.ff, fun i k hi => ?_, h.f30, h.of, (e10 5).trans h.mk, h.mb, h.o2, h.x10, h.c7⟩
  have hne : i ≠ j := by omega
  rw [e _ _ (by simp [hne]) (by simp) (by simp) (by simp) (by simp) (by simp), e _ _ (by simp) (by simp [hne]) (by simp) (by simp) (by simp) (by simp), e _ _ (by simp) (by simp) (by simp [hne]) (by simp) (by simp) (by simp)]
  exact h.fz i k hi
theorem FRc.loc {I I' : jc_I} {P O : jc_O} {t m j : Nat} (h : FRc I P O t m) (e : rl t j I I') : FRc I' P O t m := fun i hi => by
  refine ⟨(h i hi).1, ?_⟩
  rw [e _ _ (by simp) (by simp) (by simp) (by simp) (by simp) (by simp)]
  exact (h i hi).2
/-- what a step may cost: objects, frames, and the lists' growth -/
def BU (mc ms mc' ms' : Nat) (P P' : jc_O) (xt n n' fn fn' : Nat) : Prop := n ≤ n' ∧ fn ≤ fn' ∧ lcap P xt ≤ lcap P' xt ∧ lcap P 2 ≤ lcap P' 2 ∧ mc + mc' + 4 * n + 3 * fn + lcap P xt + lcap P 2 ≤ 4 * n' + 3 * fn' + lcap P' xt + lcap P' 2 ∧ ms + ms' + 24 * n + 26 * fn + 4 * lcap P xt + 4 * lcap P 2 ≤ 24 * n' + 26 * fn' + 4 * lcap P' xt + 4 * lcap P' 2
theorem BU.z {P : jc_O} {xt n fn : Nat} : BU 0 0 0 0 P P xt n n fn fn := ⟨Nat.le_refl _, Nat.le_refl _, Nat.le_refl _, Nat.le_refl _, by omega, by omega⟩
/-- what a step of the second side leaves as it was -/
def RK (t b n xt : Nat) (I : jc_I) (P : jc_O) (lv : jc_L → Prop) (I' : jc_I) (P' : jc_O) (lv' : jc_L → Prop) : Prop := (∀ q k, ¬ ((q.1 = 12 ∨ q.1 = 14 ∨ q.1 = 48 ∨ q.1 = 49) ∧ q.2.1 = t) → q.1 ≠ 13 → q.1 ≠ 47 → q.1 ≠ 50 → q ≠ (15, 2, 0) → q ≠ (15, xt, 0) → q.1 ≠ 60 → ¬ (q = (10, 0, 0) ∧ k = 5) → I' q k = I q k) ∧
  (∀ q k, ¬ ((q.1 = 12 ∨ q.1 = 48 ∨ q.1 = 49) ∧ q.2.1 = t) → ¬ (q.1 = 13 ∧ b + n ≤ q.2.1) → ¬ (q.1 = 47 ∧ b + n ≤ q.2.1) → q ≠ (15, 2, 0) → q ≠ (15, xt, 0) → (∀ c, q ≠ (60, 2, c)) → (∀ c, q ≠ (60, xt, c)) → P' q k = P q k) ∧
  (∀ q, lv q → lv' q) ∧ (∀ q, lv' q → lv q ∨ (q.1 = 13 ∧ b + n ≤ q.2.1) ∨ (q.1 = 47 ∧ b + n ≤ q.2.1) ∨ (∃ c, q = (60, 2, c)) ∨ (∃ c, q = (60, xt, c)) ∨ ((q.1 = 12 ∨ q.1 = 48 ∨ q.1 = 49) ∧ q.2.1 = t))
/-- what perform leaves, as a function of the first side alone -/
def PF (J : jc_I) (O : jc_O) (live : jc_L → Prop) (t j c : Nat) (op a : Int32) : jc_S :=
  if op = 11 then (jc_up J (8, t, j) 4 a, O, live, 0, 0)
  else if op = 12 ∨ op = 13 then (jc_up (f_pop J t j) (8, t, j) 4 (if f_tp J t j = 0 then a else f_pop J t j (8, t, j) 4 + 1), O, live, 0, 0)
  else if op = 4 ∨ op = 5 ∨ op = 6 ∨ op = 7 ∨ op = 8 then (f_on (f_psh (f_pop (f_pop J t j) t j) t j (m_cp op (f_tp (f_pop J t j) t j) (f_tp J t j))) t j, O, live, 0, 0)
  else if op = 15 ∨ op = 16 ∨ op = 17 ∨ op = 20 ∨ op = 21 ∨ op = 23 ∨ op = 24 then (f_on (u_th J t j op a) t j, O, live, 0, 0)
  else if op = 18 then (m_ccI J t j a.toNatClampNeg, m_ccO J O t a.toNatClampNeg, live, 0, 0)
  else if op = 19 then (m_rse (f_pop J t j) O t (f_tp J t j), O, live, 0, 0)
  else if op = 22 then ((if J (9, t, 0) 2 = 1 then m_gb0 J t j c else m_gb1 J t j (j - 1) c), O, live, 0, 0)
  else (f_on (m_mv J O live t j c op a).1 t j, (m_mv J O live t j c op a).2.1, (m_mv J O live t j c op a).2.2.1, (m_mv J O live t j c op a).2.2.2.1, (m_mv J O live t j c op a).2.2.2.2)
/-- both sides, a step done -/
def OUT (J : jc_I) (O : jc_O) (live : jc_L → Prop) (I : jc_I) (P : jc_O) (lv : jc_L → Prop) (t j b n xt fn c9 : Nat) (D : Nat → Nat) (S : Int) (op a : Int32) : Prop :=
  ∃ (J' : jc_I) (O' : jc_O) (live' : jc_L → Prop) (mc ms : Nat) (I' : jc_I) (P' : jc_O) (lv' : jc_L → Prop) (mc' ms' n' fn' m' : Nat),
    jc_Ct y_M_perform [.inr (some (4, 0, 0)), .inr (some (9, t, 0)), .inr (some (8, t, j)), .inl op, .inl a] J O live (none, J', O', live', mc, ms) ∧
    jc_Ct y_m_step [.inr (some (10, 0, 0)), .inr (some (14, t, 0))] I P lv (none, I', P', lv', mc', ms') ∧
    CP J O live J' O' live' t S ∧ RX I' P' lv' t b n' xt fn' m' c9 ∧ FRc I' P' O' t m' ∧ Sim t b n' (dU D t m') J' I' ∧ J' (3, 0, 0) 2 = Int32.ofNat n' ∧ J' (9, t, 0) 2 = Int32.ofNat m' ∧
    I' (14, t, 0) 3 = I (14, t, 0) 3 ∧ I' (14, t, 0) 6 = I (14, t, 0) 6 ∧ BU mc ms mc' ms' P P' xt n n' fn fn' ∧ RK t b n xt I P lv I' P' lv' ∧ PF J O live t j (cd O t j) op a = (J', O', live', mc, ms)
/-- what the second side's step needs -/
def RB (I : jc_I) (P : jc_O) (lv : jc_L → Prop) (t xt fn j c i : Nat) : Prop := (P (14, t, 0) 1 = some (15, xt, 0)) ∧ (ql I P lv xt fn (qFr t)) ∧ (I (14, t, 0) 2 - 1 = Int32.ofNat j) ∧ (j < fn) ∧ (P (12, t, j) 0 = some (11, c, 0)) ∧ (qc P c) ∧ (I (12, t, j) 5 = Int32.ofNat i) ∧ (i < 60)
theorem RB.a1 {I : jc_I} {P : jc_O} {lv : jc_L → Prop} {t xt fn j c i : Nat} (h9 : RB I P lv t xt fn j c i) : P (14, t, 0) 1 = some (15, xt, 0) := h9.1
theorem RB.a2 {I : jc_I} {P : jc_O} {lv : jc_L → Prop} {t xt fn j c i : Nat} (h9 : RB I P lv t xt fn j c i) : ql I P lv xt fn (qFr t) := h9.2.1
theorem RB.a3 {I : jc_I} {P : jc_O} {lv : jc_L → Prop} {t xt fn j c i : Nat} (h9 : RB I P lv t xt fn j c i) : I (14, t, 0) 2 - 1 = Int32.ofNat j := h9.2.2.1
theorem RB.a4 {I : jc_I} {P : jc_O} {lv : jc_L → Prop} {t xt fn j c i : Nat} (h9 : RB I P lv t xt fn j c i) : j < fn := h9.2.2.2.1
theorem RB.a5 {I : jc_I} {P : jc_O} {lv : jc_L → Prop} {t xt fn j c i : Nat} (h9 : RB I P lv t xt fn j c i) : P (12, t, j) 0 = some (11, c, 0) := h9.2.2.2.2.1
theorem RB.a6 {I : jc_I} {P : jc_O} {lv : jc_L → Prop} {t xt fn j c i : Nat} (h9 : RB I P lv t xt fn j c i) : qc P c := h9.2.2.2.2.2.1
theorem RB.a7 {I : jc_I} {P : jc_O} {lv : jc_L → Prop} {t xt fn j c i : Nat} (h9 : RB I P lv t xt fn j c i) : I (12, t, j) 5 = Int32.ofNat i := h9.2.2.2.2.2.2.1
theorem RB.a8 {I : jc_I} {P : jc_O} {lv : jc_L → Prop} {t xt fn j c i : Nat} (h9 : RB I P lv t xt fn j c i) : i < 60 := h9.2.2.2.2.2.2.2
theorem RB.of {D : Nat → Nat} {J I : jc_I} {O P : jc_O} {live lv : jc_L → Prop} {S : Int} {t n0 j i b n xt fn c9 : Nat} {K K' : List Int32} (h : CX J O live S t n0) (hj : j + 1 = n0) (tp : TP J t j (cd O t j) i K K') (r : RX I P lv t b n xt fn n0 c9) (f : FRc I P O t n0) (s : Sim t b n D J I) : RB I P lv t xt fn j (cd O t j) i ∧ qf P t j ∧ I (41, cd O t j, 0) i = (bk J).op (cd O t j) i ∧ I (42, cd O t j, 0) i = (bk J).an (cd O t j) i := by
  have hle := h.TH.le
  have hmf := r.qt.mf
  have h60 := h.C.s60 tp.tf.cn
  have hcn : (cd O t j : Int) < (J (1, 0, 0) 1).toInt := tp.tf.cn
  have hc9 : cd O t j < c9 := by
    have e := s.bkq
    have e1 : I (15, 0, 0) 1 = J (1, 0, 0) 1 := (s (1, 0, 0) 1 _ rfl).symm
    rw [← e1, r.qa.2.1.sz] at hcn
    have := r.qa.2.1.le
    have := r.qa.2.1.cp
    rw [jofI (by omega)] at hcn
    omega
  refine ⟨⟨r.qt.m1, r.qt.fs, ?_, by omega, (f j (by omega)).1, (r.qa.2.2 _ hc9).1, s.at.trans tp.at_, by have := tp.lt; omega⟩, r.fr j (by omega), (s (21, cd O t j, 0) i _ rfl).symm, (s (22, cd O t j, 0) i _ rfl).symm⟩
  rw [r.qt.d, ← hj, jofs (by omega)]
theorem RK.loc {t j b n xt : Nat} {I I' : jc_I} {P : jc_O} {lv : jc_L → Prop} (e : rl t j I I') : RK t b n xt I P lv I' P lv := by
  refine ⟨fun q k h1 h2 h3 h4 _ _ _ _ => e q k (fun g => h1 ⟨Or.inl (by rw [g.1]), by rw [g.1]⟩) (fun g => h1 ⟨Or.inr (Or.inr (Or.inl (by rw [g]))), by rw [g]⟩) (fun g => h1 ⟨Or.inr (Or.inr (Or.inr (by rw [g]))), by rw [g]⟩) h2 h3 h4, fun _ _ _ _ _ _ _ _ _ => rfl, fun _ h => h, fun _ h => Or.inl h⟩
theorem RK.tr {t b n n' xt : Nat} {I I' I'' : jc_I} {P P' P'' : jc_O} {lv lv' lv'' : jc_L → Prop} (h : RK t b n xt I P lv I' P' lv') (h2 : RK t b n' xt I' P' lv' I'' P'' lv'') (hn : n ≤ n') : RK t b n xt I P lv I'' P'' lv'' := by
  obtain ⟨a1, a2, a3, a4⟩ := h
  obtain ⟨b1, b2, b3, b4⟩ := h2
  refine ⟨fun q k c1 c2 c3 c4 c5 c6 c7 c8 => (b1 q k c1 c2 c3 c4 c5 c6 c7 c8).trans (a1 q k c1 c2 c3 c4 c5 c6 c7 c8), fun q k c1 c2 c3 c4 c5 c6 c7 => (b2 q k c1 (fun g => c2 ⟨g.1, by omega⟩) (fun g => c3 ⟨g.1, by omega⟩) c4 c5 c6 c7).trans (a2 q k c1 c2 c3 c4 c5 c6 c7), fun q h => b3 q (a3 q h), fun q h => ?_⟩
  rcases b4 q h with g | ⟨g, g2⟩ | ⟨g, g2⟩ | g | g | g
  · exact a4 q g
  · exact Or.inr (Or.inl ⟨g, by omega⟩)
  · exact Or.inr (Or.inr (Or.inl ⟨g, by omega⟩))
  · exact Or.inr (Or.inr (Or.inr (Or.inl g)))
  · exact Or.inr (Or.inr (Or.inr (Or.inr (Or.inl g))))
  · exact Or.inr (Or.inr (Or.inr (Or.inr (Or.inr g))))
