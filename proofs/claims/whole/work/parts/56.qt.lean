/-- a thread of the reference, ready for a step -/
def QT (I : jc_I) (O : jc_O) (live : jc_L → Prop) (t b n xt fn m : Nat) : Prop := (qM O) ∧ (ql I O live 2 n (qO b)) ∧ (O (14, t, 0) 1 = some (15, xt, 0)) ∧ (ql I O live xt fn (qFr t)) ∧ (I (14, t, 0) 2 = Int32.ofNat m) ∧ (m ≤ fn) ∧ (∀ j, j < m → qF I O t j) ∧ ((I (10, 0, 0) 5).toNatClampNeg = b + n) ∧ (¬ live (13, b + n, 0)) ∧ (¬ live (47, b + n, 0)) ∧ (n ≤ 2000) ∧ (xt ≠ 2)
theorem QT.M {I : jc_I} {O : jc_O} {live : jc_L → Prop} {t b n xt fn m : Nat} (h9 : QT I O live t b n xt fn m) : qM O := h9.1
theorem QT.ob {I : jc_I} {O : jc_O} {live : jc_L → Prop} {t b n xt fn m : Nat} (h9 : QT I O live t b n xt fn m) : ql I O live 2 n (qO b) := h9.2.1
theorem QT.m1 {I : jc_I} {O : jc_O} {live : jc_L → Prop} {t b n xt fn m : Nat} (h9 : QT I O live t b n xt fn m) : O (14, t, 0) 1 = some (15, xt, 0) := h9.2.2.1
theorem QT.fs {I : jc_I} {O : jc_O} {live : jc_L → Prop} {t b n xt fn m : Nat} (h9 : QT I O live t b n xt fn m) : ql I O live xt fn (qFr t) := h9.2.2.2.1
theorem QT.d {I : jc_I} {O : jc_O} {live : jc_L → Prop} {t b n xt fn m : Nat} (h9 : QT I O live t b n xt fn m) : I (14, t, 0) 2 = Int32.ofNat m := h9.2.2.2.2.1
theorem QT.mf {I : jc_I} {O : jc_O} {live : jc_L → Prop} {t b n xt fn m : Nat} (h9 : QT I O live t b n xt fn m) : m ≤ fn := h9.2.2.2.2.2.1
theorem QT.F {I : jc_I} {O : jc_O} {live : jc_L → Prop} {t b n xt fn m : Nat} (h9 : QT I O live t b n xt fn m) : ∀ j, j < m → qF I O t j := h9.2.2.2.2.2.2.1
theorem QT.md {I : jc_I} {O : jc_O} {live : jc_L → Prop} {t b n xt fn m : Nat} (h9 : QT I O live t b n xt fn m) : (I (10, 0, 0) 5).toNatClampNeg = b + n := h9.2.2.2.2.2.2.2.1
theorem QT.f1 {I : jc_I} {O : jc_O} {live : jc_L → Prop} {t b n xt fn m : Nat} (h9 : QT I O live t b n xt fn m) : ¬ live (13, b + n, 0) := h9.2.2.2.2.2.2.2.2.1
theorem QT.f2 {I : jc_I} {O : jc_O} {live : jc_L → Prop} {t b n xt fn m : Nat} (h9 : QT I O live t b n xt fn m) : ¬ live (47, b + n, 0) := h9.2.2.2.2.2.2.2.2.2.1
theorem QT.n3 {I : jc_I} {O : jc_O} {live : jc_L → Prop} {t b n xt fn m : Nat} (h9 : QT I O live t b n xt fn m) : n ≤ 2000 := h9.2.2.2.2.2.2.2.2.2.2.1
theorem QT.x2 {I : jc_I} {O : jc_O} {live : jc_L → Prop} {t b n xt fn m : Nat} (h9 : QT I O live t b n xt fn m) : xt ≠ 2 := h9.2.2.2.2.2.2.2.2.2.2.2
theorem q_o1_t {I : jc_I} {x : Int32} {k a : Nat} {u : Nat × Nat} {i : Nat} (h1 : a ≠ 13) (h2 : a ≠ 47) : q_o1 I k x (a, u) i = I (a, u) i := by
  unfold q_o1
  rw [jc_up_t _ _ _ _ _ _ _ _ h1, jc_up_t _ _ _ _ _ _ _ _ h1, jc_cl_t _ _ _ _ _ _ _ h2, jc_cl_t _ _ _ _ _ _ _ h1]
theorem q_o1O_t {O : jc_O} {k a : Nat} {u : Nat × Nat} {i : Nat} (h1 : a ≠ 13) (h2 : a ≠ 47) : q_o1O O k (a, u) i = O (a, u) i := by
  unfold q_o1O
  rw [jc_up_t _ _ _ _ _ _ _ _ h1, jc_cl_t _ _ _ _ _ _ _ h2, jc_cl_t _ _ _ _ _ _ _ h1]
theorem q_mk_O {I : jc_I} {O : jc_O} {live : jc_L → Prop} {x : Int32} {a : Nat} {u : Nat × Nat} {i : Nat} (h1 : a ≠ 13) (h2 : a ≠ 47) (h3 : a ≠ 15) (h4 : a ≠ 60) : (q_mk I O live x).2.2.1 (a, u) i = O (a, u) i := by
  show (l_add _ _ _ _ _).2.1 (a, u) i = _
  rw [l_add_O h3 h4, q_o1O_t h1 h2]
theorem q_mk_I {I : jc_I} {O : jc_O} {live : jc_L → Prop} {x : Int32} {a : Nat} {u : Nat × Nat} {i : Nat} (h1 : a ≠ 13) (h2 : a ≠ 47) (h3 : a ≠ 15) (h4 : a ≠ 60) (h5 : a ≠ 10) : (q_mk I O live x).2.1 (a, u) i = I (a, u) i := by
  show jc_up _ _ _ _ (a, u) i = _
  rw [jc_up_t _ _ _ _ _ _ _ _ h5, l_add_I h3 h4, q_o1_t h1 h2]
theorem qO_sto {b k : Nat} : jc_sto "java/lang/Object" (some (qO b k)) := fun q9 e9 => by cases e9; exact ⟨_, _, rfl, rfl, Or.inr ca_mO_oO⟩
theorem cR_eq {O O' : jc_O} {t j : Nat} (h : O' (12, t, j) 0 = O (12, t, j) 0) : cR O' t j = cR O t j := by unfold cR; rw [h]
theorem qF.to2 {I I' : jc_I} {O O' : jc_O} {t j : Nat} (h : qF I O t j) (e : ∀ q k, q.1 = 11 ∨ q.1 = 45 → I' q k = I q k) (eo : ∀ q k, q.1 = 11 ∨ q = (12, t, j) → O' q k = O q k) : qF I' O' t j := by
  obtain ⟨h1, h2, h3, h4, h5⟩ := h.to e
  have ec : cR O' t j = cR O t j := cR_eq (eo _ _ (Or.inr rfl))
  unfold qF
  rw [ec, eo _ _ (Or.inr rfl)]
  refine ⟨?_, h2, ?_, h4, h5⟩
  · unfold qf at *
    rw [eo _ _ (Or.inr rfl), eo _ _ (Or.inr rfl)]
    exact h1
  · unfold qc at *
    rw [eo _ 2 (Or.inl rfl), eo _ 4 (Or.inl rfl), eo _ 5 (Or.inl rfl), eo _ 7 (Or.inl rfl), eo _ 8 (Or.inl rfl), eo _ 9 (Or.inl rfl), eo _ 10 (Or.inl rfl)]
    exact h3
theorem qM.to {O O' : jc_O} (h : qM O) (e : ∀ k, O' (10, 0, 0) k = O (10, 0, 0) k) : qM O' := by
  unfold qM at *
  rw [e, e, e, e, e]
  exact h
/-- what a new object is, and what stays -/
theorem q_mk_fact {I : jc_I} {O : jc_O} {live : jc_L → Prop} {x : Int32} {b n : Nat} (h : ql I O live 2 n (qO b)) (hm : (I (10, 0, 0) 5).toNatClampNeg = b + n) (hn : n ≤ 30000) :
    (q_mk I O live x).1 = Int32.ofNat (n + 1) ∧ ql (q_mk I O live x).2.1 (q_mk I O live x).2.2.1 (q_mk I O live x).2.2.2.1 2 (n + 1) (qO b) ∧ (q_mk I O live x).2.1 (13, b + n, 0) 0 = x ∧ (q_mk I O live x).2.1 (13, b + n, 0) 2 = -1 ∧ (q_mk I O live x).2.1 (13, b + n, 0) 3 = 0 ∧ (∀ i, (q_mk I O live x).2.1 (47, b + n, 0) i = 0) ∧ (q_mk I O live x).2.1 (10, 0, 0) 5 = I (10, 0, 0) 5 + 1 ∧
    (∀ q k, q ≠ (13, b + n, 0) → q ≠ (47, b + n, 0) → q ≠ (15, 2, 0) → q.1 ≠ 60 → ¬ (q = (10, 0, 0) ∧ k = 5) → (q_mk I O live x).2.1 q k = I q k) ∧ (q_mk I O live x).2.2.1 (13, b + n, 0) 1 = some (47, b + n, 0) ∧ (∀ q k, q ≠ (13, b + n, 0) → q ≠ (47, b + n, 0) → q ≠ (15, 2, 0) → (∀ c, q ≠ (60, 2, c)) → (q_mk I O live x).2.2.1 q k = O q k) := by
  unfold q_mk
  dsimp only
  rw [hm]
  have h1 := h.o1 (k := b + n) (x := x)
  have h2 := h1.add hn (qO_sto (b := b) (k := n))
  have h3 := l_add_mod (e := qO b n) h1
  have e : ∀ q k, q ≠ (15, 2, 0) → q.1 ≠ 60 → (l_add (q_o1 I (b + n) x) (q_o1O O (b + n)) (q_o1l live (b + n)) 2 (13, b + n, 0)).1 q k = q_o1 I (b + n) x q k := fun q k g1 g2 => l_add_Iq g1 (fun c g => g2 (by rw [g]))
  refine ⟨h3, ?_, ?_, ?_, ?_, fun i => ?_, ?_, fun q k g1 g2 g3 g4 g5 => ?_, ?_, fun q k g1 g2 g3 g4 => ?_⟩
  · exact h2.to (jc_up_t _ _ _ _ _ _ _ _ (by decide)) rfl (fun _ _ => rfl) (fun _ h => h)
  · rw [jc_up_t _ _ _ _ _ _ _ _ (by decide), e _ _ (by simp) (by simp)]; unfold q_o1; rw [jc_up_s]
  · rw [jc_up_t _ _ _ _ _ _ _ _ (by decide), e _ _ (by simp) (by simp)]; unfold q_o1; rw [jc_up_k _ _ _ _ _ _ (by decide), jc_up_s]
  · rw [jc_up_t _ _ _ _ _ _ _ _ (by decide), e _ _ (by simp) (by simp)]; unfold q_o1; rw [jc_up_k _ _ _ _ _ _ (by decide), jc_up_k _ _ _ _ _ _ (by decide), jc_cl_t _ _ _ _ _ _ _ (by decide), jc_cl_s]
  · rw [jc_up_t _ _ _ _ _ _ _ _ (by decide), e _ _ (by simp) (by simp)]; unfold q_o1; rw [jc_up_t _ _ _ _ _ _ _ _ (by decide), jc_up_t _ _ _ _ _ _ _ _ (by decide), jc_cl_s]
  · rw [jc_up_s, e _ _ (by simp) (by simp), q_o1_t (by decide) (by decide)]
  · unfold jc_up
    rw [if_neg g5, e q k g3 g4]
    unfold q_o1
    rw [jc_up_q _ _ _ _ _ _ g1, jc_up_q _ _ _ _ _ _ g1]
    unfold jc_cl
    rw [if_neg g2, if_neg g1]
  · rw [l_add_Oq (by simp) (by simp)]; unfold q_o1O; rw [jc_up_s]
  · rw [l_add_Oq g3 g4]
    unfold q_o1O
    rw [jc_up_q _ _ _ _ _ _ g1]
    unfold jc_cl
    rw [if_neg g2, if_neg g1]
theorem q_mk_l {I : jc_I} {O : jc_O} {live : jc_L → Prop} {x : Int32} {q : jc_L} (h : (q_mk I O live x).2.2.2.1 q) : live q ∨ q = (13, (I (10, 0, 0) 5).toNatClampNeg, 0) ∨ q = (47, (I (10, 0, 0) 5).toNatClampNeg, 0) ∨ ∃ c, q = (60, 2, c) := by
  rcases l_add_l h with g | ⟨c, g⟩
  · rcases g with g | g | g
    · exact Or.inr (Or.inr (Or.inl g))
    · exact Or.inr (Or.inl g)
    · exact Or.inl g
  · exact Or.inr (Or.inr (Or.inr ⟨c, g⟩))
/-- the lists but that of the objects, behind a new object -/
theorem ql.mk2 {I : jc_I} {O : jc_O} {live : jc_L → Prop} {x : Int32} {y n : Nat} {f : Nat → jc_L} (h : ql I O live y n f) (hy : y ≠ 2) : ql (q_mk I O live x).2.1 (q_mk I O live x).2.2.1 (q_mk I O live x).2.2.2.1 y n f := by
  have h1 := (h.o1 (k := (I (10, 0, 0) 5).toNatClampNeg) (x := x)).other (x := 2) (e := (13, (I (10, 0, 0) 5).toNatClampNeg, 0)) hy
  unfold q_mk
  dsimp only
  exact h1.to (jc_up_t _ _ _ _ _ _ _ _ (by decide)) rfl (fun _ _ => rfl) (fun _ h => h)
/-- a failure: the object, then the frames -/
def q_fI (I : jc_I) (O : jc_O) (live : jc_L → Prop) (t b n m : Nat) (x : Int32) : jc_I := q_rs (q_mk I O live x).2.2.1 t b (n + 1) (q_mk I O live x).1 x m (q_mk I O live x).2.1
theorem ct_fail {I : jc_I} {O : jc_O} {live : jc_L → Prop} {t b n xt fn m : Nat} {x : Int32} (h : QT I O live t b n xt fn m) : jc_Ct y_m_fresh [.inr (some (10, 0, 0)), .inl x] I O live (some (.inl (q_mk I O live x).1), (q_mk I O live x).2.1, (q_mk I O live x).2.2.1, (q_mk I O live x).2.2.2.1, (q_mk I O live x).2.2.2.2.1, (q_mk I O live x).2.2.2.2.2) ∧
    jc_Ct y_m_flies [.inr (some (10, 0, 0)), .inr (some (14, t, 0)), .inl (q_mk I O live x).1] (q_mk I O live x).2.1 (q_mk I O live x).2.2.1 (q_mk I O live x).2.2.2.1 (none, q_fI I O live t b n m x, (q_mk I O live x).2.2.1, (q_mk I O live x).2.2.2.1, 0, 0) := by
  have hmd := h.md
  have hf := q_mk_fact (x := x) h.ob h.md (by have := h.n3; omega)
  refine ⟨ct_m_fresh h.M h.ob (by rw [hmd]; exact h.f1) (by rw [hmd]; exact h.f2), ?_⟩
  unfold q_fI
  have e := ct_m_flies (I := (q_mk I O live x).2.1) (O := (q_mk I O live x).2.2.1) (live := (q_mk I O live x).2.2.2.1) (t := t) (b := b) (n := n + 1) (ko := n) (xt := xt) (fn := fn) (m := m) (x := (q_mk I O live x).1) (h.M.to (fun k => q_mk_O (by decide) (by decide) (by decide) (by decide))) hf.2.1 (by rw [hf.1, jofs (by have := h.n3; omega)]) (by omega) ((q_mk_O (by decide) (by decide) (by decide) (by decide)).trans h.m1) (h.fs.mk2 h.x2) ((q_mk_I (by decide) (by decide) (by decide) (by decide) (by decide)).trans h.d) h.mf (fun j hj => (h.F j hj).to2 (fun q k hq => hf.2.2.2.2.2.2.2.1 q k (fun g => by rw [g] at hq; simp at hq) (fun g => by rw [g] at hq; simp at hq) (fun g => by rw [g] at hq; simp at hq) (by omega) (fun g => by rw [g.1] at hq; simp at hq)) (fun q k hq => hf.2.2.2.2.2.2.2.2.2 q k (fun g => by rw [g] at hq; simp at hq) (fun g => by rw [g] at hq; simp at hq) (fun g => by rw [g] at hq; simp at hq) (fun c g => by rw [g] at hq; simp at hq)))
  rw [hf.2.2.1] at e
  exact e
