variable {D : Nat → Nat}
/-- a thread of the first side, between steps -/
def CY (J : jc_I) (O : jc_O) (live : jc_L → Prop) (S : Int) (t m : Nat) : Prop := (jw_M O) ∧ (jw_H J O) ∧ (jw_A J O) ∧ (CO (bk J)) ∧ (HO J S) ∧ (0 ≤ S) ∧ (ThOK O live) ∧ (St O t) ∧ (J (9, t, 0) 0 = Int32.ofNat t) ∧ (t < 8) ∧ (TH J O t m) ∧ ((J (9, t, 0) 4 = 0 ∧ 0 < m) ∨ ((J (9, t, 0) 4 = 1 ∨ J (9, t, 0) 4 = 2) ∧ m = 0)) ∧ (J (9, t, 0) 6 = 0 ∨ J (9, t, 0) 6 = 1)
theorem CY.M {J : jc_I} {O : jc_O} {live : jc_L → Prop} {S : Int} {t m : Nat} (h9 : CY J O live S t m) : jw_M O := h9.1
theorem CY.H {J : jc_I} {O : jc_O} {live : jc_L → Prop} {S : Int} {t m : Nat} (h9 : CY J O live S t m) : jw_H J O := h9.2.1
theorem CY.A {J : jc_I} {O : jc_O} {live : jc_L → Prop} {S : Int} {t m : Nat} (h9 : CY J O live S t m) : jw_A J O := h9.2.2.1
theorem CY.C {J : jc_I} {O : jc_O} {live : jc_L → Prop} {S : Int} {t m : Nat} (h9 : CY J O live S t m) : CO (bk J) := h9.2.2.2.1
theorem CY.ho {J : jc_I} {O : jc_O} {live : jc_L → Prop} {S : Int} {t m : Nat} (h9 : CY J O live S t m) : HO J S := h9.2.2.2.2.1
theorem CY.s0 {J : jc_I} {O : jc_O} {live : jc_L → Prop} {S : Int} {t m : Nat} (h9 : CY J O live S t m) : 0 ≤ S := h9.2.2.2.2.2.1
theorem CY.th {J : jc_I} {O : jc_O} {live : jc_L → Prop} {S : Int} {t m : Nat} (h9 : CY J O live S t m) : ThOK O live := h9.2.2.2.2.2.2.1
theorem CY.st {J : jc_I} {O : jc_O} {live : jc_L → Prop} {S : Int} {t m : Nat} (h9 : CY J O live S t m) : St O t := h9.2.2.2.2.2.2.2.1
theorem CY.nu {J : jc_I} {O : jc_O} {live : jc_L → Prop} {S : Int} {t m : Nat} (h9 : CY J O live S t m) : J (9, t, 0) 0 = Int32.ofNat t := h9.2.2.2.2.2.2.2.2.1
theorem CY.t8 {J : jc_I} {O : jc_O} {live : jc_L → Prop} {S : Int} {t m : Nat} (h9 : CY J O live S t m) : t < 8 := h9.2.2.2.2.2.2.2.2.2.1
theorem CY.TH {J : jc_I} {O : jc_O} {live : jc_L → Prop} {S : Int} {t m : Nat} (h9 : CY J O live S t m) : TH J O t m := h9.2.2.2.2.2.2.2.2.2.2.1
theorem CY.go {J : jc_I} {O : jc_O} {live : jc_L → Prop} {S : Int} {t m : Nat} (h9 : CY J O live S t m) : (J (9, t, 0) 4 = 0 ∧ 0 < m) ∨ ((J (9, t, 0) 4 = 1 ∨ J (9, t, 0) 4 = 2) ∧ m = 0) := h9.2.2.2.2.2.2.2.2.2.2.2.1
theorem CY.b6 {J : jc_I} {O : jc_O} {live : jc_L → Prop} {S : Int} {t m : Nat} (h9 : CY J O live S t m) : J (9, t, 0) 6 = 0 ∨ J (9, t, 0) 6 = 1 := h9.2.2.2.2.2.2.2.2.2.2.2.2
theorem CY.X {J : jc_I} {O : jc_O} {live : jc_L → Prop} {S : Int} {t m : Nat} (h : CY J O live S t m) (hg : J (9, t, 0) 4 = 0) (hs : S < 2147483646) (hf : ¬ full J) : CX J O live S t m := ⟨h.M, h.H, h.A, h.C, h.ho, h.s0, hs, h.th, h.st, h.nu, h.t8, h.TH, hg, (h.go.resolve_right (fun g => by rw [hg] at g; rcases g.1 with w | w <;> exact absurd w (by decide))).2, hf⟩
theorem CY.top {J : jc_I} {O : jc_O} {live : jc_L → Prop} {S : Int} {t n j : Nat} (h : CY J O live S t n) (hj : j + 1 = n) : jw_top J O t j ∧ jw_f O t j ∧ jw_d J t j ∧ O (8, t, j) 2 = some (6, cd O t j, 0) ∧ jw_in J (cd O t j) ∧ jw_C O (cd O t j) ∧ jw_n J (cd O t j) := by
  have hle := h.TH.le
  have hfc := h.TH.fc
  have e1 := jofI (n := n) (by omega)
  obtain ⟨i, K, a1, a2, a3, a4⟩ := h.TH.top j hj
  have hin : jw_in J (cd O t j) := a4.cn
  have hA := h.A.2.2.2 _ hin
  refine ⟨⟨h.st.2.1, ?_, ?_, ?_, (h.st.2.2 j (by omega)).1⟩, (h.st.2.2 j (by omega)).2, ?_, h.TH.co j (by omega), hin, hA.2.1, hA.2.2.1⟩
  · rw [hfc, jle, e1, j1I]; omega
  · rw [hfc, jle, e1, show (30 : Int32).toInt = 30 from by decide]; omega
  · rw [hfc, ← hj, jofs (by omega), jofN (by omega)]
  · have e2 := jofI (n := K.length) (by have := a4.le; omega)
    have := a4.le
    unfold jw_d
    rw [a4.d, jle, jle, e2, j0I, show (12 : Int32).toInt = 12 from by decide]
    omega
theorem TH.jTe {J : jc_I} {O : jc_O} {t n j : Nat} (h : TH J O t n) (hj : j + 1 = n) : jT J t = j ∧ ¬ J (9, t, 0) 2 = 0 := by
  have hle := h.le
  unfold jT
  rw [h.fc, ← hj, jofs (by omega), jofN (by omega)]
  refine ⟨rfl, fun g => ?_⟩
  have := congrArg Int32.toInt g
  rw [jofI (by omega), j0I] at this
  omega
theorem CY.oh1 {J : jc_I} {O : jc_O} {live : jc_L → Prop} {S : Int} {t n j : Nat} (h : CY J O live S t n) (hj : j + 1 = n) : oh J O t = m_oha J t j (cd O t j) := by
  obtain ⟨a, b⟩ := h.TH.jTe hj
  unfold oh
  rw [if_neg b, a]
theorem CY.oh0 {J : jc_I} {O : jc_O} {live : jc_L → Prop} {S : Int} {t n : Nat} (h : CY J O live S t n) (hn : n = 0) : oh J O t = 0 := by
  have h0 : J (9, t, 0) 2 = 0 := by rw [h.TH.fc, hn]; rfl
  unfold oh
  rw [if_pos h0]
theorem CY.ohc {J : jc_I} {O : jc_O} {live : jc_L → Prop} {S : Int} {t n : Nat} (h : CY J O live S t n) : jc_Ct y_M_objectHeldAgainst [.inr (some (4, 0, 0)), .inr (some (9, t, 0))] J O live (some (.inl (oh J O t)), J, O, live, 0, 0) := by
  cases n with
  | zero =>
    rw [h.oh0 rfl]
    exact ct_M_objectHeldAgainstN h.st.2.1 h.TH.fc
  | succ j =>
    obtain ⟨hT, hf, hd, hc, hin, hC, hn⟩ := h.top (j := j) rfl
    rw [h.oh1 (j := j) rfl]
    exact ct_M_objectHeldAgainst h.M h.H hT hf hd hc hC hn
theorem CY.awc {J : jc_I} {O : jc_O} {live : jc_L → Prop} {S : Int} {t n : Nat} (h : CY J O live S t n) : jc_Ct y_M_awaitedBy [.inr (some (4, 0, 0)), .inr (some (9, t, 0))] J O live (some (.inl (aw J O t)), J, O, live, 0, 0) := by
  unfold aw
  cases n with
  | zero =>
    rw [h.oh0 rfl]
    have e : (if J (9, t, 0) 6 = 0 then (0 : Int32) else 0) = 0 := by split <;> rfl
    rw [e]
    exact ct_M_awaitedByN h.st.2.1 h.TH.fc h.b6
  | succ j =>
    obtain ⟨hT, hf, hd, hc, hin, hC, hn⟩ := h.top (j := j) rfl
    rw [h.oh1 (j := j) rfl]
    exact ct_M_awaitedBy h.M h.H hT hf hd hc hC hn h.b6
/-- only steps and isStopped of the thread itself change -/
theorem CY.to {J J' : jc_I} {O : jc_O} {live : jc_L → Prop} {S : Int} {t m : Nat} (h : CY J O live S t m) (e : ∀ q k, ¬ (q = (9, t, 0) ∧ (k = 3 ∨ k = 6)) → J' q k = J q k) (b6 : J' (9, t, 0) 6 = 0 ∨ J' (9, t, 0) 6 = 1) : CY J' O live S t m := by
  have e1 : ∀ q k, q.1 ≠ 9 → J' q k = J q k := fun q k hq => e q k (fun g => hq (by rw [g.1]))
  have e9 : ∀ k, k ≠ 3 → k ≠ 6 → J' (9, t, 0) k = J (9, t, 0) k := fun k h3 h6 => e _ _ (fun g => by omega)
  have hb : bk J' = bk J := bk_eq (fun q k hq => e1 q k (by omega))
  have hv : jV J' = jV J := by funext y; unfold jV; rw [e1 _ _ (by simp)]
  have hk : jk [9] J J' := fun q k hq => e1 q k (by simpa using hq)
  refine ⟨h.M, h.H.to (e1 _ _ (by simp)), hk.A (by decide) (by decide) h.A, by rw [hb]; exact h.C, h.ho.to (fun q k hq => e1 q k (by omega)), h.s0, h.th, h.st, (e9 0 (by decide) (by decide)).trans h.nu, h.t8, ?_, ?_, b6⟩
  · exact h.TH.to hb (fun x hx => by rw [hv]; exact hx) (e9 2 (by decide) (by decide)) (fun q k hq _ => e1 q k (by omega)) (fun _ => rfl)
  · rw [e9 4 (by decide) (by decide)]; exact h.go
theorem CY.mono {J : jc_I} {O : jc_O} {live : jc_L → Prop} {S S' : Int} {t m : Nat} (h : CY J O live S t m) (hs : S ≤ S') : CY J O live S' t m := ⟨h.M, h.H, h.A, h.C, h.ho.mono hs, by have := h.s0; omega, h.th, h.st, h.nu, h.t8, h.TH, h.go, h.b6⟩
/-- what steps of one thread leave of the first side -/
def CF (t : Nat) (J : jc_I) (O : jc_O) (live : jc_L → Prop) (J' : jc_I) (O' : jc_O) (live' : jc_L → Prop) : Prop := (ot t J J') ∧ (∀ x, jV J x → jV J' x) ∧ (∀ q k, ¬ (q.1 = 8 ∧ q.2.1 = t ∧ k = 2) → q.1 ≠ 7 → q.1 ≠ 29 → q.1 ≠ 30 → O' q k = O q k) ∧ (∀ q, live q → live' q) ∧ (∀ q, live' q → live q ∨ q.1 = 7 ∨ q.1 = 29)
theorem CF.o {t : Nat} {J : jc_I} {O : jc_O} {live : jc_L → Prop} {J' : jc_I} {O' : jc_O} {live' : jc_L → Prop} (h9 : CF t J O live J' O' live') : ot t J J' := h9.1
theorem CF.v {t : Nat} {J : jc_I} {O : jc_O} {live : jc_L → Prop} {J' : jc_I} {O' : jc_O} {live' : jc_L → Prop} (h9 : CF t J O live J' O' live') : ∀ x, jV J x → jV J' x := h9.2.1
theorem CF.oo {t : Nat} {J : jc_I} {O : jc_O} {live : jc_L → Prop} {J' : jc_I} {O' : jc_O} {live' : jc_L → Prop} (h9 : CF t J O live J' O' live') : ∀ q k, ¬ (q.1 = 8 ∧ q.2.1 = t ∧ k = 2) → q.1 ≠ 7 → q.1 ≠ 29 → q.1 ≠ 30 → O' q k = O q k := h9.2.2.1
theorem CF.l1 {t : Nat} {J : jc_I} {O : jc_O} {live : jc_L → Prop} {J' : jc_I} {O' : jc_O} {live' : jc_L → Prop} (h9 : CF t J O live J' O' live') : ∀ q, live q → live' q := h9.2.2.2.1
theorem CF.l2 {t : Nat} {J : jc_I} {O : jc_O} {live : jc_L → Prop} {J' : jc_I} {O' : jc_O} {live' : jc_L → Prop} (h9 : CF t J O live J' O' live') : ∀ q, live' q → live q ∨ q.1 = 7 ∨ q.1 = 29 := h9.2.2.2.2
theorem CF.rf {t : Nat} {J : jc_I} {O : jc_O} {live : jc_L → Prop} : CF t J O live J O live := ⟨ot.rf, fun _ h => h, fun _ _ _ _ _ _ => rfl, fun _ h => h, fun _ h => Or.inl h⟩
theorem CF.tr {t : Nat} {J J1 J2 : jc_I} {O O1 O2 : jc_O} {live l1 l2 : jc_L → Prop} (h : CF t J O live J1 O1 l1) (h2 : CF t J1 O1 l1 J2 O2 l2) : CF t J O live J2 O2 l2 := ⟨h.o.tr h2.o, fun x hx => h2.v x (h.v x hx), fun q k a b c d => (h2.oo q k a b c d).trans (h.oo q k a b c d), fun q g => h2.l1 q (h.l1 q g), fun q g => (h2.l2 q g).elim (h.l2 q) Or.inr⟩
theorem CF.up9 {t k : Nat} {v : Int32} {J : jc_I} {O : jc_O} {live : jc_L → Prop} : CF t J O live (jc_up J (9, t, 0) k v) O live := ⟨ot.u9, fun x hx => by unfold jV at *; rw [jc_up_t _ _ _ _ _ _ _ _ (by decide)]; exact hx, fun _ _ _ _ _ _ => rfl, fun _ h => h, fun _ h => Or.inl h⟩
theorem CF.cs {t : Nat} {J : jc_I} {O : jc_O} {live : jc_L → Prop} : CF t J O live (s_cs J t) O live := CF.up9.tr CF.up9
theorem CP.F {t : Nat} {S : Int} {J J' : jc_I} {O O' : jc_O} {live live' : jc_L → Prop} (h : CP J O live J' O' live' t S) : CF t J O live J' O' live' := ⟨h.o, h.v, h.oo, h.l1, h.l2⟩
theorem ot.jk {t : Nat} {J J' : jc_I} (h : ot t J J') : jk [8, 32, 33, 9, 7, 29, 31, 3] J J' := fun q k hq => by
  simp only [List.mem_cons, List.not_mem_nil, or_false, not_or] at hq
  exact h q k (by omega) (by omega) (by omega) (by omega) (by omega)
theorem St.to {O O' : jc_O} {t t' : Nat} (h : St O t) (e : ∀ q k, ¬ (q.1 = 8 ∧ q.2.1 = t' ∧ k = 2) → q.1 ≠ 7 → q.1 ≠ 29 → q.1 ≠ 30 → O' q k = O q k) : St O' t := by
  obtain ⟨a, b, c⟩ := h
  refine ⟨(e _ _ (by simp) (by simp) (by simp) (by simp)).trans a, (e _ _ (by simp) (by simp) (by simp) (by simp)).trans b, fun j hj => ⟨(e _ _ (by simp) (by simp) (by simp) (by simp)).trans (c j hj).1, ?_⟩⟩
  have := (c j hj).2
  unfold jw_f at *
  rw [e _ _ (by simp) (by simp) (by simp) (by simp), e _ _ (by simp) (by simp) (by simp) (by simp)]
  exact this
theorem jw_M.to9 {O O' : jc_O} {t' : Nat} (h : jw_M O) (e : ∀ q k, ¬ (q.1 = 8 ∧ q.2.1 = t' ∧ k = 2) → q.1 ≠ 7 → q.1 ≠ 29 → q.1 ≠ 30 → O' q k = O q k) : jw_M O' := by
  unfold jw_M at *
  rw [e _ _ (by simp) (by simp) (by simp) (by simp), e _ _ (by simp) (by simp) (by simp) (by simp), e _ _ (by simp) (by simp) (by simp) (by simp), e _ _ (by simp) (by simp) (by simp) (by simp)]
  exact h
theorem ofNat30 {a b : Nat} (ha : a ≤ 30) (hb : b ≤ 30) (h : Int32.ofNat a = Int32.ofNat b) : a = b := by
  have := congrArg Int32.toInt h
  rw [jofI (by omega), jofI (by omega)] at this
  omega
theorem CY.step {J0 J' : jc_I} {O O' : jc_O} {live live' : jc_L → Prop} {S : Int} {t n0 m' : Nat} (h : CX J0 O live S t n0) (cp : CP (s_cs J0 t) O live J' O' live' t S) (hm : J' (9, t, 0) 2 = Int32.ofNat m') (hm30 : m' ≤ 30) : CY J' O' live' (S + 1) t m' := by
  obtain ⟨n1, g1, g2⟩ := cp.tt
  have e : n1 = m' := ofNat30 g1.le hm30 (g1.fc.symm.trans hm)
  subst e
  have hc := h.cs
  refine ⟨h.M.to9 cp.oo, cp.H, (cp.o.jk.A (by decide) (by decide) hc.A).toO (fun q k hq => cp.oo q k (by omega) (by omega) (by omega) (by omega)), by rw [cp.o.bk]; exact hc.C, cp.ho, by have := h.s0; omega, cp.th, h.st.to cp.oo, cp.n0.trans hc.nu, h.t8, g1, g2, ?_⟩
  rw [cp.n6]
  unfold s_cs
  rw [jc_up_s]
  exact Or.inl rfl
theorem RX.to14 {I I' : jc_I} {P : jc_O} {lv : jc_L → Prop} {t b n xt fn m c9 : Nat} (h : RX I P lv t b n xt fn m c9) (e : ∀ q k, ¬ (q = (14, t, 0) ∧ (k = 3 ∨ k = 6)) → I' q k = I q k) : RX I' P lv t b n xt fn m c9 := by
  have e15 : ∀ x k, I' (15, x, 0) k = I (15, x, 0) k := fun x k => e _ _ (by simp)
  have e10 : ∀ k, I' (10, 0, 0) k = I (10, 0, 0) k := fun k => e _ _ (by simp)
  have ec : ∀ q k, q.1 = 11 ∨ q.1 = 15 ∨ q.1 = 45 → I' q k = I q k := fun q k hq => e q k (fun g => by rw [g.1] at hq; simp at hq)
  refine ⟨⟨h.qt.M, h.qt.ob.to (e15 2 1) rfl (fun _ _ => rfl) (fun _ h => h), h.qt.m1, h.qt.fs.to (e15 xt 1) rfl (fun _ _ => rfl) (fun _ h => h), (e _ _ (by simp)).trans h.qt.d, h.qt.mf, fun i hi => (h.qt.F i hi).to (fun q k hq => ec q k (by omega)), by rw [e10]; exact h.qt.md, h.qt.f1, h.qt.f2, h.qt.n3, h.qt.x2⟩, h.qa.to (fun q k hq => ec q k (by omega)), h.fr, h.ff, fun i k hi => ?_, h.f30, h.of, (e10 5).trans h.mk, h.mb, h.o2, h.x10, h.c7⟩
  rw [e _ _ (by simp), e _ _ (by simp), e _ _ (by simp)]
  exact h.fz i k hi
theorem FRc.to14 {I I' : jc_I} {P O : jc_O} {t m : Nat} (h : FRc I P O t m) (e : ∀ q k, ¬ (q = (14, t, 0) ∧ (k = 3 ∨ k = 6)) → I' q k = I q k) : FRc I' P O t m := fun i hi => by
  refine ⟨(h i hi).1, ?_⟩
  rw [e _ _ (by simp)]
  exact (h i hi).2
/-- who waits, on both sides -/
def WT (J : jc_I) (O : jc_O) (I : jc_I) (t : Nat) : Prop := (J (9, t, 0) 6 = 0 ∧ I (14, t, 0) 6 = 0) ∨ (J (9, t, 0) 6 = 1 ∧ J (9, t, 0) 4 = 0 ∧ m_op J t (jT J t) (cd O t (jT J t)) = 20 ∧ f_pk J t (jT J t) 0 = I (14, t, 0) 6 ∧ 1 ≤ I (14, t, 0) 6 ∧ I (14, t, 0) 6 ≤ J (3, 0, 0) 2)
/-- both sides of a thread, between steps -/
def RI (J : jc_I) (O : jc_O) (live : jc_L → Prop) (I : jc_I) (P : jc_O) (lv : jc_L → Prop) (S : Int) (t b n xt fn m c9 : Nat) (D : Nat → Nat) : Prop := (CY J O live S t m) ∧ (RX I P lv t b n xt fn m c9) ∧ (FRc I P O t m) ∧ (SimF b n D J I) ∧ (D t = m) ∧ (J (3, 0, 0) 2 = Int32.ofNat n) ∧ (WT J O I t) ∧ (∀ d, d < c9 → qr I d) ∧ (∀ c : Nat, (c : Int) < (bk J).cn.toInt → 0 ≤ (bk J).res c)
theorem RI.cy {J : jc_I} {O : jc_O} {live : jc_L → Prop} {I : jc_I} {P : jc_O} {lv : jc_L → Prop} {S : Int} {t b n xt fn m c9 : Nat} {D : Nat → Nat} (h9 : RI J O live I P lv S t b n xt fn m c9 D) : CY J O live S t m := h9.1
theorem RI.rx {J : jc_I} {O : jc_O} {live : jc_L → Prop} {I : jc_I} {P : jc_O} {lv : jc_L → Prop} {S : Int} {t b n xt fn m c9 : Nat} {D : Nat → Nat} (h9 : RI J O live I P lv S t b n xt fn m c9 D) : RX I P lv t b n xt fn m c9 := h9.2.1
theorem RI.fr {J : jc_I} {O : jc_O} {live : jc_L → Prop} {I : jc_I} {P : jc_O} {lv : jc_L → Prop} {S : Int} {t b n xt fn m c9 : Nat} {D : Nat → Nat} (h9 : RI J O live I P lv S t b n xt fn m c9 D) : FRc I P O t m := h9.2.2.1
theorem RI.sm {J : jc_I} {O : jc_O} {live : jc_L → Prop} {I : jc_I} {P : jc_O} {lv : jc_L → Prop} {S : Int} {t b n xt fn m c9 : Nat} {D : Nat → Nat} (h9 : RI J O live I P lv S t b n xt fn m c9 D) : SimF b n D J I := h9.2.2.2.1
theorem RI.Dt {J : jc_I} {O : jc_O} {live : jc_L → Prop} {I : jc_I} {P : jc_O} {lv : jc_L → Prop} {S : Int} {t b n xt fn m c9 : Nat} {D : Nat → Nat} (h9 : RI J O live I P lv S t b n xt fn m c9 D) : D t = m := h9.2.2.2.2.1
theorem RI.cn {J : jc_I} {O : jc_O} {live : jc_L → Prop} {I : jc_I} {P : jc_O} {lv : jc_L → Prop} {S : Int} {t b n xt fn m c9 : Nat} {D : Nat → Nat} (h9 : RI J O live I P lv S t b n xt fn m c9 D) : J (3, 0, 0) 2 = Int32.ofNat n := h9.2.2.2.2.2.1
theorem RI.wt {J : jc_I} {O : jc_O} {live : jc_L → Prop} {I : jc_I} {P : jc_O} {lv : jc_L → Prop} {S : Int} {t b n xt fn m c9 : Nat} {D : Nat → Nat} (h9 : RI J O live I P lv S t b n xt fn m c9 D) : WT J O I t := h9.2.2.2.2.2.2.1
theorem RI.qr {J : jc_I} {O : jc_O} {live : jc_L → Prop} {I : jc_I} {P : jc_O} {lv : jc_L → Prop} {S : Int} {t b n xt fn m c9 : Nat} {D : Nat → Nat} (h9 : RI J O live I P lv S t b n xt fn m c9 D) : ∀ d, d < c9 → qr I d := h9.2.2.2.2.2.2.2.1
theorem RI.rs {J : jc_I} {O : jc_O} {live : jc_L → Prop} {I : jc_I} {P : jc_O} {lv : jc_L → Prop} {S : Int} {t b n xt fn m c9 : Nat} {D : Nat → Nat} (h9 : RI J O live I P lv S t b n xt fn m c9 D) : ∀ c : Nat, (c : Int) < (bk J).cn.toInt → 0 ≤ (bk J).res c := h9.2.2.2.2.2.2.2.2
section
variable {J I : jc_I} {O P : jc_O} {live lv : jc_L → Prop} {S : Int} {t b n xt fn m c9 : Nat}
theorem RI.mono {S' : Int} (h : RI J O live I P lv S t b n xt fn m c9 D) (hs : S ≤ S') : RI J O live I P lv S' t b n xt fn m c9 D := ⟨h.cy.mono hs, h.rx, h.fr, h.sm, h.Dt, h.cn, h.wt, h.qr, h.rs⟩
theorem RI.wn (h : RI J O live I P lv S t b n xt fn m c9 D) : I (14, t, 0) 6 ≠ 0 → 1 ≤ I (14, t, 0) 6 ∧ (I (14, t, 0) 6 - 1).toNatClampNeg < n := fun g => by
  rcases h.wt with w | w
  · exact absurd w.2 g
  · exact ⟨w.2.2.2.2.1, (ob_k h.cn h.rx.qt.n3 ⟨w.2.2.2.2.1, w.2.2.2.2.2⟩).1⟩
theorem RI.HU (h : RI J O live I P lv S t b n xt fn m c9 D) : jc_Ct y_m_isHeldUp [.inr (some (10, 0, 0)), .inr (some (14, t, 0))] I P lv (some (.inl (q_hu I t b)), I, P, lv, 0, 0) := ct_m_isHeldUp h.rx.qt.M h.rx.qt.ob h.wn
theorem RI.hu (h : RI J O live I P lv S t b n xt fn m c9 D) : (aw J O t = 0 ∧ q_hu I t b = 0) ∨ (aw J O t ≠ 0 ∧ q_hu I t b = 1 ∧ aw J O t = I (14, t, 0) 6 ∧ J (9, t, 0) 4 = 0) := by
  rcases h.wt with ⟨w1, w2⟩ | ⟨w1, w2, w3, w4, w5, w6⟩
  · left
    unfold aw q_hu
    rw [if_pos w1, if_pos w2]
    exact ⟨rfl, rfl⟩
  · have hm : 0 < m := (h.cy.go.resolve_right (fun g => by rw [w2] at g; rcases g.1 with w | w <;> exact absurd w (by decide))).2
    obtain ⟨j, hj⟩ : ∃ j, j + 1 = m := ⟨m - 1, by omega⟩
    have hjT := (h.cy.TH.jTe hj).1
    rw [hjT] at w3 w4
    have eaw : aw J O t = m_oha J t j (cd O t j) := by
      unfold aw
      rw [w1, if_neg (by decide)]
      exact h.cy.oh1 hj
    obtain ⟨k1, k2⟩ := ob_k h.cn h.rx.qt.n3 ⟨w5, w6⟩
    have s2 := h.sm 0 (7, (I (14, t, 0) 6 - 1).toNatClampNeg, 0) 2 _ (mu72 k1)
    have s3 := h.sm 0 (7, (I (14, t, 0) 6 - 1).toNatClampNeg, 0) 3 _ (mu73 k1)
    have s9 : J (9, t, 0) 0 = I (14, t, 0) 0 := h.sm 0 (9, t, 0) 0 _ rfl
    have hw0 : I (14, t, 0) 6 ≠ 0 := fun g => by rw [g] at w5; exact absurd w5 (by decide)
    rw [eaw]
    unfold m_oha q_hu
    rw [w4, if_neg hw0, ← s2, ← s3, ← s9]
    have hth := h.cy.ho.th _ k2
    by_cases g : J (7, (I (14, t, 0) 6 - 1).toNatClampNeg, 0) 2 ≠ -1 ∧ J (7, (I (14, t, 0) 6 - 1).toNatClampNeg, 0) 2 ≠ J (9, t, 0) 0
    · right
      have hp := (hth.resolve_left (fun z => g.1 z.1)).2.1
      rw [if_pos ⟨w3, ⟨w5, w6⟩, g.1, g.2⟩, if_pos ⟨by rw [jlt, j0I]; omega, g.2⟩]
      exact ⟨hw0, rfl, rfl, w2⟩
    · left
      rw [if_neg (fun z => g ⟨z.2.2.1, z.2.2.2⟩), if_neg (fun z => g ⟨fun z1 => by
        rcases hth with ⟨_, y⟩ | ⟨y, _⟩
        · rw [y] at z; exact absurd z.1 (by decide)
        · exact y z1, z.2⟩)]
      exact ⟨rfl, rfl⟩
theorem RI.e4 (h : RI J O live I P lv S t b n xt fn m c9 D) : I (14, t, 0) 4 = J (9, t, 0) 4 := (h.sm 0 (9, t, 0) 4 ((14, t, 0), 4) (by unfold mu; simp)).symm
theorem RI.rve (h : RI J O live I P lv S t b n xt fn m c9 D) : rv I t b = av J O t := by
  unfold rv av
  rw [h.e4]
  rcases h.hu with ⟨a, e⟩ | ⟨a, e, -, w⟩
  · rw [a, e, if_pos rfl, if_pos rfl]
    rcases h.cy.go with ⟨g, _⟩ | ⟨g, _⟩
    · rw [g, if_pos (by decide)]
    · rcases g with g | g <;> rw [g, if_neg (by decide)]
  · rw [e, w, if_pos (by decide), if_neg (by decide), if_neg a]
theorem RI.nE (h : RI J O live I P lv S t b n xt fn m c9 D) : (I (14, t, 0) 4 ≠ 0 ∨ q_hu I t b ≠ 0) ↔ ((J (9, t, 0) 4 = 1 ∨ J (9, t, 0) 4 = 2) ∨ aw J O t ≠ 0) := by
  rw [h.e4]
  have h1 : J (9, t, 0) 4 ≠ 0 ↔ (J (9, t, 0) 4 = 1 ∨ J (9, t, 0) 4 = 2) := by
    rcases h.cy.go with ⟨g, _⟩ | ⟨g, _⟩
    · rw [g]; decide
    · rcases g with g | g <;> rw [g] <;> decide
  have h2 : q_hu I t b ≠ 0 ↔ aw J O t ≠ 0 := by
    rcases h.hu with ⟨a, e⟩ | ⟨a, e, -, w⟩
    · rw [a, e]
    · rw [e]; exact ⟨fun _ => a, fun _ => by decide⟩
  rw [h1, h2]
theorem RI.fu (h : RI J O live I P lv S t b n xt fn m c9 D) : (2000 ≤ I (15, 2, 0) 1 ∨ 40000 ≤ I (10, 0, 0) 5) ↔ (2000 ≤ J (3, 0, 0) 2 ∨ 40000 ≤ J (3, 0, 0) 3) := by
  have a : J (3, 0, 0) 2 = I (15, 2, 0) 1 := h.sm 0 (3, 0, 0) 2 _ rfl
  have b : J (3, 0, 0) 3 = I (10, 0, 0) 5 := h.sm 0 (3, 0, 0) 3 _ rfl
  rw [a, b]
end
