def ThOK (O : jc_O) (live : jc_L → Prop) : Prop := O (3, 0, 0) 0 = some (30, 0, 0) ∧ ∀ k, k < 2000 → (O (30, 0, 0) k = some (7, k, 0) ∧ O (7, k, 0) 0 = some (29, k, 0)) ∨ (O (30, 0, 0) k = none ∧ ¬ live (7, k, 0) ∧ ¬ live (29, k, 0))
def St (O : jc_O) (t : Nat) : Prop := O (35, 0, 0) t = some (9, t, 0) ∧ O (9, t, 0) 1 = some (34, t, 0) ∧ ∀ j, j < 30 → O (34, t, 0) j = some (8, t, j) ∧ jw_f O t j
/-- a thread of the first side, ready for a step -/
def CX (J : jc_I) (O : jc_O) (live : jc_L → Prop) (S : Int) (t n : Nat) : Prop := (jw_M O) ∧ (jw_H J O) ∧ (jw_A J O) ∧ (CO (bk J)) ∧ (HO J S) ∧ (0 ≤ S) ∧ (S < 2147483646) ∧ (ThOK O live) ∧ (St O t) ∧ (J (9, t, 0) 0 = Int32.ofNat t) ∧ (t < 8) ∧ (TH J O t n) ∧ (J (9, t, 0) 4 = 0) ∧ (0 < n) ∧ (¬ full J)
theorem CX.M {J : jc_I} {O : jc_O} {live : jc_L → Prop} {S : Int} {t n : Nat} (h9 : CX J O live S t n) : jw_M O := h9.1
theorem CX.H {J : jc_I} {O : jc_O} {live : jc_L → Prop} {S : Int} {t n : Nat} (h9 : CX J O live S t n) : jw_H J O := h9.2.1
theorem CX.A {J : jc_I} {O : jc_O} {live : jc_L → Prop} {S : Int} {t n : Nat} (h9 : CX J O live S t n) : jw_A J O := h9.2.2.1
theorem CX.C {J : jc_I} {O : jc_O} {live : jc_L → Prop} {S : Int} {t n : Nat} (h9 : CX J O live S t n) : CO (bk J) := h9.2.2.2.1
theorem CX.ho {J : jc_I} {O : jc_O} {live : jc_L → Prop} {S : Int} {t n : Nat} (h9 : CX J O live S t n) : HO J S := h9.2.2.2.2.1
theorem CX.s0 {J : jc_I} {O : jc_O} {live : jc_L → Prop} {S : Int} {t n : Nat} (h9 : CX J O live S t n) : 0 ≤ S := h9.2.2.2.2.2.1
theorem CX.s1 {J : jc_I} {O : jc_O} {live : jc_L → Prop} {S : Int} {t n : Nat} (h9 : CX J O live S t n) : S < 2147483646 := h9.2.2.2.2.2.2.1
theorem CX.th {J : jc_I} {O : jc_O} {live : jc_L → Prop} {S : Int} {t n : Nat} (h9 : CX J O live S t n) : ThOK O live := h9.2.2.2.2.2.2.2.1
theorem CX.st {J : jc_I} {O : jc_O} {live : jc_L → Prop} {S : Int} {t n : Nat} (h9 : CX J O live S t n) : St O t := h9.2.2.2.2.2.2.2.2.1
theorem CX.nu {J : jc_I} {O : jc_O} {live : jc_L → Prop} {S : Int} {t n : Nat} (h9 : CX J O live S t n) : J (9, t, 0) 0 = Int32.ofNat t := h9.2.2.2.2.2.2.2.2.2.1
theorem CX.t8 {J : jc_I} {O : jc_O} {live : jc_L → Prop} {S : Int} {t n : Nat} (h9 : CX J O live S t n) : t < 8 := h9.2.2.2.2.2.2.2.2.2.2.1
theorem CX.TH {J : jc_I} {O : jc_O} {live : jc_L → Prop} {S : Int} {t n : Nat} (h9 : CX J O live S t n) : TH J O t n := h9.2.2.2.2.2.2.2.2.2.2.2.1
theorem CX.go {J : jc_I} {O : jc_O} {live : jc_L → Prop} {S : Int} {t n : Nat} (h9 : CX J O live S t n) : J (9, t, 0) 4 = 0 := h9.2.2.2.2.2.2.2.2.2.2.2.2.1
theorem CX.np {J : jc_I} {O : jc_O} {live : jc_L → Prop} {S : Int} {t n : Nat} (h9 : CX J O live S t n) : 0 < n := h9.2.2.2.2.2.2.2.2.2.2.2.2.2.1
theorem CX.nf {J : jc_I} {O : jc_O} {live : jc_L → Prop} {S : Int} {t n : Nat} (h9 : CX J O live S t n) : ¬ full J := h9.2.2.2.2.2.2.2.2.2.2.2.2.2.2
theorem CX.top {J : jc_I} {O : jc_O} {live : jc_L → Prop} {S : Int} {t n j : Nat} (h : CX J O live S t n) (hj : j + 1 = n) : jw_top J O t j ∧ jw_f O t j ∧ jw_d J t j ∧ O (8, t, j) 2 = some (6, cd O t j, 0) ∧ jw_in J (cd O t j) ∧ jw_C O (cd O t j) ∧ jw_n J (cd O t j) := by
  have hle := h.TH.le
  have hfc := h.TH.fc
  have e1 := jofI (n := n) (by omega)
  obtain ⟨i, K, a1, a2, a3, a4⟩ := h.TH.top j hj
  have hin : jw_in J (cd O t j) := a4.cn
  have hA := h.A.2.2.2 _ hin
  refine ⟨⟨h.st.2.1, ?_, ?_, ?_, (h.st.2.2 j (by omega)).1⟩, (h.st.2.2 j (by omega)).2, ?_, h.TH.co j (by omega), hin, hA.2.1, hA.2.2.1⟩
  · rw [hfc, jle, e1, j1I]; omega
  · rw [hfc, jle, e1, show (30 : Int32).toInt = 30 from by decide]; omega
  · rw [hfc, ← hj, jofs (by omega), jofN (by omega)]
  · have e2 := jofI (n := K.length) (by have := a4.le; omega)
    have := a4.le
    unfold jw_d
    rw [a4.d, jle, jle, e2, j0I, show (12 : Int32).toInt = 12 from by decide]
    omega
theorem CX.T {J : jc_I} {O : jc_O} {live : jc_L → Prop} {S : Int} {t n : Nat} (h : CX J O live S t n) : jw_T J O t := by
  have hle := h.TH.le
  have hfc := h.TH.fc
  have e1 := jofI (n := n) (by omega)
  refine ⟨h.st.2.1, ?_, ?_, fun j hj => ?_⟩
  · rw [hfc, jle, e1, j0I]; omega
  · rw [hfc, jle, e1, show (30 : Int32).toInt = 30 from by decide]; omega
  · rw [hfc, e1] at hj
    have a := h.TH.any (j := j) (by omega)
    obtain ⟨K, d1, d2⟩ := a.d
    have e2 := jofI (n := K.length) (by omega)
    refine ⟨(h.st.2.2 j (by omega)).1, (h.st.2.2 j (by omega)).2, ?_, h.TH.co j (by omega), a.cn⟩
    unfold jw_d
    rw [d2, jle, jle, e2, j0I, show (12 : Int32).toInt = 12 from by decide]
    omega
theorem ThOK.N {J : jc_I} {O : jc_O} {live : jc_L → Prop} {S : Int} (h : ThOK O live) (hH : HO J S) (hf : ¬ full J) : jw_N J O live := by
  have h1 := (mk_cI hf hH).2
  have h0 := jNI hH.c0
  refine ⟨h.1, hH.c0, ?_⟩
  exact h.2 _ (by omega)
theorem CX.cs {J : jc_I} {O : jc_O} {live : jc_L → Prop} {S : Int} {t n : Nat} (h : CX J O live S t n) : CX (s_cs J t) O live S t n := by
  have e : ∀ q k, q.1 ≠ 9 → s_cs J t q k = J q k := fun q k hq => jk_cs q k (by simpa using hq)
  have hb : bk (s_cs J t) = bk J := ot_cs.bk
  have hv : jV (s_cs J t) = jV J := by funext y; unfold jV; rw [e _ _ (by simp)]
  have e9 : ∀ k, k ≠ 3 → k ≠ 6 → s_cs J t (9, t, 0) k = J (9, t, 0) k := fun k h3 h6 => by unfold s_cs; rw [jc_up_k _ _ _ _ _ _ h6, jc_up_k _ _ _ _ _ _ h3]
  refine ⟨h.M, h.H.to (e _ _ (by simp)), jk_cs.A (by decide) (by decide) h.A, by rw [hb]; exact h.C, h.ho.cs, h.s0, h.s1, h.th, h.st, (e9 0 (by decide) (by decide)).trans h.nu, h.t8, ?_, (e9 4 (by decide) (by decide)).trans h.go, h.np, ?_⟩
  · exact h.TH.to hb (fun x hx => by rw [hv]; exact hx) (e9 2 (by decide) (by decide)) (fun q k hq _ => e q k (by omega)) (fun _ => rfl)
  · unfold full; rw [e _ _ (by simp), e _ _ (by simp)]; exact h.nf
/-- what a step leaves of the first side -/
def CP (J : jc_I) (O : jc_O) (live : jc_L → Prop) (J' : jc_I) (O' : jc_O) (live' : jc_L → Prop) (t : Nat) (S : Int) : Prop := (jTT J' O' t) ∧ (ot t J J') ∧ (∀ x, jV J x → jV J' x) ∧ (HO J' (S + 1)) ∧ (J' (9, t, 0) 0 = J (9, t, 0) 0) ∧ (J' (9, t, 0) 6 = J (9, t, 0) 6) ∧ (J' (9, t, 0) 3 = J (9, t, 0) 3) ∧ (jw_H J' O') ∧ (ThOK O' live') ∧ (∀ q k, ¬ (q.1 = 8 ∧ q.2.1 = t ∧ k = 2) → q.1 ≠ 7 → q.1 ≠ 29 → q.1 ≠ 30 → O' q k = O q k) ∧ (∀ q, live q → live' q) ∧ (∀ q, live' q → live q ∨ q.1 = 7 ∨ q.1 = 29)
theorem CP.tt {J : jc_I} {O : jc_O} {live : jc_L → Prop} {J' : jc_I} {O' : jc_O} {live' : jc_L → Prop} {t : Nat} {S : Int} (h9 : CP J O live J' O' live' t S) : jTT J' O' t := h9.1
theorem CP.o {J : jc_I} {O : jc_O} {live : jc_L → Prop} {J' : jc_I} {O' : jc_O} {live' : jc_L → Prop} {t : Nat} {S : Int} (h9 : CP J O live J' O' live' t S) : ot t J J' := h9.2.1
theorem CP.v {J : jc_I} {O : jc_O} {live : jc_L → Prop} {J' : jc_I} {O' : jc_O} {live' : jc_L → Prop} {t : Nat} {S : Int} (h9 : CP J O live J' O' live' t S) : ∀ x, jV J x → jV J' x := h9.2.2.1
theorem CP.ho {J : jc_I} {O : jc_O} {live : jc_L → Prop} {J' : jc_I} {O' : jc_O} {live' : jc_L → Prop} {t : Nat} {S : Int} (h9 : CP J O live J' O' live' t S) : HO J' (S + 1) := h9.2.2.2.1
theorem CP.n0 {J : jc_I} {O : jc_O} {live : jc_L → Prop} {J' : jc_I} {O' : jc_O} {live' : jc_L → Prop} {t : Nat} {S : Int} (h9 : CP J O live J' O' live' t S) : J' (9, t, 0) 0 = J (9, t, 0) 0 := h9.2.2.2.2.1
theorem CP.n6 {J : jc_I} {O : jc_O} {live : jc_L → Prop} {J' : jc_I} {O' : jc_O} {live' : jc_L → Prop} {t : Nat} {S : Int} (h9 : CP J O live J' O' live' t S) : J' (9, t, 0) 6 = J (9, t, 0) 6 := h9.2.2.2.2.2.1
theorem CP.n3 {J : jc_I} {O : jc_O} {live : jc_L → Prop} {J' : jc_I} {O' : jc_O} {live' : jc_L → Prop} {t : Nat} {S : Int} (h9 : CP J O live J' O' live' t S) : J' (9, t, 0) 3 = J (9, t, 0) 3 := h9.2.2.2.2.2.2.1
theorem CP.H {J : jc_I} {O : jc_O} {live : jc_L → Prop} {J' : jc_I} {O' : jc_O} {live' : jc_L → Prop} {t : Nat} {S : Int} (h9 : CP J O live J' O' live' t S) : jw_H J' O' := h9.2.2.2.2.2.2.2.1
theorem CP.th {J : jc_I} {O : jc_O} {live : jc_L → Prop} {J' : jc_I} {O' : jc_O} {live' : jc_L → Prop} {t : Nat} {S : Int} (h9 : CP J O live J' O' live' t S) : ThOK O' live' := h9.2.2.2.2.2.2.2.2.1
theorem CP.oo {J : jc_I} {O : jc_O} {live : jc_L → Prop} {J' : jc_I} {O' : jc_O} {live' : jc_L → Prop} {t : Nat} {S : Int} (h9 : CP J O live J' O' live' t S) : ∀ q k, ¬ (q.1 = 8 ∧ q.2.1 = t ∧ k = 2) → q.1 ≠ 7 → q.1 ≠ 29 → q.1 ≠ 30 → O' q k = O q k := h9.2.2.2.2.2.2.2.2.2.1
theorem CP.l1 {J : jc_I} {O : jc_O} {live : jc_L → Prop} {J' : jc_I} {O' : jc_O} {live' : jc_L → Prop} {t : Nat} {S : Int} (h9 : CP J O live J' O' live' t S) : ∀ q, live q → live' q := h9.2.2.2.2.2.2.2.2.2.2.1
theorem CP.l2 {J : jc_I} {O : jc_O} {live : jc_L → Prop} {J' : jc_I} {O' : jc_O} {live' : jc_L → Prop} {t : Nat} {S : Int} (h9 : CP J O live J' O' live' t S) : ∀ q, live' q → live q ∨ q.1 = 7 ∨ q.1 = 29 := h9.2.2.2.2.2.2.2.2.2.2.2
/-- a step within the frame, nothing made -/
theorem CP.loc {J J' : jc_I} {O : jc_O} {live : jc_L → Prop} {S S' : Int} {t n j : Nat} (h : CX J O live S t n) (hj : j + 1 = n) (l : jLS J J' t j (cd O t j) S') (hs : S' ≤ S + 1) (hc : J' (3, 0, 0) 2 = J (3, 0, 0) 2) : CP J O live J' O live t S := by
  have e9 : ∀ k, J' (9, t, 0) k = J (9, t, 0) k := fun k => l.h _ _ (by simp) (by simp) (by simp) (by simp) (by simp) (by simp) (by simp)
  exact ⟨⟨n, h.TH.loc hj l.h l.v l.ft, Or.inl ⟨(e9 4).trans h.go, h.np⟩⟩, l.h.ot, l.v, l.ho.mono hs, e9 0, e9 6, e9 3, h.H.to hc, h.th, fun _ _ _ _ _ _ => rfl, fun _ h => h, fun _ h => Or.inl h⟩
theorem end_3 {J : jc_I} {t : Nat} {a b : Int32} : m_end J t a b (9, t, 0) 3 = J (9, t, 0) 3 := by
  unfold m_end
  rw [free_9 (by simp), jc_up_k _ _ _ _ _ _ (by decide), jc_up_k _ _ _ _ _ _ (by decide)]
theorem ef_3 {J : jc_I} {t : Nat} : s_ef J t (9, t, 0) 3 = J (9, t, 0) 3 := by unfold s_ef; rw [jc_up_k _ _ _ _ _ _ (by decide)]
theorem rs_3 {O : jc_O} {t : Nat} {x k : Int32} : ∀ (m : Nat) (J : jc_I), m_rs O t x k m J (9, t, 0) 3 = J (9, t, 0) 3
  | 0, J => end_3
  | m + 1, J => by
    rw [m_rs]
    split
    · unfold f_ho
      rw [jc_up_t _ _ _ _ _ _ _ _ (by decide), jc_up_t _ _ _ _ _ _ _ _ (by decide), jc_up_t _ _ _ _ _ _ _ _ (by decide), jc_up_t _ _ _ _ _ _ _ _ (by decide)]
    · rw [rs_3 m, ef_3]
theorem rse_3 {J : jc_I} {O : jc_O} {t : Nat} {x : Int32} : m_rse J O t x (9, t, 0) 3 = J (9, t, 0) 3 := rs_3 _ _
theorem CP.rs {J J' : jc_I} {O : jc_O} {live : jc_L → Prop} {S : Int} {t n : Nat} (h : CX J O live S t n) (r : jRS J J' O t S) (h3 : J' (9, t, 0) 3 = J (9, t, 0) 3) : CP J O live J' O live t S := by
  refine ⟨r.tt, r.o, fun x hx => ?_, r.ho.mono (by omega), r.n0, r.n6, h3, h.H.to r.c, h.th, fun _ _ _ _ _ _ => rfl, fun _ h => h, fun _ h => Or.inl h⟩
  unfold jV
  rw [r.c]
  exact hx
