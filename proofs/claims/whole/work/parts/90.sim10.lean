variable {D : Nat → Nat}
theorem l_add_cost {I : jc_I} {O : jc_O} {live : jc_L → Prop} {x n : Nat} {f : Nat → jc_L} {e : jc_L} (h : ql I O live x n f) : (l_add I O live x e).2.2.2.1 + lcap O x ≤ lcap (l_add I O live x e).2.1 x ∧ (l_add I O live x e).2.2.2.2 + 4 * lcap O x ≤ 4 * lcap (l_add I O live x e).2.1 x ∧ (lcap (l_add I O live x e).2.1 x ≤ lcap O x ∨ lcap (l_add I O live x e).2.1 x ≤ 2 * n + 10) := by
  have hle := h.le
  have hcp := h.cp
  have hsn : (I (15, x, 0) 1).toNatClampNeg = n := by rw [h.sz, jofN (by omega)]
  unfold l_add
  rw [hsn]
  by_cases h1 : n < lcap O x
  · rw [if_pos h1]
    dsimp only
    have hc : lcap (jc_up O (60, x, lcap O x) n (some e)) x = lcap O x := by
      unfold lcap
      rw [jc_up_t _ _ _ _ _ _ _ _ (by decide)]
    rw [hc]
    omega
  · rw [if_neg h1]
    by_cases h2 : lcap O x = 0
    · rw [if_pos h2]
      dsimp only
      have h60 : jc_up (jc_up (jc_cl O (60, x, 10) none) (15, x, 0) 0 (some (60, x, 10))) (60, x, 10) n (some e) (15, x, 0) 0 = some (60, x, 10) := by
        rw [jc_up_t _ _ _ _ _ _ _ _ (by decide), jc_up_s]
      rw [lcap_60 h60]
      omega
    · rw [if_neg h2]
      dsimp only
      have h60 : jc_up (jc_up (jc_cp (jc_cl O (60, x, lnc (lcap O x)) none) (60, x, lcap O x) (60, x, lnc (lcap O x)) (lcap O x)) (15, x, 0) 0 (some (60, x, lnc (lcap O x)))) (60, x, lnc (lcap O x)) n (some e) (15, x, 0) 0 = some (60, x, lnc (lcap O x)) := by
        rw [jc_up_t _ _ _ _ _ _ _ _ (by decide), jc_up_s]
      rw [lcap_60 h60]
      unfold lnc
      omega
theorem q_mk_cost {I : jc_I} {P : jc_O} {lv : jc_L → Prop} {x : Int32} {b n : Nat} (h : ql I P lv 2 n (qO b)) : (q_mk I P lv x).2.2.2.2.1 + lcap P 2 ≤ lcap (q_mk I P lv x).2.2.1 2 + 2 ∧ (q_mk I P lv x).2.2.2.2.2 + 4 * lcap P 2 ≤ 4 * lcap (q_mk I P lv x).2.2.1 2 + 12 ∧ lcap P 2 ≤ lcap (q_mk I P lv x).2.2.1 2 := by
  have e := l_add_cost (e := (13, (I (10, 0, 0) 5).toNatClampNeg, 0)) (h.o1 (k := (I (10, 0, 0) 5).toNatClampNeg) (x := x))
  have ec : lcap (q_o1O P (I (10, 0, 0) 5).toNatClampNeg) 2 = lcap P 2 := by
    unfold lcap
    rw [q_o1O_t (by decide) (by decide)]
  rw [ec] at e
  obtain ⟨e1, e2, e3⟩ := e
  unfold q_mk
  dsimp only
  omega
theorem h_mk_cost {J : jc_I} {O : jc_O} {live : jc_L → Prop} {x : Int32} : (h_mk J O live x).2.2.2.2.1 ≤ 2 ∧ (h_mk J O live x).2.2.2.2.2 ≤ 12 := by
  unfold h_mk
  split
  · exact ⟨Nat.le_of_ble_eq_true rfl, Nat.le_of_ble_eq_true rfl⟩
  · split
    · exact ⟨Nat.le_of_ble_eq_true rfl, Nat.le_of_ble_eq_true rfl⟩
    · exact ⟨Nat.le_of_ble_eq_true rfl, Nat.le_of_ble_eq_true rfl⟩
theorem RK.make {I : jc_I} {P : jc_O} {lv : jc_L → Prop} {t b n xt fn m c9 : Nat} {x : Int32} (h : RX I P lv t b n xt fn m c9) : RK t b n xt I P lv (q_mk I P lv x).2.1 (q_mk I P lv x).2.2.1 (q_mk I P lv x).2.2.2.1 := by
  have hq := h.qt
  have hn3 := hq.n3
  obtain ⟨g1, g2, g3, g4, g5, g6, g7, g8, g9, g10⟩ := q_mk_fact (x := x) hq.ob hq.md (by omega)
  refine ⟨fun q k c1 c2 c3 c4 c5 c6 c7 c8 => g8 q k (fun g => c2 (by rw [g])) (fun g => c3 (by rw [g])) c5 c7 c8, fun q k c1 c2 c3 c4 c5 c6 c7 => g10 q k (fun g => c2 (by rw [g]; exact ⟨rfl, Nat.le_refl _⟩)) (fun g => c3 (by rw [g]; exact ⟨rfl, Nat.le_refl _⟩)) c4 c6, q_mk_live, fun q hq9 => ?_⟩
  have := q_mk_l hq9
  rw [hq.md] at this
  rcases this with g | g | g | g
  · exact Or.inl g
  · exact Or.inr (Or.inl (by rw [g]; exact ⟨rfl, Nat.le_refl _⟩))
  · exact Or.inr (Or.inr (Or.inl (by rw [g]; exact ⟨rfl, Nat.le_refl _⟩)))
  · exact Or.inr (Or.inr (Or.inr (Or.inl g)))
/-- what failures change of the second side -/
def rr (t m : Nat) (I I' : jc_I) : Prop := ∀ q k, ¬ (q = (14, t, 0) ∧ (k = 2 ∨ k = 4 ∨ k = 5)) → ¬ (q.1 = 12 ∧ q.2.1 = t ∧ q.2.2 < m ∧ (k = 4 ∨ k = 5)) → ¬ (q.1 = 49 ∧ q.2.1 = t ∧ q.2.2 < m) → q.1 ≠ 13 → I' q k = I q k
theorem q_free_e {I : jc_I} {b : Nat} {x : Int32} {q : jc_L} {k : Nat} (h : q.1 ≠ 13) : ∀ m, q_free I b x m q k = I q k
  | 0 => rfl
  | m + 1 => by
    rw [q_free]
    split
    · rw [jc_up_q _ _ _ _ _ _ (fun g => h (by rw [g])), jc_up_q _ _ _ _ _ _ (fun g => h (by rw [g])), q_free_e h m]
    · exact q_free_e h m
theorem rr_over {I : jc_I} {t m b n : Nat} {a v : Int32} : rr t m I (q_over I t b n a v) := fun q k h1 h2 h3 h4 => by
  unfold q_over
  rw [q_free_e h4]
  unfold jc_up
  rw [if_neg (fun g => h1 ⟨g.1, Or.inr (Or.inr g.2)⟩), if_neg (fun g => h1 ⟨g.1, Or.inr (Or.inl g.2)⟩)]
theorem rr_rs {P : jc_O} {t b n : Nat} {x y : Int32} : ∀ (m : Nat) (I : jc_I), rr t m I (q_rs P t b n x y m I)
  | 0, I => rr_over
  | m + 1, I => fun q k h1 h2 h3 h4 => by
    rw [q_rs]
    split
    · unfold q_ho jc_up
      rw [if_neg (fun g => h2 (by rw [g.1]; exact ⟨rfl, rfl, Nat.lt_succ_self _, Or.inr g.2⟩)), if_neg (fun g => h2 (by rw [g.1]; exact ⟨rfl, rfl, Nat.lt_succ_self _, Or.inl g.2⟩)), if_neg (fun g => h3 (by rw [g.1]; exact ⟨rfl, rfl, Nat.lt_succ_self _⟩)), if_neg (fun g => h2 (by rw [g.1]; exact ⟨rfl, rfl, Nat.lt_succ_self _, Or.inl g.2⟩))]
    · rw [rr_rs m _ q k h1 (fun g => h2 ⟨g.1, g.2.1, by omega, g.2.2.2⟩) (fun g => h3 ⟨g.1, g.2.1, by omega⟩) h4]
      unfold jc_up
      rw [if_neg (fun g => h1 ⟨g.1, Or.inl g.2⟩)]
theorem RX.rs {I I' : jc_I} {P : jc_O} {lv : jc_L → Prop} {t b n xt fn m m' c9 : Nat} (h : RX I P lv t b n xt fn m c9) (e : rr t m I I') (hd : I' (14, t, 0) 2 = Int32.ofNat m') (hm : m' ≤ m) : RX I' P lv t b n xt fn m' c9 := by
  have e15 : ∀ x k, I' (15, x, 0) k = I (15, x, 0) k := fun x k => e _ _ (by simp) (by simp) (by simp) (by simp)
  have e10 : ∀ k, I' (10, 0, 0) k = I (10, 0, 0) k := fun k => e _ _ (by simp) (by simp) (by simp) (by simp)
  have ec : ∀ q k, q.1 = 11 ∨ q.1 = 15 ∨ q.1 = 45 → I' q k = I q k := fun q k hq => e q k (fun g => by rw [g.1] at hq; simp at hq) (by omega) (by omega) (by omega)
  have hmf := h.qt.mf
  refine ⟨⟨h.qt.M, h.qt.ob.to (e15 2 1) rfl (fun _ _ => rfl) (fun _ h => h), h.qt.m1, h.qt.fs.to (e15 xt 1) rfl (fun _ _ => rfl) (fun _ h => h), hd, by omega, fun i hi => (h.qt.F i (by omega)).to (fun q k hq => ec q k (by omega)), by rw [e10]; exact h.qt.md, h.qt.f1, h.qt.f2, h.qt.n3, h.qt.x2⟩, h.qa.to (fun q k hq => ec q k (by omega)), h.fr, h.ff, fun i k hi => ?_, h.f30, h.of, (e10 5).trans h.mk, h.mb, h.o2, h.x10, h.c7⟩
  rw [e _ _ (by simp) (by simp; omega) (by simp) (by simp), e _ _ (by simp) (by simp) (by simp) (by simp), e _ _ (by simp) (by simp) (by simp; omega) (by simp)]
  exact h.fz i k hi
theorem FRc.rs {I I' : jc_I} {P O : jc_O} {t m m' : Nat} (h : FRc I P O t m) (e : rr t m I I') (hm : m' ≤ m) : FRc I' P O t m' := fun i hi => by
  refine ⟨(h i (by omega)).1, ?_⟩
  rw [e _ _ (by simp) (by simp) (by simp) (by simp)]
  exact (h i (by omega)).2
theorem RK.rs {t m b n xt : Nat} {I I' : jc_I} {P : jc_O} {lv : jc_L → Prop} (e : rr t m I I') : RK t b n xt I P lv I' P lv := by
  refine ⟨fun q k h1 h2 h3 h4 _ _ _ _ => e q k (fun g => h1 ⟨Or.inr (Or.inl (by rw [g.1])), by rw [g.1]⟩) (fun g => h1 ⟨Or.inl g.1, g.2.1⟩) (fun g => h1 ⟨Or.inr (Or.inr (Or.inr g.1)), g.2.1⟩) h2, fun _ _ _ _ _ _ _ _ _ => rfl, fun _ h => h, fun _ h => Or.inl h⟩
