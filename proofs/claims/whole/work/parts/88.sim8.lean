variable {D : Nat → Nat}
theorem nu_13 {z b n k : Nat} : nu z b n D (13, b + n, 0) k = none := by
  unfold nu
  rw [if_neg (by simp), if_neg (by simp), if_neg (by simp), if_neg (by simp), if_neg (by simp), if_neg (by simp), if_neg (by simp), if_neg (by simp), if_neg (by simp), if_neg (by simp), if_neg (by simp), if_neg (by simp), if_neg (by simp), if_neg (by simp), if_neg (by simp), if_neg (by simp), if_neg (by simp), if_neg (by simp)]
theorem nu_47 {z b n k : Nat} : nu z b n D (47, b + n, 0) k = none := by
  unfold nu
  rw [if_neg (by simp), if_neg (by simp), if_neg (by simp), if_neg (by simp), if_neg (by simp), if_neg (by simp), if_neg (by simp), if_neg (by simp), if_neg (by simp), if_neg (by simp), if_neg (by simp), if_neg (by simp), if_neg (by simp), if_neg (by simp), if_neg (by simp), if_neg (by simp), if_neg (by simp), if_neg (by simp)]
theorem nu_60 {z b n k : Nat} {q : jc_L} (h : q.1 = 60) : nu z b n D q k = none := by
  obtain ⟨a, u, v⟩ := q
  have h : a = 60 := h
  subst h
  unfold nu
  rw [if_neg (by simp), if_neg (by simp), if_neg (by simp), if_neg (by simp), if_neg (by simp), if_neg (by simp), if_neg (by simp), if_neg (by simp), if_neg (by simp), if_neg (by simp), if_neg (by simp), if_neg (by simp), if_neg (by simp), if_neg (by simp), if_neg (by simp), if_neg (by simp), if_neg (by simp), if_neg (by simp)]
/-- one more thing in the domain -/
theorem mu_suc {z b n : Nat} {q : jc_L} {k : Nat} {w : jc_L × Nat} (h : mu z b (n + 1) D q k = some w) (h7 : q ≠ (7, n, 0)) (h29 : q ≠ (29, n, 0)) : mu z b n D q k = some w := by
  obtain ⟨a, u, v⟩ := q
  unfold mu at h ⊢
  dsimp only at h ⊢
  by_cases e8 : a = 8
  · rw [if_pos e8] at h ⊢; exact h
  rw [if_neg e8] at h ⊢
  by_cases e32 : a = 32
  · rw [if_pos e32] at h ⊢; exact h
  rw [if_neg e32] at h ⊢
  by_cases e33 : a = 33
  · rw [if_pos e33] at h ⊢; exact h
  rw [if_neg e33] at h ⊢
  by_cases e9 : a = 9
  · rw [if_pos e9] at h ⊢; exact h
  rw [if_neg e9] at h ⊢
  by_cases e7 : a = 7 ∧ u < n + 1 ∧ v = 0
  · have : a = 7 ∧ u < n ∧ v = 0 := ⟨e7.1, by
      have : u ≠ n := fun g => h7 (by rw [e7.1, g, e7.2.2])
      omega, e7.2.2⟩
    rw [if_pos e7] at h
    rw [if_pos this]
    exact h
  rw [if_neg e7] at h
  rw [if_neg (show ¬ (a = 7 ∧ u < n ∧ v = 0) from fun g => e7 ⟨g.1, by omega, g.2.2⟩)]
  by_cases e29 : a = 29 ∧ u < n + 1 ∧ k < 8 ∧ v = 0
  · have : a = 29 ∧ u < n ∧ k < 8 ∧ v = 0 := ⟨e29.1, by
      have : u ≠ n := fun g => h29 (by rw [e29.1, g, e29.2.2.2])
      omega, e29.2.2⟩
    rw [if_pos e29] at h
    rw [if_pos this]
    exact h
  rw [if_neg e29] at h
  rw [if_neg (show ¬ (a = 29 ∧ u < n ∧ k < 8 ∧ v = 0) from fun g => e29 ⟨g.1, by omega, g.2.2⟩)]
  exact h
theorem mu_3 {z b n k : Nat} {w : jc_L × Nat} (h : mu z b n D (3, 0, 0) k = some w) : (k = 2 ∧ w = ((15, 2, 0), 1)) ∨ (k = 3 ∧ w = ((10, 0, 0), 5)) := by
  unfold mu at h
  rw [if_neg (by simp), if_neg (by simp), if_neg (by simp), if_neg (by simp), if_neg (by simp), if_neg (by simp), if_pos rfl] at h
  split at h
  · rename_i e; cases h; exact Or.inl ⟨e, rfl⟩
  · split at h
    · rename_i e; cases h; exact Or.inr ⟨e, rfl⟩
    · cases h
theorem mu_7i {z b n i k : Nat} {w : jc_L × Nat} (h : mu z b n D (7, i, 0) k = some w) : (k = 1 ∧ w = ((13, b + i, 0), 0)) ∨ (k = 2 ∧ w = ((13, b + i, 0), 2)) ∨ (k = 3 ∧ w = ((13, b + i, 0), 3)) := by
  unfold mu at h
  rw [if_neg (by simp), if_neg (by simp), if_neg (by simp), if_neg (by simp)] at h
  by_cases hi : i < n
  · rw [if_pos ⟨rfl, hi, rfl⟩] at h
    by_cases e1 : k = 1
    · rw [if_pos e1] at h; cases h; exact Or.inl ⟨e1, rfl⟩
    · rw [if_neg e1] at h
      by_cases e2 : k = 2
      · rw [if_pos e2] at h; cases h; exact Or.inr (Or.inl ⟨e2, rfl⟩)
      · rw [if_neg e2] at h
        by_cases e3 : k = 3
        · rw [if_pos e3] at h; cases h; exact Or.inr (Or.inr ⟨e3, rfl⟩)
        · rw [if_neg e3] at h; cases h
  · rw [if_neg (fun g => hi g.2.1), if_neg (by simp), if_neg (by simp), if_neg (by simp), if_neg (by simp), if_neg (by simp), if_neg (by simp), if_neg (by simp), if_neg (by simp), if_neg (by simp), if_neg (by simp)] at h
    cases h
theorem mu_29i {z b n i k : Nat} {w : jc_L × Nat} (h : mu z b n D (29, i, 0) k = some w) : k < 8 ∧ w = ((47, b + i, 0), k) := by
  unfold mu at h
  rw [if_neg (by simp), if_neg (by simp), if_neg (by simp), if_neg (by simp), if_neg (by simp)] at h
  by_cases e : i < n ∧ k < 8
  · rw [if_pos ⟨rfl, e.1, e.2, rfl⟩] at h; cases h; exact ⟨e.2, rfl⟩
  · rw [if_neg (fun g => e ⟨g.2.1, g.2.2.1⟩), if_neg (by simp), if_neg (by simp), if_neg (by simp), if_neg (by simp), if_neg (by simp), if_neg (by simp), if_neg (by simp), if_neg (by simp), if_neg (by simp)] at h
    cases h
/-- the new thing is the new object -/
theorem Sim.make {z b n : Nat} {J I : jc_I} {O P : jc_O} {live lv : jc_L → Prop} {x : Int32} {S : Int} (s : Sim z b n D J I) (hf : ¬ full J) (hH : HO J S) (hcn : J (3, 0, 0) 2 = Int32.ofNat n) (hn : n ≤ 2000) (hl : ql I P lv 2 n (qO b)) (hm : (I (10, 0, 0) 5).toNatClampNeg = b + n) : Sim z b (n + 1) D (h_mk J O live x).2.1 (q_mk I P lv x).2.1 := by
  have hnew := mk_new (O := O) (live := live) (x := x) hf
  obtain ⟨g1, g2, g3, g4, g5, g6, g7, g8, g9, g10⟩ := q_mk_fact (x := x) hl hm (by omega)
  have ek : (J (3, 0, 0) 2).toNatClampNeg = n := by rw [hcn, jofN (by omega)]
  intro q k w hw
  by_cases h7 : q = (7, n, 0)
  · subst h7
    rw [ek] at hnew
    rcases mu_7i hw with ⟨a, e⟩ | ⟨a, e⟩ | ⟨a, e⟩ <;> subst a <;> subst e
    · exact hnew.2.2.2.1.trans g3.symm
    · exact hnew.2.2.2.2.1.trans g4.symm
    · exact hnew.2.2.2.2.2.1.trans g5.symm
  by_cases h29 : q = (29, n, 0)
  · subst h29
    rw [ek] at hnew
    obtain ⟨a, e⟩ := mu_29i hw
    subst e
    exact (hnew.2.2.2.2.2.2 k a).trans (g6 k).symm
  have hw2 := mu_suc hw h7 h29
  by_cases h3 : q = (3, 0, 0)
  · subst h3
    rcases mu_3 hw2 with ⟨a, e⟩ | ⟨a, e⟩ <;> subst a <;> subst e
    · show _ = (q_mk I P lv x).2.1 (15, 2, 0) 1
      rw [hnew.2.1, g2.sz, hcn, jof1 (by omega)]
    · show _ = (q_mk I P lv x).2.1 (10, 0, 0) 5
      rw [hnew.2.2.1, g7, s (3, 0, 0) 3 _ hw2]
  rw [mk_ne hf (by rw [ek]; exact h7) (by rw [ek]; exact h29) h3, s q k w hw2]
  have hnu := mu_nu hw2
  refine (g8 w.1 w.2 (fun g => ?_) (fun g => ?_) (fun g => ?_) (fun g => ?_) (fun g => ?_)).symm
  · rw [g, nu_13] at hnu; cases hnu
  · rw [g, nu_47] at hnu; cases hnu
  · rw [g] at hnu
    unfold nu at hnu
    rw [if_neg (by simp), if_neg (by simp), if_neg (by simp), if_neg (by simp), if_neg (by simp), if_neg (by simp)] at hnu
    by_cases e1 : w.2 = 1
    · rw [if_pos ⟨rfl, e1⟩] at hnu; cases hnu; exact h3 rfl
    · rw [if_neg (fun g => e1 g.2), if_neg (by simp), if_neg (by simp), if_neg (by simp), if_neg (by simp), if_neg (by simp), if_neg (by simp), if_neg (by simp), if_neg (by simp), if_neg (by simp), if_neg (by simp), if_neg (by simp)] at hnu
      cases hnu
  · rw [nu_60 g] at hnu; cases hnu
  · rw [g.1, g.2] at hnu
    unfold nu at hnu
    rw [if_neg (by simp), if_neg (by simp), if_neg (by simp), if_neg (by simp), if_neg (by simp), if_neg (by simp), if_neg (by simp), if_pos rfl, if_pos rfl] at hnu
    cases hnu
    exact h3 rfl
/-- the second side behind a new object -/
theorem RX.make {I : jc_I} {P : jc_O} {lv : jc_L → Prop} {t b n xt fn m c9 : Nat} {x : Int32} (h : RX I P lv t b n xt fn m c9) (hn : n < 2000) (hb : b + n < 40000) : RX (q_mk I P lv x).2.1 (q_mk I P lv x).2.2.1 (q_mk I P lv x).2.2.2.1 t b (n + 1) xt fn m c9 := by
  have hq := h.qt
  obtain ⟨g1, g2, g3, g4, g5, g6, g7, g8, g9, g10⟩ := q_mk_fact (x := x) hq.ob hq.md (by omega)
  have e : ∀ q k, q.1 ≠ 13 → q.1 ≠ 47 → q ≠ (15, 2, 0) → q.1 ≠ 60 → q.1 ≠ 10 → (q_mk I P lv x).2.1 q k = I q k := fun q k a b c d f => g8 q k (fun g => a (by rw [g])) (fun g => b (by rw [g])) c d (fun g => f (by rw [g.1]))
  have eo : ∀ q k, q.1 ≠ 13 → q.1 ≠ 47 → q ≠ (15, 2, 0) → q.1 ≠ 60 → (q_mk I P lv x).2.2.1 q k = P q k := fun q k a b c d => g10 q k (fun g => a (by rw [g])) (fun g => b (by rw [g])) c (fun z g => d (by rw [g]))
  have el : ∀ q, (q_mk I P lv x).2.2.2.1 q → lv q ∨ q = (13, b + n, 0) ∨ q = (47, b + n, 0) ∨ ∃ c, q = (60, 2, c) := fun q hq9 => by
    have := q_mk_l hq9
    rw [hq.md] at this
    exact this
  have hmk : (q_mk I P lv x).2.1 (10, 0, 0) 5 = Int32.ofNat (b + (n + 1)) := by rw [g7, h.mk, jof1 (by omega), Nat.add_assoc]
  refine ⟨⟨?_, g2, (eo _ _ (by simp) (by simp) (by simp) (by simp)).trans hq.m1, hq.fs.mk2 hq.x2, (e _ _ (by simp) (by simp) (by simp) (by simp) (by simp)).trans hq.d, hq.mf, fun j hj => ?_, ?_, ?_, ?_, by omega, hq.x2⟩, ?_, fun i hi => ?_, fun i hi => ?_, fun i k hi => ?_, h.f30, fun k hk => ?_, hmk, by omega, fun k hk => ?_, h.x10, ?_⟩
  · exact hq.M.to (fun k => eo _ _ (by simp) (by simp) (by simp) (by simp))
  · exact (hq.F j hj).to2 (fun q k hq9 => e q k (by omega) (by omega) (fun g => by rw [g] at hq9; simp at hq9) (by omega) (by omega)) (fun q k hq9 => by
      rcases hq9 with g | g
      · exact eo q k (by omega) (by omega) (fun w => by rw [w] at g; simp at g) (by omega)
      · rw [g]; exact eo _ _ (by simp) (by simp) (by simp) (by simp))
  · rw [hmk, jofN (by omega)]
  · intro g
    rcases el _ g with w | w | w | ⟨c, w⟩
    · exact (h.o2 _ (by omega)).1 w
    · have := congrArg (fun z => z.2.1) w; simp at this
    · cases w
    · cases w
  · intro g
    rcases el _ g with w | w | w | ⟨c, w⟩
    · exact (h.o2 _ (by omega)).2 w
    · cases w
    · have := congrArg (fun z => z.2.1) w; simp at this
    · cases w
  · obtain ⟨a1, a2, a3⟩ := h.qa
    refine ⟨a1.to (fun k => eo _ _ (by simp) (by simp) (by simp) (by simp)), a2.mk2 (by decide), fun d hd => ?_⟩
    obtain ⟨b1, b2, b3⟩ := a3 d hd
    refine ⟨?_, ?_, ?_⟩
    · unfold qc at *
      rw [eo _ _ (by simp) (by simp) (by simp) (by simp), eo _ _ (by simp) (by simp) (by simp) (by simp), eo _ _ (by simp) (by simp) (by simp) (by simp), eo _ _ (by simp) (by simp) (by simp) (by simp), eo _ _ (by simp) (by simp) (by simp) (by simp), eo _ _ (by simp) (by simp) (by simp) (by simp), eo _ _ (by simp) (by simp) (by simp) (by simp)]
      exact b1
    · unfold qn at *
      rw [e _ _ (by simp) (by simp) (by simp) (by simp) (by simp), e _ _ (by simp) (by simp) (by simp) (by simp) (by simp), e _ _ (by simp) (by simp) (by simp) (by simp) (by simp)]
      exact b2
    · rw [e _ _ (by simp) (by simp) (by simp) (by simp) (by simp)]; exact b3
  · unfold qf
    rw [eo _ _ (by simp) (by simp) (by simp) (by simp), eo _ _ (by simp) (by simp) (by simp) (by simp)]
    exact h.fr i hi
  · obtain ⟨a1, a2, a3⟩ := h.ff i hi
    refine ⟨fun g => ?_, fun g => ?_, fun g => ?_⟩ <;> rcases el _ g with w | w | w | ⟨c, w⟩ <;> first | exact a1 w | exact a2 w | exact a3 w | cases w
  · rw [e _ _ (by simp) (by simp) (by simp) (by simp) (by simp), e _ _ (by simp) (by simp) (by simp) (by simp) (by simp), e _ _ (by simp) (by simp) (by simp) (by simp) (by simp)]
    exact h.fz i k hi
  · by_cases g : k = n
    · subst g; exact g9
    · rw [g10 _ _ (by simp; omega) (by simp) (by simp) (by simp)]
      exact h.of k (by omega)
  · obtain ⟨a1, a2⟩ := h.o2 k (by omega)
    refine ⟨fun g => ?_, fun g => ?_⟩ <;> rcases el _ g with w | w | w | ⟨c, w⟩ <;> first | exact a1 w | exact a2 w | (have := congrArg (fun z => z.2.1) w; simp at this; omega) | cases w
  · have e9 : lcap (q_mk I P lv x).2.2.1 xt = lcap P xt := by
      unfold lcap
      rw [eo _ _ (by simp) (by simp) (by have := h.x10; simp; omega) (by simp)]
    rw [e9]; exact h.c7
