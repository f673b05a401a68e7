section
variable {x b n : Nat} {D : Nat → Nat} {u : Nat × Nat} {k : Nat} {z : jc_L × Nat}
theorem mu_9 (h : mu x b n D (9, u) k = some z) : z = ((14, u), k) ∧ (k = 0 ∨ (2 ≤ k ∧ k ≤ 5)) := by
  unfold mu at h
  rw [if_neg (by simp), if_neg (by simp), if_neg (by simp), if_pos rfl] at h
  by_cases h0 : k = 0
  · rw [if_pos h0] at h; cases h; subst h0; exact ⟨rfl, Or.inl rfl⟩
  rw [if_neg h0] at h
  by_cases h1 : (2 ≤ k ∧ k ≤ 5) ∧ ¬ (k = 3 ∧ ((9, u) : jc_L).2 = (x, 0))
  · rw [if_pos h1] at h; cases h; exact ⟨rfl, Or.inr h1.1⟩
  rw [if_neg h1] at h; cases h
theorem mu_8 (h : mu x b n D (8, u) k = some z) : (k = 3 ∧ u.2 < D u.1 ∧ z = ((12, u), 4)) ∨ (k = 4 ∧ z = ((12, u), 5)) := by
  unfold mu at h
  rw [if_pos rfl] at h
  by_cases h3 : k = 3 ∧ ((8, u) : jc_L).2.2 < D ((8, u) : jc_L).2.1
  · rw [if_pos h3] at h; cases h; exact Or.inl ⟨h3.1, h3.2, rfl⟩
  rw [if_neg h3] at h
  by_cases h4 : k = 4
  · rw [if_pos h4] at h; cases h; exact Or.inr ⟨h4, rfl⟩
  rw [if_neg h4] at h; cases h
theorem mu_4 (h : mu x b n D (4, 0, 0) k = some z) : k = 4 ∧ z = ((10, 0, 0), 3) := by
  unfold mu at h
  rw [if_neg (by simp), if_neg (by simp), if_neg (by simp), if_neg (by simp), if_neg (by simp), if_neg (by simp), if_neg (by simp), if_neg (by simp)] at h
  by_cases g : k = 4
  · rw [if_pos ⟨rfl, g⟩] at h
    cases h
    exact ⟨g, rfl⟩
  · rw [if_neg (fun w => g w.2), if_neg (by simp), if_neg (by simp), if_neg (by simp), if_neg (by simp), if_neg (by simp), if_neg (by simp)] at h
    cases h
theorem nu_103 {q : jc_L} {k' : Nat} (h : nu x b n D (10, 0, 0) 3 = some (q, k')) : q = (4, 0, 0) := by cases h; rfl
end
/-- a thread's place that is new, on both sides -/
theorem Sim.newT {y b n t : Nat} {D : Nat → Nat} {J J' I I' : jc_I} {V : Int32} (s : Sim y b n D J I) (hz : ∀ i k, I (12, t, i) k = 0 ∧ I (48, t, i) k = 0 ∧ I (49, t, i) k = 0)
    (a1 : ∀ q k, ¬ ((q.1 = 8 ∨ q.1 = 32 ∨ q.1 = 33) ∧ q.2.1 = t) → q ≠ (9, t, 0) → q ≠ (34, t, 0) → J' q k = J q k) (a2 : ∀ q k, q ≠ (9, t, 0) → q ≠ (34, t, 0) → J' q k = 0 ∨ J' q k = J q k) (a3 : J' (9, t, 0) 0 = V ∧ ∀ i, i ≠ 0 → J' (9, t, 0) i = 0)
    (b1 : ∀ q k, q ≠ (14, t, 0) → q ≠ (15, 10 + t, 0) → q ≠ (15, 1, 0) → (∀ z, q ≠ (60, 1, z)) → I' q k = I q k) (b3 : I' (14, t, 0) 0 = V ∧ ∀ i, i ≠ 0 → I' (14, t, 0) i = 0) : Sim y b n D J' I' := by
  intro q k z hq
  have hn := mu_nu hq
  by_cases h9 : q = (9, t, 0)
  · subst h9
    obtain ⟨e1, e2⟩ := mu_9 hq
    subst e1
    dsimp only
    rcases e2 with e2 | e2
    · subst e2; rw [a3.1, b3.1]
    · rw [a3.2 k (by omega), b3.2 k (by omega)]
  by_cases h34 : q = (34, t, 0)
  · subst h34
    unfold mu at hq
    simp at hq
  by_cases hf : (q.1 = 8 ∨ q.1 = 32 ∨ q.1 = 33) ∧ q.2.1 = t
  · have hs := s q k z hq
    have hI : I' z.1 z.2 = 0 ∧ I z.1 z.2 = 0 := by
      obtain ⟨a, u, v⟩ := q
      obtain ⟨g1, g2⟩ := hf
      dsimp only at g1 g2
      subst g2
      rcases g1 with e | e | e <;> subst e
      · rcases mu_8 hq with ⟨e1, e2, e3⟩ | ⟨e1, e3⟩ <;> subst e3 <;> dsimp only
        · exact ⟨(b1 _ _ (by simp) (by simp) (by simp) (by simp)).trans (hz v 4).1, (hz v 4).1⟩
        · exact ⟨(b1 _ _ (by simp) (by simp) (by simp) (by simp)).trans (hz v 5).1, (hz v 5).1⟩
      · have hq : some ((49, u, v), k) = some z := hq
        cases hq
        exact ⟨(b1 _ _ (by simp) (by simp) (by simp) (by simp)).trans (hz v k).2.2, (hz v k).2.2⟩
      · have hq : some ((48, u, v), k) = some z := hq
        cases hq
        exact ⟨(b1 _ _ (by simp) (by simp) (by simp) (by simp)).trans (hz v k).2.1, (hz v k).2.1⟩
    rw [hI.1]
    rcases a2 q k h9 h34 with e | e
    · exact e
    · rw [e, hs, hI.2]
  rw [a1 q k hf h9 h34, s q k z hq]
  obtain ⟨z1, z2⟩ := z
  dsimp only at hn ⊢
  refine (b1 z1 z2 (fun g => ?_) (fun g => ?_) (fun g => ?_) (fun w g => ?_)).symm
  · rw [g] at hn; exact h9 (nu_14 hn).1
  · rw [g] at hn
    rcases nu_15 hn with w | w <;> (have := congrArg Prod.fst w; dsimp only at this; omega)
  · rw [g] at hn
    rcases nu_15 hn with w | w <;> (have := congrArg Prod.fst w; dsimp only at this; omega)
  · rw [g, nu_60 rfl] at hn; cases hn
/-- a thread begins, on both sides -/
theorem Sim.begin {y b n t xt : Nat} {D : Nat → Nat} {J J' I I' : jc_I} {v : Int32} (s : Sim y b n D J I) (hx : xt = 10 + t)
    (a1 : ∀ q k, q ≠ (9, t, 0) → q ≠ (8, t, 0) → q ≠ (33, t, 0) → ¬ (q = (4, 0, 0) ∧ k = 4) → J' q k = J q k) (a2 : J' (9, t, 0) 2 = 1 ∧ J' (9, t, 0) 3 = 0 ∧ J' (9, t, 0) 4 = 0 ∧ J' (9, t, 0) 5 = 0 ∧ J' (9, t, 0) 0 = J (9, t, 0) 0) (a3 : J' (8, t, 0) 3 = 0 ∧ J' (8, t, 0) 4 = 0) (a4 : ∀ k, J' (33, t, 0) k = if k < 8 then 0 else J (33, t, 0) k) (a5 : J' (4, 0, 0) 4 = v)
    (b1 : ∀ q k, q ≠ (12, t, 0) → q ≠ (48, t, 0) → ¬ (q = (14, t, 0) ∧ 2 ≤ k ∧ k ≤ 6) → q ≠ (15, xt, 0) → (∀ z, q ≠ (60, xt, z)) → ¬ (q = (10, 0, 0) ∧ k = 3) → I' q k = I q k) (b2 : I' (14, t, 0) 2 = 1 ∧ I' (14, t, 0) 3 = 0 ∧ I' (14, t, 0) 4 = 0 ∧ I' (14, t, 0) 5 = 0) (b3 : I' (12, t, 0) 4 = 0 ∧ I' (12, t, 0) 5 = 0) (b4 : ∀ k, I' (48, t, 0) k = if k < 8 then 0 else I (48, t, 0) k) (b5 : I' (10, 0, 0) 3 = v) : Sim y b n (dU D t 1) J' I' := by
  have s0 : Sim y b n (dU D t 0) J I := s.mono (fun z => by
    unfold dU
    split
    · exact Nat.zero_le _
    · exact Nat.le_refl _)
  have key : Sim y b n (dU D t 0) J' I' := by
    intro q k z hq
    have hn := mu_nu hq
    by_cases h8 : q = (8, t, 0)
    · subst h8
      rcases mu_8 hq with ⟨e1, e2, e3⟩ | ⟨e1, e3⟩
      · rw [dU_s] at e2; exact absurd e2 (Nat.not_lt_zero _)
      · subst e1; subst e3
        rw [a3.2, b3.2]
    by_cases h33 : q = (33, t, 0)
    · subst h33
      have hq : some ((48, t, 0), k) = some z := hq
      cases hq
      rw [a4 k, b4 k, s0.lo]
    by_cases h9 : q = (9, t, 0)
    · subst h9
      obtain ⟨e1, e2⟩ := mu_9 hq
      subst e1
      dsimp only
      rcases e2 with e2 | e2
      · subst e2
        rw [a2.2.2.2.2, b1 _ _ (by simp) (by simp) (by simp) (by simp) (by simp) (by simp)]
        exact s0 _ _ _ hq
      · rcases (show k = 2 ∨ k = 3 ∨ k = 4 ∨ k = 5 by omega) with e | e | e | e <;> subst e
        · rw [a2.1, b2.1]
        · rw [a2.2.1, b2.2.1]
        · rw [a2.2.2.1, b2.2.2.1]
        · rw [a2.2.2.2.1, b2.2.2.2]
    by_cases h4 : q = (4, 0, 0)
    · subst h4
      obtain ⟨e1, e2⟩ := mu_4 hq
      subst e1; subst e2
      rw [a5, b5]
    rw [a1 q k h9 h8 h33 (fun g => h4 g.1), s0 q k z hq]
    obtain ⟨z1, z2⟩ := z
    dsimp only at hn ⊢
    refine (b1 z1 z2 (fun g => ?_) (fun g => ?_) (fun g => ?_) (fun g => ?_) (fun w g => ?_) (fun g => ?_)).symm
    · rw [g] at hn; exact h8 (nu_12 hn)
    · rw [g] at hn; exact h33 (nu_48 hn)
    · rw [g.1] at hn; exact h9 (nu_14 hn).1
    · rw [g] at hn
      rcases nu_15 hn with w | w <;> (have := congrArg Prod.fst w; dsimp only at this; omega)
    · rw [g, nu_60 rfl] at hn; cases hn
    · rw [g.1, g.2] at hn; exact h4 (nu_103 hn)
  have := key.more (m := 0) dU_s (a3.1.trans b3.1.symm)
  rw [dU_dU] at this
  exact this
theorem jE_all : ∀ (m : Nat) (i : Int32) (J : jc_I), jE J (g_all m i J).2
  | 0, _, _ => jE.rf
  | m + 1, i, J => by
    rw [g_all]
    split
    · exact jE.rf
    · split
      · exact jE.rf
      · split
        · exact jE_good
        · refine jE.tr ?_ (jE_all m (i + 1) _)
          unfold g_nx
          exact jE_good.tr (jE_rco _ _ _)
theorem jE_thr {J : jc_I} {c : Nat} : jE J (g_thr J c).2 := by
  unfold g_thr
  exact (((jE.zr (Or.inr ⟨by decide, by decide⟩)).tr (jE.up (Or.inl rfl))).tr jE_rch).tr (jE_all _ _ _)
