def mu (x b n : Nat) (D : Nat → Nat) (q : jc_L) (k : Nat) : Option (jc_L × Nat) :=
  if q.1 = 8 then (if k = 3 ∧ q.2.2 < D q.2.1 then some ((12, q.2), 4) else if k = 4 then some ((12, q.2), 5) else none)
  else if q.1 = 32 then some ((49, q.2), k)
  else if q.1 = 33 then some ((48, q.2), k)
  else if q.1 = 9 then (if k = 0 then some ((14, q.2), 0) else if (2 ≤ k ∧ k ≤ 5) ∧ ¬ (k = 3 ∧ q.2 = (x, 0)) then some ((14, q.2), k) else none)
  else if q.1 = 7 ∧ q.2.1 < n ∧ q.2.2 = 0 then (if k = 1 then some ((13, b + q.2.1, q.2.2), 0) else if k = 2 then some ((13, b + q.2.1, q.2.2), 2) else if k = 3 then some ((13, b + q.2.1, q.2.2), 3) else none)
  else if q.1 = 29 ∧ q.2.1 < n ∧ k < 8 ∧ q.2.2 = 0 then some ((47, b + q.2.1, q.2.2), k)
  else if q = (3, 0, 0) then (if k = 2 then some ((15, 2, 0), 1) else if k = 3 then some ((10, 0, 0), 5) else none)
  else if q = (31, 0, 0) then some ((50, 0, 0), k)
  else if q = (4, 0, 0) ∧ k = 4 then some ((10, 0, 0), 3)
  else if q = (1, 0, 0) ∧ k = 1 then some ((15, 0, 0), 1)
  else if q.1 = 6 then (if k = 1 then some ((11, q.2), 0) else if k = 2 then some ((11, q.2), 1) else if k = 7 then some ((11, q.2), 3) else if k = 8 then some ((11, q.2), 6) else if k = 9 then some ((11, q.2), 11) else none)
  else if q.1 = 20 then some ((40, q.2), k)
  else if q.1 = 21 then some ((41, q.2), k)
  else if q.1 = 22 then some ((42, q.2), k)
  else if q.1 = 5 then (if k = 0 then some ((43, q.2.1, 0), q.2.2) else if k = 1 then some ((44, q.2.1, 0), q.2.2) else if k = 2 then some ((45, q.2.1, 0), q.2.2) else if k = 3 then some ((46, q.2.1, 0), q.2.2) else none)
  else none
def nu (x b n : Nat) (D : Nat → Nat) (q : jc_L) (k : Nat) : Option (jc_L × Nat) :=
  if q.1 = 12 then (if k = 4 ∧ q.2.2 < D q.2.1 then some ((8, q.2), 3) else if k = 5 then some ((8, q.2), 4) else none)
  else if q.1 = 49 then some ((32, q.2), k)
  else if q.1 = 48 then some ((33, q.2), k)
  else if q.1 = 14 then (if k = 0 then some ((9, q.2), 0) else if (2 ≤ k ∧ k ≤ 5) ∧ ¬ (k = 3 ∧ q.2 = (x, 0)) then some ((9, q.2), k) else none)
  else if q.1 = 13 ∧ b ≤ q.2.1 ∧ q.2.1 < b + n ∧ q.2.2 = 0 then (if k = 0 then some ((7, q.2.1 - b, q.2.2), 1) else if k = 2 then some ((7, q.2.1 - b, q.2.2), 2) else if k = 3 then some ((7, q.2.1 - b, q.2.2), 3) else none)
  else if q.1 = 47 ∧ b ≤ q.2.1 ∧ q.2.1 < b + n ∧ k < 8 ∧ q.2.2 = 0 then some ((29, q.2.1 - b, q.2.2), k)
  else if q = (15, 2, 0) ∧ k = 1 then some ((3, 0, 0), 2)
  else if q = (10, 0, 0) then (if k = 5 then some ((3, 0, 0), 3) else if k = 3 then some ((4, 0, 0), 4) else none)
  else if q = (50, 0, 0) then some ((31, 0, 0), k)
  else if q = (15, 0, 0) ∧ k = 1 then some ((1, 0, 0), 1)
  else if q.1 = 11 then (if k = 0 then some ((6, q.2), 1) else if k = 1 then some ((6, q.2), 2) else if k = 3 then some ((6, q.2), 7) else if k = 6 then some ((6, q.2), 8) else if k = 11 then some ((6, q.2), 9) else none)
  else if q.1 = 40 then some ((20, q.2), k)
  else if q.1 = 41 then some ((21, q.2), k)
  else if q.1 = 42 then some ((22, q.2), k)
  else if q.1 = 43 then some ((5, q.2.1, k), 0)
  else if q.1 = 44 then some ((5, q.2.1, k), 1)
  else if q.1 = 45 then some ((5, q.2.1, k), 2)
  else if q.1 = 46 then some ((5, q.2.1, k), 3)
  else none
theorem mu_nu {x b n : Nat} {D : Nat → Nat} {q : jc_L} {k : Nat} {z : jc_L × Nat} (h : mu x b n D q k = some z) : nu x b n D z.1 z.2 = some (q, k) := by
  obtain ⟨a, u, v⟩ := q
  dsimp only [mu] at h
  have nn : ∀ {w : jc_L × Nat}, (none : Option (jc_L × Nat)) = some w → False := fun h => by cases h
  by_cases h8 : a = 8
  · subst h8; rw [if_pos rfl] at h
    split at h
    · rename_i g; cases h; unfold nu; dsimp only; rw [if_pos rfl, if_pos ⟨rfl, g.2⟩, g.1]
    · split at h
      · cases h; subst k; rfl
      · cases h
  rw [if_neg h8] at h
  by_cases h32 : a = 32
  · subst h32; rw [if_pos rfl] at h; cases h; rfl
  rw [if_neg h32] at h
  by_cases h33 : a = 33
  · subst h33; rw [if_pos rfl] at h; cases h; rfl
  rw [if_neg h33] at h
  by_cases h9 : a = 9
  · subst h9; rw [if_pos rfl] at h
    split at h
    · cases h; subst k; rfl
    · split at h
      · rename_i h0 hk; cases h; unfold nu; dsimp only; rw [if_neg (by decide), if_neg (by decide), if_neg (by decide), if_pos rfl, if_neg h0, if_pos hk]
      · cases h
  rw [if_neg h9] at h
  by_cases h7 : a = 7 ∧ u < n ∧ v = 0
  · obtain ⟨e, hu⟩ := h7; subst e; rw [if_pos ⟨rfl, hu⟩] at h
    split at h
    · cases h; subst k; simp [nu, hu]
    · split at h
      · cases h; subst k; simp [nu, hu]
      · split at h
        · cases h; subst k; simp [nu, hu]
        · cases h
  rw [if_neg h7] at h
  by_cases h29 : a = 29 ∧ u < n ∧ k < 8 ∧ v = 0
  · obtain ⟨e, hu⟩ := h29; subst e; rw [if_pos ⟨rfl, hu⟩] at h
    cases h; simp [nu, hu]
  rw [if_neg h29] at h
  by_cases h3 : (a, u, v) = (3, 0, 0)
  · cases h3; rw [if_pos rfl] at h
    split at h
    · cases h; subst k; rfl
    · split at h
      · cases h; subst k; rfl
      · cases h
  rw [if_neg h3] at h
  by_cases h31 : (a, u, v) = (31, 0, 0)
  · cases h31; rw [if_pos rfl] at h; cases h; rfl
  rw [if_neg h31] at h
  by_cases h4 : (a, u, v) = (4, 0, 0) ∧ k = 4
  · obtain ⟨e, hk⟩ := h4; cases e; subst hk; rw [if_pos ⟨rfl, rfl⟩] at h; cases h; rfl
  rw [if_neg h4] at h
  by_cases h1 : (a, u, v) = (1, 0, 0) ∧ k = 1
  · obtain ⟨e, hk⟩ := h1; cases e; subst hk; rw [if_pos ⟨rfl, rfl⟩] at h; cases h; rfl
  rw [if_neg h1] at h
  by_cases h6 : a = 6
  · subst h6; rw [if_pos rfl] at h
    split at h
    · cases h; subst k; rfl
    · split at h
      · cases h; subst k; rfl
      · split at h
        · cases h; subst k; rfl
        · split at h
          · cases h; subst k; rfl
          · split at h
            · cases h; subst k; rfl
            · cases h
  rw [if_neg h6] at h
  by_cases h20 : a = 20
  · subst h20; rw [if_pos rfl] at h; cases h; rfl
  rw [if_neg h20] at h
  by_cases h21 : a = 21
  · subst h21; rw [if_pos rfl] at h; cases h; rfl
  rw [if_neg h21] at h
  by_cases h22 : a = 22
  · subst h22; rw [if_pos rfl] at h; cases h; rfl
  rw [if_neg h22] at h
  by_cases h5 : a = 5
  · subst h5; rw [if_pos rfl] at h
    split at h
    · cases h; subst k; rfl
    · split at h
      · cases h; subst k; rfl
      · split at h
        · cases h; subst k; rfl
        · split at h
          · cases h; subst k; rfl
          · cases h
  rw [if_neg h5] at h
  cases h
def Sim (x b n : Nat) (D : Nat → Nat) (J I : jc_I) : Prop := ∀ q k z, mu x b n D q k = some z → J q k = I z.1 z.2
section
variable {x b n : Nat} {D : Nat → Nat} {J I : jc_I}
theorem Sim.up {q q' : jc_L} {k k' : Nat} {v : Int32} (h : Sim x b n D J I) (hm : mu x b n D q k = some (q', k')) : Sim x b n D (jc_up J q k v) (jc_up I q' k' v) := by
  intro q2 k2 z hz
  by_cases e : q2 = q ∧ k2 = k
  · rw [e.1, e.2, hm] at hz
    cases hz
    rw [e.1, e.2, jc_up_s, jc_up_s]
  · have e2 : ¬ (z.1 = q' ∧ z.2 = k') := by
      intro g
      have h1 := mu_nu hz
      have h2 := mu_nu hm
      rw [g.1, g.2] at h1
      dsimp only at h2
      rw [h2] at h1
      cases h1
      exact e ⟨rfl, rfl⟩
    unfold jc_up
    rw [if_neg e, if_neg e2]
    exact h q2 k2 z hz
theorem Sim.upC {q : jc_L} {k : Nat} {v : Int32} (h : Sim x b n D J I) (hm : mu x b n D q k = none) : Sim x b n D (jc_up J q k v) I := by
  intro q2 k2 z hz
  have e : ¬ (q2 = q ∧ k2 = k) := by
    intro g
    rw [g.1, g.2, hm] at hz
    cases hz
  unfold jc_up
  rw [if_neg e]
  exact h q2 k2 z hz
theorem Sim.upR {q : jc_L} {k : Nat} {v : Int32} (h : Sim x b n D J I) (hm : nu x b n D q k = none) : Sim x b n D J (jc_up I q k v) := by
  intro q2 k2 z hz
  have e : ¬ (z.1 = q ∧ z.2 = k) := by
    intro g
    have h1 := mu_nu hz
    rw [g.1, g.2, hm] at h1
    cases h1
  unfold jc_up
  rw [if_neg e]
  exact h q2 k2 z hz
theorem Sim.toC {J' : jc_I} (h : Sim x b n D J I) (e : ∀ q k z, mu x b n D q k = some z → J' q k = J q k) : Sim x b n D J' I := fun q k z hz => (e q k z hz).trans (h q k z hz)
theorem Sim.toR {I' : jc_I} (h : Sim x b n D J I) (e : ∀ q k z, nu x b n D q k = some z → I' q k = I q k) : Sim x b n D J I' := fun q k z hz => (h q k z hz).trans (e z.1 z.2 _ (mu_nu hz)).symm
theorem Sim.zr {q q' : jc_L} {m : Nat} {v : Int32} (h : Sim x b n D J I) (hm : ∀ k, mu x b n D q k = some (q', k)) : Sim x b n D (jc_zr J q m v) (jc_zr I q' m v) := by
  intro q2 k2 z hz
  by_cases e : q2 = q
  · subst e
    rw [hm k2] at hz
    cases hz
    unfold jc_zr
    by_cases hk : k2 < m
    · rw [if_pos ⟨rfl, hk⟩, if_pos ⟨rfl, hk⟩]
    · rw [if_neg (fun g => hk g.2), if_neg (fun g => hk g.2)]
      exact h q2 k2 (q', k2) (hm k2)
  · have e2 : ¬ z.1 = q' := by
      intro g
      have h1 := mu_nu hz
      have h2 := mu_nu (hm z.2)
      dsimp only at h2
      rw [g, h2] at h1
      cases h1
      exact e rfl
    unfold jc_zr
    rw [if_neg (fun g => e g.1), if_neg (fun g => e2 g.1)]
    exact h q2 k2 z hz
theorem Sim.cl {q q' : jc_L} {v : Int32} (h : Sim x b n D J I) (hm : ∀ k, mu x b n D q k = some (q', k)) : Sim x b n D (jc_cl J q v) (jc_cl I q' v) := by
  intro q2 k2 z hz
  by_cases e : q2 = q
  · subst e
    rw [hm k2] at hz
    cases hz
    unfold jc_cl
    rw [if_pos rfl, if_pos rfl]
  · have e2 : ¬ z.1 = q' := by
      intro g
      have h1 := mu_nu hz
      have h2 := mu_nu (hm z.2)
      dsimp only at h2
      rw [g, h2] at h1
      cases h1
      exact e rfl
    unfold jc_cl
    rw [if_neg e, if_neg e2]
    exact h q2 k2 z hz
end
theorem mu83 {x b n t j : Nat} {D : Nat → Nat} (h : j < D t) : mu x b n D (8, t, j) 3 = some ((12, t, j), 4) := by
  unfold mu
  rw [if_pos rfl, if_pos ⟨rfl, h⟩]
theorem mu_mono {x b n : Nat} {D E : Nat → Nat} (h : ∀ t, E t ≤ D t) {q : jc_L} {k : Nat} {z : jc_L × Nat} (hm : mu x b n E q k = some z) : mu x b n D q k = some z := by
  unfold mu at hm ⊢
  by_cases e8 : q.1 = 8
  · rw [if_pos e8] at hm ⊢
    by_cases e3 : k = 3 ∧ q.2.2 < E q.2.1
    · rw [if_pos e3] at hm
      rw [if_pos ⟨e3.1, Nat.lt_of_lt_of_le e3.2 (h _)⟩]
      exact hm
    · rw [if_neg e3] at hm
      by_cases e4 : k = 4
      · rw [if_pos e4] at hm
        rw [if_neg (fun g => by omega), if_pos e4]
        exact hm
      · rw [if_neg e4] at hm; cases hm
  · rw [if_neg e8] at hm ⊢; exact hm
theorem Sim.mono {x b n : Nat} {D E : Nat → Nat} {J I : jc_I} (s : Sim x b n D J I) (h : ∀ t, E t ≤ D t) : Sim x b n E J I := fun q k z hz => s q k z (mu_mono h hz)
def dU (D : Nat → Nat) (t m : Nat) : Nat → Nat := fun z => if z = t then m else D z
theorem dU_s {D : Nat → Nat} {t m : Nat} : dU D t m t = m := if_pos rfl
theorem dU_e {D : Nat → Nat} {t m : Nat} (h : D t = m) : dU D t m = D := by
  funext z
  unfold dU
  split
  · rename_i g; rw [g, h]
  · rfl
theorem Sim.cut {x b n t m m' : Nat} {D : Nat → Nat} {J I : jc_I} (s : Sim x b n D J I) (h : D t = m) (hm : m' ≤ m) : Sim x b n (dU D t m') J I := s.mono (fun z => by
  unfold dU
  split
  · rename_i g; rw [g, h]; exact hm
  · exact Nat.le_refl _)
theorem Sim.more {x b n t m : Nat} {D : Nat → Nat} {J I : jc_I} (s : Sim x b n D J I) (h : D t = m) (e : J (8, t, m) 3 = I (12, t, m) 4) : Sim x b n (dU D t (m + 1)) J I := by
  intro q k z hz
  by_cases g : q = (8, t, m) ∧ k = 3
  · rw [g.1, g.2, mu83 (by rw [dU_s]; omega)] at hz
    cases hz
    rw [g.1, g.2]
    exact e
  · refine s q k z ?_
    unfold mu at hz ⊢
    by_cases e8 : q.1 = 8
    · rw [if_pos e8] at hz ⊢
      by_cases e3 : k = 3 ∧ q.2.2 < dU D t (m + 1) q.2.1
      · rw [if_pos e3] at hz
        have h4 : q.2.2 < D q.2.1 := by
          have h3 := e3.2
          unfold dU at h3
          split at h3
          · rename_i g1
            have : q.2.2 ≠ m := fun g2 => g ⟨Prod.ext e8 (Prod.ext g1 g2), e3.1⟩
            rw [g1, h]; omega
          · exact h3
        rw [if_pos ⟨e3.1, h4⟩]
        exact hz
      · rw [if_neg e3] at hz
        by_cases e4 : k = 4
        · rw [if_pos e4] at hz
          rw [if_neg (fun g => by omega), if_pos e4]
          exact hz
        · rw [if_neg e4] at hz; cases hz
    · rw [if_neg e8] at hz ⊢; exact hz
