section
variable {z b n : Nat} {D : Nat → Nat} {J I : jc_I} {t j c : Nat} {K : List Int32} {k x : Int32}
theorem Sim.d (h : Sim z b n D J I) (hD : j < D t) : I (12, t, j) 4 = J (8, t, j) 3 := (h (8, t, j) 3 _ (mu83 hD)).symm
theorem Sim.at (h : Sim z b n D J I) : I (12, t, j) 5 = J (8, t, j) 4 := (h (8, t, j) 4 _ rfl).symm
theorem Sim.va (h : Sim z b n D J I) {i : Nat} : I (49, t, j) i = J (32, t, j) i := (h (32, t, j) i _ rfl).symm
theorem Sim.lo (h : Sim z b n D J I) {i : Nat} : I (48, t, j) i = J (33, t, j) i := (h (33, t, j) i _ rfl).symm
theorem q_bnd {K : List Int32} (hD : j < D t) (hd : J (8, t, j) 3 = Int32.ofNat K.length) (hl : K.length ≤ 12) (h : Sim z b n D J I) : (K ≠ [] → 1 ≤ I (12, t, j) 4) ∧ 0 ≤ I (12, t, j) 4 ∧ I (12, t, j) 4 ≤ 12 ∧ (K.length < 12 → I (12, t, j) 4 < 12) := by
  have e1 := jofI (n := K.length) (by omega)
  have e12 : (12 : Int32).toInt = 12 := by decide
  rw [h.d hD, hd]
  refine ⟨fun hK => ?_, ?_, ?_, fun hK => ?_⟩
  · have : K.length ≠ 0 := fun e => hK (List.length_eq_zero_iff.mp e)
    rw [jle, e1, j1I]; omega
  · rw [jle, e1, j0I]; omega
  · rw [jle, e1, e12]; omega
  · rw [jlt, e1, e12]; omega
theorem Sim.tp (h : Sim z b n D J I) (hD : j < D t) (hd : J (8, t, j) 3 = Int32.ofNat (k :: K).length) (hl : (k :: K).length ≤ 12) : q_tp I t j = f_tp J t j := by
  rw [n_tp hd hl]
  unfold q_tp
  have hl : K.length + 1 ≤ 12 := hl
  rw [h.d hD, hd, List.length_cons, jofs (by omega), jofN (by omega), h.va]
theorem Sim.pop (h : Sim z b n D J I) (hD : j < D t) (hd : J (8, t, j) 3 = Int32.ofNat (k :: K).length) (hl : (k :: K).length ≤ 12) : Sim z b n D (f_pop J t j) (q_pop I t j) := by
  rw [n_pop hd hl]
  unfold q_pop
  have hl : K.length + 1 ≤ 12 := hl
  rw [h.d hD, hd, List.length_cons, jofs (by omega)]
  exact h.up (mu83 hD)
theorem Sim.psh (h : Sim z b n D J I) (hD : j < D t) (hd : J (8, t, j) 3 = Int32.ofNat K.length) (hl : K.length < 12) : Sim z b n D (f_psh J t j x) (q_psh I t j x) := by
  rw [n_psh hd hl]
  unfold q_psh
  rw [h.d hD, hd, jofN (by omega), jof1 (by omega)]
  exact (h.up rfl).up (mu83 hD)
theorem Sim.on (h : Sim z b n D J I) : Sim z b n D (f_on J t j) (q_on I t j) := by
  unfold f_on q_on
  rw [h.at]
  exact h.up rfl
theorem Sim.goto (h : Sim z b n D J I) : Sim z b n D (jc_up J (8, t, j) 4 x) (jc_up I (12, t, j) 5 x) := h.up rfl
theorem Sim.sl (h : Sim z b n D J I) {i : Nat} (hi : i < 8) : Sim z b n D (f_sl J t j (Int32.ofNat i) x) (jc_up I (48, t, j) i x) := by
  have e1 := jofI (n := i) (by omega)
  have e2 : (8 : Int32).toInt = 8 := by decide
  have hn : f_sl J t j (Int32.ofNat i) x = jc_up J (33, t, j) i x := by
    unfold f_sl
    rw [if_pos (by rw [jle, jlt, e1, e2, j0I]; omega), jofN (by omega)]
  rw [hn]
  exact h.up rfl
end
theorem mu_ch {x t b n : Nat} {D : Nat → Nat} {q : jc_L} {k : Nat} {w : jc_L × Nat} (h : mu x b n D q k = some w) (hz : ¬ (q = (9, t, 0) ∧ k = 3)) : mu t b n D q k = some w := by
  unfold mu at h ⊢
  by_cases e8 : q.1 = 8
  · rw [if_pos e8] at h ⊢; exact h
  rw [if_neg e8] at h ⊢
  by_cases e32 : q.1 = 32
  · rw [if_pos e32] at h ⊢; exact h
  rw [if_neg e32] at h ⊢
  by_cases e33 : q.1 = 33
  · rw [if_pos e33] at h ⊢; exact h
  rw [if_neg e33] at h ⊢
  by_cases h9 : q.1 = 9
  · rw [if_pos h9] at h ⊢
    by_cases k0 : k = 0
    · rw [if_pos k0] at h ⊢; exact h
    · rw [if_neg k0] at h ⊢
      by_cases hk : (2 ≤ k ∧ k ≤ 5) ∧ ¬ (k = 3 ∧ q.2 = (x, 0))
      · rw [if_pos hk] at h
        rw [if_pos (show (2 ≤ k ∧ k ≤ 5) ∧ ¬ (k = 3 ∧ q.2 = (t, 0)) from ⟨hk.1, fun g => hz ⟨Prod.ext h9 g.2, g.1⟩⟩)]
        exact h
      · rw [if_neg hk] at h; cases h
  · rw [if_neg h9] at h ⊢
    exact h
def SimF (b n : Nat) (D : Nat → Nat) (J I : jc_I) : Prop := ∀ x, Sim x b n D J I
theorem Sim.back {t b n : Nat} {D : Nat → Nat} {J I : jc_I} {v : Int32} (h : Sim t b n D J I) (hv : J (9, t, 0) 3 = v) : SimF b n D J (jc_up I (14, t, 0) 3 v) := by
  intro x q k w hw
  by_cases e : q = (9, t, 0) ∧ k = 3
  · obtain ⟨e1, e2⟩ := e
    subst e1
    subst e2
    have hw2 : w = ((14, t, 0), 3) := by
      unfold mu at hw
      rw [if_neg (by simp), if_neg (by simp), if_neg (by simp), if_pos rfl, if_neg (by decide)] at hw
      split at hw
      · cases hw; rfl
      · cases hw
    subst hw2
    rw [hv, jc_up_s]
  · have h1 := mu_ch (t := t) hw e
    have h2 : ¬ (w.1 = (14, t, 0) ∧ w.2 = 3) := by
      intro g
      have h3 := mu_nu h1
      rw [g.1, g.2] at h3
      unfold nu at h3
      rw [if_neg (by simp), if_neg (by simp), if_neg (by simp), if_pos rfl, if_neg (by decide), if_neg (fun g => g.2 ⟨rfl, rfl⟩)] at h3
      cases h3
    rw [h q k w h1]
    unfold jc_up
    rw [if_neg h2]
theorem Sim.cs {t b n : Nat} {D : Nat → Nat} {J I : jc_I} (h : SimF b n D J I) : Sim t b n D (s_cs J t) (jc_up I (14, t, 0) 6 0) := by
  unfold s_cs
  refine ((h t).upC ?_).upC ?_ |>.upR ?_
  · unfold mu
    rw [if_neg (by simp), if_neg (by simp), if_neg (by simp), if_pos rfl, if_neg (by decide), if_neg (fun g => g.2 ⟨rfl, rfl⟩)]
  · unfold mu
    rw [if_neg (by simp), if_neg (by simp), if_neg (by simp), if_pos rfl, if_neg (by decide), if_neg (fun g => absurd g.1.2 (by decide))]
  · unfold nu
    rw [if_neg (by simp), if_neg (by simp), if_neg (by simp), if_pos rfl, if_neg (by decide), if_neg (fun g => absurd g.1.2 (by decide))]
