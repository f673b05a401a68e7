theorem lcap_60 {O : jc_O} {x c : Nat} (h : O (15, x, 0) 0 = some (60, x, c)) : lcap O x = c := by
  unfold lcap
  rw [h]
  rfl
theorem ql.add {I : jc_I} {O : jc_O} {live : jc_L → Prop} {x n : Nat} {f : Nat → jc_L} (h : ql I O live x n f) (hn : n ≤ 30000) (hs : jc_sto "java/lang/Object" (some (f n))) : ql (l_add I O live x (f n)).1 (l_add I O live x (f n)).2.1 (l_add I O live x (f n)).2.2.1 x (n + 1) f := by
  have hcp := h.cp
  have hle := h.le
  have hsn : (I (15, x, 0) 1).toNatClampNeg = n := by rw [h.sz, jofN (by omega)]
  have har := h.ar
  have hst : ∀ k, k < n + 1 → jc_sto "java/lang/Object" (some (f k)) := fun k hk => by
    by_cases e : k = n
    · subst e; exact hs
    · exact h.st k (by omega)
  unfold l_add
  rw [hsn]
  by_cases h1 : n < lcap O x
  · rw [if_pos h1]
    dsimp only
    rw [if_neg (by omega)] at har
    have hc : lcap (jc_up O (60, x, lcap O x) n (some (f n))) x = lcap O x := by
      unfold lcap
      rw [jc_up_t _ _ _ _ _ _ _ _ (by decide)]
    refine ⟨?_, by rw [hc]; omega, by rw [hc]; exact hcp, ?_, fun k hk => ?_, ?_, hst⟩
    · rw [jc_up_s, h.sz, jof1 (by omega)]
    · rw [hc, jc_up_t _ _ _ _ _ _ _ _ (by decide), if_neg (by omega)]; exact har
    · rw [hc]
      by_cases e : k = n
      · subst e; rw [jc_up_s]
      · rw [jc_up_k _ _ _ _ _ _ e]; exact h.el k (by omega)
    · rw [hc]; exact h.fr
  · rw [if_neg h1]
    have hnc : n = lcap O x := by omega
    by_cases h2 : lcap O x = 0
    · rw [if_pos h2]
      dsimp only
      have hn0 : n = 0 := by omega
      have h60 : jc_up (jc_up (jc_cl O (60, x, 10) none) (15, x, 0) 0 (some (60, x, 10))) (60, x, 10) n (some (f n)) (15, x, 0) 0 = some (60, x, 10) := by
        rw [jc_up_t _ _ _ _ _ _ _ _ (by decide), jc_up_s]
      have hc := lcap_60 h60
      refine ⟨?_, by rw [hc]; omega, by rw [hc]; omega, ?_, fun k hk => ?_, fun c hc2 hl => ?_, hst⟩
      · rw [jc_up_s, h.sz, jof1 (by omega)]
      · rw [hc, h60]; rfl
      · have : k = n := by omega
        subst this
        rw [hc, jc_up_s]
      · rw [hc] at hc2
        rcases hl with e | e
        · have : c = 10 := congrArg (fun q => q.2.2) e
          omega
        · exact h.fr c (by omega) e
    · rw [if_neg h2]
      rw [if_neg h2] at har
      dsimp only
      have hlt : lcap O x < lnc (lcap O x) := lnc_lt
      have h60 : jc_up (jc_up (jc_cp (jc_cl O (60, x, lnc (lcap O x)) none) (60, x, lcap O x) (60, x, lnc (lcap O x)) (lcap O x)) (15, x, 0) 0 (some (60, x, lnc (lcap O x)))) (60, x, lnc (lcap O x)) n (some (f n)) (15, x, 0) 0 = some (60, x, lnc (lcap O x)) := by
        rw [jc_up_t _ _ _ _ _ _ _ _ (by decide), jc_up_s]
      have hc := lcap_60 h60
      have hl5 : lnc (lcap O x) ≤ 50000 := by unfold lnc; omega
      refine ⟨?_, by rw [hc]; omega, by rw [hc]; exact hl5, ?_, fun k hk => ?_, fun c hc2 hl => ?_, hst⟩
      · rw [jc_up_s, h.sz, jof1 (by omega)]
      · rw [hc, h60, if_neg (by omega)]
      · rw [hc]
        by_cases e : k = n
        · subst e; rw [jc_up_s]
        · rw [jc_up_k _ _ _ _ _ _ e, jc_up_t _ _ _ _ _ _ _ _ (by decide)]
          unfold jc_cp
          rw [if_pos ⟨rfl, by omega⟩]
          unfold jc_cl
          rw [if_neg (fun g => by have : lcap O x = lnc (lcap O x) := congrArg (fun q => q.2.2) g; omega)]
          exact h.el k (by omega)
      · rw [hc] at hc2
        rcases hl with e | e
        · have : c = lnc (lcap O x) := congrArg (fun q => q.2.2) e
          omega
        · exact h.fr c (by omega) e
theorem l_add_Oq {I : jc_I} {O : jc_O} {live : jc_L → Prop} {x : Nat} {e q : jc_L} {k : Nat} (h1 : q ≠ (15, x, 0)) (h2 : ∀ c, q ≠ (60, x, c)) : (l_add I O live x e).2.1 q k = O q k := by
  unfold l_add
  split
  · exact jc_up_q _ _ _ _ _ _ (h2 _)
  · split
    · show jc_up _ _ _ _ _ _ = _
      rw [jc_up_q _ _ _ _ _ _ (h2 _), jc_up_q _ _ _ _ _ _ h1]
      exact if_neg (h2 _)
    · show jc_up _ _ _ _ _ _ = _
      rw [jc_up_q _ _ _ _ _ _ (h2 _), jc_up_q _ _ _ _ _ _ h1]
      unfold jc_cp
      rw [if_neg (fun g => h2 _ g.1)]
      exact if_neg (h2 _)
theorem l_add_Iq {I : jc_I} {O : jc_O} {live : jc_L → Prop} {x : Nat} {e q : jc_L} {k : Nat} (h1 : q ≠ (15, x, 0)) (h2 : ∀ c, q ≠ (60, x, c)) : (l_add I O live x e).1 q k = I q k := by
  unfold l_add
  split
  · show jc_up _ _ _ _ _ _ = _
    rw [jc_up_q _ _ _ _ _ _ h1, jc_up_q _ _ _ _ _ _ h1]
  · split
    · show jc_up _ _ _ _ _ _ = _
      rw [jc_up_q _ _ _ _ _ _ h1]
      unfold jc_cl
      rw [if_neg (h2 _), jc_up_q _ _ _ _ _ _ h1]
    · show jc_up _ _ _ _ _ _ = _
      rw [jc_up_q _ _ _ _ _ _ h1]
      unfold jc_cl
      rw [if_neg (h2 _), jc_up_q _ _ _ _ _ _ h1]
/-- what comes alive is an array of the list -/
theorem l_add_l {I : jc_I} {O : jc_O} {live : jc_L → Prop} {x : Nat} {e q : jc_L} (h : (l_add I O live x e).2.2.1 q) : live q ∨ ∃ c, q = (60, x, c) := by
  unfold l_add at h
  split at h
  · exact Or.inl h
  · split at h
    · exact h.elim (fun e => Or.inr ⟨_, e⟩) Or.inl
    · exact h.elim (fun e => Or.inr ⟨_, e⟩) Or.inl
theorem ql.other {I : jc_I} {O : jc_O} {live : jc_L → Prop} {x y n : Nat} {e : jc_L} {f : Nat → jc_L} (h : ql I O live y n f) (hne : y ≠ x) : ql (l_add I O live x e).1 (l_add I O live x e).2.1 (l_add I O live x e).2.2.1 y n f := by
  refine h.to (l_add_Iq (by simp [hne]) (by simp)) (l_add_Oq (by simp [hne]) (by simp)) (fun c k => l_add_Oq (by simp) (by simp [hne])) (fun c hc => ?_)
  rcases l_add_l hc with g | ⟨c', g⟩
  · exact g
  · exact absurd (congrArg (fun q => q.2.1) g) hne
theorem l_add_mod {I : jc_I} {O : jc_O} {live : jc_L → Prop} {x n : Nat} {e : jc_L} {f : Nat → jc_L} (h : ql I O live x n f) : (l_add I O live x e).1 (15, x, 0) 1 = Int32.ofNat (n + 1) := by
  have hcp := h.cp
  have hle := h.le
  unfold l_add
  split
  · show jc_up _ _ _ _ _ _ = _
    rw [jc_up_s, h.sz, jof1 (by omega)]
  · split
    · show jc_up _ _ _ _ _ _ = _
      rw [jc_up_s, h.sz, jof1 (by omega)]
    · show jc_up _ _ _ _ _ _ = _
      rw [jc_up_s, h.sz, jof1 (by omega)]
