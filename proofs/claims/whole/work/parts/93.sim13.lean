variable {D : Nat → Nat}
theorem p_par_len {B : jc_B} {d : Nat} : ∀ (m : Nat) (K K1 : List Int32), p_par B d m K = some K1 → K.length = K1.length + m
  | 0, K, K1, h => by cases h; rfl
  | m + 1, K, K1, h => by
    have h : (p_take (p_lk B d (Int32.ofNat m)) K).bind (p_par B d m) = some K1 := h
    obtain ⟨K2, a, b⟩ := bind_some h
    obtain ⟨e, -⟩ := p_take_some a
    have := p_par_len m K2 K1 b
    rw [e, List.length_cons, this]
    omega
theorem c_par_33 {t j n : Nat} (hne : j ≠ n) : ∀ (m s : Nat) (J : jc_I), J (8, t, j) 3 = Int32.ofNat (s + m) → s + m ≤ 12 → m ≤ 8 → c_par t j n m (Int32.ofNat m - 1) J (8, t, j) 3 = Int32.ofNat s ∧ (∀ k, c_par t j n m (Int32.ofNat m - 1) J (33, t, n) k = if k < m then J (32, t, j) (s + k) else J (33, t, n) k) ∧ ∀ q k, ¬ (q = (8, t, j) ∧ k = 3) → q ≠ (33, t, n) → c_par t j n m (Int32.ofNat m - 1) J q k = J q k
  | 0, s, J, h, _, _ => ⟨h, fun k => (if_neg (Nat.not_lt_zero k)).symm, fun _ _ _ _ => rfl⟩
  | m + 1, s, J, h, hs, hm => by
    have e1 : Int32.ofNat (m + 1) - 1 = Int32.ofNat m := jofs (by omega)
    have hl : (List.replicate (s + m) (0 : Int32)).length = s + m := List.length_replicate
    have hd : J (8, t, j) 3 = Int32.ofNat ((0 : Int32) :: List.replicate (s + m) 0).length := by rw [List.length_cons, hl]; exact h
    have hle : ((0 : Int32) :: List.replicate (s + m) 0).length ≤ 12 := by rw [List.length_cons, hl]; omega
    have e2 : f_tp J t j = J (32, t, j) (s + m) := by rw [n_tp hd hle, hl]
    have e3 : f_pop J t j = jc_up J (8, t, j) 3 (Int32.ofNat (s + m)) := by rw [n_pop hd hle, hl]
    have e4 : ∀ X : jc_I, ∀ x, f_sl X t n (Int32.ofNat m) x = jc_up X (33, t, n) m x := fun X x => by
      unfold f_sl
      rw [if_pos (by rw [jle, jlt, jofI (by omega), j0I, show (8 : Int32).toInt = 8 from by decide]; omega), jofN (by omega)]
    rw [c_par, e1, e2, e3, e4]
    obtain ⟨a1, a2, a3⟩ := c_par_33 hne m s (jc_up (jc_up J (8, t, j) 3 (Int32.ofNat (s + m))) (33, t, n) m (J (32, t, j) (s + m))) (by rw [jc_up_t _ _ _ _ _ _ _ _ (by decide), jc_up_s]) (by omega) (by omega)
    refine ⟨a1, fun k => ?_, fun q k g1 g2 => ?_⟩
    · rw [a2 k]
      by_cases hk : k < m
      · rw [if_pos hk, if_pos (by omega), jc_up_t _ _ _ _ _ _ _ _ (by decide), jc_up_t _ _ _ _ _ _ _ _ (by decide)]
      · rw [if_neg hk]
        by_cases hk2 : k = m
        · subst hk2; rw [jc_up_s, if_pos (by omega)]
        · rw [jc_up_k _ _ _ _ _ _ hk2, if_neg (by omega), jc_up_t _ _ _ _ _ _ _ _ (by decide)]
    · rw [a3 q k g1 g2, jc_up_q _ _ _ _ _ _ g2]
      exact if_neg g1
theorem q_cp_48 {I : jc_I} {t j i0 s : Nat} : ∀ m k, q_cp I t j i0 s m (48, t, i0) k = if k < m then I (49, t, j) (s + k) else I (48, t, i0) k
  | 0, k => (if_neg (Nat.not_lt_zero k)).symm
  | m + 1, k => by
    rw [q_cp]
    by_cases hk : k = m
    · subst hk; rw [jc_up_s, if_pos (by omega)]
    · rw [jc_up_k _ _ _ _ _ _ hk, q_cp_48 m k]
      by_cases h2 : k < m
      · rw [if_pos h2, if_pos (by omega)]
      · rw [if_neg h2, if_neg (by omega)]
theorem q_cp_e {I : jc_I} {t j i0 s : Nat} {q : jc_L} {k : Nat} (h : q ≠ (48, t, i0)) : ∀ m, q_cp I t j i0 s m q k = I q k
  | 0 => rfl
  | m + 1 => by rw [q_cp, jc_up_q _ _ _ _ _ _ h, q_cp_e h m]
theorem q_bg_N {I : jc_I} {t j : Nat} {x : Int32} : q_bg I t j x (12, t, j) 1 = x ∧ q_bg I t j x (12, t, j) 4 = 0 ∧ q_bg I t j x (12, t, j) 5 = 0 ∧ (∀ k, q_bg I t j x (48, t, j) k = if k < 8 then 0 else I (48, t, j) k) ∧ (∀ k, q_bg I t j x (49, t, j) k = I (49, t, j) k) ∧ q_bg I t j x (14, t, 0) 2 = I (14, t, 0) 2 + 1 := by
  unfold q_bg jc_zr
  refine ⟨?_, ?_, ?_, fun k => ?_, fun k => ?_, ?_⟩
  · rw [if_neg (by simp), jc_up_k _ _ _ _ _ _ (by decide), jc_up_k _ _ _ _ _ _ (by decide), jc_up_s]
  · rw [if_neg (by simp), jc_up_k _ _ _ _ _ _ (by decide), jc_up_s]
  · rw [if_neg (by simp), jc_up_s]
  · by_cases hk : k < 8
    · rw [if_pos ⟨rfl, hk⟩, if_pos hk]
    · rw [if_neg (fun g => hk g.2), if_neg hk, jc_up_t _ _ _ _ _ _ _ _ (by decide), jc_up_t _ _ _ _ _ _ _ _ (by decide), jc_up_t _ _ _ _ _ _ _ _ (by decide), jc_up_t _ _ _ _ _ _ _ _ (by decide)]
  · rw [if_neg (by simp), jc_up_t _ _ _ _ _ _ _ _ (by decide), jc_up_t _ _ _ _ _ _ _ _ (by decide), jc_up_t _ _ _ _ _ _ _ _ (by decide), jc_up_t _ _ _ _ _ _ _ _ (by decide)]
  · rw [if_neg (by simp), jc_up_t _ _ _ _ _ _ _ _ (by decide), jc_up_t _ _ _ _ _ _ _ _ (by decide), jc_up_t _ _ _ _ _ _ _ _ (by decide), jc_up_s]
/-- a frame that is begun on the second side -/
theorem q_pu_N {I : jc_I} {P : jc_O} {lv : jc_L → Prop} {t xt fn j : Nat} {x : Int32} {c : jc_L} (h : PU I P lv t xt fn j) (hz : ∀ i k, fn ≤ i → I (12, t, i) k = 0 ∧ I (48, t, i) k = 0 ∧ I (49, t, i) k = 0) : (q_pu I P lv t xt j x c).1 (12, t, j) 1 = x ∧ (q_pu I P lv t xt j x c).1 (12, t, j) 4 = 0 ∧ (q_pu I P lv t xt j x c).1 (12, t, j) 5 = 0 ∧ (∀ k, (q_pu I P lv t xt j x c).1 (48, t, j) k = if k < 8 then 0 else I (48, t, j) k) ∧ (∀ k, (q_pu I P lv t xt j x c).1 (49, t, j) k = I (49, t, j) k) ∧ (q_pu I P lv t xt j x c).1 (14, t, 0) 2 = Int32.ofNat (j + 1) := by
  have hle := h.le
  have hlt := h.lt
  have hsz : (I (15, xt, 0) 1).toNatClampNeg = fn := by have := h.fs.le; have := h.fs.cp; rw [h.fs.sz, jofN (by omega)]
  unfold q_pu
  rw [hsz]
  by_cases hj : j < fn
  · rw [if_pos hj]
    dsimp only
    obtain ⟨a1, a2, a3, a4, a5, a6⟩ := q_bg_N (I := I) (t := t) (j := j) (x := x)
    exact ⟨a1, a2, a3, a4, a5, by rw [a6, h.d, jof1 (by omega)]⟩
  · rw [if_neg hj]
    dsimp only
    have e : ∀ q k, q ≠ (15, xt, 0) → (∀ z, q ≠ (60, xt, z)) → (l_add (q_f1 I t j) (q_f1O P t j) (q_f1l lv t j) xt (12, t, j)).1 q k = q_f1 I t j q k := fun q k g1 g2 => l_add_Iq g1 g2
    obtain ⟨a1, a2, a3, a4, a5, a6⟩ := q_bg_N (I := (l_add (q_f1 I t j) (q_f1O P t j) (q_f1l lv t j) xt (12, t, j)).1) (t := t) (j := j) (x := x)
    refine ⟨a1, a2, a3, fun k => ?_, fun k => ?_, ?_⟩
    · rw [a4 k, e _ _ (by simp) (by simp)]
      have h0 : q_f1 I t j (48, t, j) k = 0 := by unfold q_f1 jc_cl; rw [if_neg (by simp), if_pos rfl]
      rw [h0, (hz j k (by omega)).2.1]
    · rw [a5 k, e _ _ (by simp) (by simp), (hz j k (by omega)).2.2]
      unfold q_f1 jc_cl
      rw [if_pos rfl]
    · rw [a6, e _ _ (by simp) (by simp), q_f1_t (by decide) (by decide) (by decide), h.d, jof1 (by omega)]
theorem q_pu_l {I : jc_I} {P : jc_O} {lv : jc_L → Prop} {t xt j : Nat} {x : Int32} {c q : jc_L} (h : (q_pu I P lv t xt j x c).2.2.1 q) : lv q ∨ q = (12, t, j) ∨ q = (48, t, j) ∨ q = (49, t, j) ∨ ∃ z, q = (60, xt, z) := by
  unfold q_pu at h
  split at h
  · exact Or.inl h
  · dsimp only at h
    rcases l_add_l h with g | g
    · rcases g with g | g | g | g
      · exact Or.inr (Or.inr (Or.inr (Or.inl g)))
      · exact Or.inr (Or.inr (Or.inl g))
      · exact Or.inr (Or.inl g)
      · exact Or.inl g
    · exact Or.inr (Or.inr (Or.inr (Or.inr g)))
theorem qFr_sto {t j : Nat} : jc_sto "java/lang/Object" (some (qFr t j)) := fun q9 e9 => by cases e9; exact ⟨_, _, rfl, rfl, Or.inr ca_mF_oO⟩
/-- how many frames the list holds behind a push -/
def fnU (fn j : Nat) : Nat := if j < fn then fn else fn + 1
theorem q_pu_fs {I : jc_I} {P : jc_O} {lv : jc_L → Prop} {t xt fn j : Nat} {x : Int32} {c : jc_L} (h : PU I P lv t xt fn j) : ql (q_pu I P lv t xt j x c).1 (q_pu I P lv t xt j x c).2.1 (q_pu I P lv t xt j x c).2.2.1 xt (fnU fn j) (qFr t) ∧ (q_pu I P lv t xt j x c).2.2.2.1 + 3 * fn + lcap P xt ≤ 3 * fnU fn j + lcap (q_pu I P lv t xt j x c).2.1 xt ∧ (q_pu I P lv t xt j x c).2.2.2.2 + 26 * fn + 4 * lcap P xt ≤ 26 * fnU fn j + 4 * lcap (q_pu I P lv t xt j x c).2.1 xt ∧ (lcap (q_pu I P lv t xt j x c).2.1 xt ≤ lcap P xt ∨ lcap (q_pu I P lv t xt j x c).2.1 xt ≤ 2 * fn + 10) ∧ lcap P xt ≤ lcap (q_pu I P lv t xt j x c).2.1 xt := by
  have hle := h.le
  have hlt := h.lt
  have hsz : (I (15, xt, 0) 1).toNatClampNeg = fn := by have := h.fs.le; have := h.fs.cp; rw [h.fs.sz, jofN (by omega)]
  unfold q_pu fnU
  rw [hsz]
  by_cases hj : j < fn
  · rw [if_pos hj, if_pos hj]
    dsimp only
    have hc : lcap (jc_up P (12, t, j) 0 (some c)) xt = lcap P xt := by unfold lcap; rw [jc_up_t _ _ _ _ _ _ _ _ (by decide)]
    rw [hc]
    refine ⟨h.fs.to (q_bg_e (by simp) (by simp) (by simp)) (jc_up_t _ _ _ _ _ _ _ _ (by decide)) (fun _ _ => jc_up_t _ _ _ _ _ _ _ _ (by decide)) (fun _ g => g), by omega, by omega, Or.inl (Nat.le_refl _), Nat.le_refl _⟩
  · rw [if_neg hj, if_neg hj]
    have hjf : fn = j := by omega
    subst hjf
    dsimp only
    have q1 := (h.fs.f1 (t := t) (j := fn)).add (by omega) (qFr_sto (t := t) (j := fn))
    obtain ⟨c1, c2, c3⟩ := l_add_cost (e := (12, t, fn)) (h.fs.f1 (t := t) (j := fn))
    have hc0 : lcap (q_f1O P t fn) xt = lcap P xt := by unfold lcap; rw [q_f1O_t (by decide) (by decide) (by decide)]
    rw [hc0] at c1 c2 c3
    have hc : ∀ Q : jc_O, lcap (jc_up Q (12, t, fn) 0 (some c)) xt = lcap Q xt := fun Q => by unfold lcap; rw [jc_up_t _ _ _ _ _ _ _ _ (by decide)]
    rw [hc]
    refine ⟨q1.to (q_bg_e (by simp) (by simp) (by simp)) (jc_up_t _ _ _ _ _ _ _ _ (by decide)) (fun _ _ => jc_up_t _ _ _ _ _ _ _ _ (by decide)) (fun _ g => g), by omega, by omega, c3, by omega⟩
section
variable {x b n : Nat} {q : jc_L} {k k' : Nat} {u : Nat × Nat}
theorem nu_12 (h : nu x b n D (12, u) k = some (q, k')) : q = (8, u) := by
  unfold nu at h
  rw [if_pos rfl] at h
  split at h
  · cases h; rfl
  · split at h
    · cases h; rfl
    · cases h
theorem nu_48 (h : nu x b n D (48, u) k = some (q, k')) : q = (33, u) := by cases h; rfl
theorem nu_49 (h : nu x b n D (49, u) k = some (q, k')) : q = (32, u) := by cases h; rfl
theorem nu_14 (h : nu x b n D (14, u) k = some (q, k')) : q = (9, u) ∧ k' = k := by
  unfold nu at h
  rw [if_neg (by simp), if_neg (by simp), if_neg (by simp), if_pos rfl] at h
  split at h
  · cases h; exact ⟨rfl, by omega⟩
  · split at h
    · cases h; exact ⟨rfl, rfl⟩
    · cases h
theorem nu_15 (h : nu x b n D (15, u) k = some (q, k')) : u = (2, 0) ∨ u = (0, 0) := by
  unfold nu at h
  rw [if_neg (by simp), if_neg (by simp), if_neg (by simp), if_neg (by simp), if_neg (by simp), if_neg (by simp)] at h
  by_cases g : ((15, u) : jc_L) = (15, 2, 0) ∧ k = 1
  · exact Or.inl (congrArg Prod.snd g.1)
  · rw [if_neg g, if_neg (by simp), if_neg (by simp)] at h
    by_cases g2 : ((15, u) : jc_L) = (15, 0, 0) ∧ k = 1
    · exact Or.inr (congrArg Prod.snd g2.1)
    · rw [if_neg g2, if_neg (by simp), if_neg (by simp), if_neg (by simp), if_neg (by simp), if_neg (by simp), if_neg (by simp), if_neg (by simp), if_neg (by simp)] at h
      cases h
end
/-- what a call changes of the second side -/
def rc (t j m xt : Nat) (I I' : jc_I) : Prop := ∀ q k, q ≠ (12, t, m) → q ≠ (48, t, m) → q ≠ (49, t, m) → ¬ (q = (14, t, 0) ∧ k = 2) → q ≠ (15, xt, 0) → (∀ z, q ≠ (60, xt, z)) → ¬ (q = (12, t, j) ∧ k = 4) → I' q k = I q k
theorem Sim.call {J J' I I' : jc_I} {t j b n n0 s p xt : Nat} (sm : Sim t b n D J I) (hDn : D t = n0) (hj : j + 1 = n0) (hx : xt = 10 + t) (hp : p ≤ 8)
    (a1 : J' (8, t, j) 3 = Int32.ofNat s) (a2 : ∀ k, J' (33, t, n0) k = if k < p then J (32, t, j) (s + k) else if k < 8 then 0 else J (33, t, n0) k) (a3 : J' (8, t, n0) 3 = 0) (a4 : J' (8, t, n0) 4 = 0) (a5 : J' (9, t, 0) 2 = Int32.ofNat (n0 + 1)) (a6 : ∀ q k, ¬ (q = (8, t, j) ∧ k = 3) → q ≠ (33, t, n0) → q ≠ (8, t, n0) → ¬ (q = (9, t, 0) ∧ k = 2) → J' q k = J q k)
    (b1 : I' (12, t, j) 4 = Int32.ofNat s) (b2 : ∀ k, I' (48, t, n0) k = if k < p then I (49, t, j) (s + k) else if k < 8 then 0 else I (48, t, n0) k) (b3 : I' (12, t, n0) 4 = 0) (b4 : I' (12, t, n0) 5 = 0) (b5 : I' (14, t, 0) 2 = Int32.ofNat (n0 + 1)) (b6 : rc t j n0 xt I I') (b7 : ∀ k, I' (49, t, n0) k = I (49, t, n0) k) : Sim t b n (dU D t (n0 + 1)) J' I' := by
  refine Sim.more (m := n0) ?_ hDn (a3.trans b3.symm)
  intro q k z hz
  have hn := mu_nu hz
  by_cases h1 : q = (8, t, n0)
  · subst h1
    unfold mu at hz
    rw [if_pos rfl] at hz
    split at hz
    · rename_i g; have := g.2; dsimp only at this; omega
    · split at hz
      · rename_i g; cases hz; rw [g, a4]; exact b4.symm
      · cases hz
  by_cases h2 : q = (33, t, n0)
  · subst h2
    have hz : some ((48, t, n0), k) = some z := hz
    cases hz
    rw [a2 k, b2 k, sm.va, sm.lo]
  by_cases h3 : q = (9, t, 0) ∧ k = 2
  · obtain ⟨e1, e2⟩ := h3
    subst e1; subst e2
    have : mu t b n D (9, t, 0) 2 = some ((14, t, 0), 2) := by unfold mu; simp
    rw [this] at hz
    cases hz
    exact a5.trans b5.symm
  by_cases h4 : q = (8, t, j) ∧ k = 3
  · obtain ⟨e1, e2⟩ := h4
    subst e1; subst e2
    rw [mu83 (by omega)] at hz
    cases hz
    exact a1.trans b1.symm
  rw [a6 q k h4 h2 h1 h3, sm q k z hz]
  obtain ⟨z1, z2⟩ := z
  dsimp only at hn ⊢
  by_cases h5 : z1 = (49, t, n0)
  · subst h5; exact (b7 z2).symm
  refine (b6 z1 z2 (fun g => ?_) (fun g => ?_) h5 (fun g => ?_) (fun g => ?_) (fun z g => ?_) (fun g => ?_)).symm
  · rw [g] at hn; exact h1 (nu_12 hn)
  · rw [g] at hn; exact h2 (nu_48 hn)
  · rw [g.1, g.2] at hn; exact h3 (nu_14 hn)
  · rw [g] at hn; rcases nu_15 hn with w | w <;> (have := congrArg Prod.fst w; dsimp only at this; omega)
  · rw [g, nu_60 rfl] at hn; cases hn
  · rw [g.1, g.2] at hn
    have e := nu_12 hn
    subst e
    refine h4 ⟨rfl, ?_⟩
    unfold nu at hn
    rw [if_pos rfl] at hn
    split at hn
    · cases hn; rfl
    · rw [if_neg (by decide)] at hn; cases hn
