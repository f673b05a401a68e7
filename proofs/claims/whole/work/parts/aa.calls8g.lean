section
variable {x b n : Nat} {D : Nat → Nat} {q : jc_L} {k k' : Nat} {u : Nat × Nat}
theorem nu_11 (h : nu x b n D (11, u) k = some (q, k')) : q = (6, u) := by
  unfold nu at h
  rw [if_neg (by simp), if_neg (by simp), if_neg (by simp), if_neg (by simp), if_neg (by simp), if_neg (by simp), if_neg (by simp), if_neg (by simp), if_neg (by simp), if_neg (by simp), if_pos rfl] at h
  by_cases h0 : k = 0
  · rw [if_pos h0] at h; cases h; rfl
  rw [if_neg h0] at h
  by_cases h1 : k = 1
  · rw [if_pos h1] at h; cases h; rfl
  rw [if_neg h1] at h
  by_cases h3 : k = 3
  · rw [if_pos h3] at h; cases h; rfl
  rw [if_neg h3] at h
  by_cases h6 : k = 6
  · rw [if_pos h6] at h; cases h; rfl
  rw [if_neg h6] at h
  by_cases h11 : k = 11
  · rw [if_pos h11] at h; cases h; rfl
  rw [if_neg h11] at h
  cases h
theorem nu_40 (h : nu x b n D (40, u) k = some (q, k')) : q = (20, u) := by cases h; rfl
theorem nu_41 (h : nu x b n D (41, u) k = some (q, k')) : q = (21, u) := by cases h; rfl
theorem nu_42 (h : nu x b n D (42, u) k = some (q, k')) : q = (22, u) := by cases h; rfl
theorem nu_43 {a : Nat} (ha : a = 43 ∨ a = 44 ∨ a = 45 ∨ a = 46) (h : nu x b n D (a, u) k = some (q, k')) : q.1 = 5 ∧ q.2.1 = u.1 := by
  rcases ha with e | e | e | e <;> subst e <;> (cases h; exact ⟨rfl, rfl⟩)
theorem nu_150 (h : nu x b n D (15, 0, 0) k = some (q, k')) : q = (1, 0, 0) ∧ k' = 1 := by
  unfold nu at h
  rw [if_neg (by simp), if_neg (by simp), if_neg (by simp), if_neg (by simp), if_neg (by simp), if_neg (by simp), if_neg (by simp), if_neg (by simp), if_neg (by simp)] at h
  by_cases g : k = 1
  · rw [if_pos ⟨rfl, g⟩] at h
    cases h
    exact ⟨rfl, rfl⟩
  · rw [if_neg (fun w => g w.2), if_neg (by simp), if_neg (by simp), if_neg (by simp), if_neg (by simp), if_neg (by simp), if_neg (by simp), if_neg (by simp), if_neg (by simp)] at h
    cases h
theorem mu_6 {z : jc_L × Nat} (h : mu x b n D (6, u) k = some z) : (k = 1 ∧ z = ((11, u), 0)) ∨ (k = 2 ∧ z = ((11, u), 1)) ∨ (k = 7 ∧ z = ((11, u), 3)) ∨ (k = 8 ∧ z = ((11, u), 6)) ∨ (k = 9 ∧ z = ((11, u), 11)) := by
  unfold mu at h
  rw [if_neg (by simp), if_neg (by simp), if_neg (by simp), if_neg (by simp), if_neg (by simp), if_neg (by simp), if_neg (by simp), if_neg (by simp), if_neg (by simp), if_neg (by simp), if_pos rfl] at h
  by_cases h1 : k = 1
  · rw [if_pos h1] at h; cases h; exact Or.inl ⟨h1, rfl⟩
  rw [if_neg h1] at h
  by_cases h2 : k = 2
  · rw [if_pos h2] at h; cases h; exact Or.inr (Or.inl ⟨h2, rfl⟩)
  rw [if_neg h2] at h
  by_cases h7 : k = 7
  · rw [if_pos h7] at h; cases h; exact Or.inr (Or.inr (Or.inl ⟨h7, rfl⟩))
  rw [if_neg h7] at h
  by_cases h8 : k = 8
  · rw [if_pos h8] at h; cases h; exact Or.inr (Or.inr (Or.inr (Or.inl ⟨h8, rfl⟩)))
  rw [if_neg h8] at h
  by_cases h9 : k = 9
  · rw [if_pos h9] at h; cases h; exact Or.inr (Or.inr (Or.inr (Or.inr ⟨h9, rfl⟩)))
  rw [if_neg h9] at h
  cases h
theorem mu_11 {z : jc_L × Nat} (h : mu x b n D (1, 0, 0) k = some z) : k = 1 ∧ z = ((15, 0, 0), 1) := by
  unfold mu at h
  rw [if_neg (by simp), if_neg (by simp), if_neg (by simp), if_neg (by simp), if_neg (by simp), if_neg (by simp), if_neg (by simp), if_neg (by simp), if_neg (by simp)] at h
  by_cases g : k = 1
  · rw [if_pos ⟨rfl, g⟩] at h
    cases h
    exact ⟨g, rfl⟩
  · rw [if_neg (fun w => g w.2), if_neg (by simp), if_neg (by simp), if_neg (by simp), if_neg (by simp), if_neg (by simp)] at h
    cases h
end
theorem Sim.code {x b n c : Nat} {D : Nat → Nat} {J J' I I' : jc_I} {p r V : Int32} (s : Sim x b n D J I) (hz : ∀ i k, J (5, c, i) k = 0)
    (a1 : ∀ q k, q ≠ (6, c, 0) → q ≠ (20, c, 0) → q ≠ (21, c, 0) → q ≠ (22, c, 0) → q ≠ (23, c, 0) → ¬ (q = (1, 0, 0) ∧ k = 1) → J' q k = J q k) (a6 : J' (6, c, 0) 1 = p ∧ J' (6, c, 0) 2 = r ∧ ∀ i, 3 ≤ i → J' (6, c, 0) i = 0) (a2 : ∀ a, 20 ≤ a ∧ a ≤ 22 → ∀ i, J' (a, c, 0) i = 0) (a9 : J' (1, 0, 0) 1 = V)
    (b1 : ∀ q k, q ≠ (11, c, 0) → ¬ (40 ≤ q.1 ∧ q.1 ≤ 46 ∧ q.2 = (c, 0)) → q ≠ (15, 0, 0) → (∀ z, q ≠ (60, 0, z)) → I' q k = I q k) (b6 : I' (11, c, 0) 0 = p ∧ I' (11, c, 0) 1 = r ∧ ∀ i, 2 ≤ i → I' (11, c, 0) i = 0) (b2 : ∀ a, 40 ≤ a ∧ a ≤ 46 → ∀ i, I' (a, c, 0) i = 0) (b9 : I' (15, 0, 0) 1 = V) : Sim x b n D J' I' := by
  intro q k z hq
  have hn := mu_nu hq
  by_cases h6 : q = (6, c, 0)
  · subst h6
    rcases mu_6 hq with ⟨e1, e2⟩ | ⟨e1, e2⟩ | ⟨e1, e2⟩ | ⟨e1, e2⟩ | ⟨e1, e2⟩ <;> subst e1 <;> subst e2 <;> dsimp only
    · rw [a6.1, b6.1]
    · rw [a6.2.1, b6.2.1]
    · rw [a6.2.2 7 (by decide), b6.2.2 3 (by decide)]
    · rw [a6.2.2 8 (by decide), b6.2.2 6 (by decide)]
    · rw [a6.2.2 9 (by decide), b6.2.2 11 (by decide)]
  by_cases h20 : q = (20, c, 0)
  · subst h20
    have hq : some ((40, c, 0), k) = some z := hq
    cases hq
    rw [a2 20 (by decide), b2 40 (by decide)]
  by_cases h21 : q = (21, c, 0)
  · subst h21
    have hq : some ((41, c, 0), k) = some z := hq
    cases hq
    rw [a2 21 (by decide), b2 41 (by decide)]
  by_cases h22 : q = (22, c, 0)
  · subst h22
    have hq : some ((42, c, 0), k) = some z := hq
    cases hq
    rw [a2 22 (by decide), b2 42 (by decide)]
  by_cases h23 : q = (23, c, 0)
  · subst h23
    have := mu_n2 hq
    unfold mu at hq
    simp at hq
  by_cases h11 : q = (1, 0, 0)
  · subst h11
    obtain ⟨e1, e2⟩ := mu_11 hq
    subst e1; subst e2
    rw [a9, b9]
  by_cases h5 : q.1 = 5 ∧ q.2.1 = c
  · obtain ⟨a, u, v⟩ := q
    obtain ⟨e1, e2⟩ := h5
    dsimp only at e1 e2
    subst e1; subst e2
    rw [a1 _ _ h6 h20 h21 h22 h23 (fun g => h11 g.1), hz]
    rcases mu_5 hq with e | e | e | e <;> subst e <;> (cases hq; dsimp only)
    · rw [b2 43 (by decide)]
    · rw [b2 44 (by decide)]
    · rw [b2 45 (by decide)]
    · rw [b2 46 (by decide)]
  rw [a1 q k h6 h20 h21 h22 h23 (fun g => h11 g.1), s q k z hq]
  obtain ⟨z1, z2⟩ := z
  dsimp only at hn ⊢
  refine (b1 z1 z2 (fun g => ?_) (fun g => ?_) (fun g => ?_) (fun y g => ?_)).symm
  · rw [g] at hn; exact h6 (nu_11 hn)
  · obtain ⟨a, u⟩ := z1
    obtain ⟨g1, g2, g3⟩ := g
    dsimp only at g1 g2 g3
    subst g3
    rcases (show a = 40 ∨ a = 41 ∨ a = 42 ∨ (a = 43 ∨ a = 44 ∨ a = 45 ∨ a = 46) by omega) with e | e | e | e
    · subst e; exact h20 (nu_40 hn)
    · subst e; exact h21 (nu_41 hn)
    · subst e; exact h22 (nu_42 hn)
    · exact h5 (nu_43 e hn)
  · rw [g] at hn; exact h11 (nu_150 hn).1
  · rw [g, nu_60 rfl] at hn; cases hn
theorem cdI_x {X : jc_I} {c : Nat} {V p r : Int32} : ∀ q k, q ≠ (6, c, 0) → q ≠ (20, c, 0) → q ≠ (21, c, 0) → q ≠ (22, c, 0) → q ≠ (23, c, 0) → ¬ (q = (1, 0, 0) ∧ k = 1) → cdI X c V p r q k = X q k := fun q k g6 g20 g21 g22 g23 h2 => by
  unfold cdI
  have e : ∀ Z : jc_I, jc_up Z (1, 0, 0) 1 (V + 1) q k = Z q k := fun Z => if_neg h2
  rw [e, jc_up_q _ _ _ _ _ _ g6, jc_up_q _ _ _ _ _ _ g6, jc_up_q _ _ _ _ _ _ g6]
  unfold jc_cl
  rw [if_neg g23, if_neg g22, if_neg g21, if_neg g20, if_neg g6]
theorem q_ki_live {I : jc_I} {P : jc_O} {lv : jc_L → Prop} {c : Nat} {p r : Int32} : ∀ q, lv q → (q_ki I P lv c p r).2.2.1 q := fun q h => l_add_live q (Or.inr (Or.inr (Or.inr (Or.inr (Or.inr (Or.inr (Or.inr (Or.inr h))))))))
theorem st_code {X : jc_I} {Y : jc_O} {L : jc_L → Prop} {S : Int} {N : Nat} {p r : Int32} (g : GS X Y L S N) : ST y_J_code y_m_code [.inl p, .inl r] X Y L S N := by
  obtain ⟨b, n, tc, sn, cn, zc, D, fn, e, hc, hr, hx⟩ := id g
  have h1 := hc.tcn
  have h2 := hc.sn8
  have h4 := hc.c4
  have et : X (4, 0, 0) 4 = X (10, 0, 0) 3 := hc.tc1.trans hr.tc1.symm
  by_cases hb : (0 ≤ p ∧ p ≤ 8) ∧ (0 ≤ r ∧ r ≤ 2) ∧ ¬ 0 < X (4, 0, 0) 4
  · have ht0 : tc = 0 := by
      have := hb.2.2
      rw [hc.tc1, jlt, jofI (by omega), j0I] at this
      omega
    subst ht0
    have i1 := jofI (n := cn) (by omega)
    have ec : X (1, 0, 0) 1 = X (15, 0, 0) 1 := hx.sm 0 (1, 0, 0) 1 _ rfl
    by_cases hf : cn = 40
    · subst hf
      exact ST.same g (ct_J_code_y (live1 := L) hc.jJ hb (fun _ h => h) (ct_Cs_begin_full (by rw [hc.cs]; decide))) (ct_m_code_f hr.qa.1 (by rw [← et]; exact hb) (by rw [← ec]; exact hc.cs))
    · have hcn : cn < 40 := by omega
      obtain ⟨f0, f1, f2, f3, f4⟩ := hc.cf cn (Nat.le_refl _)
      have en : (X (1, 0, 0) 1).toNatClampNeg = cn := by rw [hc.cs, jofN (by omega)]
      have c0 := ct_Cs_begin_new (I := X) (live := L) (p := p) (r := r) (by rw [hc.cs, jlt, i1, show (40 : Int32).toInt = 40 from by decide]; omega) (by rw [hc.cs, jle, i1, j0I]; omega) hc.A.1 (by rw [en]; exact f0) (by rw [en]; exact f1) (by rw [en]; exact f2) (by rw [en]; exact f3) (by rw [en]; exact f4)
      rw [en] at c0
      change jc_Ct y_Cs_begin _ X Y L (_, cdI X cn (X (1, 0, 0) 1) p r, cdO Y cn, cdL L cn, 5, 158) at c0
      have hL : ∀ q, L q → cdL L cn q := fun q h => Or.inr (Or.inr (Or.inr (Or.inr (Or.inr h))))
      have c1 := ct_J_code_y hc.jJ hb hL c0
      have cR : ∀ q k, isR q.1 = true → cdI X cn (X (1, 0, 0) 1) p r q k = X q k := fun q k hq => by
        have := isR_s hq
        exact cdI_e (by omega) (fun g => by rw [g.1] at this; simp at this)
      have oR : ∀ q k, isR q.1 = true → cdO Y cn q k = Y q k := fun q k hq => by
        have := isR_s hq
        exact cdO_e (by omega) (fun g => by rw [g.1] at this; simp at this) (fun g => by rw [g.1] at this; simp at this)
      have lR : ∀ q, isR q.1 = true → (cdL L cn q ↔ L q) := fun q hq => by
        have := isR_s hq
        exact cdL_e (by omega)
      have hr1 := hr.to cR oR lR
      have hx1 := hx.to (J' := X) (O' := Y) (fun _ _ _ => rfl) (fun _ _ _ => rfl) cR oR
      have hGC := hc.new (p := p) (r := r) hcn hb.1 hb.2.1
      have hGR := hr1.new (p := p) (r := r) hcn hb.1
      obtain ⟨k0, k1, k2, k3, k4, k5, k6, k7⟩ := hr1.cf cn (Nat.le_refl _)
      have d1 := ct_m_code_n (p := p) (r := r) hr1.qa.1 (by rw [cR _ _ rfl, ← et]; exact hb) hr1.qa.2.1 hcn k0 k1 k2 k3 k4 k5 k6 k7
      have v6 := cdI_6 (X := X) (c := cn) (V := X (1, 0, 0) 1) (p := p) (r := r)
      have v2 := fun (a : Nat) (ha : 20 ≤ a ∧ a ≤ 22) (i : Nat) => cdI_2 (X := X) (c := cn) (V := X (1, 0, 0) 1) (p := p) (r := r) ha i
      have vx := cdI_x (X := X) (c := cn) (V := X (1, 0, 0) 1) (p := p) (r := r)
      have v1 : cdI X cn (X (1, 0, 0) 1) p r (1, 0, 0) 1 = Int32.ofNat (cn + 1) := by unfold cdI; rw [jc_up_s, hc.cs, jof1 (by omega)]
      have w6 := cdO_6 (Y := Y) (c := cn)
      have h96 : ∀ i j, cdI X cn (X (1, 0, 0) 1) p r (96, i, 0) j = X (96, i, 0) j := fun i j => cdI_e (by simp) (by simp)
      have hcap1 : ∀ y, lcap (cdO Y cn) y = lcap Y y := fun y => by unfold lcap; rw [oR _ _ rfl]
      have hcn3 : cdI X cn (X (1, 0, 0) 1) p r (3, 0, 0) 2 = X (3, 0, 0) 2 := cdI_e (by simp) (by simp)
      rw [show X (1, 0, 0) 1 + 1 - 1 = Int32.ofNat cn from by rw [hc.cs, jof1 (by omega), jofs (by omega)]] at c1
      generalize cdI X cn (X (1, 0, 0) 1) p r = X1 at *
      generalize cdO Y cn = Y1 at *
      generalize cdL L cn = L1 at *
      have eI : ∀ q k, q ≠ (11, cn, 0) → ¬ (40 ≤ q.1 ∧ q.1 ≤ 46 ∧ q.2 = (cn, 0)) → q ≠ (15, 0, 0) → (∀ z, q ≠ (60, 0, z)) → (q_ki X1 Y1 L1 cn p r).1 q k = X1 q k := fun q k g1 g2 g3 g4 => (l_add_Iq g3 g4).trans (k1_e g1 g2)
      have eO : ∀ q k, q ≠ (11, cn, 0) → ¬ (40 ≤ q.1 ∧ q.1 ≤ 46 ∧ q.2 = (cn, 0)) → ¬ (q = (10, 0, 0) ∧ k = 1) → q ≠ (15, 0, 0) → (∀ z, q ≠ (60, 0, z)) → (q_ki X1 Y1 L1 cn p r).2.1 q k = Y1 q k := fun q k g1 g2 g5 g3 g4 => (l_add_Oq g3 g4).trans (k1O_e g1 g2 g5)
      have eL : ∀ q, q ≠ (11, cn, 0) → ¬ (40 ≤ q.1 ∧ q.1 ≤ 46 ∧ q.2 = (cn, 0)) → (∀ z, q ≠ (60, 0, z)) → (q_ki X1 Y1 L1 cn p r).2.2.1 q → L1 q := fun q g1 g2 g4 g => by
        rcases l_add_l g with w | ⟨z, w⟩
        · exact k1l_e g1 g2 w
        · exact absurd w (g4 z)
      have z15 : (q_ki X1 Y1 L1 cn p r).1 (15, 0, 0) 1 = Int32.ofNat (cn + 1) := hGR.qa.2.1.sz
      have z11 : ∀ i, (q_ki X1 Y1 L1 cn p r).1 (11, cn, 0) i = q_k1 X1 cn p r (11, cn, 0) i := fun i => l_add_Iq (by simp) (by simp)
      have k11 := k1_11 (I := X1) (c := cn) (p := p) (r := r)
      have z4 : ∀ a, 40 ≤ a ∧ a ≤ 46 → ∀ i, (q_ki X1 Y1 L1 cn p r).1 (a, cn, 0) i = 0 := fun a ha i => by
        have e1 : (q_ki X1 Y1 L1 cn p r).1 (a, cn, 0) i = q_k1 X1 cn p r (a, cn, 0) i := l_add_Iq (fun g => by have := congrArg Prod.fst g; dsimp only at this; omega) (fun z g => by have := congrArg Prod.fst g; dsimp only at this; omega)
        rw [e1, k1_4 ha]
      have zo : (q_ki X1 Y1 L1 cn p r).2.1 (10, 0, 0) 1 = some (11, cn, 0) := (l_add_Oq (by simp) (by simp)).trans k1O_11.2
      obtain ⟨u1, u2, u3⟩ := l_add_cost (e := (11, cn, 0)) (hr1.qa.2.1.k1 (cn := cn) (p := p) (r := r))
      have hk0 : lcap (q_k1O Y1 cn) 0 = lcap Y1 0 := by unfold lcap; rw [k1O_e (by simp) (by simp) (by simp)]
      rw [hk0] at u1 u2 u3
      change (q_ki X1 Y1 L1 cn p r).2.2.2.1 + _ ≤ lcap (q_ki X1 Y1 L1 cn p r).2.1 0 at u1
      change (q_ki X1 Y1 L1 cn p r).2.2.2.2 + _ ≤ 4 * lcap (q_ki X1 Y1 L1 cn p r).2.1 0 at u2
      change lcap (q_ki X1 Y1 L1 cn p r).2.1 0 ≤ _ ∨ lcap (q_ki X1 Y1 L1 cn p r).2.1 0 ≤ _ at u3
      have hcap2 : lcap (q_ki X1 Y1 L1 cn p r).2.1 2 = lcap Y1 2 := by unfold lcap; rw [eO _ _ (by simp) (by simp) (by simp) (by simp) (by simp)]
      rw [z15, jofs (by omega)] at d1
      have hlive : ∀ q, L1 q → (q_ki X1 Y1 L1 cn p r).2.2.1 q := q_ki_live
      have sm2 : ∀ y, Sim y b n D X1 (q_ki X1 Y1 L1 cn p r).1 := fun y => (hx1.sm y).code (fun i k => (hc.rz cn i k (Nat.le_refl _)).1) vx ⟨v6.2.1, v6.2.2.1, v6.2.2.2⟩ v2 v1 eI ⟨(z11 0).trans k11.1, (z11 1).trans k11.2.1, fun i hi => (z11 i).trans (k11.2.2 i hi)⟩ z4 z15
      generalize q_ki X1 Y1 L1 cn p r = Z at *
      have cC : ∀ q k, isC q.1 = true → Z.1 q k = X1 q k := fun q k hq => by
        have := isC_s hq
        exact eI q k (fun g => by rw [g] at this; simp at this) (by omega) (fun g => by rw [g] at this; simp at this) (fun z g => by rw [g] at this; simp at this)
      have oC : ∀ q k, isC q.1 = true → Z.2.1 q k = Y1 q k := fun q k hq => by
        have := isC_s hq
        exact eO q k (fun g => by rw [g] at this; simp at this) (by omega) (fun g => by rw [g.1] at this; simp at this) (fun g => by rw [g] at this; simp at this) (fun z g => by rw [g] at this; simp at this)
      have lC : ∀ q, isC q.1 = true → (Z.2.2.1 q ↔ L1 q) := fun q hq => by
        have := isC_s hq
        exact ⟨eL q (fun g => by rw [g] at this; simp at this) (by omega) (fun z g => by rw [g] at this; simp at this), hlive q⟩
      have hGX : GX X1 Y1 Z.1 Z.2.1 0 (cn + 1) b n D := ⟨sm2, hcn3.trans hx.cn, fun t ht => absurd ht (Nat.not_lt_zero t), fun t ht => absurd ht (Nat.not_lt_zero t), Or.inr ⟨rfl, cn, Nat.lt_succ_self _, w6.2.1, zo⟩⟩
      refine ⟨_, _, _, _, _, _, _, _, _, _, _, N, c1, hL, d1, hlive, ⟨b, n, 0, sn, cn + 1, zc, D, fn, e, (hGC.to cC oC lC).mono (by omega), hGR, hGX.to cC oC (fun _ _ _ => rfl) (fun _ _ _ => rfl)⟩, ?_, ?_, h96, fun i j => ?_⟩
      · rw [hcap2, hcap1]
        rcases u3 with u3 | u3 <;> omega
      · rw [hcap2, hcap1]
        rcases u3 with u3 | u3 <;> omega
      · rw [eI _ _ (by simp) (by simp) (by simp) (by simp)]
        exact h96 i j
  · exact ST.same g (ct_J_code_r hc.jJ hb) (ct_m_code_r hr.qa.1 (by rw [← et]; exact hb))
