theorem fit_ok {x a : Int32} (h : q_fit x a ≠ 0) : insOK x a := by
  unfold q_fit at h
  unfold insOK
  split at h
  · grind
  · split at h
    · grind
    · split at h
      · grind
      · split at h
        · grind
        · grind
theorem st_add {X : jc_I} {Y : jc_O} {L : jc_L → Prop} {S : Int} {N : Nat} {x a : Int32} (g : GS X Y L S N) : ST y_J_add y_m_add [.inl x, .inl a] X Y L S N := by
  obtain ⟨b, n, tc, sn, cn, zc, D, fn, e, hc, hr, hx⟩ := id g
  rcases hx.op with ⟨o1, o2⟩ | ⟨ht0, c, hcc, o1, o2⟩
  · exact ST.same g (ct_J_add_n hc.jJ o1) (ct_m_add_n o2)
  · subst ht0
    have hin := hc.in' hcc
    have hA := hc.A.2.2.2 c hin
    obtain ⟨n1, n2, n3, n4, n5, n6⟩ := hA.2.2.1
    have w := hr.qa.2.2 c hcc
    have e8 : X (6, c, 0) 8 = X (11, c, 0) 6 := hx.sm 0 (6, c, 0) 8 _ rfl
    have h1 := ct_J_add_y (live := L) (x := x) (a := a) hc.jJ o1 hA.2.1.2.1 hA.2.1.2.2.1 n3
    by_cases hk : q_fit x a ≠ 0
    · by_cases hf : 60 ≤ X (6, c, 0) 8
      · have h2 := ct_m_add_y (live := L) (x := x) (a := a) o2 w.1 w.2.1
        rw [if_pos hk, if_pos hf, if_pos hk, if_pos hf] at h1
        rw [← e8, if_pos hk, if_pos hf, if_pos hk, if_pos hf] at h2
        exact ST.same g h1 h2
      · rw [if_pos hk, if_neg hf, if_pos hk, if_neg hf] at h1
        obtain ⟨k, k1, k2, k3, k4, k5, k6, k7⟩ := grow (m := 60) n3 hf (by omega)
        rw [k3] at h1
        have c1 : ∀ q i, isR q.1 = true → jc_up (jc_up (jc_up X (21, c, 0) k x) (22, c, 0) k a) (6, c, 0) 8 (X (6, c, 0) 8 + 1) q i = X q i := fun q i hq => by
          have := isR_s hq
          rw [jc_up_q _ _ _ _ _ _ (fun g => by rw [g] at this; simp at this), jc_up_q _ _ _ _ _ _ (fun g => by rw [g] at this; simp at this), jc_up_q _ _ _ _ _ _ (fun g => by rw [g] at this; simp at this)]
        have hr1 := hr.to c1 (fun _ _ _ => rfl) (fun _ _ => Iff.rfl)
        have hx1 := hx.to (J' := X) (O' := Y) (fun _ _ _ => rfl) (fun _ _ _ => rfl) c1 (fun _ _ _ => rfl)
        have w1 := hr1.qa.2.2 c hcc
        have h2 := ct_m_add_y (live := L) (x := x) (a := a) o2 w1.1 w1.2.1
        rw [c1 _ _ rfl, ← e8, if_pos hk, if_neg hf, if_pos hk, if_neg hf, k3] at h2
        have hGC : GC (jc_up (jc_up (jc_up X (21, c, 0) k x) (22, c, 0) k a) (6, c, 0) 8 (X (6, c, 0) 8 + 1)) Y L S 0 sn cn D := by
          have e6 : ∀ i, i ≠ 8 → jc_up (jc_up (jc_up X (21, c, 0) k x) (22, c, 0) k a) (6, c, 0) 8 (X (6, c, 0) 8 + 1) (6, c, 0) i = X (6, c, 0) i := fun i hi => by rw [jc_up_k _ _ _ _ _ _ hi, jc_up_t _ _ _ _ _ _ _ _ (by decide), jc_up_t _ _ _ _ _ _ _ _ (by decide)]
          have ea : ∀ a9 u i, a9 ≠ 6 → a9 ≠ 21 → a9 ≠ 22 → jc_up (jc_up (jc_up X (21, c, 0) k x) (22, c, 0) k a) (6, c, 0) 8 (X (6, c, 0) 8 + 1) (a9, u) i = X (a9, u) i := fun a9 u i h6 h21 h22 => by rw [jc_up_t _ _ _ _ _ _ _ _ h6, jc_up_t _ _ _ _ _ _ _ _ h22, jc_up_t _ _ _ _ _ _ _ _ h21]
          refine hc.upd hcc (fun q i hq hne => ?_) (fun i _ h8 _ => e6 i h8) (fun _ _ _ _ _ => rfl) (fun _ _ _ => Iff.rfl) ?_ ?_ ?_ ?_ ?_ ?_
          · rw [jc_up_q _ _ _ _ _ _ (fun g => hne (by rw [g]; simp)), jc_up_q _ _ _ _ _ _ (fun g => hne (by rw [g]; simp)), jc_up_q _ _ _ _ _ _ (fun g => hne (by rw [g]; simp))]
          · unfold jw_n
            rw [jc_up_s, e6 7 (by decide), e6 9 (by decide)]
            exact ⟨n1, n2, k6, k7, n5, n6⟩
          · intro r hr9
            rw [e6 9 (by decide)] at hr9
            exact hA.2.2.2.1 r hr9
          · intro i hi
            rw [jc_up_s, k4] at hi
            have e21 : jc_up (jc_up (jc_up X (21, c, 0) k x) (22, c, 0) k a) (6, c, 0) 8 (X (6, c, 0) 8 + 1) (21, c, 0) i = jc_up X (21, c, 0) k x (21, c, 0) i := by rw [jc_up_t _ _ _ _ _ _ _ _ (by decide), jc_up_t _ _ _ _ _ _ _ _ (by decide)]
            have e22 : jc_up (jc_up (jc_up X (21, c, 0) k x) (22, c, 0) k a) (6, c, 0) 8 (X (6, c, 0) 8 + 1) (22, c, 0) i = jc_up (jc_up X (21, c, 0) k x) (22, c, 0) k a (22, c, 0) i := jc_up_t _ _ _ _ _ _ _ _ (by decide)
            rw [e21, e22]
            by_cases g9 : i = k
            · subst g9; rw [jc_up_s, jc_up_s]; exact fit_ok hk
            · rw [jc_up_k _ _ _ _ _ _ g9, jc_up_k _ _ _ _ _ _ g9, jc_up_t _ _ _ _ _ _ _ _ (by decide)]
              exact hc.C.ins c i hin (by show i < (X (6, c, 0) 8).toNatClampNeg; rw [k3]; omega)
          · intro i hi
            rw [e6 7 (by decide)] at hi
            rw [ea 20 _ _ (by decide) (by decide) (by decide)]
            exact hc.lk c i hcc hi
          · intro r hr9
            rw [e6 9 (by decide)] at hr9
            rw [ea 5 _ _ (by decide) (by decide) (by decide)]
            exact hc.ra c r hcc hr9
          · intro r hr9
            rw [e6 9 (by decide)] at hr9
            exact hc.rf c r hcc hr9
        generalize hX1 : jc_up (jc_up (jc_up X (21, c, 0) k x) (22, c, 0) k a) (6, c, 0) 8 (X (6, c, 0) 8 + 1) = X1 at *
        have cC : ∀ q i, isC q.1 = true → jc_up (jc_up (jc_up X1 (41, c, 0) k x) (42, c, 0) k a) (11, c, 0) 6 (X (6, c, 0) 8 + 1) q i = X1 q i := fun q i hq => by
          have := isC_s hq
          rw [jc_up_q _ _ _ _ _ _ (fun g => by rw [g] at this; simp at this), jc_up_q _ _ _ _ _ _ (fun g => by rw [g] at this; simp at this), jc_up_q _ _ _ _ _ _ (fun g => by rw [g] at this; simp at this)]
        have hGR : GR (jc_up (jc_up (jc_up X1 (41, c, 0) k x) (42, c, 0) k a) (11, c, 0) 6 (X (6, c, 0) 8 + 1)) Y L b n 0 sn cn zc D fn := by
          have e11 : ∀ i, i ≠ 6 → jc_up (jc_up (jc_up X1 (41, c, 0) k x) (42, c, 0) k a) (11, c, 0) 6 (X (6, c, 0) 8 + 1) (11, c, 0) i = X1 (11, c, 0) i := fun i hi => by rw [jc_up_k _ _ _ _ _ _ hi, jc_up_t _ _ _ _ _ _ _ _ (by decide), jc_up_t _ _ _ _ _ _ _ _ (by decide)]
          refine hr1.upd (c := c) (fun q i hq hne => ?_) (e11 0 (by decide)) ?_
          · rw [jc_up_q _ _ _ _ _ _ (fun g => hne (by rw [g]; simp)), jc_up_q _ _ _ _ _ _ (fun g => hne (by rw [g]; simp)), jc_up_q _ _ _ _ _ _ (fun g => hne (by rw [g]; simp))]
          · have := w1.2.1
            unfold qn at *
            rw [jc_up_s, e11 3 (by decide), e11 11 (by decide)]
            exact ⟨this.1, this.2.1, k6, k7, this.2.2.2.2⟩
        have hGX : GX X1 Y (jc_up (jc_up (jc_up X1 (41, c, 0) k x) (42, c, 0) k a) (11, c, 0) 6 (X (6, c, 0) 8 + 1)) Y 0 cn b n D := by
          refine ⟨fun z => ?_, ?_, fun t ht => absurd ht (Nat.not_lt_zero t), fun t ht => absurd ht (Nat.not_lt_zero t), Or.inr ⟨rfl, c, hcc, o1, o2⟩⟩
          · have s1 := (((hx1.sm z).up (q := (21, c, 0)) (k := k) (v := x) rfl).up (q := (22, c, 0)) (k := k) (v := a) rfl).up (q := (6, c, 0)) (k := 8) (v := X (6, c, 0) 8 + 1) rfl
            rw [hX1] at s1
            exact s1
          · rw [← hX1, jc_up_t _ _ _ _ _ _ _ _ (by decide), jc_up_t _ _ _ _ _ _ _ _ (by decide), jc_up_t _ _ _ _ _ _ _ _ (by decide)]; exact hx.cn
        refine ⟨_, _, _, _, _, _, _, _, _, _, _, N, h1, fun _ h => h, h2, fun _ h => h, ⟨b, n, 0, sn, cn, zc, D, fn, e, (hGC.to cC (fun _ _ _ => rfl) (fun _ _ => Iff.rfl)).mono (by omega), hGR, hGX.to cC (fun _ _ _ => rfl) (fun _ _ _ => rfl) (fun _ _ _ => rfl)⟩, by omega, by omega, fun i j => ?_, fun i j => ?_⟩
        · rw [← hX1, jc_up_t _ _ _ _ _ _ _ _ (by decide), jc_up_t _ _ _ _ _ _ _ _ (by decide), jc_up_t _ _ _ _ _ _ _ _ (by decide)]
        · rw [jc_up_t _ _ _ _ _ _ _ _ (by decide), jc_up_t _ _ _ _ _ _ _ _ (by decide), jc_up_t _ _ _ _ _ _ _ _ (by decide), ← hX1, jc_up_t _ _ _ _ _ _ _ _ (by decide), jc_up_t _ _ _ _ _ _ _ _ (by decide), jc_up_t _ _ _ _ _ _ _ _ (by decide)]
    · have h2 := ct_m_add_y (live := L) (x := x) (a := a) o2 w.1 w.2.1
      rw [if_neg hk, if_neg hk] at h1
      rw [if_neg hk, if_neg hk] at h2
      exact ST.same g h1 h2
/-- the row that is told -/
def c_rw (X : jc_I) (c k : Nat) (x z a m : Int32) (v : Int32) : jc_I := jc_up (jc_up (jc_up (jc_up (jc_up (jc_cl X (5, c, k) 0) (5, c, k) 0 x) (5, c, k) 1 z) (5, c, k) 2 a) (5, c, k) 3 m) (6, c, 0) 9 v
theorem c_rw_e {X : jc_I} {c k : Nat} {x z a m v : Int32} {q : jc_L} {i : Nat} (h1 : q ≠ (5, c, k)) (h2 : ¬ (q = (6, c, 0) ∧ i = 9)) : c_rw X c k x z a m v q i = X q i := by
  unfold c_rw
  have e : ∀ Z : jc_I, jc_up Z (6, c, 0) 9 v q i = Z q i := fun Z => if_neg h2
  rw [e, jc_up_q _ _ _ _ _ _ h1, jc_up_q _ _ _ _ _ _ h1, jc_up_q _ _ _ _ _ _ h1, jc_up_q _ _ _ _ _ _ h1]
  unfold jc_cl
  exact if_neg h1
theorem c_rw_5 {X : jc_I} {c k : Nat} {x z a m v : Int32} : c_rw X c k x z a m v (5, c, k) 0 = x ∧ c_rw X c k x z a m v (5, c, k) 1 = z ∧ c_rw X c k x z a m v (5, c, k) 2 = a ∧ c_rw X c k x z a m v (5, c, k) 3 = m := by
  unfold c_rw
  refine ⟨?_, ?_, ?_, ?_⟩
  · rw [jc_up_t _ _ _ _ _ _ _ _ (by decide), jc_up_k _ _ _ _ _ _ (by decide), jc_up_k _ _ _ _ _ _ (by decide), jc_up_k _ _ _ _ _ _ (by decide), jc_up_s]
  · rw [jc_up_t _ _ _ _ _ _ _ _ (by decide), jc_up_k _ _ _ _ _ _ (by decide), jc_up_k _ _ _ _ _ _ (by decide), jc_up_s]
  · rw [jc_up_t _ _ _ _ _ _ _ _ (by decide), jc_up_k _ _ _ _ _ _ (by decide), jc_up_s]
  · rw [jc_up_t _ _ _ _ _ _ _ _ (by decide), jc_up_s]
theorem mu_5 {x b n : Nat} {D : Nat → Nat} {u : Nat × Nat} {k : Nat} {z : jc_L × Nat} (h : mu x b n D (5, u) k = some z) : k = 0 ∨ k = 1 ∨ k = 2 ∨ k = 3 := by
  unfold mu at h
  rw [if_neg (by simp), if_neg (by simp), if_neg (by simp), if_neg (by simp), if_neg (by simp), if_neg (by simp), if_neg (by simp), if_neg (by simp), if_neg (by simp), if_neg (by simp), if_neg (by simp), if_neg (by simp), if_neg (by simp), if_neg (by simp), if_pos rfl] at h
  by_cases h0 : k = 0
  · exact Or.inl h0
  by_cases h1 : k = 1
  · exact Or.inr (Or.inl h1)
  by_cases h2 : k = 2
  · exact Or.inr (Or.inr (Or.inl h2))
  by_cases h3 : k = 3
  · exact Or.inr (Or.inr (Or.inr h3))
  rw [if_neg h0, if_neg h1, if_neg h2, if_neg h3] at h
  cases h
theorem st_row {X : jc_I} {Y : jc_O} {L : jc_L → Prop} {S : Int} {N : Nat} {x z a m : Int32} (g : GS X Y L S N) : ST y_J_row y_m_row [.inl x, .inl z, .inl a, .inl m] X Y L S N := by
  obtain ⟨b, n, tc, sn, cn, zc, D, fn, e, hc, hr, hx⟩ := id g
  rcases hx.op with ⟨o1, o2⟩ | ⟨ht0, c, hcc, o1, o2⟩
  · exact ST.same g (ct_J_row_n hc.jJ o1) (ct_m_row_n o2)
  · subst ht0
    have hin := hc.in' hcc
    have hA := hc.A.2.2.2 c hin
    obtain ⟨n1, n2, n3, n4, n5, n6⟩ := hA.2.2.1
    have w := hr.qa.2.2 c hcc
    have e9 : X (6, c, 0) 9 = X (11, c, 0) 11 := hx.sm 0 (6, c, 0) 9 _ rfl
    by_cases hk : (0 ≤ x ∧ x ≤ 60) ∧ (0 ≤ z ∧ z ≤ 60) ∧ (0 ≤ a ∧ a ≤ 60) ∧ (0 ≤ m ∧ m ≤ 10)
    · by_cases hf : 20 ≤ X (6, c, 0) 9
      · have h1 := ct_J_row_y (live1 := L) hc.jJ o1 hk (fun _ h => h) (ct_C_tellRow_full (live := L) (O := Y) (a := x) (b := z) (e := a) (k := m) hf)
        have h2 := ct_m_row_y (live := L) (x := x) (z := z) (a := a) (k := m) o2 w.1 w.2.1
        rw [← e9, if_pos hk, if_pos hf, if_pos hk, if_pos hf] at h2
        exact ST.same g h1 h2
      · obtain ⟨k, k1, k2, k3, k4, k5, k6, k7⟩ := grow (m := 20) n5 hf (by omega)
        have hf2 : X (6, c, 0) 9 < 20 := by rw [k1, jlt, jofI (by omega), show (20 : Int32).toInt = 20 from by decide]; omega
        have h0 := ct_C_tellRow_new (live := L) (a := x) (b := z) (e := a) (k := m) hf2 n5 hA.2.1.2.2.2 (hc.rf c _ hcc (Nat.le_refl _))
        rw [k3] at h0
        have h1 := ct_J_row_y hc.jJ o1 hk (fun _ h => Or.inr h) h0
        change jc_Ct _ _ _ _ _ (_, c_rw X c k x z a m (X (6, c, 0) 9 + 1), _, _, _, _) at h1
        have c1 : ∀ q i, isR q.1 = true → c_rw X c k x z a m (X (6, c, 0) 9 + 1) q i = X q i := fun q i hq => by
          have := isR_s hq
          exact c_rw_e (fun g => by rw [g] at this; simp at this) (fun g => by rw [g.1] at this; simp at this)
        have c1o : ∀ q i, isR q.1 = true → jc_up (jc_cl Y (5, c, k) none) (23, c, 0) k (some (5, c, k)) q i = Y q i := fun q i hq => by
          have := isR_s hq
          rw [jc_up_q _ _ _ _ _ _ (fun g => by rw [g] at this; simp at this)]
          unfold jc_cl
          exact if_neg (fun g => by rw [g] at this; simp at this)
        have c1l : ∀ q, isR q.1 = true → (jadd (5, c, k) L q ↔ L q) := fun q hq => by
          have := isR_s hq
          exact ⟨fun g => g.elim (fun w => by rw [w] at this; simp at this) id, Or.inr⟩
        have hr1 := hr.to c1 c1o c1l
        have hx1 := hx.to (J' := X) (O' := Y) (fun _ _ _ => rfl) (fun _ _ _ => rfl) c1 c1o
        have w1 := hr1.qa.2.2 c hcc
        have h2 := ct_m_row_y (live := jadd (5, c, k) L) (x := x) (z := z) (a := a) (k := m) ((c1o _ _ rfl).trans o2) w1.1 w1.2.1
        unfold q_row at h2
        rw [c1 _ _ rfl, ← e9, if_pos hk, if_neg hf, if_pos hk, if_neg hf, k3] at h2
        have hGC : GC (c_rw X c k x z a m (X (6, c, 0) 9 + 1)) (jc_up (jc_cl Y (5, c, k) none) (23, c, 0) k (some (5, c, k))) (jadd (5, c, k) L) S 0 sn cn D := by
          have e6 : ∀ i, i ≠ 9 → c_rw X c k x z a m (X (6, c, 0) 9 + 1) (6, c, 0) i = X (6, c, 0) i := fun i hi => c_rw_e (by simp) (by simp [hi])
          have e69 : c_rw X c k x z a m (X (6, c, 0) 9 + 1) (6, c, 0) 9 = X (6, c, 0) 9 + 1 := jc_up_s _ _ _ _
          refine hc.upd hcc (fun q i hq hne => c_rw_e (fun g => hne (by rw [g]; simp)) (fun g => hne (by rw [g.1]; simp))) (fun i _ _ h9 => e6 i h9) (fun q i hq h5 h23 => ?_) (fun q hq hne => ?_) ?_ ?_ ?_ ?_ ?_ ?_
          · rw [jc_up_q _ _ _ _ _ _ h23]
            unfold jc_cl
            exact if_neg (fun g => h5 (by rw [g]))
          · exact ⟨fun g => g.elim (fun w => absurd (by rw [w]; exact ⟨rfl, rfl⟩) hne) id, Or.inr⟩
          · unfold jw_n
            rw [e69, e6 7 (by decide), e6 8 (by decide)]
            exact ⟨n1, n2, n3, n4, k6, k7⟩
          · intro r hr9
            rw [e69, k5, jofI (by omega)] at hr9
            by_cases g9 : r = k
            · subst g9; rw [jc_up_s]
            · rw [jc_up_k _ _ _ _ _ _ g9, jc_cl_t _ _ _ _ _ _ _ (by decide)]
              exact hA.2.2.2.1 r (by rw [k1, jofI (by omega)]; omega)
          · intro i hi
            rw [e6 8 (by decide)] at hi
            rw [c_rw_e (by simp) (by simp), c_rw_e (by simp) (by simp)]
            exact hc.C.ins c i hin hi
          · intro i hi
            rw [e6 7 (by decide)] at hi
            rw [c_rw_e (by simp) (by simp)]
            exact hc.lk c i hcc hi
          · intro r hr9
            rw [e69, k4] at hr9
            by_cases g9 : r = k
            · subst g9; rw [c_rw_5.2.2.1]; exact hk.2.2.1.1
            · rw [c_rw_e (by simp [g9]) (by simp)]
              exact hc.ra c r hcc (by rw [k3]; omega)
          · intro r hr9
            rw [e69, k4] at hr9
            intro w
            rcases w with w | w
            · have := congrArg (fun q : jc_L => q.2.2) w
              dsimp only at this
              omega
            · exact hc.rf c r hcc (by rw [k3]; omega) w
        have sm1 : ∀ y, Sim y b n D (c_rw X c k x z a m (X (6, c, 0) 9 + 1)) (jc_up (jc_up (jc_up (jc_up (jc_up (c_rw X c k x z a m (X (6, c, 0) 9 + 1)) (43, c, 0) k x) (44, c, 0) k z) (45, c, 0) k a) (46, c, 0) k m) (11, c, 0) 11 (X (6, c, 0) 9 + 1)) := fun y => by
          have s1 := (((((hx1.sm y).up (q := (5, c, k)) (k := 0) (v := x) rfl).up (q := (5, c, k)) (k := 1) (v := z) rfl).up (q := (5, c, k)) (k := 2) (v := a) rfl).up (q := (5, c, k)) (k := 3) (v := m) rfl).up (q := (6, c, 0)) (k := 9) (v := X (6, c, 0) 9 + 1) rfl
          refine s1.toC (fun q i w hw => ?_)
          by_cases g5 : q = (5, c, k)
          · subst g5
            rcases mu_5 hw with i0 | i0 | i0 | i0 <;> subst i0
            · rw [c_rw_5.1, jc_up_t _ _ _ _ _ _ _ _ (by decide), jc_up_k _ _ _ _ _ _ (by decide), jc_up_k _ _ _ _ _ _ (by decide), jc_up_k _ _ _ _ _ _ (by decide), jc_up_s]
            · rw [c_rw_5.2.1, jc_up_t _ _ _ _ _ _ _ _ (by decide), jc_up_k _ _ _ _ _ _ (by decide), jc_up_k _ _ _ _ _ _ (by decide), jc_up_s]
            · rw [c_rw_5.2.2.1, jc_up_t _ _ _ _ _ _ _ _ (by decide), jc_up_k _ _ _ _ _ _ (by decide), jc_up_s]
            · rw [c_rw_5.2.2.2, jc_up_t _ _ _ _ _ _ _ _ (by decide), jc_up_s]
          · by_cases g6 : q = (6, c, 0) ∧ i = 9
            · rw [g6.1, g6.2, jc_up_s]; exact jc_up_s _ _ _ _
            · rw [c_rw_e g5 g6]
              have e : ∀ Z : jc_I, jc_up Z (6, c, 0) 9 (X (6, c, 0) 9 + 1) q i = Z q i := fun Z => if_neg g6
              rw [e, jc_up_q _ _ _ _ _ _ g5, jc_up_q _ _ _ _ _ _ g5, jc_up_q _ _ _ _ _ _ g5, jc_up_q _ _ _ _ _ _ g5]
        have hcn1 : c_rw X c k x z a m (X (6, c, 0) 9 + 1) (3, 0, 0) 2 = Int32.ofNat n := (c_rw_e (by simp) (by simp)).trans hx.cn
        have h96 : ∀ i j, c_rw X c k x z a m (X (6, c, 0) 9 + 1) (96, i, 0) j = X (96, i, 0) j := fun i j => c_rw_e (by simp) (by simp)
        have oY : jc_up (jc_cl Y (5, c, k) none) (23, c, 0) k (some (5, c, k)) (1, 0, 0) 2 = some (6, c, 0) := by rw [jc_up_t _ _ _ _ _ _ _ _ (by decide), jc_cl_t _ _ _ _ _ _ _ (by decide)]; exact o1
        have oP : jc_up (jc_cl Y (5, c, k) none) (23, c, 0) k (some (5, c, k)) (10, 0, 0) 1 = some (11, c, 0) := (c1o _ _ rfl).trans o2
        have hcap : lcap (jc_up (jc_cl Y (5, c, k) none) (23, c, 0) k (some (5, c, k))) 2 = lcap Y 2 := by unfold lcap; rw [c1o _ _ rfl]
        generalize hX1 : c_rw X c k x z a m (X (6, c, 0) 9 + 1) = X1 at *
        generalize hY1 : jc_up (jc_cl Y (5, c, k) none) (23, c, 0) k (some (5, c, k)) = Y1 at *
        have cC : ∀ q i, isC q.1 = true → jc_up (jc_up (jc_up (jc_up (jc_up X1 (43, c, 0) k x) (44, c, 0) k z) (45, c, 0) k a) (46, c, 0) k m) (11, c, 0) 11 (X (6, c, 0) 9 + 1) q i = X1 q i := fun q i hq => by
          have := isC_s hq
          rw [jc_up_q _ _ _ _ _ _ (fun g => by rw [g] at this; simp at this), jc_up_q _ _ _ _ _ _ (fun g => by rw [g] at this; simp at this), jc_up_q _ _ _ _ _ _ (fun g => by rw [g] at this; simp at this), jc_up_q _ _ _ _ _ _ (fun g => by rw [g] at this; simp at this), jc_up_q _ _ _ _ _ _ (fun g => by rw [g] at this; simp at this)]
        have hGR : GR (jc_up (jc_up (jc_up (jc_up (jc_up X1 (43, c, 0) k x) (44, c, 0) k z) (45, c, 0) k a) (46, c, 0) k m) (11, c, 0) 11 (X (6, c, 0) 9 + 1)) Y1 (jadd (5, c, k) L) b n 0 sn cn zc D fn := by
          have e11 : ∀ i, i ≠ 11 → jc_up (jc_up (jc_up (jc_up (jc_up X1 (43, c, 0) k x) (44, c, 0) k z) (45, c, 0) k a) (46, c, 0) k m) (11, c, 0) 11 (X (6, c, 0) 9 + 1) (11, c, 0) i = X1 (11, c, 0) i := fun i hi => by rw [jc_up_k _ _ _ _ _ _ hi, jc_up_t _ _ _ _ _ _ _ _ (by decide), jc_up_t _ _ _ _ _ _ _ _ (by decide), jc_up_t _ _ _ _ _ _ _ _ (by decide), jc_up_t _ _ _ _ _ _ _ _ (by decide)]
          refine hr1.upd (c := c) (fun q i hq hne => ?_) (e11 0 (by decide)) ?_
          · rw [jc_up_q _ _ _ _ _ _ (fun g => hne (by rw [g]; simp)), jc_up_q _ _ _ _ _ _ (fun g => hne (by rw [g]; simp)), jc_up_q _ _ _ _ _ _ (fun g => hne (by rw [g]; simp)), jc_up_q _ _ _ _ _ _ (fun g => hne (by rw [g]; simp)), jc_up_q _ _ _ _ _ _ (fun g => hne (by rw [g]; simp))]
          · have := w1.2.1
            unfold qn at *
            rw [jc_up_s, e11 3 (by decide), e11 6 (by decide)]
            exact ⟨this.1, this.2.1, this.2.2.1, this.2.2.2.1, k6, k7⟩
        have hGX : GX X1 Y1 (jc_up (jc_up (jc_up (jc_up (jc_up X1 (43, c, 0) k x) (44, c, 0) k z) (45, c, 0) k a) (46, c, 0) k m) (11, c, 0) 11 (X (6, c, 0) 9 + 1)) Y1 0 cn b n D := ⟨sm1, hcn1, fun t ht => absurd ht (Nat.not_lt_zero t), fun t ht => absurd ht (Nat.not_lt_zero t), Or.inr ⟨rfl, c, hcc, oY, oP⟩⟩
        refine ⟨_, _, _, _, _, _, _, _, _, _, _, N, h1, fun _ h => Or.inr h, h2, fun _ h => h, ⟨b, n, 0, sn, cn, zc, D, fn, e, (hGC.to cC (fun _ _ _ => rfl) (fun _ _ => Iff.rfl)).mono (by omega), hGR, hGX.to cC (fun _ _ _ => rfl) (fun _ _ _ => rfl) (fun _ _ _ => rfl)⟩, by rw [hcap]; omega, by rw [hcap]; omega, h96, fun i j => ?_⟩
        rw [jc_up_t _ _ _ _ _ _ _ _ (by decide), jc_up_t _ _ _ _ _ _ _ _ (by decide), jc_up_t _ _ _ _ _ _ _ _ (by decide), jc_up_t _ _ _ _ _ _ _ _ (by decide), jc_up_t _ _ _ _ _ _ _ _ (by decide)]
        exact h96 i j
    · have h2 := ct_m_row_y (live := L) (x := x) (z := z) (a := a) (k := m) o2 w.1 w.2.1
      rw [if_neg hk, if_neg hk] at h2
      exact ST.same g (ct_J_row_r hc.jJ o1 hk) h2
