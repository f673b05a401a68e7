variable {D : Nat → Nat}
theorem nf_b {z b n : Nat} {J I : jc_I} (s : Sim z b n D J I) (hf : ¬ full J) (hcn : J (3, 0, 0) 2 = Int32.ofNat n) (hn : n ≤ 2000) (hm : I (10, 0, 0) 5 = Int32.ofNat (b + n)) (hb : b + n ≤ 40000) : n < 2000 ∧ b + n < 40000 := by
  have h1 : ¬ 2000 ≤ J (3, 0, 0) 2 := fun g => hf (Or.inl g)
  have h2 : ¬ 40000 ≤ J (3, 0, 0) 3 := fun g => hf (Or.inr g)
  rw [hcn, jle, jofI (by omega), show (2000 : Int32).toInt = 2000 from by decide] at h1
  rw [s (3, 0, 0) 3 _ rfl, show ((10, 0, 0), 5).1 = ((10, 0, 0) : jc_L) from rfl, show (((10, 0, 0) : jc_L), 5).2 = 5 from rfl, hm, jle, jofI (by omega), show (40000 : Int32).toInt = 40000 from by decide] at h2
  omega
theorem FRc.make {I : jc_I} {P O : jc_O} {lv live : jc_L → Prop} {J : jc_I} {t m b n : Nat} {x : Int32} {S : Int} {n0 : Nat} (h : FRc I P O t m) (hl : ql I P lv 2 n (qO b)) (hm : (I (10, 0, 0) 5).toNatClampNeg = b + n) (hn : n ≤ 2000) (k : MK J O live x S t n0) : FRc (q_mk I P lv x).2.1 (q_mk I P lv x).2.2.1 (h_mk J O live x).2.2.1 t m := by
  obtain ⟨g1, g2, g3, g4, g5, g6, g7, g8, g9, g10⟩ := q_mk_fact (x := x) hl hm (by omega)
  intro i hi
  have ec : cd (h_mk J O live x).2.2.1 t i = cd O t i := by unfold cd; rw [k.eo _ _ (by simp) (by simp) (by simp)]
  rw [ec, g10 _ _ (by simp) (by simp) (by simp) (by simp), g8 _ _ (by simp) (by simp) (by simp) (by simp) (by simp)]
  exact h i hi
theorem Sim.free {z b n : Nat} {J I : jc_I} {x : Int32} (s : Sim z b n D J I) : ∀ m, m ≤ n → Sim z b n D (h_free J x m) (q_free I b x m)
  | 0, _ => s
  | m + 1, h => by
    have s1 := Sim.free (x := x) s m (by omega)
    rw [h_free, q_free]
    have e := s1 (7, m, 0) 2 _ (mu72 (by omega))
    rw [e]
    by_cases g : q_free I b x m (13, b + m, 0) 2 = x
    · rw [if_pos g, if_pos g]
      exact (s1.up (mu72 (by omega))).up (mu73 (by omega))
    · rw [if_neg g, if_neg g]
      exact s1
theorem Sim.over {t b n : Nat} {J I : jc_I} {a v : Int32} (s : Sim t b n D J I) (hcn : J (3, 0, 0) 2 = Int32.ofNat n) (hn : n ≤ 2000) : Sim t b n D (m_end J t a v) (q_over I t b n a v) := by
  unfold m_end q_over
  rw [hcn, jofN (by omega), s (9, t, 0) 0 _ rfl]
  exact Sim.free ((s.up (q := (9, t, 0)) (k := 4) (by unfold mu; simp)).up (q := (9, t, 0)) (k := 5) (by unfold mu; simp)) n (Nat.le_refl _)
theorem c_tk_q {J I : jc_I} {c : Nat} {x k : Int32} (e : bq I = bk J) : ∀ m r, c_tk J c x k m r = q_ct I c x k m r
  | 0, _ => rfl
  | m + 1, r => by
    have e1 : I (43, c, 0) r = J (5, c, r) 0 := congrFun (congrFun (congrArg jc_B.fr e) c) r
    have e2 : I (44, c, 0) r = J (5, c, r) 1 := congrFun (congrFun (congrArg jc_B.to e) c) r
    have e3 : I (45, c, 0) r = J (5, c, r) 2 := congrFun (congrFun (congrArg jc_B.at_ e) c) r
    have e4 : I (46, c, 0) r = J (5, c, r) 3 := congrFun (congrFun (congrArg jc_B.kd e) c) r
    rw [c_tk, q_ct, c_tk_q e m (r + 1), e1, e2, e3, e4]
theorem m_tk_q {z b n : Nat} {J I : jc_I} {O P : jc_O} {t j m : Nat} {k : Int32} (s : Sim z b n D J I) (f : FRc I P O t m) (hj : j < m) : m_tk J O t j k = q_tkr I P t j k := by
  have ec : cR P t j = cd O t j := by
    unfold cR
    rw [(f j hj).1]
    rfl
  unfold m_tk q_tkr
  rw [ec, s.at, c_tk_q s.bkq]
  have e : I (11, cd O t j, 0) 11 = J (6, cd O t j, 0) 9 := (s (6, cd O t j, 0) 9 _ rfl).symm
  rw [e]
theorem mu83n {x b n t j : Nat} (h : ¬ j < D t) : mu x b n D (8, t, j) 3 = none := by
  unfold mu
  rw [if_pos rfl, if_neg (fun g => h g.2), if_neg (by decide)]
theorem nu124n {x b n t j : Nat} (h : ¬ j < D t) : nu x b n D (12, t, j) 4 = none := by
  unfold nu
  rw [if_pos rfl, if_neg (fun g => h g.2), if_neg (by decide)]
theorem dU_dU {t a b : Nat} : dU (dU D t a) t b = dU D t b := by
  funext z
  unfold dU
  split
  · rfl
  · rfl
/-- failures fly alike on both sides -/
theorem Sim.rs {b n : Nat} {O P : jc_O} {t : Nat} {x k : Int32} (hn : n ≤ 2000) : ∀ (m : Nat) (D : Nat → Nat) (J I : jc_I), m ≤ 30 → (D t + 1 = m ∨ (m = 0 ∧ D t = 0)) → Sim t b n D J I → FRc I P O t m → J (3, 0, 0) 2 = Int32.ofNat n → J (9, t, 0) 2 = Int32.ofNat m → I (14, t, 0) 2 = Int32.ofNat m → ∃ m', m' ≤ m ∧ Sim t b n (dU D t m') (m_rs O t x k m J) (q_rs P t b n x k m I) ∧ m_rs O t x k m J (9, t, 0) 2 = Int32.ofNat m' ∧ m_rs O t x k m J (3, 0, 0) 2 = Int32.ofNat n
  | 0, D, J, I, _, hd, s, _, hcn, h2, _ => by
    have h0 : D t = 0 := by omega
    refine ⟨0, Nat.le_refl _, ?_, ?_, ?_⟩
    · rw [dU_e h0, m_rs, q_rs]; exact s.over hcn hn
    · rw [m_rs, end_9.1]; exact h2
    · rw [m_rs, end_v]; exact hcn
  | m + 1, D, J, I, hm, hd, s, f, hcn, h2, hi2 => by
    have hd : D t = m := by omega
    rw [m_rs, q_rs, ← m_tk_q s f (by omega)]
    by_cases ht : 0 ≤ m_tk J O t m k
    · rw [if_pos ht, if_pos ht]
      have hlt : ¬ m < D t := by omega
      have s1 := ((((s.upC (v := 0) (mu83n hlt)).upR (v := 0) (nu124n hlt)).up (q := (32, t, m)) (k := 0) (v := x) rfl).upC (v := 1) (mu83n hlt)).upR (v := 1) (nu124n hlt)
      have s2 := s1.goto (t := t) (j := m) (x := m_tk J O t m k)
      unfold f_ho q_ho
      refine ⟨m + 1, Nat.le_refl _, s2.more hd ?_, ?_, ?_⟩
      · rw [jc_up_k _ _ _ _ _ _ (by decide), jc_up_s, jc_up_k _ _ _ _ _ _ (by decide), jc_up_s]
      · rw [jc_up_t _ _ _ _ _ _ _ _ (by decide), jc_up_t _ _ _ _ _ _ _ _ (by decide), jc_up_t _ _ _ _ _ _ _ _ (by decide), jc_up_t _ _ _ _ _ _ _ _ (by decide)]; exact h2
      · rw [jc_up_t _ _ _ _ _ _ _ _ (by decide), jc_up_t _ _ _ _ _ _ _ _ (by decide), jc_up_t _ _ _ _ _ _ _ _ (by decide), jc_up_t _ _ _ _ _ _ _ _ (by decide)]; exact hcn
    · rw [if_neg ht, if_neg ht]
      have e1 := jofI (n := m) (by omega)
      have hef : s_ef J t = jc_up J (9, t, 0) 2 (Int32.ofNat m) := by
        unfold s_ef
        rw [h2, jofs (by omega), if_neg (by rw [jlt, e1, j0I]; omega)]
      rw [hef, hi2, jofs (by omega)]
      obtain ⟨m', b1, a, b2, b3⟩ := Sim.rs (x := x) (k := k) hn m (dU D t (m - 1)) (jc_up J (9, t, 0) 2 (Int32.ofNat m)) (jc_up I (14, t, 0) 2 (Int32.ofNat m)) (by omega) (by rw [dU_s]; omega) ((s.cut hd (by omega)).up (q := (9, t, 0)) (k := 2) (by unfold mu; simp)) (fun i hi => ⟨(f i (by omega)).1, by rw [jc_up_t _ _ _ _ _ _ _ _ (by decide)]; exact (f i (by omega)).2⟩) (by rw [jc_up_t _ _ _ _ _ _ _ _ (by decide)]; exact hcn) (jc_up_s _ _ _ _) (jc_up_s _ _ _ _)
      rw [dU_dU] at a
      exact ⟨m', by omega, a, b2, b3⟩
