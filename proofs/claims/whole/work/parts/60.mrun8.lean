def q_pu (I : jc_I) (O : jc_O) (live : jc_L → Prop) (t xt j : Nat) (x : Int32) (q : jc_L) : jc_S :=
  if j < (I (15, xt, 0) 1).toNatClampNeg then (q_bg I t j x, jc_up O (12, t, j) 0 (some q), live, 0, 0)
  else (fun s : jc_S => (q_bg s.1 t j x, jc_up s.2.1 (12, t, j) 0 (some q), s.2.2.1, s.2.2.2.1 + 3, s.2.2.2.2 + 26)) (l_add (q_f1 I t j) (q_f1O O t j) (q_f1l live t j) xt (12, t, j))
def PU (I : jc_I) (O : jc_O) (live : jc_L → Prop) (t xt fn j : Nat) : Prop := (O (14, t, 0) 1 = some (15, xt, 0)) ∧ (ql I O live xt fn (qFr t)) ∧ (I (14, t, 0) 2 = Int32.ofNat j) ∧ (j ≤ fn) ∧ (j < 30) ∧ (∀ i, i < fn → qf O t i) ∧ (¬ live (12, t, fn)) ∧ (¬ live (48, t, fn)) ∧ (¬ live (49, t, fn))
theorem PU.m1 {I : jc_I} {O : jc_O} {live : jc_L → Prop} {t xt fn j : Nat} (h9 : PU I O live t xt fn j) : O (14, t, 0) 1 = some (15, xt, 0) := h9.1
theorem PU.fs {I : jc_I} {O : jc_O} {live : jc_L → Prop} {t xt fn j : Nat} (h9 : PU I O live t xt fn j) : ql I O live xt fn (qFr t) := h9.2.1
theorem PU.d {I : jc_I} {O : jc_O} {live : jc_L → Prop} {t xt fn j : Nat} (h9 : PU I O live t xt fn j) : I (14, t, 0) 2 = Int32.ofNat j := h9.2.2.1
theorem PU.le {I : jc_I} {O : jc_O} {live : jc_L → Prop} {t xt fn j : Nat} (h9 : PU I O live t xt fn j) : j ≤ fn := h9.2.2.2.1
theorem PU.lt {I : jc_I} {O : jc_O} {live : jc_L → Prop} {t xt fn j : Nat} (h9 : PU I O live t xt fn j) : j < 30 := h9.2.2.2.2.1
theorem PU.fr {I : jc_I} {O : jc_O} {live : jc_L → Prop} {t xt fn j : Nat} (h9 : PU I O live t xt fn j) : ∀ i, i < fn → qf O t i := h9.2.2.2.2.2.1
theorem PU.f1 {I : jc_I} {O : jc_O} {live : jc_L → Prop} {t xt fn j : Nat} (h9 : PU I O live t xt fn j) : ¬ live (12, t, fn) := h9.2.2.2.2.2.2.1
theorem PU.f2 {I : jc_I} {O : jc_O} {live : jc_L → Prop} {t xt fn j : Nat} (h9 : PU I O live t xt fn j) : ¬ live (48, t, fn) := h9.2.2.2.2.2.2.2.1
theorem PU.f3 {I : jc_I} {O : jc_O} {live : jc_L → Prop} {t xt fn j : Nat} (h9 : PU I O live t xt fn j) : ¬ live (49, t, fn) := h9.2.2.2.2.2.2.2.2
theorem ct_mT_push {I : jc_I} {O : jc_O} {live : jc_L → Prop} {t xt fn j : Nat} {x : Int32} {q : jc_L} (h : PU I O live t xt fn j) : jc_Ct y_mT_push [.inr (some (14, t, 0)), .inr (some q), .inl x] I O live (some (.inr (some (12, t, j))), (q_pu I O live t xt j x q).1, (q_pu I O live t xt j x q).2.1, (q_pu I O live t xt j x q).2.2.1, (q_pu I O live t xt j x q).2.2.2.1, (q_pu I O live t xt j x q).2.2.2.2) := by
  have hcp := h.fs.cp
  have hle := h.fs.le
  have hsz : (I (15, xt, 0) 1).toNatClampNeg = fn := by rw [h.fs.sz, jofN (by omega)]
  unfold q_pu
  rw [hsz]
  by_cases hj : j < fn
  · rw [if_pos hj]
    exact ct_mT_push_old h.m1 h.fs h.d hj (h.fr j hj).1
  · rw [if_neg hj]
    have hjf : j = fn := by have := h.le; omega
    subst hjf
    exact ct_mT_push_new h.m1 h.fs h.d h.lt h.f1 h.f2 h.f3
theorem q_bg_e {I : jc_I} {t j : Nat} {x : Int32} {q : jc_L} {k : Nat} (h1 : q ≠ (12, t, j)) (h2 : q ≠ (48, t, j)) (h3 : ¬ (q = (14, t, 0) ∧ k = 2)) : q_bg I t j x q k = I q k := by
  unfold q_bg jc_zr
  rw [if_neg (fun g => h2 g.1), jc_up_q _ _ _ _ _ _ h1, jc_up_q _ _ _ _ _ _ h1, jc_up_q _ _ _ _ _ _ h1]
  unfold jc_up
  rw [if_neg h3]
theorem q_f1_e {I : jc_I} {t j : Nat} {q : jc_L} {k : Nat} (h1 : q ≠ (12, t, j)) (h2 : q ≠ (48, t, j)) (h3 : q ≠ (49, t, j)) : q_f1 I t j q k = I q k := by
  unfold q_f1 jc_cl
  rw [if_neg h3, if_neg h2, if_neg h1]
theorem q_f1O_e {O : jc_O} {t j : Nat} {q : jc_L} {k : Nat} (h1 : q ≠ (12, t, j)) (h2 : q ≠ (48, t, j)) (h3 : q ≠ (49, t, j)) : q_f1O O t j q k = O q k := by
  unfold q_f1O
  rw [jc_up_q _ _ _ _ _ _ h1]
  unfold jc_cl
  rw [if_neg h3, jc_up_q _ _ _ _ _ _ h1, if_neg h2, if_neg h1]
/-- what a push leaves -/
theorem q_pu_I {I : jc_I} {O : jc_O} {live : jc_L → Prop} {t xt j : Nat} {x : Int32} {c q : jc_L} {k : Nat} (h1 : q ≠ (12, t, j)) (h2 : q ≠ (48, t, j)) (h3 : q ≠ (49, t, j)) (h4 : ¬ (q = (14, t, 0) ∧ k = 2)) (h5 : q ≠ (15, xt, 0)) (h6 : ∀ z, q ≠ (60, xt, z)) : (q_pu I O live t xt j x c).1 q k = I q k := by
  unfold q_pu
  split
  · exact q_bg_e h1 h2 h4
  · show q_bg _ _ _ _ _ _ = _
    rw [q_bg_e h1 h2 h4, l_add_Iq h5 h6, q_f1_e h1 h2 h3]
theorem q_pu_O {I : jc_I} {O : jc_O} {live : jc_L → Prop} {t xt j : Nat} {x : Int32} {c q : jc_L} {k : Nat} (h1 : q ≠ (12, t, j)) (h2 : q ≠ (48, t, j)) (h3 : q ≠ (49, t, j)) (h5 : q ≠ (15, xt, 0)) (h6 : ∀ z, q ≠ (60, xt, z)) : (q_pu I O live t xt j x c).2.1 q k = O q k := by
  unfold q_pu
  split
  · exact jc_up_q _ _ _ _ _ _ h1
  · show jc_up _ _ _ _ _ _ = _
    rw [jc_up_q _ _ _ _ _ _ h1, l_add_Oq h5 h6, q_f1O_e h1 h2 h3]
theorem q_pu_live {I : jc_I} {O : jc_O} {live : jc_L → Prop} {t xt j : Nat} {x : Int32} {c : jc_L} : ∀ q, live q → (q_pu I O live t xt j x c).2.2.1 q := by
  intro q hq
  unfold q_pu
  split
  · exact hq
  · exact l_add_live q (Or.inr (Or.inr (Or.inr hq)))
theorem q_pu_f {I : jc_I} {O : jc_O} {live : jc_L → Prop} {t xt fn j : Nat} {x : Int32} {c : jc_L} (h : PU I O live t xt fn j) : qf (q_pu I O live t xt j x c).2.1 t j ∧ (q_pu I O live t xt j x c).2.1 (12, t, j) 0 = some c := by
  have hcp := h.fs.cp
  have hle := h.fs.le
  have hsz : (I (15, xt, 0) 1).toNatClampNeg = fn := by rw [h.fs.sz, jofN (by omega)]
  unfold q_pu qf
  rw [hsz]
  by_cases hj : j < fn
  · rw [if_pos hj]
    show (jc_up _ _ _ _ _ _ = _ ∧ jc_up _ _ _ _ _ _ = _) ∧ jc_up _ _ _ _ _ _ = _
    rw [jc_up_k _ _ _ _ _ _ (by decide), jc_up_k _ _ _ _ _ _ (by decide), jc_up_s]
    exact ⟨h.fr j hj, rfl⟩
  · rw [if_neg hj]
    show (jc_up _ _ _ _ _ _ = _ ∧ jc_up _ _ _ _ _ _ = _) ∧ jc_up _ _ _ _ _ _ = _
    rw [jc_up_k _ _ _ _ _ _ (by decide), jc_up_k _ _ _ _ _ _ (by decide), jc_up_s, l_add_Oq (by simp) (by simp), l_add_Oq (by simp) (by simp)]
    unfold q_f1O
    rw [jc_up_k _ _ _ _ _ _ (by decide), jc_up_s, jc_cl_t _ _ _ _ _ _ _ (by decide), jc_up_s]
    exact ⟨⟨rfl, rfl⟩, rfl⟩
def q_cp (I : jc_I) (t j i0 s : Nat) : Nat → jc_I
  | 0 => I
  | m + 1 => jc_up (q_cp I t j i0 s m) (48, t, i0) m (I (49, t, j) (s + m))
theorem q_cp_t {I : jc_I} {t j i0 s a : Nat} {u : Nat × Nat} {k : Nat} (h : a ≠ 48) : ∀ m, q_cp I t j i0 s m (a, u) k = I (a, u) k
  | 0 => rfl
  | m + 1 => by rw [q_cp, jc_up_t _ _ _ _ _ _ _ _ h, q_cp_t h m]
theorem ct_m_call_f {I : jc_I} {O : jc_O} {live : jc_L → Prop} {t b n xt fn m j : Nat} {a : Int32} (hQ : QT I O live t b n xt fn m) (hd0 : I (14, t, 0) 2 = 30) : jc_Ct y_m_call [.inr (some (10, 0, 0)), .inr (some (14, t, 0)), .inr (some (12, t, j)), .inl a] I O live (none, q_fI I O live t b n m 9, (q_mk I O live 9).2.2.1, (q_mk I O live 9).2.2.2.1, (q_mk I O live 9).2.2.2.2.1, (q_mk I O live 9).2.2.2.2.2) := by
  refine jc_Ct.of (by decide +kernel) (rfl) (Nat.le_of_ble_eq_true rfl) ?_
  refine jr_aload_n d_m_call_0 rfl rfl ?_
  refine jr_geti d_m_call_1 f_m_183 rfl ?_
  refine jr_bipush (v := 30) d_m_call_4 (by decide) ?_
  refine jr_icmp_ne (tgt := 21) d_m_call_6 (by decide) (fun c6 => ?_) (fun c6 => ?_)
  · skip
    exact absurd hd0 c6
  · skip
    refine jr_aload_n d_m_call_9 rfl rfl ?_
    refine jr_aload_n d_m_call_10 rfl rfl ?_
    refine jr_aload_n d_m_call_11 rfl rfl ?_
    refine jr_bipush (v := 9) d_m_call_12 (by decide) ?_
    refine jv_V1rA d_m_call_14 l_m_215 k_m_fresh ⟨Nat.le_of_ble_eq_true rfl, Nat.le_of_ble_eq_true rfl⟩ rfl rfl (Nat.le_of_ble_eq_true rfl) ((ct_fail (x := 9) hQ).1) (fun q9 h9 => q_mk_live q9 h9) (by first | decide | exact Nat.zero_le _ | (dsimp only; omega) | (dsimp only; grind) | (omega)) (by first | decide | exact Nat.zero_le _ | (dsimp only; omega) | (dsimp only; grind) | (omega)) ?_
    refine jv_V2v d_m_call_17 l_m_219 k_m_flies ⟨Nat.le_of_ble_eq_true rfl, Nat.le_of_ble_eq_true rfl⟩ rfl rfl (Nat.le_of_ble_eq_true rfl) ((ct_fail (x := 9) hQ).2) (by first | decide | exact Nat.zero_le _ | (dsimp only; omega) | (dsimp only; grind) | (omega)) (by first | decide | exact Nat.zero_le _ | (dsimp only; omega) | (dsimp only; grind) | (omega)) ?_
    exact jr_retX (v := none) d_m_call_20 (by first | exact Nat.le_refl _ | exact Nat.zero_le _ | (dsimp only; omega) | (omega)) (by first | exact Nat.le_refl _ | exact Nat.zero_le _ | (dsimp only; omega) | (omega)) (by first | with_reducible rfl | (dsimp only; rfl; done) | (rfl; done) | (exfalso; grind)) (by first | with_reducible rfl | (dsimp only; rfl; done) | (rfl; done) | (exfalso; grind)) (by first | with_reducible rfl | (dsimp only; rfl; done) | (rfl; done) | (exfalso; grind)) (by first | with_reducible rfl | (dsimp only; rfl; done) | (rfl; done) | (exfalso; grind))
theorem lp_m_call {I : jc_I} {O : jc_O} {live : jc_L → Prop} {t j i0 d s p nc ns mc ms : Nat} {a : Int32} (g1 : O (12, t, i0) 2 = some (48, t, i0)) (g2 : O (12, t, j) 3 = some (49, t, j)) (hp : I (11, d, 0) 0 = Int32.ofNat p) (hp8 : p ≤ 8) (hs : I (12, t, j) 4 = Int32.ofNat s) (hsp : s + p ≤ 12) (h1 : nc ≤ mc) (h2 : ns ≤ ms) : ∀ (m r : Nat), r + m = p → jc_R y_m_call 60 [some (.inr (some (10, 0, 0))), some (.inr (some (14, t, 0))), some (.inr (some (12, t, j))), some (.inl a), some (.inr (some (11, d, 0))), some (.inr (some (12, t, i0))), some (.inl (Int32.ofNat r))] [] (q_cp I t j i0 s r) O live nc ns (none, q_cp I t j i0 s p, O, live, mc, ms) := by
  intro m
  induction m with
  | zero =>
    intro r hm
    (have a1 := jofI (n := r) (by omega)); (have a2 := jofI (n := p) (by omega)); (have a3 := jofN (n := r) (by omega)); (have e1 : q_cp I t j i0 s r (11, d, 0) 0 = Int32.ofNat p := (q_cp_t (by decide) r).trans hp); (have e2 : q_cp I t j i0 s r (12, t, j) 4 = Int32.ofNat s := (q_cp_t (by decide) r).trans hs); (have e3 : (Int32.ofNat s + Int32.ofNat r).toNatClampNeg = s + r := by show ((Int32.ofNat s + Int32.ofNat r).toInt).toNat = s + r; rw [jaddI (by rw [jofI (by omega)]; omega) (by rw [a1]; omega), jofI (by omega), a1]; omega)
    refine jr_iload d_m_call_60 rfl ?_
    refine jr_aload d_m_call_62 rfl ?_
    refine jr_geti d_m_call_64 f_m_87 rfl ?_
    rw [e1]
    refine jr_icmp_ge (tgt := 96) d_m_call_67 (by decide) (fun c67 => ?_) (fun c67 => ?_)
    · skip
      exact jr_retX (v := none) d_m_call_96 (by first | exact Nat.le_refl _ | exact Nat.zero_le _ | (dsimp only; omega) | (first | exact h1 | exact h2)) (by first | exact Nat.le_refl _ | exact Nat.zero_le _ | (dsimp only; omega) | (first | exact h1 | exact h2)) (by first | with_reducible rfl | (dsimp only; (rw [show p = r from by omega]); done) | ((rw [show p = r from by omega]); done) | (exfalso; grind)) (by first | with_reducible rfl | (dsimp only; (rw [show p = r from by omega]); done) | ((rw [show p = r from by omega]); done) | (exfalso; grind)) (by first | with_reducible rfl | (dsimp only; (rw [show p = r from by omega]); done) | ((rw [show p = r from by omega]); done) | (exfalso; grind)) (by first | with_reducible rfl | (dsimp only; (rw [show p = r from by omega]); done) | ((rw [show p = r from by omega]); done) | (exfalso; grind))
    · skip
      exfalso; rw [jle, a1, a2] at c67; omega
  | succ m ih =>
    intro r hm
    (have a1 := jofI (n := r) (by omega)); (have a2 := jofI (n := p) (by omega)); (have a3 := jofN (n := r) (by omega)); (have e1 : q_cp I t j i0 s r (11, d, 0) 0 = Int32.ofNat p := (q_cp_t (by decide) r).trans hp); (have e2 : q_cp I t j i0 s r (12, t, j) 4 = Int32.ofNat s := (q_cp_t (by decide) r).trans hs); (have e3 : (Int32.ofNat s + Int32.ofNat r).toNatClampNeg = s + r := by show ((Int32.ofNat s + Int32.ofNat r).toInt).toNat = s + r; rw [jaddI (by rw [jofI (by omega)]; omega) (by rw [a1]; omega), jofI (by omega), a1]; omega)
    refine jr_iload d_m_call_60 rfl ?_
    refine jr_aload d_m_call_62 rfl ?_
    refine jr_geti d_m_call_64 f_m_87 rfl ?_
    rw [e1]
    refine jr_icmp_ge (tgt := 96) d_m_call_67 (by decide) (fun c67 => ?_) (fun c67 => ?_)
    · skip
      exfalso; rw [jle, a1, a2] at c67; omega
    · skip
      refine jr_aload d_m_call_70 rfl ?_
      refine jr_getr d_m_call_72 f_m_237 rfl rfl ?_
      first | rw [g1] | rw [g2] | skip
      refine jr_iload d_m_call_75 rfl ?_
      refine jr_aload_n d_m_call_77 rfl rfl ?_
      refine jr_getr d_m_call_78 f_m_238 rfl rfl ?_
      first | rw [g1] | rw [g2] | skip
      refine jr_aload_n d_m_call_81 rfl rfl ?_
      refine jr_geti d_m_call_82 f_m_199 rfl ?_
      rw [e2]
      refine jr_iload d_m_call_85 rfl ?_
      refine jr_iadd d_m_call_87 ?_
      refine jr_iald d_m_call_88 rfl rfl rfl (jinv (by rw [jle, j0I, jaddI (by rw [jofI (by omega)]; omega) (by rw [a1]; omega), jofI (by omega), a1]; omega) (by rw [e3]; show s + r < 12; omega)) ?_
      rw [e3, q_cp_t (by decide)]
      refine jr_iast d_m_call_89 rfl rfl rfl (jinv (by rw [jle, a1, j0I]; omega) (by rw [a3]; show r < 8; omega)) ?_
      rw [a3]; change jc_R _ _ _ _ (q_cp I t j i0 s (r + 1)) _ _ _ _ _
      refine jr_iinc d_m_call_90 rfl jinc1 ?_
      refine jr_goto (tgt := 60) d_m_call_93 (by decide) ?_
      exact (by have e := ih (r + 1) (by omega); rw [← jof1 (by omega)] at e; exact e)
abbrev qCo : Nat → jc_L := fun c => (11, c, 0)
theorem ct_m_call_o {I : jc_I} {O : jc_O} {live : jc_L → Prop} {t b n xt fn m j : Nat} {a : Int32} {d cn s p : Nat} (hQ : QT I O live t b n xt fn m) (hP : PU I O live t xt fn m) (hf : qf O t j) (hjm : j < m) (hcl : ql I O live 0 cn qCo) (ha : a = Int32.ofNat d) (hd : d < cn) (hp : I (11, d, 0) 0 = Int32.ofNat p) (hp8 : p ≤ 8) (hs : I (12, t, j) 4 = Int32.ofNat (s + p)) (hsp : s + p ≤ 12) : jc_Ct y_m_call [.inr (some (10, 0, 0)), .inr (some (14, t, 0)), .inr (some (12, t, j)), .inl a] I O live (none, q_cp (jc_up (q_pu I O live t xt m a (11, d, 0)).1 (12, t, j) 4 (Int32.ofNat s)) t j m s p, (q_pu I O live t xt m a (11, d, 0)).2.1, (q_pu I O live t xt m a (11, d, 0)).2.2.1, (q_pu I O live t xt m a (11, d, 0)).2.2.2.1, (q_pu I O live t xt m a (11, d, 0)).2.2.2.2) := by
  obtain ⟨m0, m2, m4, m6, m7⟩ := id hQ.M
  have hm30 := hP.lt
  have hpu := q_pu_f (x := a) (c := (11, d, 0)) hP
  have fA : (q_pu I O live t xt m a (11, d, 0)).1 (12, t, j) 4 = Int32.ofNat (s + p) := (q_pu_I (by simp; omega) (by simp) (by simp) (by simp) (by simp) (by simp)).trans hs
  have fB : (q_pu I O live t xt m a (11, d, 0)).1 (11, d, 0) 0 = Int32.ofNat p := (q_pu_I (by simp) (by simp) (by simp) (by simp) (by simp) (by simp)).trans hp
  have fD : (q_pu I O live t xt m a (11, d, 0)).2.1 (12, t, j) 3 = some (49, t, j) := (q_pu_O (by simp; omega) (by simp) (by simp) (by simp) (by simp)).trans hf.2
  have eS : Int32.ofNat (s + p) - Int32.ofNat p = Int32.ofNat s := by apply Int32.toInt_inj.mp; rw [jsubI (by rw [jofI (by omega)]; omega) (by rw [jofI (by omega)]; omega), jofI (by omega), jofI (by omega), jofI (by omega)]; omega
  refine jc_Ct.of (by decide +kernel) (rfl) (Nat.le_of_ble_eq_true rfl) ?_
  refine jr_aload_n d_m_call_0 rfl rfl ?_
  refine jr_geti d_m_call_1 f_m_183 rfl ?_
  refine jr_bipush (v := 30) d_m_call_4 (by decide) ?_
  refine jr_icmp_ne (tgt := 21) d_m_call_6 (by decide) (fun c6 => ?_) (fun c6 => ?_)
  · skip
    refine jr_aload_n d_m_call_21 rfl rfl ?_
    refine jr_getr d_m_call_22 f_m_10 rfl rfl ?_
    first | rw [m0] | skip
    refine jr_iload_n d_m_call_25 rfl rfl ?_
    refine jv_V1r d_m_call_26 l_m_126 k_aL_get ⟨Nat.le_of_ble_eq_true rfl, Nat.le_of_ble_eq_true rfl⟩ rfl rfl (Nat.le_of_ble_eq_true rfl) (ct_aL_getq hcl ha hd) (by first | decide | exact Nat.zero_le _ | (dsimp only; omega) | (dsimp only; grind) | (omega)) (by first | decide | exact Nat.zero_le _ | (dsimp only; omega) | (dsimp only; grind) | (omega)) ?_
    first | rw [m0] | skip
    refine jr_cast d_m_call_29 c_m_37 rfl ⟨_, rfl, ca_mC_mC⟩ ?_
    refine jr_astore d_m_call_32 (Nat.le_of_ble_eq_true rfl) ?_
    refine jr_aload_n d_m_call_34 rfl rfl ?_
    refine jr_aload d_m_call_35 rfl ?_
    refine jr_iload_n d_m_call_37 rfl rfl ?_
    refine jv_V2rA d_m_call_38 l_m_145 k_mT_push ⟨Nat.le_of_ble_eq_true rfl, Nat.le_of_ble_eq_true rfl⟩ rfl rfl (Nat.le_of_ble_eq_true rfl) (ct_mT_push hP) (fun q9 h9 => q_pu_live q9 h9) (by first | decide | exact Nat.zero_le _ | (dsimp only; omega) | (dsimp only; grind) | (omega)) (by first | decide | exact Nat.zero_le _ | (dsimp only; omega) | (dsimp only; grind) | (omega)) ?_
    first | rw [m0] | skip
    refine jr_astore d_m_call_41 (Nat.le_of_ble_eq_true rfl) ?_
    refine jr_aload_n d_m_call_43 rfl rfl ?_
    refine jr_dup d_m_call_44 ?_
    refine jr_geti d_m_call_45 f_m_199 rfl ?_
    rw [fA]
    refine jr_aload d_m_call_48 rfl ?_
    refine jr_geti d_m_call_50 f_m_87 rfl ?_
    rw [fB]
    refine jr_isub d_m_call_53 ?_
    rw [eS]
    refine jr_puti d_m_call_54 f_m_199 (Or.inl rfl) rfl ?_
    refine jr_iconst (v := 0) d_m_call_57 (by decide) ?_
    refine jr_istore d_m_call_58 (Nat.le_of_ble_eq_true rfl) ?_
    exact lp_m_call (I := (jc_up (q_pu I O live t xt m a (11, d, 0)).1 (12, t, j) 4 (Int32.ofNat s))) (i0 := m) (d := d) hpu.1.1 fD (by rw [jc_up_t _ _ _ _ _ _ _ _ (by decide)]; exact fB) hp8 (jc_up_s _ _ _ _) hsp (Nat.le_of_eq (Nat.zero_add _)) (Nat.le_of_eq (Nat.zero_add _)) p 0 (by omega)
  · skip
    exfalso; rw [hQ.d] at c6; have c6 := congrArg Int32.toInt c6; rw [jofI (by omega), show (30 : Int32).toInt = 30 from by decide] at c6; omega
