theorem ql.to {I I' : jc_I} {O O' : jc_O} {live live' : jc_L → Prop} {x n : Nat} {f : Nat → jc_L} (h : ql I O live x n f) (hI : I' (15, x, 0) 1 = I (15, x, 0) 1) (hO : O' (15, x, 0) 0 = O (15, x, 0) 0) (hE : ∀ c k, O' (60, x, c) k = O (60, x, c) k) (hl : ∀ c, live' (60, x, c) → live (60, x, c)) : ql I' O' live' x n f := by
  have hc : lcap O' x = lcap O x := by unfold lcap; rw [hO]
  refine ⟨hI.trans h.sz, by rw [hc]; exact h.le, by rw [hc]; exact h.cp, by rw [hc, hO]; exact h.ar, fun k hk => by rw [hc, hE]; exact h.el k hk, fun c hc' hl' => h.fr c (by rw [hc] at hc'; exact hc') (hl c hl'), h.st⟩
/-- the reference's own lists and arrays -/
def qM (O : jc_O) : Prop := O (10, 0, 0) 0 = some (15, 0, 0) ∧ O (10, 0, 0) 2 = some (15, 1, 0) ∧ O (10, 0, 0) 4 = some (15, 2, 0) ∧ O (10, 0, 0) 6 = some (50, 0, 0) ∧ O (10, 0, 0) 7 = some (51, 0, 0)
abbrev qO (b : Nat) : Nat → jc_L := fun k => (13, b + k, 0)
def q_o1 (I : jc_I) (k : Nat) (x : Int32) : jc_I := jc_up (jc_up (jc_cl (jc_cl I (13, k, 0) 0) (47, k, 0) 0) (13, k, 0) 2 (-1)) (13, k, 0) 0 x
def q_o1O (O : jc_O) (k : Nat) : jc_O := jc_up (jc_cl (jc_cl O (13, k, 0) none) (47, k, 0) none) (13, k, 0) 1 (some (47, k, 0))
def q_o1l (live : jc_L → Prop) (k : Nat) : jc_L → Prop := jadd (47, k, 0) (jadd (13, k, 0) live)
/-- a new object: the answer, and what comes of the heap -/
def q_mk (I : jc_I) (O : jc_O) (live : jc_L → Prop) (x : Int32) : Int32 × jc_S :=
  (fun (k : Nat) => (fun (s : jc_S) => (s.1 (15, 2, 0) 1, jc_up s.1 (10, 0, 0) 5 (s.1 (10, 0, 0) 5 + 1), s.2.1, s.2.2.1, s.2.2.2.1 + 2, s.2.2.2.2 + 12)) (l_add (q_o1 I k x) (q_o1O O k) (q_o1l live k) 2 (13, k, 0))) (I (10, 0, 0) 5).toNatClampNeg
theorem ql.o1 {I : jc_I} {O : jc_O} {live : jc_L → Prop} {y n k : Nat} {x : Int32} {f : Nat → jc_L} (h : ql I O live y n f) : ql (q_o1 I k x) (q_o1O O k) (q_o1l live k) y n f := by
  refine h.to ?_ ?_ (fun c i => ?_) (fun c hc => ?_)
  · unfold q_o1; rw [jc_up_t _ _ _ _ _ _ _ _ (by decide), jc_up_t _ _ _ _ _ _ _ _ (by decide), jc_cl_t _ _ _ _ _ _ _ (by decide), jc_cl_t _ _ _ _ _ _ _ (by decide)]
  · unfold q_o1O; rw [jc_up_t _ _ _ _ _ _ _ _ (by decide), jc_cl_t _ _ _ _ _ _ _ (by decide), jc_cl_t _ _ _ _ _ _ _ (by decide)]
  · unfold q_o1O; rw [jc_up_t _ _ _ _ _ _ _ _ (by decide), jc_cl_t _ _ _ _ _ _ _ (by decide), jc_cl_t _ _ _ _ _ _ _ (by decide)]
  · rcases hc with e | e | e
    · cases e
    · cases e
    · exact e
theorem l_add_O {I : jc_I} {O : jc_O} {live : jc_L → Prop} {x : Nat} {e : jc_L} {a : Nat} {u : Nat × Nat} {k : Nat} (h1 : a ≠ 15) (h2 : a ≠ 60) : (l_add I O live x e).2.1 (a, u) k = O (a, u) k := by
  unfold l_add
  split
  · exact jc_up_t _ _ _ _ _ _ _ _ h2
  · split
    · show jc_up _ _ _ _ _ _ = _
      rw [jc_up_t _ _ _ _ _ _ _ _ h2, jc_up_t _ _ _ _ _ _ _ _ h1, jc_cl_t _ _ _ _ _ _ _ h2]
    · show jc_up _ _ _ _ _ _ = _
      rw [jc_up_t _ _ _ _ _ _ _ _ h2, jc_up_t _ _ _ _ _ _ _ _ h1]
      unfold jc_cp
      rw [if_neg (fun g => h2 (congrArg Prod.fst g.1)), jc_cl_t _ _ _ _ _ _ _ h2]
theorem l_add_I {I : jc_I} {O : jc_O} {live : jc_L → Prop} {x : Nat} {e : jc_L} {a : Nat} {u : Nat × Nat} {k : Nat} (h1 : a ≠ 15) (h2 : a ≠ 60) : (l_add I O live x e).1 (a, u) k = I (a, u) k := by
  unfold l_add
  split
  · show jc_up _ _ _ _ _ _ = _
    rw [jc_up_t _ _ _ _ _ _ _ _ h1, jc_up_t _ _ _ _ _ _ _ _ h1]
  · split
    · show jc_up _ _ _ _ _ _ = _
      rw [jc_up_t _ _ _ _ _ _ _ _ h1, jc_cl_t _ _ _ _ _ _ _ h2, jc_up_t _ _ _ _ _ _ _ _ h1]
    · show jc_up _ _ _ _ _ _ = _
      rw [jc_up_t _ _ _ _ _ _ _ _ h1, jc_cl_t _ _ _ _ _ _ _ h2, jc_up_t _ _ _ _ _ _ _ _ h1]
theorem l_add_live {I : jc_I} {O : jc_O} {live : jc_L → Prop} {x : Nat} {e : jc_L} : ∀ q, live q → (l_add I O live x e).2.2.1 q := by
  intro q hq
  unfold l_add
  split
  · exact hq
  · split
    · exact Or.inr hq
    · exact Or.inr hq
theorem ct_m_fresh0 {I : jc_I} {O : jc_O} {live : jc_L → Prop} {x : Int32} {n : Nat} {f : Nat → jc_L} (hM : qM O) (hl : ql I O live 2 n f) (f1 : ¬ live (13, (I (10, 0, 0) 5).toNatClampNeg, 0)) (f2 : ¬ live (47, (I (10, 0, 0) 5).toNatClampNeg, 0)) : jc_Ct y_m_fresh [.inr (some (10, 0, 0)), .inl x] I O live (some (.inl ((l_add (q_o1 I (I (10, 0, 0) 5).toNatClampNeg x) (q_o1O O (I (10, 0, 0) 5).toNatClampNeg) (q_o1l live (I (10, 0, 0) 5).toNatClampNeg) 2 (13, (I (10, 0, 0) 5).toNatClampNeg, 0)).1 (15, 2, 0) 1)), jc_up (l_add (q_o1 I (I (10, 0, 0) 5).toNatClampNeg x) (q_o1O O (I (10, 0, 0) 5).toNatClampNeg) (q_o1l live (I (10, 0, 0) 5).toNatClampNeg) 2 (13, (I (10, 0, 0) 5).toNatClampNeg, 0)).1 (10, 0, 0) 5 ((l_add (q_o1 I (I (10, 0, 0) 5).toNatClampNeg x) (q_o1O O (I (10, 0, 0) 5).toNatClampNeg) (q_o1l live (I (10, 0, 0) 5).toNatClampNeg) 2 (13, (I (10, 0, 0) 5).toNatClampNeg, 0)).1 (10, 0, 0) 5 + 1), (l_add (q_o1 I (I (10, 0, 0) 5).toNatClampNeg x) (q_o1O O (I (10, 0, 0) 5).toNatClampNeg) (q_o1l live (I (10, 0, 0) 5).toNatClampNeg) 2 (13, (I (10, 0, 0) 5).toNatClampNeg, 0)).2.1, (l_add (q_o1 I (I (10, 0, 0) 5).toNatClampNeg x) (q_o1O O (I (10, 0, 0) 5).toNatClampNeg) (q_o1l live (I (10, 0, 0) 5).toNatClampNeg) 2 (13, (I (10, 0, 0) 5).toNatClampNeg, 0)).2.2.1, (l_add (q_o1 I (I (10, 0, 0) 5).toNatClampNeg x) (q_o1O O (I (10, 0, 0) 5).toNatClampNeg) (q_o1l live (I (10, 0, 0) 5).toNatClampNeg) 2 (13, (I (10, 0, 0) 5).toNatClampNeg, 0)).2.2.2.1 + 2, (l_add (q_o1 I (I (10, 0, 0) 5).toNatClampNeg x) (q_o1O O (I (10, 0, 0) 5).toNatClampNeg) (q_o1l live (I (10, 0, 0) 5).toNatClampNeg) 2 (13, (I (10, 0, 0) 5).toNatClampNeg, 0)).2.2.2.2 + 12) := by
  obtain ⟨m0, m2, m4, m6, m7⟩ := id hM
  have o4 : (l_add (q_o1 I (I (10, 0, 0) 5).toNatClampNeg x) (q_o1O O (I (10, 0, 0) 5).toNatClampNeg) (q_o1l live (I (10, 0, 0) 5).toNatClampNeg) 2 (13, (I (10, 0, 0) 5).toNatClampNeg, 0)).2.1 (10, 0, 0) 4 = some (15, 2, 0) := by rw [l_add_O (by decide) (by decide)]; unfold q_o1O; rw [jc_up_t _ _ _ _ _ _ _ _ (by decide), jc_cl_t _ _ _ _ _ _ _ (by decide), jc_cl_t _ _ _ _ _ _ _ (by decide)]; exact m4
  refine jc_Ct.of (by decide +kernel) (Or.inl rfl) (Nat.le_of_ble_eq_true rfl) ?_
  refine jr_aload_n d_m_fresh_0 rfl rfl ?_
  refine jr_getr d_m_fresh_1 f_m_19 rfl rfl ?_
  first | rw [m4] | rw [o4] | skip
  refine jr_new (13, (I (10, 0, 0) 5).toNatClampNeg, 0) d_m_fresh_4 n_m_155 rfl (f1) (by first | decide | (dsimp only; omega)) (by first | decide | (dsimp only; omega)) ?_
  refine jr_dup d_m_fresh_7 ?_
  refine jr_iload_n d_m_fresh_8 rfl rfl ?_
  refine jv_I1vA d_m_fresh_9 l_m_181 k_mO_init ⟨Nat.le_of_ble_eq_true rfl, Nat.le_of_ble_eq_true rfl⟩ (Nat.le_of_ble_eq_true rfl) (show jc_Ct y_mO_init _ _ _ _ (none, q_o1 I (I (10, 0, 0) 5).toNatClampNeg x, q_o1O O (I (10, 0, 0) 5).toNatClampNeg, q_o1l live (I (10, 0, 0) 5).toNatClampNeg, 1, 8) from ct_mO_init (k := (I (10, 0, 0) 5).toNatClampNeg) (by simp [*])) (fun q9 h9 => by first | exact Or.inr h9 | exact Or.inr (Or.inr h9) | (simp_all; done)) (by first | decide | (dsimp only; omega) | (dsimp only; grind) | (omega)) (by first | decide | (dsimp only; omega) | (dsimp only; grind) | (omega)) ?_
  refine jv_V1rA d_m_fresh_12 l_m_46 k_aL_add1 ⟨Nat.le_of_ble_eq_true rfl, Nat.le_of_ble_eq_true rfl⟩ rfl rfl (Nat.le_of_ble_eq_true rfl) (ct_aL_add (x := 2) hl.o1 (fun q9 e9 => by cases e9; exact ⟨_, _, rfl, rfl, Or.inr ca_mO_oO⟩)) (fun q9 h9 => l_add_live q9 h9) (by first | decide | (dsimp only; omega) | (dsimp only; grind) | (omega)) (by first | decide | (dsimp only; omega) | (dsimp only; grind) | (omega)) ?_
  refine jr_pop d_m_fresh_15 ?_
  refine jr_aload_n d_m_fresh_16 rfl rfl ?_
  refine jr_dup d_m_fresh_17 ?_
  refine jr_geti d_m_fresh_18 f_m_170 rfl ?_
  try simp only [jc_up_s, jc_up_k, jc_up_t, jc_cl_s, jc_cl_t, ne_eq, Nat.reduceEqDiff, not_false_eq_true, Nat.reduceAdd]
  refine jr_iconst (v := 1) d_m_fresh_21 (by decide) ?_
  refine jr_iadd d_m_fresh_22 ?_
  refine jr_puti d_m_fresh_23 f_m_170 (Or.inl rfl) rfl ?_
  refine jr_aload_n d_m_fresh_26 rfl rfl ?_
  refine jr_getr d_m_fresh_27 f_m_19 rfl rfl ?_
  try simp only [jc_up_s, jc_up_k, jc_up_t, jc_cl_s, jc_cl_t, ne_eq, Nat.reduceEqDiff, not_false_eq_true, Nat.reduceAdd]
  first | rw [m4] | rw [o4] | skip
  refine jv_V0r d_m_fresh_30 l_m_33 k_aL_size ⟨Nat.le_of_ble_eq_true rfl, Nat.le_of_ble_eq_true rfl⟩ rfl rfl (Nat.le_of_ble_eq_true rfl) (ct_aL_size) (by first | decide | (dsimp only; omega) | (dsimp only; grind) | (omega)) (by first | decide | (dsimp only; omega) | (dsimp only; grind) | (omega)) ?_
  rw [jc_up_t _ _ _ _ _ _ _ _ (by decide)]
  exact jr_retX (v := some _) d_m_fresh_33 (by first | exact Nat.le_refl _ | exact Nat.zero_le _ | (dsimp only; omega) | (omega)) (by first | exact Nat.le_refl _ | exact Nat.zero_le _ | (dsimp only; omega) | (omega)) (by first | with_reducible rfl | (dsimp only; rfl; done) | (exfalso; grind)) (by first | with_reducible rfl | (dsimp only; rfl; done) | (exfalso; grind)) (by first | with_reducible rfl | (dsimp only; rfl; done) | (exfalso; grind)) (by first | with_reducible rfl | (dsimp only; rfl; done) | (exfalso; grind))
theorem ct_m_fresh {I : jc_I} {O : jc_O} {live : jc_L → Prop} {x : Int32} {n : Nat} {f : Nat → jc_L} (hM : qM O) (hl : ql I O live 2 n f) (f1 : ¬ live (13, (I (10, 0, 0) 5).toNatClampNeg, 0)) (f2 : ¬ live (47, (I (10, 0, 0) 5).toNatClampNeg, 0)) : jc_Ct y_m_fresh [.inr (some (10, 0, 0)), .inl x] I O live (some (.inl (q_mk I O live x).1), (q_mk I O live x).2.1, (q_mk I O live x).2.2.1, (q_mk I O live x).2.2.2.1, (q_mk I O live x).2.2.2.2.1, (q_mk I O live x).2.2.2.2.2) := ct_m_fresh0 hM hl f1 f2
theorem q_mk_live {I : jc_I} {O : jc_O} {live : jc_L → Prop} {x : Int32} : ∀ q, live q → (q_mk I O live x).2.2.2.1 q := fun q hq => l_add_live q (Or.inr (Or.inr hq))
def q_free (I : jc_I) (b : Nat) (x : Int32) : Nat → jc_I
  | 0 => I
  | n + 1 => if q_free I b x n (13, b + n, 0) 2 = x then jc_up (jc_up (q_free I b x n) (13, b + n, 0) 2 (-1)) (13, b + n, 0) 3 0 else q_free I b x n
theorem q_free_ne {I : jc_I} {b : Nat} {x : Int32} {q : jc_L} {k : Nat} (h : q.1 ≠ 13) : ∀ n, q_free I b x n q k = I q k
  | 0 => rfl
  | n + 1 => by
    unfold q_free
    have hq : q ≠ (13, b + n, 0) := fun e => h (by rw [e])
    split
    · rw [jc_up_q _ _ _ _ _ _ hq, jc_up_q _ _ _ _ _ _ hq, q_free_ne h n]
    · exact q_free_ne h n
def q_over (I : jc_I) (t b n : Nat) (a v : Int32) : jc_I := q_free (jc_up (jc_up I (14, t, 0) 4 a) (14, t, 0) 5 v) b (I (14, t, 0) 0) n
theorem lp_m_over {I : jc_I} {O : jc_O} {live : jc_L → Prop} {t b n : Nat} {a v x : Int32} (m4 : O (10, 0, 0) 4 = some (15, 2, 0)) (hl : ql I O live 2 n (qO b)) (hx : I (14, t, 0) 0 = x) : ∀ (m r : Nat) (u : Option jc_V), r + m = n → jc_R y_m_over 13 [some (.inr (some (10, 0, 0))), some (.inr (some (14, t, 0))), some (.inl a), some (.inl v), some (.inl (Int32.ofNat r)), u] [] (q_free I b x r) O live 0 0 (none, q_free I b x n, O, live, 0, 0) := by
  intro m
  induction m with
  | zero =>
    intro r u hm
    (have hcp := hl.cp); (have hle := hl.le); (have a1 := jofI (n := r) (by omega)); (have a2 := jofI (n := n) (by omega)); (have hl2 : ql (q_free I b x r) O live 2 n (qO b) := hl.to (q_free_ne (by decide) r) rfl (fun _ _ => rfl) (fun _ h => h)); (have s1 : q_free I b x r (15, 2, 0) 1 = Int32.ofNat n := hl2.sz); (have s2 : q_free I b x r (14, t, 0) 0 = x := (q_free_ne (by simp) r).trans hx)
    refine jr_iload d_m_over_13 rfl ?_
    refine jr_aload_n d_m_over_15 rfl rfl ?_
    refine jr_getr d_m_over_16 f_m_19 rfl rfl ?_
    first | rw [m4] | skip
    refine jv_V0r d_m_over_19 l_m_33 k_aL_size ⟨Nat.le_of_ble_eq_true rfl, Nat.le_of_ble_eq_true rfl⟩ rfl rfl (Nat.le_of_ble_eq_true rfl) (ct_aL_size) (by first | decide | (dsimp only; omega) | (dsimp only; grind)) (by first | decide | (dsimp only; omega) | (dsimp only; grind)) ?_
    rw [s1]
    refine jr_icmp_ge (tgt := 72) d_m_over_22 (by decide) (fun c22 => ?_) (fun c22 => ?_)
    · skip
      exact jr_retX (v := none) d_m_over_72 (by first | exact Nat.le_refl _ | exact Nat.zero_le _ | (dsimp only; omega)) (by first | exact Nat.le_refl _ | exact Nat.zero_le _ | (dsimp only; omega)) (by first | with_reducible rfl | (dsimp only; (rw [show n = r from by omega]); done) | (exfalso; grind)) (by first | with_reducible rfl | (dsimp only; (rw [show n = r from by omega]); done) | (exfalso; grind)) (by first | with_reducible rfl | (dsimp only; (rw [show n = r from by omega]); done) | (exfalso; grind)) (by first | with_reducible rfl | (dsimp only; (rw [show n = r from by omega]); done) | (exfalso; grind))
    · skip
      exfalso; rw [jle, a1, a2] at c22; omega
  | succ m ih =>
    intro r u hm
    (have hcp := hl.cp); (have hle := hl.le); (have a1 := jofI (n := r) (by omega)); (have a2 := jofI (n := n) (by omega)); (have hl2 : ql (q_free I b x r) O live 2 n (qO b) := hl.to (q_free_ne (by decide) r) rfl (fun _ _ => rfl) (fun _ h => h)); (have s1 : q_free I b x r (15, 2, 0) 1 = Int32.ofNat n := hl2.sz); (have s2 : q_free I b x r (14, t, 0) 0 = x := (q_free_ne (by simp) r).trans hx)
    refine jr_iload d_m_over_13 rfl ?_
    refine jr_aload_n d_m_over_15 rfl rfl ?_
    refine jr_getr d_m_over_16 f_m_19 rfl rfl ?_
    first | rw [m4] | skip
    refine jv_V0r d_m_over_19 l_m_33 k_aL_size ⟨Nat.le_of_ble_eq_true rfl, Nat.le_of_ble_eq_true rfl⟩ rfl rfl (Nat.le_of_ble_eq_true rfl) (ct_aL_size) (by first | decide | (dsimp only; omega) | (dsimp only; grind)) (by first | decide | (dsimp only; omega) | (dsimp only; grind)) ?_
    rw [s1]
    refine jr_icmp_ge (tgt := 72) d_m_over_22 (by decide) (fun c22 => ?_) (fun c22 => ?_)
    · skip
      exfalso; rw [jle, a1, a2] at c22; omega
    · skip
      refine jr_aload_n d_m_over_25 rfl rfl ?_
      refine jr_getr d_m_over_26 f_m_19 rfl rfl ?_
      first | rw [m4] | skip
      refine jr_iload d_m_over_29 rfl ?_
      refine jv_V1r d_m_over_31 l_m_126 k_aL_get ⟨Nat.le_of_ble_eq_true rfl, Nat.le_of_ble_eq_true rfl⟩ rfl rfl (Nat.le_of_ble_eq_true rfl) (ct_aL_getq hl2 rfl (k := r) (by omega)) (by first | decide | (dsimp only; omega) | (dsimp only; grind)) (by first | decide | (dsimp only; omega) | (dsimp only; grind)) ?_
      first | rw [m4] | skip
      refine jr_cast d_m_over_34 c_m_155 rfl ⟨_, rfl, ca_mO_mO⟩ ?_
      refine jr_astore d_m_over_37 (Nat.le_of_ble_eq_true rfl) ?_
      refine jr_aload d_m_over_39 rfl ?_
      refine jr_geti d_m_over_41 f_m_160 rfl ?_
      refine jr_aload_n d_m_over_44 rfl rfl ?_
      refine jr_geti d_m_over_45 f_m_149 rfl ?_
      rw [s2]
      refine jr_icmp_eq (tgt := 54) d_m_over_48 (by decide) (fun c48 => ?_) (fun c48 => ?_)
      · skip
        refine jr_aload d_m_over_54 rfl ?_
        refine jr_iconst (v := (-1)) d_m_over_56 (by decide) ?_
        refine jr_puti d_m_over_57 f_m_160 (Or.inl rfl) rfl ?_
        refine jr_aload d_m_over_60 rfl ?_
        refine jr_iconst (v := 0) d_m_over_62 (by decide) ?_
        refine jr_puti d_m_over_63 f_m_157 (Or.inl rfl) rfl ?_
        refine jr_iinc d_m_over_66 rfl jinc1 ?_
        refine jr_goto (tgt := 13) d_m_over_69 (by decide) ?_
        exact (by have e := ih (r + 1) (some (.inr (some (13, b + r, 0)))) (by omega); rw [q_free, if_pos c48, ← jof1 (by omega)] at e; exact e)
      · skip
        refine jr_goto (tgt := 66) d_m_over_51 (by decide) ?_
        refine jr_iinc d_m_over_66 rfl jinc1 ?_
        refine jr_goto (tgt := 13) d_m_over_69 (by decide) ?_
        exact (by have e := ih (r + 1) (some (.inr (some (13, b + r, 0)))) (by omega); rw [q_free, if_neg c48, ← jof1 (by omega)] at e; exact e)
theorem ct_m_over {I : jc_I} {O : jc_O} {live : jc_L → Prop} {t b n : Nat} {a v : Int32} (hM : qM O) (hl : ql I O live 2 n (qO b)) : jc_Ct y_m_over [.inr (some (10, 0, 0)), .inr (some (14, t, 0)), .inl a, .inl v] I O live (none, q_over I t b n a v, O, live, 0, 0) := by
  refine jc_Ct.of (by decide +kernel) (rfl) (Nat.le_of_ble_eq_true rfl) ?_
  refine jr_aload_n d_m_over_0 rfl rfl ?_
  refine jr_iload_n d_m_over_1 rfl rfl ?_
  refine jr_puti d_m_over_2 f_m_163 (Or.inl rfl) rfl ?_
  refine jr_aload_n d_m_over_5 rfl rfl ?_
  refine jr_iload_n d_m_over_6 rfl rfl ?_
  refine jr_puti d_m_over_7 f_m_182 (Or.inl rfl) rfl ?_
  refine jr_iconst (v := 0) d_m_over_10 (by decide) ?_
  refine jr_istore d_m_over_11 (Nat.le_of_ble_eq_true rfl) ?_
  exact lp_m_over (I := jc_up (jc_up I (14, t, 0) 4 a) (14, t, 0) 5 v) (x := I (14, t, 0) 0) hM.2.2.1 (hl.to (by rw [jc_up_t _ _ _ _ _ _ _ _ (by decide), jc_up_t _ _ _ _ _ _ _ _ (by decide)]) rfl (fun _ _ => rfl) (fun _ h => h)) (by rw [jc_up_k _ _ _ _ _ _ (by decide), jc_up_k _ _ _ _ _ _ (by decide)]) n 0 none (by omega)
def q_hu (I : jc_I) (t b : Nat) : Int32 := if I (14, t, 0) 6 = 0 then 0 else if 0 < I (13, b + (I (14, t, 0) 6 - 1).toNatClampNeg, 0) 3 ∧ I (13, b + (I (14, t, 0) 6 - 1).toNatClampNeg, 0) 2 ≠ I (14, t, 0) 0 then 1 else 0
theorem ct_m_isHeldUp {I : jc_I} {O : jc_O} {live : jc_L → Prop} {t b n : Nat} (hM : qM O) (hl : ql I O live 2 n (qO b)) (hw : I (14, t, 0) 6 ≠ 0 → 1 ≤ I (14, t, 0) 6 ∧ ((I (14, t, 0) 6 - 1).toNatClampNeg < n)) : jc_Ct y_m_isHeldUp [.inr (some (10, 0, 0)), .inr (some (14, t, 0))] I O live (some (.inl (q_hu I t b)), I, O, live, 0, 0) := by
  obtain ⟨m0, m2, m4, m6, m7⟩ := id hM
  refine jc_Ct.of (by decide +kernel) (Or.inr ⟨rfl, by unfold q_hu; grind⟩) (Nat.le_of_ble_eq_true rfl) ?_
  refine jr_aload_n d_m_isHeldUp_0 rfl rfl ?_
  refine jr_geti d_m_isHeldUp_1 f_m_152 rfl ?_
  refine jr_if_ne (tgt := 9) d_m_isHeldUp_4 (by decide) (fun c4 => ?_) (fun c4 => ?_)
  · skip
    refine jr_aload_n d_m_isHeldUp_9 rfl rfl ?_
    refine jr_getr d_m_isHeldUp_10 f_m_19 rfl rfl ?_
    first | rw [m4] | skip
    refine jr_aload_n d_m_isHeldUp_13 rfl rfl ?_
    refine jr_geti d_m_isHeldUp_14 f_m_152 rfl ?_
    refine jr_iconst (v := 1) d_m_isHeldUp_17 (by decide) ?_
    refine jr_isub d_m_isHeldUp_18 ?_
    refine jv_V1r d_m_isHeldUp_19 l_m_126 k_aL_get ⟨Nat.le_of_ble_eq_true rfl, Nat.le_of_ble_eq_true rfl⟩ rfl rfl (Nat.le_of_ble_eq_true rfl) (ct_aL_getq hl (k := (I (14, t, 0) 6 - 1).toNatClampNeg) (by apply Int32.toInt_inj.mp; rw [jofI (by have := hl.le; have := hl.cp; have := (hw c4).2; omega), jsubN (hw c4).1, jsub1 (hw c4).1]) (hw c4).2) (by first | decide | (dsimp only; omega) | (dsimp only; grind)) (by first | decide | (dsimp only; omega) | (dsimp only; grind)) ?_
    first | rw [m4] | skip
    refine jr_cast d_m_isHeldUp_22 c_m_155 rfl ⟨_, rfl, ca_mO_mO⟩ ?_
    refine jr_astore_n d_m_isHeldUp_25 rfl (Nat.le_of_ble_eq_true rfl) ?_
    refine jr_aload_n d_m_isHeldUp_26 rfl rfl ?_
    refine jr_geti d_m_isHeldUp_27 f_m_157 rfl ?_
    refine jr_if_le (tgt := 48) d_m_isHeldUp_30 (by decide) (fun c30 => ?_) (fun c30 => ?_)
    · skip
      refine jr_iconst (v := 0) d_m_isHeldUp_48 (by decide) ?_
      exact jr_retX (v := some _) d_m_isHeldUp_49 (by first | exact Nat.le_refl _ | exact Nat.zero_le _ | (dsimp only; omega)) (by first | exact Nat.le_refl _ | exact Nat.zero_le _ | (dsimp only; omega)) (by first | with_reducible rfl | (dsimp only; (unfold q_hu; (repeat (first | rw [if_pos (by grind)] | rw [if_neg (by grind)]))); done) | (exfalso; grind)) (by first | with_reducible rfl | (dsimp only; (unfold q_hu; (repeat (first | rw [if_pos (by grind)] | rw [if_neg (by grind)]))); done) | (exfalso; grind)) (by first | with_reducible rfl | (dsimp only; (unfold q_hu; (repeat (first | rw [if_pos (by grind)] | rw [if_neg (by grind)]))); done) | (exfalso; grind)) (by first | with_reducible rfl | (dsimp only; (unfold q_hu; (repeat (first | rw [if_pos (by grind)] | rw [if_neg (by grind)]))); done) | (exfalso; grind))
    · skip
      refine jr_aload_n d_m_isHeldUp_33 rfl rfl ?_
      refine jr_geti d_m_isHeldUp_34 f_m_160 rfl ?_
      refine jr_aload_n d_m_isHeldUp_37 rfl rfl ?_
      refine jr_geti d_m_isHeldUp_38 f_m_149 rfl ?_
      refine jr_icmp_eq (tgt := 48) d_m_isHeldUp_41 (by decide) (fun c41 => ?_) (fun c41 => ?_)
      · skip
        refine jr_iconst (v := 0) d_m_isHeldUp_48 (by decide) ?_
        exact jr_retX (v := some _) d_m_isHeldUp_49 (by first | exact Nat.le_refl _ | exact Nat.zero_le _ | (dsimp only; omega)) (by first | exact Nat.le_refl _ | exact Nat.zero_le _ | (dsimp only; omega)) (by first | with_reducible rfl | (dsimp only; (unfold q_hu; (repeat (first | rw [if_pos (by grind)] | rw [if_neg (by grind)]))); done) | (exfalso; grind)) (by first | with_reducible rfl | (dsimp only; (unfold q_hu; (repeat (first | rw [if_pos (by grind)] | rw [if_neg (by grind)]))); done) | (exfalso; grind)) (by first | with_reducible rfl | (dsimp only; (unfold q_hu; (repeat (first | rw [if_pos (by grind)] | rw [if_neg (by grind)]))); done) | (exfalso; grind)) (by first | with_reducible rfl | (dsimp only; (unfold q_hu; (repeat (first | rw [if_pos (by grind)] | rw [if_neg (by grind)]))); done) | (exfalso; grind))
      · skip
        refine jr_iconst (v := 1) d_m_isHeldUp_44 (by decide) ?_
        refine jr_goto (tgt := 49) d_m_isHeldUp_45 (by decide) ?_
        exact jr_retX (v := some _) d_m_isHeldUp_49 (by first | exact Nat.le_refl _ | exact Nat.zero_le _ | (dsimp only; omega)) (by first | exact Nat.le_refl _ | exact Nat.zero_le _ | (dsimp only; omega)) (by first | with_reducible rfl | (dsimp only; (unfold q_hu; (repeat (first | rw [if_pos (by grind)] | rw [if_neg (by grind)]))); done) | (exfalso; grind)) (by first | with_reducible rfl | (dsimp only; (unfold q_hu; (repeat (first | rw [if_pos (by grind)] | rw [if_neg (by grind)]))); done) | (exfalso; grind)) (by first | with_reducible rfl | (dsimp only; (unfold q_hu; (repeat (first | rw [if_pos (by grind)] | rw [if_neg (by grind)]))); done) | (exfalso; grind)) (by first | with_reducible rfl | (dsimp only; (unfold q_hu; (repeat (first | rw [if_pos (by grind)] | rw [if_neg (by grind)]))); done) | (exfalso; grind))
  · skip
    refine jr_iconst (v := 0) d_m_isHeldUp_7 (by decide) ?_
    exact jr_retX (v := some _) d_m_isHeldUp_8 (by first | exact Nat.le_refl _ | exact Nat.zero_le _ | (dsimp only; omega)) (by first | exact Nat.le_refl _ | exact Nat.zero_le _ | (dsimp only; omega)) (by first | with_reducible rfl | (dsimp only; (unfold q_hu; (repeat (first | rw [if_pos (by grind)] | rw [if_neg (by grind)]))); done) | (exfalso; grind)) (by first | with_reducible rfl | (dsimp only; (unfold q_hu; (repeat (first | rw [if_pos (by grind)] | rw [if_neg (by grind)]))); done) | (exfalso; grind)) (by first | with_reducible rfl | (dsimp only; (unfold q_hu; (repeat (first | rw [if_pos (by grind)] | rw [if_neg (by grind)]))); done) | (exfalso; grind)) (by first | with_reducible rfl | (dsimp only; (unfold q_hu; (repeat (first | rw [if_pos (by grind)] | rw [if_neg (by grind)]))); done) | (exfalso; grind))
