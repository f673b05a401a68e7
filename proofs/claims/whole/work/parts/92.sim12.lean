variable {D : Nat → Nat}
theorem rr.tr {t m : Nat} {I J K : jc_I} (h : rr t m I J) (h2 : rr t m J K) : rr t m I K := fun q k a b c d => (h2 q k a b c d).trans (h q k a b c d)
theorem FA_pop {J : jc_I} {O : jc_O} {t j n0 : Nat} {k : Int32} {K : List Int32} {c : Nat} (h : TH J O t n0) (tf : TFJ J t j c (k :: K)) : ∀ j', j' < n0 → FA (f_pop J t j) t j' (cd O t j') := by
  intro j' hj'
  obtain ⟨p1, p2⟩ := TF.pop tf
  have a := h.any hj'
  obtain ⟨i9, a4, a5⟩ := a.at_
  refine ⟨by rw [fl_pop.bk]; exact a.al, by rw [fl_pop.bk]; exact a.cn, ?_, ⟨i9, ?_, by rw [fl_pop.bk]; exact a5⟩, ?_⟩
  · rw [fl_pop.bk, fl_pop.v]
    intro k9 g1 g2
    rw [f_pop_t (by decide)]
    exact a.lo k9 g1 g2
  · unfold f_pop jc_up
    rw [if_neg (by simp)]
    exact a4
  · by_cases e : j' = j
    · subst e; exact ⟨_, p1.le, p1.d⟩
    · obtain ⟨K9, d1, d2⟩ := a.d
      refine ⟨K9, d1, ?_⟩
      unfold f_pop
      rw [jc_up_q _ _ _ _ _ _ (by simp [e])]
      exact d2
theorem FM_pop {J : jc_I} {O : jc_O} {t j n0 : Nat} (h : TH J O t n0) (hj : j + 1 = n0) : ∀ j', j' + 1 < n0 → FMJ (f_pop J t j) t j' (cd O t j') (cd O t (j' + 1)) := by
  intro j' hj'
  have hne : j' ≠ j := by omega
  have e8 : ∀ k, f_pop J t j (8, t, j') k = J (8, t, j') k := fun k => by unfold f_pop; exact jc_up_q _ _ _ _ _ _ (by simp [hne])
  have e32 : f_pop J t j (32, t, j') = J (32, t, j') := by funext k; exact f_pop_t (by decide)
  have e33 : f_pop J t j (33, t, j') = J (33, t, j') := by funext k; exact f_pop_t (by decide)
  unfold FMJ
  rw [fl_pop.bk, fl_pop.v, e8, e8, e32, e33]
  exact h.mid j' hj'
theorem jo_19 {J I : jc_I} {O P : jc_O} {live lv : jc_L → Prop} {S : Int} {t n0 j i b n xt fn c9 : Nat} {K K' : List Int32} (h : CX J O live S t n0) (hj : j + 1 = n0) (tp : TP J t j (cd O t j) i K K') (r : RX I P lv t b n xt fn n0 c9) (f : FRc I P O t n0) (s : Sim t b n D J I) (hDn : D t = n0) (hcn : J (3, 0, 0) 2 = Int32.ofNat n) (ho : (bk J).op (cd O t j) i = 19) (hz : m_nf J (f_pk J t j 0) = 0) : OUT J O live I P lv t j b n xt fn c9 D S 19 ((bk J).an (cd O t j) i) := by
  have hD : j < D t := by omega
  obtain ⟨rb, qf9, eo, ea⟩ := RB.of h hj tp r f s
  obtain ⟨hT, hf, hd, hc, hin, hC, hn⟩ := h.top hj
  have eo2 : I (41, cd O t j, 0) i = 19 := eo.trans ho
  obtain ⟨q1, q2, q3, q4⟩ := q_bnd hD tp.tf.d tp.tf.le s
  have hp := tp.pi
  have hle := h.TH.le
  rw [ho, p_ins_19] at hp
  obtain ⟨e1, -⟩ := p_take_some hp
  subst e1
  obtain ⟨p1, p2⟩ := TF.pop tp.tf
  have hx := m_nf0 hz
  rw [n_pk tp.tf.d tp.tf.le, ← n_tp tp.tf.d tp.tf.le] at hx
  obtain ⟨k1, k2⟩ := ob_k hcn r.qt.n3 hx
  have s1 := s (7, (f_tp J t j - 1).toNatClampNeg, 0) 1 _ (mu71 k1)
  have hR := ct_m_step_19o rb.a1 rb.a2 rb.a3 rb.a4 rb.a5 rb.a6 rb.a7 rb.a8 r.qt qf9 (q1 (by simp)) q3 (by rw [s.tp hD tp.tf.d tp.tf.le]; exact hx.1) (by rw [s.tp hD tp.tf.d tp.tf.le]; exact k1) eo2
  rw [s.tp hD tp.tf.d tp.tf.le, ← s1] at hR
  have hP := ct_M_perform_throw (live := live) (c := 0) (op := 19) (a := (bk J).an (cd O t j) i) h.M h.H hf hd h.A h.T rfl
  have e9 : ∀ k, f_pop J t j (9, t, 0) k = J (9, t, 0) k := fun k => f_pop_t (by decide)
  have ers : m_rse (f_pop J t j) O t (f_tp J t j) = m_rs O t (f_tp J t j) (J (7, (f_tp J t j - 1).toNatClampNeg, 0) 1) n0 (f_pop J t j) := by
    unfold m_rse m_kd
    rw [f_pop_t (by decide), if_pos hx, f_pop_t (by decide), e9, h.TH.fc, jofN (by omega)]
  rw [ers] at hP
  obtain ⟨m', b1, b2, b3, b4⟩ := Sim.rs (O := O) (P := P) (x := f_tp J t j) (k := (J (7, (f_tp J t j - 1).toNatClampNeg, 0) 1)) (n := n) r.qt.n3 n0 (dU D t j) (f_pop J t j) I hle (by rw [dU_s]; omega) (by unfold f_pop; exact (s.cut hDn (by omega)).upC (mu83n (by rw [dU_s]; omega))) f (by rw [f_pop_t (by decide)]; exact hcn) ((e9 2).trans h.TH.fc) r.qt.d
  rw [dU_dU] at b2
  have hjs := rs_ty (O := O) (t := t) (x := f_tp J t j) (k := (J (7, (f_tp J t j - 1).toNatClampNeg, 0) 1)) (S := S) n0 (f_pop J t j) ((e9 2).trans h.TH.fc) hle ((e9 4).trans h.go) h.TH.co (FA_pop h.TH tp.tf) (FM_pop h.TH hj) (by rw [fl_pop.bk]; exact h.C) (by rw [fl_pop.v]; exact p2 rfl) (h.ho.fl fl_pop)
  have hrr := rr_rs (P := P) (t := t) (b := b) (n := n) (x := f_tp J t j) (y := (J (7, (f_tp J t j - 1).toNatClampNeg, 0) 1)) n0 I
  have hd2 : q_rs P t b n (f_tp J t j) (J (7, (f_tp J t j - 1).toNatClampNeg, 0) 1) n0 I (14, t, 0) 2 = Int32.ofNat m' := by
    rw [← b3]; exact (b2 (9, t, 0) 2 ((14, t, 0), 2) (by unfold mu; simp)).symm
  have r3 := r.rs hrr hd2 b1
  have f3 := f.rs hrr b1
  have hj2 : jRS J (m_rs O t (f_tp J t j) (J (7, (f_tp J t j - 1).toNatClampNeg, 0) 1) n0 (f_pop J t j)) O t S := ⟨hjs.tt, fl_pop.h.ot.tr hjs.o, hjs.c.trans (f_pop_t (by decide)), hjs.ho, hjs.n0.trans (e9 0), hjs.n6.trans (e9 6)⟩
  have h3 := (rs_3 (O := O) (t := t) (x := f_tp J t j) (k := (J (7, (f_tp J t j - 1).toNatClampNeg, 0) 1)) n0 (f_pop J t j)).trans (e9 3)
  exact ⟨_, O, live, 0, 0, _, P, lv, 0, 0, n, fn, m', hP, hR, CP.rs h hj2 h3, r3, f3, b2, b4, b3, hrr _ _ (by simp) (by simp) (by simp) (by simp), hrr _ _ (by simp) (by simp) (by simp) (by simp), BU.z, RK.rs hrr, by unfold PF; simp +decide only [if_true, if_false]; rw [ers]⟩
theorem rr_e0 {I : jc_I} {t j m c : Nat} (hj : j < m) : rr t m I (q_e0 I t j c) := fun q k h1 h2 h3 h4 => by
  unfold q_e0
  have e : jc_up (if I (11, c, 0) 1 = 0 then I else q_pop I t j) (14, t, 0) 2 (I (14, t, 0) 2 - 1) q k = (if I (11, c, 0) 1 = 0 then I else q_pop I t j) q k := if_neg (fun g => h1 ⟨g.1, Or.inl g.2⟩)
  rw [e]
  split
  · rfl
  · unfold q_pop jc_up
    exact if_neg (fun g => h2 (by rw [g.1]; exact ⟨rfl, rfl, hj, Or.inl g.2⟩))
theorem rr_up {I : jc_I} {t j m k : Nat} {v : Int32} (hj : j < m) (hk : k = 4 ∨ k = 5) : rr t m I (jc_up I (12, t, j) k v) := fun q k' h1 h2 h3 h4 => if_neg (fun g => h2 (by rw [g.1, g.2]; exact ⟨rfl, rfl, hj, hk⟩))
theorem rr_49 {I : jc_I} {t j m k : Nat} {v : Int32} (hj : j < m) : rr t m I (jc_up I (49, t, j) k v) := fun q k' h1 h2 h3 h4 => if_neg (fun g => h3 (by rw [g.1]; exact ⟨rfl, rfl, hj⟩))
theorem rr_psh {I : jc_I} {t j m : Nat} {v : Int32} (hj : j < m) : rr t m I (q_psh I t j v) := (rr_49 hj).tr (rr_up hj (Or.inl rfl))
theorem rr_on {I : jc_I} {t j m : Nat} (hj : j < m) : rr t m I (q_on I t j) := rr_up hj (Or.inr rfl)
theorem gb0_3 {J : jc_I} {t j c : Nat} : m_gb0 J t j c (9, t, 0) 3 = J (9, t, 0) 3 := by
  unfold m_gb0
  rw [end_3, ef_3]
  split
  · exact f_pop_t (by decide)
  · rfl
theorem psh_9 {J : jc_I} {t j : Nat} {x : Int32} {q : Nat × Nat} {k : Nat} : f_psh J t j x (9, q) k = J (9, q) k := by
  unfold f_psh
  split
  · rw [jc_up_t _ _ _ _ _ _ _ _ (by decide), jc_up_t _ _ _ _ _ _ _ _ (by decide)]
  · rfl
theorem gb1_3 {J : jc_I} {t j l c : Nat} : m_gb1 J t j l c (9, t, 0) 3 = J (9, t, 0) 3 := by
  unfold m_gb1 f_on
  rw [jc_up_t _ _ _ _ _ _ _ _ (by decide)]
  split
  · rw [psh_9, ef_3]; exact f_pop_t (by decide)
  · exact ef_3
/-- the frame that waits for its call's answer has room for it -/
theorem mid_room {J : jc_I} {O : jc_O} {t n0 l : Nat} (h : TH J O t n0) (hl : l + 1 < n0) : ∃ K1 : List Int32, J (8, t, l) 3 = Int32.ofNat K1.length ∧ K1.length ≤ 12 ∧ (J (6, cd O t (l + 1), 0) 2 ≠ 0 → K1.length < 12) := by
  obtain ⟨i1, K0, K1, b1, b2, b3, b4, b5, b6, b7, b8⟩ := h.mid l hl
  refine ⟨K1, b8.d, b8.le, fun hr => ?_⟩
  obtain ⟨A, A', g1, g2, g3⟩ := (b8.al _ .self).at_ b2
  rw [b3] at g1
  cases g1
  rw [b4, p_ins_18, if_pos b5, b6, b7] at g2
  have g2 : p_res (bk J) (cd O t (l + 1)) K1 = some A' := g2
  unfold p_res at g2
  rw [if_pos (show (bk J).res (cd O t (l + 1)) ≠ 0 from hr)] at g2
  exact (p_push_some g2).2.2
theorem jo_22a {J I : jc_I} {O P : jc_O} {live lv : jc_L → Prop} {S : Int} {t n0 j i b n xt fn c9 : Nat} {K K' : List Int32} (h : CX J O live S t n0) (hj : j + 1 = n0) (tp : TP J t j (cd O t j) i K K') (r : RX I P lv t b n xt fn n0 c9) (f : FRc I P O t n0) (s : Sim t b n D J I) (hDn : D t = n0) (hcn : J (3, 0, 0) 2 = Int32.ofNat n) (ho : (bk J).op (cd O t j) i = 22) (hn1 : n0 = 1) : OUT J O live I P lv t j b n xt fn c9 D S 22 ((bk J).an (cd O t j) i) := by
  have hD : j < D t := by omega
  obtain ⟨rb, qf9, eo, ea⟩ := RB.of h hj tp r f s
  obtain ⟨hT, hf, hd, hc, hin, hC, hn⟩ := h.top hj
  have eo2 : I (41, cd O t j, 0) i = 22 := eo.trans ho
  obtain ⟨q1, q2, q3, q4⟩ := q_bnd hD tp.tf.d tp.tf.le s
  have hp := tp.pi
  have hle := h.TH.le
  subst hn1
  have hj0 : j = 0 := by omega
  have hres : I (11, cd O t j, 0) 1 = J (6, cd O t j, 0) 2 := (s (6, cd O t j, 0) 2 _ rfl).symm
  have hK : I (11, cd O t j, 0) 1 ≠ 0 → 1 ≤ I (12, t, j) 4 := fun g => by
    rcases tp.ret ho with ⟨_, hK⟩ | ⟨h0, _⟩
    · exact q1 (by rw [hK]; simp)
    · exact absurd (hres.trans h0) g
  have hfc : J (9, t, 0) 2 = 1 := h.TH.fc
  have hP := ct_M_perform_ret0 (live := live) (op := 22) (a := (bk J).an (cd O t j) i) h.M h.H hf hd hc h.st.2.1 hfc rfl
  have hR := ct_m_step_22 rb.a1 rb.a2 rb.a3 rb.a4 rb.a5 rb.a6 rb.a7 rb.a8 (fun q h => h) (ct_m_ends_0 r.qt qf9 (f j (by omega)).1 hK q3 r.qt.d) eo2
  have hjs := ret0_ty h.TH hj0 tp h.C h.ho ho
  have hrr : rr t 1 I (q_over (q_e0 I t j (cd O t j)) t b n 1 (q_ev I t j (cd O t j))) := (rr_e0 (by omega)).tr rr_over
  have ev : q_ev I t j (cd O t j) = (if J (6, cd O t j, 0) 2 ≠ 0 then f_tp J t j else 0) := by
    unfold q_ev
    rw [hres]
    rcases tp.ret ho with ⟨h0, hK⟩ | ⟨h0, _⟩
    · subst hK
      rw [if_neg h0, if_pos h0, s.tp hD tp.tf.d tp.tf.le]
    · rw [if_pos h0, if_neg (fun g => g h0)]
  have sD := s.cut (m' := 0) hDn (by omega)
  have hlt : ¬ j < dU D t 0 t := by rw [dU_s]; omega
  have s2 : Sim t b n (dU D t 0) (s_ef (if J (6, cd O t j, 0) 2 ≠ 0 then f_pop J t j else J) t) (q_e0 I t j (cd O t j)) := by
    have s3 : Sim t b n (dU D t 0) (if J (6, cd O t j, 0) 2 ≠ 0 then f_pop J t j else J) (if I (11, cd O t j, 0) 1 = 0 then I else q_pop I t j) := by
      rw [hres]
      by_cases h0 : J (6, cd O t j, 0) 2 = 0
      · rw [if_neg (fun g => g h0), if_pos h0]; exact sD
      · rw [if_pos h0, if_neg h0]; unfold f_pop q_pop; exact (sD.upC (mu83n hlt)).upR (nu124n hlt)
    have e2 : (if J (6, cd O t j, 0) 2 ≠ 0 then f_pop J t j else J) (9, t, 0) 2 = 1 := by
      split
      · exact (f_pop_t (by decide)).trans hfc
      · exact hfc
    unfold s_ef q_e0
    rw [e2, show I (14, t, 0) 2 = 1 from r.qt.d, if_neg (show ¬ ((1 : Int32) - 1 < 0) from by decide)]
    exact s3.up (q := (9, t, 0)) (k := 2) (q' := (14, t, 0)) (k' := 2) (by unfold mu; simp)
  have hcc : s_ef (if J (6, cd O t j, 0) 2 ≠ 0 then f_pop J t j else J) t (3, 0, 0) 2 = Int32.ofNat n := by
    rw [s_ef_t (by decide)]
    split
    · exact (f_pop_t (by decide)).trans hcn
    · exact hcn
  have b2 : Sim t b n (dU D t 0) (m_gb0 J t j (cd O t j)) (q_over (q_e0 I t j (cd O t j)) t b n 1 (q_ev I t j (cd O t j))) := by
    rw [ev]
    exact s2.over hcc r.qt.n3
  have b3 : m_gb0 J t j (cd O t j) (9, t, 0) 2 = Int32.ofNat 0 := by
    unfold m_gb0
    rw [end_9.1, s_ef_2]
    · split
      · rw [f_pop_t (by decide), hfc]; decide
      · rw [hfc]; decide
    · split
      · rw [f_pop_t (by decide), hfc]; decide
      · rw [hfc]; decide
  have hd2 : q_over (q_e0 I t j (cd O t j)) t b n 1 (q_ev I t j (cd O t j)) (14, t, 0) 2 = Int32.ofNat 0 := by
    rw [← b3]; exact (b2 (9, t, 0) 2 ((14, t, 0), 2) (by unfold mu; simp)).symm
  have r3 := r.rs hrr hd2 (by omega)
  have f3 := f.rs hrr (m' := 0) (by omega)
  exact ⟨_, O, live, 0, 0, _, P, lv, 0, 0, n, fn, 0, hP, hR, CP.rs h hjs gb0_3, r3, f3, b2, hjs.c.trans hcn, b3, hrr _ _ (by simp) (by simp) (by simp) (by simp), hrr _ _ (by simp) (by simp) (by simp) (by simp), BU.z, RK.rs hrr, by unfold PF; simp +decide only [if_true, if_false]; rw [if_pos hfc]⟩
theorem jo_22b {J I : jc_I} {O P : jc_O} {live lv : jc_L → Prop} {S : Int} {t n0 j i b n xt fn c9 : Nat} {K K' : List Int32} (h : CX J O live S t n0) (hj : j + 1 = n0) (tp : TP J t j (cd O t j) i K K') (r : RX I P lv t b n xt fn n0 c9) (f : FRc I P O t n0) (s : Sim t b n D J I) (hDn : D t = n0) (hcn : J (3, 0, 0) 2 = Int32.ofNat n) (ho : (bk J).op (cd O t j) i = 22) {l : Nat} (hn2 : n0 = l + 2) (hrs : 0 ≤ J (6, cd O t j, 0) 2) : OUT J O live I P lv t j b n xt fn c9 D S 22 ((bk J).an (cd O t j) i) := by
  have hD : j < D t := by omega
  obtain ⟨rb, qf9, eo, ea⟩ := RB.of h hj tp r f s
  obtain ⟨hT, hf, hd, hc, hin, hC, hn⟩ := h.top hj
  have eo2 : I (41, cd O t j, 0) i = 22 := eo.trans ho
  obtain ⟨q1, q2, q3, q4⟩ := q_bnd hD tp.tf.d tp.tf.le s
  have hp := tp.pi
  have hle := h.TH.le
  have hj1 : j = l + 1 := by omega
  have hres : I (11, cd O t j, 0) 1 = J (6, cd O t j, 0) 2 := (s (6, cd O t j, 0) 2 _ rfl).symm
  have hK : I (11, cd O t j, 0) 1 ≠ 0 → 1 ≤ I (12, t, j) 4 := fun g => by
    rcases tp.ret ho with ⟨_, hK⟩ | ⟨h0, _⟩
    · exact q1 (by rw [hK]; simp)
    · exact absurd (hres.trans h0) g
  have e1 := jofI (n := j) (by omega)
  have hef : ∀ X : jc_I, X (9, t, 0) 2 = J (9, t, 0) 2 → s_ef X t = jc_up X (9, t, 0) 2 (Int32.ofNat j) := by
    intro X hX
    unfold s_ef
    rw [hX, h.TH.fc, ← hj, jofs (by omega), if_neg (by rw [jlt, e1, j0I]; omega)]
  have hT2 : jw_top (s_ef J t) O t l := by
    rw [hef J rfl]
    refine ⟨h.st.2.1, ?_, ?_, ?_, (h.st.2.2 l (by omega)).1⟩
    · rw [jc_up_s, jle, e1, j1I]; omega
    · rw [jc_up_s, jle, e1, show (30 : Int32).toInt = 30 from by decide]; omega
    · rw [jc_up_s, hj1, jofs (by omega), jofN (by omega)]
  obtain ⟨K1, z1, z2, z3⟩ := mid_room h.TH (l := l) (by omega)
  rw [← hj1] at z3
  have z4 := jofI (n := K1.length) (by omega)
  have hlD : l < D t := by omega
  have hP := ct_M_perform_ret1 (live := live) (op := 22) (a := (bk J).an (cd O t j) i) hf hd hc (h.st.2.2 l (by omega)).2 hT2 rfl
  have hR := ct_m_step_22 rb.a1 rb.a2 rb.a3 rb.a4 rb.a5 rb.a6 rb.a7 rb.a8 (fun q h => h) (ct_m_ends_1 r.qt qf9 (f j (by omega)).1 hK q3 (r.fr l (by have := r.qt.mf; omega)) hn2 hj1 (fun g => by
    have := z3 (by rw [← hres]; exact g)
    rw [s.d hlD, z1, jle, jlt, z4, j0I, show (12 : Int32).toInt = 12 from by decide]
    omega) (by rw [hres]; exact hrs)) eo2
  have hjs := ret1_ty h.TH hj hj1.symm h.go tp h.C h.ho ho
  have hrr : rr t n0 I (q_e1 I t j l (cd O t j)) := by
    unfold q_e1
    refine rr.tr ?_ (rr_on (by omega))
    split
    · exact rr_e0 (by omega)
    · exact (rr_e0 (by omega)).tr (rr_psh (by omega))
  have sD := s.cut (m' := j) hDn (by omega)
  have hlt : ¬ j < dU D t j t := by rw [dU_s]; omega
  have hlt2 : l < dU D t j t := by rw [dU_s]; omega
  have b2 : Sim t b n (dU D t j) (m_gb1 J t j l (cd O t j)) (q_e1 I t j l (cd O t j)) := by
    unfold m_gb1 q_e1
    refine Sim.on ?_
    unfold q_e0
    rw [hres, r.qt.d, ← hj, jofs (by omega)]
    rcases tp.ret ho with ⟨h0, hK2⟩ | ⟨h0, _⟩
    · subst hK2
      rw [if_pos h0, if_neg h0, if_neg h0, hef _ (f_pop_t (by decide)), s.tp hD tp.tf.d tp.tf.le]
      have s3 : Sim t b n (dU D t j) (f_pop J t j) (q_pop I t j) := by unfold f_pop q_pop; exact (sD.upC (mu83n hlt)).upR (nu124n hlt)
      refine (s3.up (q := (9, t, 0)) (k := 2) (by unfold mu; simp)).psh hlt2 (K := K1) ?_ (z3 h0)
      rw [jc_up_t _ _ _ _ _ _ _ _ (by decide)]
      unfold f_pop
      rw [jc_up_q _ _ _ _ _ _ (by simp; omega)]
      exact z1
    · rw [if_neg (fun g => g h0), if_pos h0, if_pos h0, hef J rfl]
      exact sD.up (q := (9, t, 0)) (k := 2) (by unfold mu; simp)
  have b3 : m_gb1 J t j l (cd O t j) (9, t, 0) 2 = Int32.ofNat j := by
    unfold m_gb1 f_on
    rw [jc_up_t _ _ _ _ _ _ _ _ (by decide)]
    split
    · rw [psh_9, hef _ (f_pop_t (by decide)), jc_up_s]
    · rw [hef J rfl, jc_up_s]
  have hd2 : q_e1 I t j l (cd O t j) (14, t, 0) 2 = Int32.ofNat j := by
    rw [← b3]; exact (b2 (9, t, 0) 2 ((14, t, 0), 2) (by unfold mu; simp)).symm
  have r3 := r.rs hrr hd2 (by omega)
  have f3 := f.rs hrr (m' := j) (by omega)
  have hne : ¬ J (9, t, 0) 2 = 1 := fun g => by
    rw [h.TH.fc] at g
    have := congrArg Int32.toInt g
    rw [jofI (by omega), j1I] at this
    omega
  exact ⟨_, O, live, 0, 0, _, P, lv, 0, 0, n, fn, j, hP, hR, CP.rs h hjs gb1_3, r3, f3, b2, hjs.c.trans hcn, b3, hrr _ _ (by simp) (by simp) (by simp) (by simp), hrr _ _ (by simp) (by simp) (by simp) (by simp), BU.z, RK.rs hrr, by unfold PF; simp +decide only [if_true, if_false]; rw [if_neg hne, show j - 1 = l from by omega]⟩
