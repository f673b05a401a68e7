theorem jc_up_comm {f : jc_I} {q q' : jc_L} {k k' : Nat} {v v' : Int32} (h : ¬ (q = q' ∧ k = k')) : jc_up (jc_up f q k v) q' k' v' = jc_up (jc_up f q' k' v') q k v := by
  funext x y
  unfold jc_up
  by_cases h1 : x = q ∧ y = k
  · have h2 : ¬ (x = q' ∧ y = k') := fun g => h ⟨h1.1.symm.trans g.1, h1.2.symm.trans g.2⟩
    simp only [if_pos h1, if_neg h2]
  · simp only [if_neg h1]
theorem q_mon_eq {I : jc_I} {t j k : Nat} {d h : Int32} (hh : (if I (13, k, 0) 3 + d = 0 then -1 else I (14, t, 0) 0) = h) : q_mon I t j k d = jc_up (jc_up (jc_up (jc_up I (12, t, j) 4 (I (12, t, j) 4 - 1)) (13, k, 0) 2 h) (13, k, 0) 3 (I (13, k, 0) 3 + d)) (12, t, j) 5 (I (12, t, j) 5 + 1) := by
  unfold q_mon
  rw [hh]
  congr 1
  rw [jc_up_comm (q := (13, k, 0)) (k := 2) (q' := (12, t, j)) (k' := 4) (by simp)]
  rw [jc_up_comm (q := (13, k, 0)) (k := 3) (q' := (12, t, j)) (k' := 4) (by simp)]
  rw [jc_up_comm (q := (13, k, 0)) (k := 3) (q' := (13, k, 0)) (k' := 2) (by simp)]
theorem rl_mon {I : jc_I} {t j k : Nat} {d : Int32} : rl t j I (q_mon I t j k d) := (((rl.ob (Or.inl rfl)).tr (rl.ob (Or.inl rfl))).tr rl.u4).tr rl.u5
theorem jo_20 {D : Nat → Nat} {J I : jc_I} {O P : jc_O} {live lv : jc_L → Prop} {S : Int} {t n0 j i b n xt fn c9 : Nat} {K K' : List Int32} (h : CX J O live S t n0) (hj : j + 1 = n0) (tp : TP J t j (cd O t j) i K K') (r : RX I P lv t b n xt fn n0 c9) (f : FRc I P O t n0) (s : Sim t b n D J I) (hDn : D t = n0) (hcn : J (3, 0, 0) 2 = Int32.ofNat n) (ho : (bk J).op (cd O t j) i = 20) (hz : m_nf J (f_pk J t j 0) = 0) (hfree : J (7, (f_pk J t j 0 - 1).toNatClampNeg, 0) 2 = -1 ∨ J (7, (f_pk J t j 0 - 1).toNatClampNeg, 0) 2 = J (9, t, 0) 0) : OUT J O live I P lv t j b n xt fn c9 D S 20 ((bk J).an (cd O t j) i) := by
  have hD : j < D t := by omega
  obtain ⟨rb, qf9, eo, ea⟩ := RB.of h hj tp r f s
  obtain ⟨hT, hf, hd, hc, hin, hC, hn⟩ := h.top hj
  have eo2 : I (41, cd O t j, 0) i = 20 := eo.trans ho
  obtain ⟨q1, q2, q3, q4⟩ := q_bnd hD tp.tf.d tp.tf.le s
  have hl : ¬ p_lst ((bk J).op (cd O t j) i) := by rw [ho]; exact nl (by decide) (by decide) (by decide)
  have hp := tp.pi
  rw [ho, p_ins_20] at hp
  obtain ⟨e1, -⟩ := p_take_some hp
  subst e1
  obtain ⟨p1, p2⟩ := TF.pop tp.tf
  have hx := m_nf0 hz
  rw [n_pk tp.tf.d tp.tf.le, ← n_tp tp.tf.d tp.tf.le] at hx hfree
  obtain ⟨k1, k2⟩ := ob_k hcn r.qt.n3 hx
  have s2 := s (7, (f_tp J t j - 1).toNatClampNeg, 0) 2 _ (mu72 k1)
  have s3 := s (7, (f_tp J t j - 1).toNatClampNeg, 0) 3 _ (mu73 k1)
  have s9 : J (9, t, 0) 0 = I (14, t, 0) 0 := s (9, t, 0) 0 _ rfl
  have hnum : J (9, t, 0) 0 ≠ -1 := by
    rw [h.nu]
    intro g
    have := congrArg Int32.toInt g
    have h8 := h.t8
    rw [jofI (by omega), show (-1 : Int32).toInt = -1 from by decide] at this
    omega
  have hth := h.ho.th _ k2
  have hle9 := tp.tf.le
  have hle9 : K'.length + 1 ≤ 12 := hle9
  have hP := ct_M_perform_use (live := live) (c := 0) (op := 20) (a := (bk J).an (cd O t j) i) h.M h.H hf hd (by decide)
  have eu : u_th J t j 20 ((bk J).an (cd O t j) i) = jc_up (jc_up (f_pop J t j) (7, (f_tp J t j - 1).toNatClampNeg, 0) 2 (J (9, t, 0) 0)) (7, (f_tp J t j - 1).toNatClampNeg, 0) 3 (J (7, (f_tp J t j - 1).toNatClampNeg, 0) 3 + 1) := by
    unfold u_th t_en
    simp +decide only [if_true, if_false]
    rw [f_pop_t (by decide), if_pos hx, f_pop_t (by decide), f_pop_t (by decide)]
  have hho : HO (u_th J t j 20 ((bk J).an (cd O t j) i)) (S + 1) := by
    have := (h.ho.fl (fl_pop (t := t) (j := j))).en (x := J (9, t, 0) 0) (by rw [f_pop_t (by decide)]; exact k2) hnum h.s0 (by have := h.s1; omega)
    unfold t_en at this
    rw [f_pop_t (by decide)] at this
    rw [eu]
    exact this
  have hnz : J (7, (f_tp J t j - 1).toNatClampNeg, 0) 3 + 1 ≠ 0 := by
    intro g
    have h1 := h.s1
    have e5 : (J (7, (f_tp J t j - 1).toNatClampNeg, 0) 3 + 1).toInt = (J (7, (f_tp J t j - 1).toNatClampNeg, 0) 3).toInt + 1 := jI1 (by
      rw [jlt, show (2147483647 : Int32).toInt = 2147483647 from by decide]
      rcases hth with ⟨_, g⟩ | ⟨_, g1, g2⟩
      · rw [g, j0I]; omega
      · omega)
    rw [g, j0I] at e5
    rcases hth with ⟨_, g⟩ | ⟨_, g1, g2⟩
    · rw [g, j0I] at e5; omega
    · omega
  have hR := ct_m_step_20 rb.a1 rb.a2 rb.a3 rb.a4 rb.a5 rb.a6 rb.a7 rb.a8 (fun q h => h) (ct_m_monitor_e r.qt qf9 (q1 (by simp)) q3 (by rw [s.tp hD tp.tf.d tp.tf.le]; exact hx.1) (by rw [s.tp hD tp.tf.d tp.tf.le]; exact k1) eo2 (by
    rw [s.tp hD tp.tf.d tp.tf.le, ← s2, ← s3, ← s9]
    rintro ⟨g1, g2⟩
    rcases hfree with e | e
    · rcases hth with ⟨_, e3⟩ | ⟨e3, _⟩
      · rw [e3] at g1; exact absurd g1 (by decide)
      · exact e3 e
    · exact g2 e)) (Or.inl eo2)
  rw [s.tp hD tp.tf.d tp.tf.le] at hR
  have hsm : Sim t b n D (f_on (u_th J t j 20 ((bk J).an (cd O t j) i)) t j) (q_mon I t j (b + (f_tp J t j - 1).toNatClampNeg) 1) := by
    rw [q_mon_eq (h := J (9, t, 0) 0) (by rw [← s3, if_neg hnz, s9]), eu]
    unfold f_on
    rw [jc_up_t _ _ _ _ _ _ _ _ (by decide), jc_up_t _ _ _ _ _ _ _ _ (by decide), pop4, n_pop tp.tf.d tp.tf.le, s.at, s.d hD, tp.tf.d, List.length_cons, jofs (by omega), ← s3]
    exact (((s.up (q := (8, t, j)) (k := 3) (mu83 hD)).up (mu72 k1)).up (mu73 k1)).up (q := (8, t, j)) (k := 4) rfl
  refine OUT.loc h hj r f hcn hP hR (jLS.heap tp h.C hl fl_pop pop4 p1 (fun q k h7 _ _ _ => ?_) (fun x hx9 => ?_) hho) (by omega) ?_ rl_mon hsm hDn (by unfold PF; simp +decide only [if_true, if_false])
  · rw [eu]
    have hq : q ≠ (7, (f_tp J t j - 1).toNatClampNeg, 0) := fun g => h7 (by rw [g])
    rw [jc_up_q _ _ _ _ _ _ hq, jc_up_q _ _ _ _ _ _ hq]
  · unfold jV at *; rw [eu, jc_up_t _ _ _ _ _ _ _ _ (by decide), jc_up_t _ _ _ _ _ _ _ _ (by decide)]; exact hx9
  · rw [(fl_on (t := t) (j := j)).o (by decide) (by decide) (by decide), eu, jc_up_t _ _ _ _ _ _ _ _ (by decide), jc_up_t _ _ _ _ _ _ _ _ (by decide)]; exact flc (t := t) (j := j) fl_pop
theorem jo_21 {D : Nat → Nat} {J I : jc_I} {O P : jc_O} {live lv : jc_L → Prop} {S : Int} {t n0 j i b n xt fn c9 : Nat} {K K' : List Int32} (h : CX J O live S t n0) (hj : j + 1 = n0) (tp : TP J t j (cd O t j) i K K') (r : RX I P lv t b n xt fn n0 c9) (f : FRc I P O t n0) (s : Sim t b n D J I) (hDn : D t = n0) (hcn : J (3, 0, 0) 2 = Int32.ofNat n) (ho : (bk J).op (cd O t j) i = 21) (hx : 1 ≤ f_pk J t j 0 ∧ f_pk J t j 0 ≤ J (3, 0, 0) 2) (hmine : J (7, (f_pk J t j 0 - 1).toNatClampNeg, 0) 2 = J (9, t, 0) 0) : OUT J O live I P lv t j b n xt fn c9 D S 21 ((bk J).an (cd O t j) i) := by
  have hD : j < D t := by omega
  obtain ⟨rb, qf9, eo, ea⟩ := RB.of h hj tp r f s
  obtain ⟨hT, hf, hd, hc, hin, hC, hn⟩ := h.top hj
  have eo2 : I (41, cd O t j, 0) i = 21 := eo.trans ho
  obtain ⟨q1, q2, q3, q4⟩ := q_bnd hD tp.tf.d tp.tf.le s
  have hl : ¬ p_lst ((bk J).op (cd O t j) i) := by rw [ho]; exact nl (by decide) (by decide) (by decide)
  have hp := tp.pi
  rw [ho, p_ins_21] at hp
  obtain ⟨e1, -⟩ := p_take_some hp
  subst e1
  obtain ⟨p1, p2⟩ := TF.pop tp.tf
  rw [n_pk tp.tf.d tp.tf.le, ← n_tp tp.tf.d tp.tf.le] at hx hmine
  obtain ⟨k1, k2⟩ := ob_k hcn r.qt.n3 hx
  have s2 := s (7, (f_tp J t j - 1).toNatClampNeg, 0) 2 _ (mu72 k1)
  have s3 := s (7, (f_tp J t j - 1).toNatClampNeg, 0) 3 _ (mu73 k1)
  have s9 : J (9, t, 0) 0 = I (14, t, 0) 0 := s (9, t, 0) 0 _ rfl
  have hnum : J (9, t, 0) 0 ≠ -1 := by
    rw [h.nu]
    intro g
    have := congrArg Int32.toInt g
    have h8 := h.t8
    rw [jofI (by omega), show (-1 : Int32).toInt = -1 from by decide] at this
    omega
  have hth := h.ho.th _ k2
  have hle9 := tp.tf.le
  have hle9 : K'.length + 1 ≤ 12 := hle9
  have hP := ct_M_perform_use (live := live) (c := 0) (op := 21) (a := (bk J).an (cd O t j) i) h.M h.H hf hd (by decide)
  have hm1 : J (7, (f_tp J t j - 1).toNatClampNeg, 0) 2 ≠ -1 := by rw [hmine]; exact hnum
  have hth1 := hth.resolve_left (fun g => hm1 g.1)
  have eu : u_th J t j 21 ((bk J).an (cd O t j) i) = jc_up (jc_up (f_pop J t j) (7, (f_tp J t j - 1).toNatClampNeg, 0) 2 (if J (7, (f_tp J t j - 1).toNatClampNeg, 0) 3 - 1 = 0 then -1 else J (7, (f_tp J t j - 1).toNatClampNeg, 0) 2)) (7, (f_tp J t j - 1).toNatClampNeg, 0) 3 (J (7, (f_tp J t j - 1).toNatClampNeg, 0) 3 + -1) := by
    have e6 := t_lv_n (J := f_pop J t j) (k := (f_tp J t j - 1).toNatClampNeg) (h.ho.fl fl_pop) (by rw [f_pop_t (by decide)]; exact k2) (by rw [f_pop_t (by decide)]; exact hm1)
    rw [f_pop_t (by decide), f_pop_t (by decide)] at e6
    unfold u_th
    simp +decide only [if_true, if_false]
    rw [f_pop_t (by decide), if_pos hx, e6, ← Int32.sub_eq_add_neg (J (7, (f_tp J t j - 1).toNatClampNeg, 0) 3) 1]
  have hho : HO (u_th J t j 21 ((bk J).an (cd O t j) i)) (S + 1) := by
    have e7 := (h.ho.fl (fl_pop (t := t) (j := j))).lv (k := (f_tp J t j - 1).toNatClampNeg) (by rw [f_pop_t (by decide)]; exact k2) (by rw [f_pop_t (by decide)]; exact hm1)
    have e6 : u_th J t j 21 ((bk J).an (cd O t j) i) = t_lv (f_pop J t j) (f_tp J t j - 1).toNatClampNeg := by
      unfold u_th
      simp +decide only [if_true, if_false]
      rw [f_pop_t (by decide), if_pos hx]
    rw [e6]
    exact e7.mono (by omega)
  have hR := ct_m_step_20 rb.a1 rb.a2 rb.a3 rb.a4 rb.a5 rb.a6 rb.a7 rb.a8 (fun q h => h) (ct_m_monitor_l r.qt qf9 (q1 (by simp)) q3 (by rw [s.tp hD tp.tf.d tp.tf.le]; exact hx.1) (by rw [s.tp hD tp.tf.d tp.tf.le]; exact k1) eo2 (by
    rw [s.tp hD tp.tf.d tp.tf.le, ← s2, ← s3, ← s9]
    rintro (⟨g1, g2⟩ | g)
    · exact g2 hmine
    · have := hth1.2.1
      rw [g, j0I] at this
      omega)) (Or.inr eo2)
  rw [s.tp hD tp.tf.d tp.tf.le] at hR
  have hsm : Sim t b n D (f_on (u_th J t j 21 ((bk J).an (cd O t j) i)) t j) (q_mon I t j (b + (f_tp J t j - 1).toNatClampNeg) (-1)) := by
    rw [q_mon_eq (h := (if J (7, (f_tp J t j - 1).toNatClampNeg, 0) 3 - 1 = 0 then -1 else J (7, (f_tp J t j - 1).toNatClampNeg, 0) 2)) (by rw [← s3, ← Int32.sub_eq_add_neg, ← s9, hmine]), eu]
    unfold f_on
    rw [jc_up_t _ _ _ _ _ _ _ _ (by decide), jc_up_t _ _ _ _ _ _ _ _ (by decide), pop4, n_pop tp.tf.d tp.tf.le, s.at, s.d hD, tp.tf.d, List.length_cons, jofs (by omega), ← s3]
    exact (((s.up (q := (8, t, j)) (k := 3) (mu83 hD)).up (mu72 k1)).up (mu73 k1)).up (q := (8, t, j)) (k := 4) rfl
  refine OUT.loc h hj r f hcn hP hR (jLS.heap tp h.C hl fl_pop pop4 p1 (fun q k h7 _ _ _ => ?_) (fun x hx9 => ?_) hho) (by omega) ?_ rl_mon hsm hDn (by unfold PF; simp +decide only [if_true, if_false])
  · rw [eu]
    have hq : q ≠ (7, (f_tp J t j - 1).toNatClampNeg, 0) := fun g => h7 (by rw [g])
    rw [jc_up_q _ _ _ _ _ _ hq, jc_up_q _ _ _ _ _ _ hq]
  · unfold jV at *; rw [eu, jc_up_t _ _ _ _ _ _ _ _ (by decide), jc_up_t _ _ _ _ _ _ _ _ (by decide)]; exact hx9
  · rw [(fl_on (t := t) (j := j)).o (by decide) (by decide) (by decide), eu, jc_up_t _ _ _ _ _ _ _ _ (by decide), jc_up_t _ _ _ _ _ _ _ _ (by decide)]; exact flc (t := t) (j := j) fl_pop
