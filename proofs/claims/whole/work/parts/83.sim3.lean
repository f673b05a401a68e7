theorem OUT.loc {D : Nat → Nat} {J I J' I' : jc_I} {O P : jc_O} {live lv : jc_L → Prop} {S S' : Int} {t n0 j b n xt fn c9 : Nat} {op a : Int32} (h : CX J O live S t n0) (hj : j + 1 = n0) (r : RX I P lv t b n xt fn n0 c9) (f : FRc I P O t n0) (hcn : J (3, 0, 0) 2 = Int32.ofNat n)
    (hP : jc_Ct y_M_perform [.inr (some (4, 0, 0)), .inr (some (9, t, 0)), .inr (some (8, t, j)), .inl op, .inl a] J O live (none, J', O, live, 0, 0)) (hR : jc_Ct y_m_step [.inr (some (10, 0, 0)), .inr (some (14, t, 0))] I P lv (none, I', P, lv, 0, 0))
    (l : jLS J J' t j (cd O t j) S') (hs : S' ≤ S + 1) (hc : J' (3, 0, 0) 2 = J (3, 0, 0) 2) (e : rl t j I I') (sm : Sim t b n D J' I') (hDn : D t = n0) (hpf : PF J O live t j (cd O t j) op a = (J', O, live, 0, 0)) : OUT J O live I P lv t j b n xt fn c9 D S op a := by
  have e14 : ∀ k, I' (14, t, 0) k = I (14, t, 0) k := fun k => e _ _ (by simp) (by simp) (by simp) (by simp) (by simp) (by simp)
  have e9 : J' (9, t, 0) 2 = J (9, t, 0) 2 := l.h _ _ (by simp) (by simp) (by simp) (by simp) (by simp) (by simp) (by simp)
  exact ⟨J', O, live, 0, 0, I', P, lv, 0, 0, n, fn, n0, hP, hR, CP.loc h hj l hs hc, r.loc (j := j) (by omega) e, f.loc e, by rw [dU_e hDn]; exact sm, hc.trans hcn, e9.trans h.TH.fc, e14 3, e14 6, BU.z, RK.loc e, hpf⟩
theorem flc {t j : Nat} {J J' : jc_I} (h : fl t j J J') : J' (3, 0, 0) 2 = J (3, 0, 0) 2 := h.o (by decide) (by decide) (by decide)
theorem jo_11 {D : Nat → Nat} {J I : jc_I} {O P : jc_O} {live lv : jc_L → Prop} {S : Int} {t n0 j i b n xt fn c9 : Nat} {K K' : List Int32} (h : CX J O live S t n0) (hj : j + 1 = n0) (tp : TP J t j (cd O t j) i K K') (r : RX I P lv t b n xt fn n0 c9) (f : FRc I P O t n0) (s : Sim t b n D J I) (hDn : D t = n0) (hcn : J (3, 0, 0) 2 = Int32.ofNat n) (ho : (bk J).op (cd O t j) i = 11) : OUT J O live I P lv t j b n xt fn c9 D S 11 ((bk J).an (cd O t j) i) := by
  have hD : j < D t := by omega
  obtain ⟨rb, qf9, eo, ea⟩ := RB.of h hj tp r f s
  obtain ⟨hT, hf, hd, hc, hin, hC, hn⟩ := h.top hj
  have eo2 : I (41, cd O t j, 0) i = 11 := eo.trans ho
  have hR := ct_m_step_11 rb.a1 rb.a2 rb.a3 rb.a4 rb.a5 rb.a6 rb.a7 rb.a8 eo2
  rw [ea] at hR
  exact OUT.loc h hj r f hcn (ct_M_perform_jump (c := 0) rfl) hR (ls_jump tp h.C h.ho ho) (by omega) (flc (t := t) (j := j) fl.u8) rl.u5 s.goto hDn (by unfold PF; simp +decide only [if_true, if_false])
theorem jo_12 {D : Nat → Nat} {J I : jc_I} {O P : jc_O} {live lv : jc_L → Prop} {S : Int} {t n0 j i b n xt fn c9 : Nat} {K K' : List Int32} (h : CX J O live S t n0) (hj : j + 1 = n0) (tp : TP J t j (cd O t j) i K K') (r : RX I P lv t b n xt fn n0 c9) (f : FRc I P O t n0) (s : Sim t b n D J I) (hDn : D t = n0) (hcn : J (3, 0, 0) 2 = Int32.ofNat n) (ho : (bk J).op (cd O t j) i = 12) : OUT J O live I P lv t j b n xt fn c9 D S 12 ((bk J).an (cd O t j) i) := by
  have hD : j < D t := by omega
  obtain ⟨rb, qf9, eo, ea⟩ := RB.of h hj tp r f s
  obtain ⟨hT, hf, hd, hc, hin, hC, hn⟩ := h.top hj
  have eo2 : I (41, cd O t j, 0) i = 12 := eo.trans ho
  have hp := tp.pi
  rw [ho, p_ins_12] at hp
  obtain ⟨y, b1, b2⟩ := bind_some hp
  obtain ⟨e4, -⟩ := p_take_some b1
  subst e4
  obtain ⟨q1, q2, q3, q4⟩ := q_bnd hD tp.tf.d tp.tf.le s
  have hR := ct_m_step_12 rb.a1 rb.a2 rb.a3 rb.a4 rb.a5 rb.a6 rb.a7 rb.a8 qf9 (q1 (by simp)) q3 (by exact Or.inl eo2)
  rw [ea, s.tp hD tp.tf.d tp.tf.le, (s.pop hD tp.tf.d tp.tf.le).at] at hR
  exact OUT.loc h hj r f hcn (ct_M_perform_zero (c := 0) hf hd (by decide)) hR (ls_zero tp h.C h.ho (by exact Or.inl ho)) (by omega) (flc (t := t) (j := j) (fl_pop.tr fl.u8)) (rl_pop.tr rl.u5) ((s.pop hD tp.tf.d tp.tf.le).goto) hDn (by unfold PF; simp +decide only [if_true, if_false])
theorem jo_13 {D : Nat → Nat} {J I : jc_I} {O P : jc_O} {live lv : jc_L → Prop} {S : Int} {t n0 j i b n xt fn c9 : Nat} {K K' : List Int32} (h : CX J O live S t n0) (hj : j + 1 = n0) (tp : TP J t j (cd O t j) i K K') (r : RX I P lv t b n xt fn n0 c9) (f : FRc I P O t n0) (s : Sim t b n D J I) (hDn : D t = n0) (hcn : J (3, 0, 0) 2 = Int32.ofNat n) (ho : (bk J).op (cd O t j) i = 13) : OUT J O live I P lv t j b n xt fn c9 D S 13 ((bk J).an (cd O t j) i) := by
  have hD : j < D t := by omega
  obtain ⟨rb, qf9, eo, ea⟩ := RB.of h hj tp r f s
  obtain ⟨hT, hf, hd, hc, hin, hC, hn⟩ := h.top hj
  have eo2 : I (41, cd O t j, 0) i = 13 := eo.trans ho
  have hp := tp.pi
  rw [ho, p_ins_13] at hp
  obtain ⟨y, b1, b2⟩ := bind_some hp
  obtain ⟨e4, -⟩ := p_take_some b1
  subst e4
  obtain ⟨q1, q2, q3, q4⟩ := q_bnd hD tp.tf.d tp.tf.le s
  have hR := ct_m_step_12 rb.a1 rb.a2 rb.a3 rb.a4 rb.a5 rb.a6 rb.a7 rb.a8 qf9 (q1 (by simp)) q3 (by exact Or.inr eo2)
  rw [ea, s.tp hD tp.tf.d tp.tf.le, (s.pop hD tp.tf.d tp.tf.le).at] at hR
  exact OUT.loc h hj r f hcn (ct_M_perform_zero (c := 0) hf hd (by decide)) hR (ls_zero tp h.C h.ho (by exact Or.inr ho)) (by omega) (flc (t := t) (j := j) (fl_pop.tr fl.u8)) (rl_pop.tr rl.u5) ((s.pop hD tp.tf.d tp.tf.le).goto) hDn (by unfold PF; simp +decide only [if_true, if_false])
theorem jo_4 {D : Nat → Nat} {J I : jc_I} {O P : jc_O} {live lv : jc_L → Prop} {S : Int} {t n0 j i b n xt fn c9 : Nat} {K K' : List Int32} (h : CX J O live S t n0) (hj : j + 1 = n0) (tp : TP J t j (cd O t j) i K K') (r : RX I P lv t b n xt fn n0 c9) (f : FRc I P O t n0) (s : Sim t b n D J I) (hDn : D t = n0) (hcn : J (3, 0, 0) 2 = Int32.ofNat n) (ho : (bk J).op (cd O t j) i = 4) : OUT J O live I P lv t j b n xt fn c9 D S 4 ((bk J).an (cd O t j) i) := by
  have hD : j < D t := by omega
  obtain ⟨rb, qf9, eo, ea⟩ := RB.of h hj tp r f s
  obtain ⟨hT, hf, hd, hc, hin, hC, hn⟩ := h.top hj
  have eo2 : I (41, cd O t j, 0) i = 4 := eo.trans ho
  have ho5 : (bk J).op (cd O t j) i = 4 ∨ (bk J).op (cd O t j) i = 5 ∨ (bk J).op (cd O t j) i = 6 ∨ (bk J).op (cd O t j) i = 7 ∨ (bk J).op (cd O t j) i = 8 := Or.inl ho
  obtain ⟨⟨K0, e4, e5⟩, -⟩ := ls_arith (x := 0) tp h.C h.ho ho5
  subst e4
  obtain ⟨q1, q2, q3, q4⟩ := q_bnd hD tp.tf.d tp.tf.le s
  have p1 := (TF.pop tp.tf).1
  have p2 := (TF.pop p1).1
  have s1 := s.pop hD tp.tf.d tp.tf.le
  have s2 := s1.pop hD p1.d p1.le
  have h2 : 2 ≤ I (12, t, j) 4 := by
    have e1 := jofI (n := K0.length + 1 + 1) (by omega)
    rw [s.d hD, tp.tf.d, List.length_cons, List.length_cons, jle, e1, show (2 : Int32).toInt = 2 from by decide]
    omega
  have hR := ct_m_step_pl rb.a1 rb.a2 rb.a3 rb.a4 rb.a5 rb.a6 rb.a7 rb.a8 (fun q h => h) (ct_m_plain_4 r.qt qf9 h2 q3 eo2) (by clear rb r f s h tp hT hf hd hC hn; rw [eo2]; decide)
  rw [s.tp hD tp.tf.d tp.tf.le, s1.tp hD p1.d p1.le] at hR
  have hP := ct_M_perform_arith (live := live) (c := 0) (I := J) (a := (bk J).an (cd O t j) i) hf hd (op := 4) (by decide)
  have ecp : m_cp 4 (f_tp (f_pop J t j) t j) (f_tp J t j) = f_tp (f_pop J t j) t j + f_tp J t j := by
    unfold m_cp
    simp +decide only [if_true, if_false]

  rw [ecp] at hP
  exact OUT.loc h hj r f hcn hP hR (ls_arith tp h.C h.ho ho5).2 (by omega) (flc (t := t) (j := j) (((fl_pop.tr fl_pop).tr fl_psh).tr fl_on)) (((rl_pop.tr rl_pop).tr rl_psh).tr rl_on) ((s2.psh hD p2.d e5).on) hDn (by unfold PF; simp +decide only [if_true, if_false]; rw [ecp])
theorem jo_5 {D : Nat → Nat} {J I : jc_I} {O P : jc_O} {live lv : jc_L → Prop} {S : Int} {t n0 j i b n xt fn c9 : Nat} {K K' : List Int32} (h : CX J O live S t n0) (hj : j + 1 = n0) (tp : TP J t j (cd O t j) i K K') (r : RX I P lv t b n xt fn n0 c9) (f : FRc I P O t n0) (s : Sim t b n D J I) (hDn : D t = n0) (hcn : J (3, 0, 0) 2 = Int32.ofNat n) (ho : (bk J).op (cd O t j) i = 5) : OUT J O live I P lv t j b n xt fn c9 D S 5 ((bk J).an (cd O t j) i) := by
  have hD : j < D t := by omega
  obtain ⟨rb, qf9, eo, ea⟩ := RB.of h hj tp r f s
  obtain ⟨hT, hf, hd, hc, hin, hC, hn⟩ := h.top hj
  have eo2 : I (41, cd O t j, 0) i = 5 := eo.trans ho
  have ho5 : (bk J).op (cd O t j) i = 4 ∨ (bk J).op (cd O t j) i = 5 ∨ (bk J).op (cd O t j) i = 6 ∨ (bk J).op (cd O t j) i = 7 ∨ (bk J).op (cd O t j) i = 8 := Or.inr (Or.inl ho)
  obtain ⟨⟨K0, e4, e5⟩, -⟩ := ls_arith (x := 0) tp h.C h.ho ho5
  subst e4
  obtain ⟨q1, q2, q3, q4⟩ := q_bnd hD tp.tf.d tp.tf.le s
  have p1 := (TF.pop tp.tf).1
  have p2 := (TF.pop p1).1
  have s1 := s.pop hD tp.tf.d tp.tf.le
  have s2 := s1.pop hD p1.d p1.le
  have h2 : 2 ≤ I (12, t, j) 4 := by
    have e1 := jofI (n := K0.length + 1 + 1) (by omega)
    rw [s.d hD, tp.tf.d, List.length_cons, List.length_cons, jle, e1, show (2 : Int32).toInt = 2 from by decide]
    omega
  have hR := ct_m_step_pl rb.a1 rb.a2 rb.a3 rb.a4 rb.a5 rb.a6 rb.a7 rb.a8 (fun q h => h) (ct_m_plain_5 r.qt qf9 h2 q3 eo2) (by clear rb r f s h tp hT hf hd hC hn; rw [eo2]; decide)
  rw [s.tp hD tp.tf.d tp.tf.le, s1.tp hD p1.d p1.le] at hR
  have hP := ct_M_perform_arith (live := live) (c := 0) (I := J) (a := (bk J).an (cd O t j) i) hf hd (op := 5) (by decide)
  have ecp : m_cp 5 (f_tp (f_pop J t j) t j) (f_tp J t j) = f_tp (f_pop J t j) t j - f_tp J t j := by
    unfold m_cp
    simp +decide only [if_true, if_false]

  rw [ecp] at hP
  exact OUT.loc h hj r f hcn hP hR (ls_arith tp h.C h.ho ho5).2 (by omega) (flc (t := t) (j := j) (((fl_pop.tr fl_pop).tr fl_psh).tr fl_on)) (((rl_pop.tr rl_pop).tr rl_psh).tr rl_on) ((s2.psh hD p2.d e5).on) hDn (by unfold PF; simp +decide only [if_true, if_false]; rw [ecp])
theorem jo_6 {D : Nat → Nat} {J I : jc_I} {O P : jc_O} {live lv : jc_L → Prop} {S : Int} {t n0 j i b n xt fn c9 : Nat} {K K' : List Int32} (h : CX J O live S t n0) (hj : j + 1 = n0) (tp : TP J t j (cd O t j) i K K') (r : RX I P lv t b n xt fn n0 c9) (f : FRc I P O t n0) (s : Sim t b n D J I) (hDn : D t = n0) (hcn : J (3, 0, 0) 2 = Int32.ofNat n) (ho : (bk J).op (cd O t j) i = 6) : OUT J O live I P lv t j b n xt fn c9 D S 6 ((bk J).an (cd O t j) i) := by
  have hD : j < D t := by omega
  obtain ⟨rb, qf9, eo, ea⟩ := RB.of h hj tp r f s
  obtain ⟨hT, hf, hd, hc, hin, hC, hn⟩ := h.top hj
  have eo2 : I (41, cd O t j, 0) i = 6 := eo.trans ho
  have ho5 : (bk J).op (cd O t j) i = 4 ∨ (bk J).op (cd O t j) i = 5 ∨ (bk J).op (cd O t j) i = 6 ∨ (bk J).op (cd O t j) i = 7 ∨ (bk J).op (cd O t j) i = 8 := Or.inr (Or.inr (Or.inl ho))
  obtain ⟨⟨K0, e4, e5⟩, -⟩ := ls_arith (x := 0) tp h.C h.ho ho5
  subst e4
  obtain ⟨q1, q2, q3, q4⟩ := q_bnd hD tp.tf.d tp.tf.le s
  have p1 := (TF.pop tp.tf).1
  have p2 := (TF.pop p1).1
  have s1 := s.pop hD tp.tf.d tp.tf.le
  have s2 := s1.pop hD p1.d p1.le
  have h2 : 2 ≤ I (12, t, j) 4 := by
    have e1 := jofI (n := K0.length + 1 + 1) (by omega)
    rw [s.d hD, tp.tf.d, List.length_cons, List.length_cons, jle, e1, show (2 : Int32).toInt = 2 from by decide]
    omega
  have hR := ct_m_step_pl rb.a1 rb.a2 rb.a3 rb.a4 rb.a5 rb.a6 rb.a7 rb.a8 (fun q h => h) (ct_m_plain_6 r.qt qf9 h2 q3 eo2) (by clear rb r f s h tp hT hf hd hC hn; rw [eo2]; decide)
  rw [s.tp hD tp.tf.d tp.tf.le, s1.tp hD p1.d p1.le] at hR
  have hP := ct_M_perform_arith (live := live) (c := 0) (I := J) (a := (bk J).an (cd O t j) i) hf hd (op := 6) (by decide)
  have ecp : m_cp 6 (f_tp (f_pop J t j) t j) (f_tp J t j) = f_tp (f_pop J t j) t j * f_tp J t j := by
    unfold m_cp
    simp +decide only [if_true, if_false]

  rw [ecp] at hP
  exact OUT.loc h hj r f hcn hP hR (ls_arith tp h.C h.ho ho5).2 (by omega) (flc (t := t) (j := j) (((fl_pop.tr fl_pop).tr fl_psh).tr fl_on)) (((rl_pop.tr rl_pop).tr rl_psh).tr rl_on) ((s2.psh hD p2.d e5).on) hDn (by unfold PF; simp +decide only [if_true, if_false]; rw [ecp])
theorem jo_7 {D : Nat → Nat} {J I : jc_I} {O P : jc_O} {live lv : jc_L → Prop} {S : Int} {t n0 j i b n xt fn c9 : Nat} {K K' : List Int32} (h : CX J O live S t n0) (hj : j + 1 = n0) (tp : TP J t j (cd O t j) i K K') (r : RX I P lv t b n xt fn n0 c9) (f : FRc I P O t n0) (s : Sim t b n D J I) (hDn : D t = n0) (hcn : J (3, 0, 0) 2 = Int32.ofNat n) (ho : (bk J).op (cd O t j) i = 7) (hz : f_pk J t j 0 ≠ 0) : OUT J O live I P lv t j b n xt fn c9 D S 7 ((bk J).an (cd O t j) i) := by
  have hD : j < D t := by omega
  obtain ⟨rb, qf9, eo, ea⟩ := RB.of h hj tp r f s
  obtain ⟨hT, hf, hd, hc, hin, hC, hn⟩ := h.top hj
  have eo2 : I (41, cd O t j, 0) i = 7 := eo.trans ho
  have ho5 : (bk J).op (cd O t j) i = 4 ∨ (bk J).op (cd O t j) i = 5 ∨ (bk J).op (cd O t j) i = 6 ∨ (bk J).op (cd O t j) i = 7 ∨ (bk J).op (cd O t j) i = 8 := Or.inr (Or.inr (Or.inr (Or.inl ho)))
  obtain ⟨⟨K0, e4, e5⟩, -⟩ := ls_arith (x := 0) tp h.C h.ho ho5
  subst e4
  obtain ⟨q1, q2, q3, q4⟩ := q_bnd hD tp.tf.d tp.tf.le s
  have p1 := (TF.pop tp.tf).1
  have p2 := (TF.pop p1).1
  have s1 := s.pop hD tp.tf.d tp.tf.le
  have s2 := s1.pop hD p1.d p1.le
  have h2 : 2 ≤ I (12, t, j) 4 := by
    have e1 := jofI (n := K0.length + 1 + 1) (by omega)
    rw [s.d hD, tp.tf.d, List.length_cons, List.length_cons, jle, e1, show (2 : Int32).toInt = 2 from by decide]
    omega
  have hR := ct_m_step_pl rb.a1 rb.a2 rb.a3 rb.a4 rb.a5 rb.a6 rb.a7 rb.a8 (fun q h => h) (ct_m_plain_7 r.qt qf9 h2 q3 (by rw [s.tp hD tp.tf.d tp.tf.le, n_tp tp.tf.d tp.tf.le, ← n_pk tp.tf.d tp.tf.le]; exact hz) eo2) (by clear rb r f s h tp hT hf hd hC hn; rw [eo2]; decide)
  rw [s.tp hD tp.tf.d tp.tf.le, s1.tp hD p1.d p1.le] at hR
  have hP := ct_M_perform_arith (live := live) (c := 0) (I := J) (a := (bk J).an (cd O t j) i) hf hd (op := 7) (by decide)
  have ecp : m_cp 7 (f_tp (f_pop J t j) t j) (f_tp J t j) = f_tp (f_pop J t j) t j / f_tp J t j := by
    unfold m_cp
    simp +decide only [if_true, if_false]
    exact if_neg (by rw [n_tp tp.tf.d tp.tf.le, ← n_pk tp.tf.d tp.tf.le]; exact hz)
  rw [ecp] at hP
  exact OUT.loc h hj r f hcn hP hR (ls_arith tp h.C h.ho ho5).2 (by omega) (flc (t := t) (j := j) (((fl_pop.tr fl_pop).tr fl_psh).tr fl_on)) (((rl_pop.tr rl_pop).tr rl_psh).tr rl_on) ((s2.psh hD p2.d e5).on) hDn (by unfold PF; simp +decide only [if_true, if_false]; rw [ecp])
theorem jo_8 {D : Nat → Nat} {J I : jc_I} {O P : jc_O} {live lv : jc_L → Prop} {S : Int} {t n0 j i b n xt fn c9 : Nat} {K K' : List Int32} (h : CX J O live S t n0) (hj : j + 1 = n0) (tp : TP J t j (cd O t j) i K K') (r : RX I P lv t b n xt fn n0 c9) (f : FRc I P O t n0) (s : Sim t b n D J I) (hDn : D t = n0) (hcn : J (3, 0, 0) 2 = Int32.ofNat n) (ho : (bk J).op (cd O t j) i = 8) : OUT J O live I P lv t j b n xt fn c9 D S 8 ((bk J).an (cd O t j) i) := by
  have hD : j < D t := by omega
  obtain ⟨rb, qf9, eo, ea⟩ := RB.of h hj tp r f s
  obtain ⟨hT, hf, hd, hc, hin, hC, hn⟩ := h.top hj
  have eo2 : I (41, cd O t j, 0) i = 8 := eo.trans ho
  have ho5 : (bk J).op (cd O t j) i = 4 ∨ (bk J).op (cd O t j) i = 5 ∨ (bk J).op (cd O t j) i = 6 ∨ (bk J).op (cd O t j) i = 7 ∨ (bk J).op (cd O t j) i = 8 := Or.inr (Or.inr (Or.inr (Or.inr ho)))
  obtain ⟨⟨K0, e4, e5⟩, -⟩ := ls_arith (x := 0) tp h.C h.ho ho5
  subst e4
  obtain ⟨q1, q2, q3, q4⟩ := q_bnd hD tp.tf.d tp.tf.le s
  have p1 := (TF.pop tp.tf).1
  have p2 := (TF.pop p1).1
  have s1 := s.pop hD tp.tf.d tp.tf.le
  have s2 := s1.pop hD p1.d p1.le
  have h2 : 2 ≤ I (12, t, j) 4 := by
    have e1 := jofI (n := K0.length + 1 + 1) (by omega)
    rw [s.d hD, tp.tf.d, List.length_cons, List.length_cons, jle, e1, show (2 : Int32).toInt = 2 from by decide]
    omega
  have hR := ct_m_step_pl rb.a1 rb.a2 rb.a3 rb.a4 rb.a5 rb.a6 rb.a7 rb.a8 (fun q h => h) (ct_m_plain_8 r.qt qf9 h2 q3 eo2) (by clear rb r f s h tp hT hf hd hC hn; rw [eo2]; decide)
  rw [s.tp hD tp.tf.d tp.tf.le, s1.tp hD p1.d p1.le] at hR
  have hP := ct_M_perform_arith (live := live) (c := 0) (I := J) (a := (bk J).an (cd O t j) i) hf hd (op := 8) (by decide)
  have ecp : m_cp 8 (f_tp (f_pop J t j) t j) (f_tp J t j) = (if f_tp (f_pop J t j) t j < f_tp J t j then 1 else 0) := by
    unfold m_cp
    simp +decide only [if_true, if_false]

  rw [ecp] at hP
  exact OUT.loc h hj r f hcn hP hR (ls_arith tp h.C h.ho ho5).2 (by omega) (flc (t := t) (j := j) (((fl_pop.tr fl_pop).tr fl_psh).tr fl_on)) (((rl_pop.tr rl_pop).tr rl_psh).tr rl_on) ((s2.psh hD p2.d e5).on) hDn (by unfold PF; simp +decide only [if_true, if_false]; rw [ecp])
