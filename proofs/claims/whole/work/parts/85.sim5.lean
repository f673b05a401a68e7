section
variable {z b n k i : Nat} {D : Nat → Nat}
theorem mu71 (hk : k < n) : mu z b n D (7, k, 0) 1 = some ((13, b + k, 0), 0) := by
  unfold mu
  rw [if_neg (by simp), if_neg (by simp), if_neg (by simp), if_neg (by simp), if_pos ⟨rfl, hk, rfl⟩, if_pos rfl]
theorem mu72 (hk : k < n) : mu z b n D (7, k, 0) 2 = some ((13, b + k, 0), 2) := by
  unfold mu
  rw [if_neg (by simp), if_neg (by simp), if_neg (by simp), if_neg (by simp), if_pos ⟨rfl, hk, rfl⟩, if_neg (by decide), if_pos rfl]
theorem mu73 (hk : k < n) : mu z b n D (7, k, 0) 3 = some ((13, b + k, 0), 3) := by
  unfold mu
  rw [if_neg (by simp), if_neg (by simp), if_neg (by simp), if_neg (by simp), if_pos ⟨rfl, hk, rfl⟩, if_neg (by decide), if_neg (by decide), if_pos rfl]
theorem mu29 (hk : k < n) (hi : i < 8) : mu z b n D (29, k, 0) i = some ((47, b + k, 0), i) := by
  unfold mu
  rw [if_neg (by simp), if_neg (by simp), if_neg (by simp), if_neg (by simp), if_neg (by simp), if_pos ⟨rfl, hk, hi, rfl⟩]
end
/-- an object's number that is there -/
theorem ob_k {J : jc_I} {n : Nat} {x : Int32} (hcn : J (3, 0, 0) 2 = Int32.ofNat n) (hn : n ≤ 2000) (h : 1 ≤ x ∧ x ≤ J (3, 0, 0) 2) : (x - 1).toNatClampNeg < n ∧ ((x - 1).toNatClampNeg : Int) < (J (3, 0, 0) 2).toInt := by
  have e := jsubN h.1
  have e2 := jle.mp h.2
  rw [hcn, jofI (by omega)] at e2 ⊢
  omega
theorem ob_1 {J : jc_I} {x : Int32} (h : jV J x) (hx : x ≠ 0) : 1 ≤ x ∧ x ≤ J (3, 0, 0) 2 := by
  refine ⟨?_, h.2⟩
  have h0 := jle.mp h.1
  rw [j0I] at h0
  rw [jle, j1I]
  have : x.toInt ≠ 0 := fun g => hx (Int32.toInt_inj.mp (by rw [g, j0I]))
  omega
theorem m_nf0 {J : jc_I} {x : Int32} (h : m_nf J x = 0) : 1 ≤ x ∧ x ≤ J (3, 0, 0) 2 := by
  unfold m_nf at h
  split at h
  · assumption
  · exact absurd h (by decide)
theorem jo_15 {D : Nat → Nat} {J I : jc_I} {O P : jc_O} {live lv : jc_L → Prop} {S : Int} {t n0 j i b n xt fn c9 : Nat} {K K' : List Int32} (h : CX J O live S t n0) (hj : j + 1 = n0) (tp : TP J t j (cd O t j) i K K') (r : RX I P lv t b n xt fn n0 c9) (f : FRc I P O t n0) (s : Sim t b n D J I) (hDn : D t = n0) (hcn : J (3, 0, 0) 2 = Int32.ofNat n) (ho : (bk J).op (cd O t j) i = 15) : OUT J O live I P lv t j b n xt fn c9 D S 15 ((bk J).an (cd O t j) i) := by
  have hD : j < D t := by omega
  obtain ⟨rb, qf9, eo, ea⟩ := RB.of h hj tp r f s
  obtain ⟨hT, hf, hd, hc, hin, hC, hn⟩ := h.top hj
  have eo2 : I (41, cd O t j, 0) i = 15 := eo.trans ho
  obtain ⟨q1, q2, q3, q4⟩ := q_bnd hD tp.tf.d tp.tf.le s
  have hl : ¬ p_lst ((bk J).op (cd O t j) i) := by rw [ho]; exact nl (by decide) (by decide) (by decide)
  have hp := tp.pi
  rw [ho, p_ins_15] at hp
  obtain ⟨K0, b1, b2⟩ := bind_some hp
  obtain ⟨e1, -⟩ := p_take_some b1
  subst e1
  obtain ⟨p1, p2⟩ := TF.pop tp.tf
  have hv := p2 rfl
  have hl12 := (p_push_some b2).2.2
  have hP := ct_M_perform_use (live := live) (c := 0) (op := 15) (a := (bk J).an (cd O t j) i) h.M h.H hf hd (by decide)
  have eu : u_th J t j 15 ((bk J).an (cd O t j) i) = f_psh (f_pop J t j) t j (if (1 ≤ f_tp J t j ∧ f_tp J t j ≤ f_pop J t j (3, 0, 0) 2) ∧ f_pop J t j (7, (f_tp J t j - 1).toNatClampNeg, 0) 1 = (bk J).an (cd O t j) i then 1 else 0) := by unfold u_th; simp +decide only [if_true, if_false]
  rw [eu, f_pop_t (by decide), f_pop_t (by decide)] at hP
  have hk : f_tp J t j ≠ 0 → (f_tp J t j - 1).toNatClampNeg < n := fun hx => (ob_k hcn r.qt.n3 (ob_1 hv hx)).1
  have hR := ct_m_step_pl rb.a1 rb.a2 rb.a3 rb.a4 rb.a5 rb.a6 rb.a7 rb.a8 (fun q h => h) (ct_m_plain_15 r.qt qf9 (q1 (by simp)) q3 (fun hx => by rw [s.tp hD tp.tf.d tp.tf.le] at hx ⊢; exact ⟨(ob_1 hv hx).1, hk hx⟩) eo2) (by clear rb r f s h tp hT hf hd hC hn; rw [eo2]; decide)
  rw [ea, s.tp hD tp.tf.d tp.tf.le] at hR
  have ev : (if f_tp J t j ≠ 0 ∧ I (13, b + (f_tp J t j - 1).toNatClampNeg, 0) 0 = (bk J).an (cd O t j) i then (1 : Int32) else 0) = (if (1 ≤ f_tp J t j ∧ f_tp J t j ≤ J (3, 0, 0) 2) ∧ J (7, (f_tp J t j - 1).toNatClampNeg, 0) 1 = (bk J).an (cd O t j) i then 1 else 0) := by
    by_cases hx : f_tp J t j = 0
    · rw [if_neg (fun g => g.1 hx), if_neg (fun g => by rw [hx] at g; exact absurd g.1.1 (by decide))]
    · have e9 := s (7, (f_tp J t j - 1).toNatClampNeg, 0) 1 _ (mu71 (hk hx))
      have h1 := ob_1 hv hx
      rw [e9]
      by_cases ha : I (13, b + (f_tp J t j - 1).toNatClampNeg, 0) 0 = (bk J).an (cd O t j) i
      · rw [if_pos ⟨hx, ha⟩, if_pos ⟨h1, ha⟩]
      · rw [if_neg (fun g => ha g.2), if_neg (fun g => ha g.2)]
  rw [ev] at hR
  exact OUT.loc h hj r f hcn hP hR (ls_pp tp h.C h.ho hl b2 (fun e => absurd e (by decide))) (by omega) (flc (t := t) (j := j) ((fl_pop.tr fl_psh).tr fl_on)) ((rl_pop.tr rl_psh).tr rl_on) (((s.pop hD tp.tf.d tp.tf.le).psh hD p1.d hl12).on) hDn (by unfold PF; simp +decide only [if_true, if_false]; rw [eu, f_pop_t (by decide), f_pop_t (by decide)])
theorem jo_16 {D : Nat → Nat} {J I : jc_I} {O P : jc_O} {live lv : jc_L → Prop} {S : Int} {t n0 j i b n xt fn c9 : Nat} {K K' : List Int32} (h : CX J O live S t n0) (hj : j + 1 = n0) (tp : TP J t j (cd O t j) i K K') (r : RX I P lv t b n xt fn n0 c9) (f : FRc I P O t n0) (s : Sim t b n D J I) (hDn : D t = n0) (hcn : J (3, 0, 0) 2 = Int32.ofNat n) (ho : (bk J).op (cd O t j) i = 16) (hz : m_nf J (f_pk J t j 0) = 0) : OUT J O live I P lv t j b n xt fn c9 D S 16 ((bk J).an (cd O t j) i) := by
  have hD : j < D t := by omega
  obtain ⟨rb, qf9, eo, ea⟩ := RB.of h hj tp r f s
  obtain ⟨hT, hf, hd, hc, hin, hC, hn⟩ := h.top hj
  have eo2 : I (41, cd O t j, 0) i = 16 := eo.trans ho
  obtain ⟨q1, q2, q3, q4⟩ := q_bnd hD tp.tf.d tp.tf.le s
  have hl : ¬ p_lst ((bk J).op (cd O t j) i) := by rw [ho]; exact nl (by decide) (by decide) (by decide)
  have hp := tp.pi
  rw [ho, p_ins_16] at hp
  obtain ⟨K0, b1, b2⟩ := bind_some hp
  obtain ⟨e1, -⟩ := p_take_some b1
  subst e1
  obtain ⟨p1, p2⟩ := TF.pop tp.tf
  have hl12 := (p_push_some b2).2.2
  obtain ⟨l1, l2, l3, l4⟩ := h.C.an4 tp.tf.cn tp.lt (Or.inr (Or.inr (Or.inl ho)))
  have l8 : (bk J).an (cd O t j) i < 8 := by clear h tp r f s rb; grind
  have l88 : ((bk J).an (cd O t j) i).toNatClampNeg < 8 := by omega
  have hx := m_nf0 hz
  rw [n_pk tp.tf.d tp.tf.le, ← n_tp tp.tf.d tp.tf.le] at hx
  obtain ⟨k1, k2⟩ := ob_k hcn r.qt.n3 hx
  have hP := ct_M_perform_use (live := live) (c := 0) (op := 16) (a := (bk J).an (cd O t j) i) h.M h.H hf hd (by decide)
  have eu : u_th J t j 16 ((bk J).an (cd O t j) i) = f_psh (f_pop J t j) t j (J (29, (f_tp J t j - 1).toNatClampNeg, 0) ((bk J).an (cd O t j) i).toNatClampNeg) := by
    unfold u_th t_fd
    simp +decide only [if_true, if_false]
    rw [f_pop_t (by decide), if_pos hx, if_pos ⟨l1, l8⟩, f_pop_t (by decide)]
  rw [eu] at hP
  have hR := ct_m_step_16 rb.a1 rb.a2 rb.a3 rb.a4 rb.a5 rb.a6 rb.a7 rb.a8 (fun q h => h) (ct_m_field_g r.qt qf9 (q1 (by simp)) q3 (by exact Or.inl eo2) (by rw [s.tp hD tp.tf.d tp.tf.le]; exact hx.1) (by rw [s.tp hD tp.tf.d tp.tf.le]; exact k1) (by rw [ea]; exact l1) (by rw [ea]; exact l8) (by rw [s.tp hD tp.tf.d tp.tf.le]; exact r.of _ k1)) (by exact Or.inl eo2)
  rw [ea, s.tp hD tp.tf.d tp.tf.le, ← s (29, (f_tp J t j - 1).toNatClampNeg, 0) ((bk J).an (cd O t j) i).toNatClampNeg _ (mu29 k1 l88)] at hR
  exact OUT.loc h hj r f hcn hP hR (ls_pp tp h.C h.ho hl b2 (fun e => absurd e (by decide))) (by omega) (flc (t := t) (j := j) ((fl_pop.tr fl_psh).tr fl_on)) ((rl_pop.tr rl_psh).tr rl_on) (((s.pop hD tp.tf.d tp.tf.le).psh hD p1.d hl12).on) hDn (by unfold PF; simp +decide only [if_true, if_false]; rw [eu])
theorem jo_23 {D : Nat → Nat} {J I : jc_I} {O P : jc_O} {live lv : jc_L → Prop} {S : Int} {t n0 j i b n xt fn c9 : Nat} {K K' : List Int32} (h : CX J O live S t n0) (hj : j + 1 = n0) (tp : TP J t j (cd O t j) i K K') (r : RX I P lv t b n xt fn n0 c9) (f : FRc I P O t n0) (s : Sim t b n D J I) (hDn : D t = n0) (hcn : J (3, 0, 0) 2 = Int32.ofNat n) (ho : (bk J).op (cd O t j) i = 23) (hz : m_nf J (f_pk J t j 0) = 0) : OUT J O live I P lv t j b n xt fn c9 D S 23 ((bk J).an (cd O t j) i) := by
  have hD : j < D t := by omega
  obtain ⟨rb, qf9, eo, ea⟩ := RB.of h hj tp r f s
  obtain ⟨hT, hf, hd, hc, hin, hC, hn⟩ := h.top hj
  have eo2 : I (41, cd O t j, 0) i = 23 := eo.trans ho
  obtain ⟨q1, q2, q3, q4⟩ := q_bnd hD tp.tf.d tp.tf.le s
  have hl : ¬ p_lst ((bk J).op (cd O t j) i) := by rw [ho]; exact nl (by decide) (by decide) (by decide)
  have hp := tp.pi
  rw [ho, p_ins_23] at hp
  obtain ⟨K0, b1, b2⟩ := bind_some hp
  obtain ⟨e1, -⟩ := p_take_some b1
  subst e1
  obtain ⟨p1, p2⟩ := TF.pop tp.tf
  have hl12 := (p_push_some b2).2.2
  obtain ⟨l1, l2, l3, l4, l5⟩ := h.C.an8 tp.tf.cn tp.lt (Or.inl ho)
  have l8 : (bk J).an (cd O t j) i < 8 := by clear h tp r f s rb; grind
  have l88 : ((bk J).an (cd O t j) i).toNatClampNeg < 8 := by omega
  have hx := m_nf0 hz
  rw [n_pk tp.tf.d tp.tf.le, ← n_tp tp.tf.d tp.tf.le] at hx
  obtain ⟨k1, k2⟩ := ob_k hcn r.qt.n3 hx
  have hP := ct_M_perform_use (live := live) (c := 0) (op := 23) (a := (bk J).an (cd O t j) i) h.M h.H hf hd (by decide)
  have eu : u_th J t j 23 ((bk J).an (cd O t j) i) = f_psh (f_pop J t j) t j (J (29, (f_tp J t j - 1).toNatClampNeg, 0) ((bk J).an (cd O t j) i).toNatClampNeg) := by
    unfold u_th t_fd
    simp +decide only [if_true, if_false]
    rw [f_pop_t (by decide), if_pos hx, if_pos ⟨l1, l8⟩, f_pop_t (by decide)]
  rw [eu] at hP
  have hR := ct_m_step_16 rb.a1 rb.a2 rb.a3 rb.a4 rb.a5 rb.a6 rb.a7 rb.a8 (fun q h => h) (ct_m_field_g r.qt qf9 (q1 (by simp)) q3 (by exact Or.inr eo2) (by rw [s.tp hD tp.tf.d tp.tf.le]; exact hx.1) (by rw [s.tp hD tp.tf.d tp.tf.le]; exact k1) (by rw [ea]; exact l1) (by rw [ea]; exact l8) (by rw [s.tp hD tp.tf.d tp.tf.le]; exact r.of _ k1)) (by exact Or.inr (Or.inr (Or.inl eo2)))
  rw [ea, s.tp hD tp.tf.d tp.tf.le, ← s (29, (f_tp J t j - 1).toNatClampNeg, 0) ((bk J).an (cd O t j) i).toNatClampNeg _ (mu29 k1 l88)] at hR
  exact OUT.loc h hj r f hcn hP hR (ls_pp tp h.C h.ho hl b2 (fun e => h.ho.fi _ _ k2 l5 l88)) (by omega) (flc (t := t) (j := j) ((fl_pop.tr fl_psh).tr fl_on)) ((rl_pop.tr rl_psh).tr rl_on) (((s.pop hD tp.tf.d tp.tf.le).psh hD p1.d hl12).on) hDn (by unfold PF; simp +decide only [if_true, if_false]; rw [eu])
theorem jo_17 {D : Nat → Nat} {J I : jc_I} {O P : jc_O} {live lv : jc_L → Prop} {S : Int} {t n0 j i b n xt fn c9 : Nat} {K K' : List Int32} (h : CX J O live S t n0) (hj : j + 1 = n0) (tp : TP J t j (cd O t j) i K K') (r : RX I P lv t b n xt fn n0 c9) (f : FRc I P O t n0) (s : Sim t b n D J I) (hDn : D t = n0) (hcn : J (3, 0, 0) 2 = Int32.ofNat n) (ho : (bk J).op (cd O t j) i = 17) (hz : m_nf J (f_pk J t j 1) = 0) : OUT J O live I P lv t j b n xt fn c9 D S 17 ((bk J).an (cd O t j) i) := by
  have hD : j < D t := by omega
  obtain ⟨rb, qf9, eo, ea⟩ := RB.of h hj tp r f s
  obtain ⟨hT, hf, hd, hc, hin, hC, hn⟩ := h.top hj
  have eo2 : I (41, cd O t j, 0) i = 17 := eo.trans ho
  obtain ⟨q1, q2, q3, q4⟩ := q_bnd hD tp.tf.d tp.tf.le s
  have hl : ¬ p_lst ((bk J).op (cd O t j) i) := by rw [ho]; exact nl (by decide) (by decide) (by decide)
  have hp := tp.pi
  rw [ho, p_ins_17] at hp
  obtain ⟨K0, b1, b2⟩ := bind_some hp
  obtain ⟨e1, -⟩ := p_take_some b1
  obtain ⟨e2, -⟩ := p_take_some b2
  subst e2
  subst e1
  obtain ⟨p1, p2⟩ := TF.pop tp.tf
  obtain ⟨p3, p4⟩ := TF.pop p1
  obtain ⟨l1, l2, l3, l4⟩ := h.C.an4 tp.tf.cn tp.lt (Or.inr (Or.inr (Or.inr ho)))
  have l8 : (bk J).an (cd O t j) i < 8 := by clear h tp r f s rb; grind
  have l88 : ((bk J).an (cd O t j) i).toNatClampNeg < 8 := by omega
  have hx := m_nf0 hz
  rw [n_pk1 tp.tf.d tp.tf.le] at hx
  have ex : f_tp (f_pop J t j) t j = J (32, t, j) K'.length := by rw [n_tp p1.d p1.le, f_pop_t (by decide)]
  obtain ⟨k1, k2⟩ := ob_k hcn r.qt.n3 hx
  have eq2 : q_tp2 I t j = J (32, t, j) K'.length := by
    unfold q_tp2
    have hle : K'.length + 1 + 1 ≤ 12 := tp.tf.le
    have e5 : Int32.ofNat (K'.length + 1 + 1) - 2 = Int32.ofNat K'.length := by
      apply Int32.toInt_inj.mp
      rw [jsubI (by rw [jofI (by omega)]; omega) (by rw [show (2 : Int32).toInt = 2 from by decide]; omega), jofI (by omega), jofI (by omega), show (2 : Int32).toInt = 2 from by decide]
      omega
    rw [s.d hD, tp.tf.d, List.length_cons, List.length_cons, e5, jofN (by omega), s.va]
  have h2 : 2 ≤ I (12, t, j) 4 := by
    have hle : K'.length + 1 + 1 ≤ 12 := tp.tf.le
    have e1 := jofI (n := K'.length + 1 + 1) (by omega)
    rw [s.d hD, tp.tf.d, List.length_cons, List.length_cons, jle, e1, show (2 : Int32).toInt = 2 from by decide]
    omega
  have hP := ct_M_perform_use (live := live) (c := 0) (op := 17) (a := (bk J).an (cd O t j) i) h.M h.H hf hd (by decide)
  have eu : u_th J t j 17 ((bk J).an (cd O t j) i) = jc_up (f_pop (f_pop J t j) t j) (29, (J (32, t, j) K'.length - 1).toNatClampNeg, 0) ((bk J).an (cd O t j) i).toNatClampNeg (f_tp J t j) := by
    unfold u_th t_sf
    simp +decide only [if_true, if_false]
    rw [f_pop_t (by decide), f_pop_t (by decide), ex, if_pos hx, if_pos ⟨l1, l8⟩]
  have hho : HO (u_th J t j 17 ((bk J).an (cd O t j) i)) S := by
    have := ((h.ho.fl (fl_pop (t := t) (j := j))).fl (fl_pop (t := t) (j := j))).sf (k := (J (32, t, j) K'.length - 1).toNatClampNeg) (x := f_tp J t j) l88 (fun g => by omega)
    rw [t_sf_n l88] at this
    rw [eu]
    exact this
  have hR := ct_m_step_16 rb.a1 rb.a2 rb.a3 rb.a4 rb.a5 rb.a6 rb.a7 rb.a8 (fun q h => h) (ct_m_field_p r.qt qf9 h2 q3 (by exact Or.inl eo2) (by rw [eq2]; exact hx.1) (by rw [eq2]; exact k1) (by rw [ea]; exact l1) (by rw [ea]; exact l8) (by rw [eq2]; exact r.of _ k1)) (by exact Or.inr (Or.inl eo2))
  rw [ea, eq2] at hR
  have hsm : Sim t b n D (f_on (u_th J t j 17 ((bk J).an (cd O t j) i)) t j) (q_fp I t j (b + (J (32, t, j) K'.length - 1).toNatClampNeg) ((bk J).an (cd O t j) i).toNatClampNeg) := by
    unfold q_fp
    refine Sim.on ?_
    rw [eu, s.tp hD tp.tf.d tp.tf.le, n_pop p1.d p1.le]
    have hle : K'.length + 1 + 1 ≤ 12 := tp.tf.le
    rw [s.d hD, tp.tf.d, List.length_cons, List.length_cons, jofs (by omega), jofs (by omega)]
    have s1 := (s.pop hD tp.tf.d tp.tf.le).up (v := f_tp J t j) (mu29 (i := ((bk J).an (cd O t j) i).toNatClampNeg) k1 l88)
    have s2 := s1.up (q := (8, t, j)) (k := 3) (v := Int32.ofNat K'.length) (mu83 hD)
    refine Sim.toC s2 (fun q k w _ => ?_)
    unfold jc_up
    by_cases g1 : q = (8, t, j) ∧ k = 3
    · rw [if_pos g1, if_pos g1, if_neg (fun g => absurd (g1.1.symm.trans g.1) (by simp))]
    · simp only [if_neg g1]
  refine OUT.loc h hj r f hcn hP hR (jLS.heap tp h.C hl (fl_pop.tr fl_pop) (by rw [pop4, pop4]) p3 (fun q k _ h29 _ _ => ?_) (fun x hx9 => ?_) hho) (by omega) ?_ (((rl_pop.tr (rl.ob (Or.inr (Or.inl rfl)))).tr rl.u4).tr rl_on) hsm hDn (by unfold PF; simp +decide only [if_true, if_false])
  · rw [eu]; exact jc_up_q _ _ _ _ _ _ (fun g => h29 (by rw [g]))
  · unfold jV at *; rw [eu, jc_up_t _ _ _ _ _ _ _ _ (by decide)]; exact hx9
  · rw [(fl_on (t := t) (j := j)).o (by decide) (by decide) (by decide), eu, jc_up_t _ _ _ _ _ _ _ _ (by decide)]; exact flc (t := t) (j := j) (fl_pop.tr fl_pop)
theorem jo_24 {D : Nat → Nat} {J I : jc_I} {O P : jc_O} {live lv : jc_L → Prop} {S : Int} {t n0 j i b n xt fn c9 : Nat} {K K' : List Int32} (h : CX J O live S t n0) (hj : j + 1 = n0) (tp : TP J t j (cd O t j) i K K') (r : RX I P lv t b n xt fn n0 c9) (f : FRc I P O t n0) (s : Sim t b n D J I) (hDn : D t = n0) (hcn : J (3, 0, 0) 2 = Int32.ofNat n) (ho : (bk J).op (cd O t j) i = 24) (hz : m_nf J (f_pk J t j 1) = 0) : OUT J O live I P lv t j b n xt fn c9 D S 24 ((bk J).an (cd O t j) i) := by
  have hD : j < D t := by omega
  obtain ⟨rb, qf9, eo, ea⟩ := RB.of h hj tp r f s
  obtain ⟨hT, hf, hd, hc, hin, hC, hn⟩ := h.top hj
  have eo2 : I (41, cd O t j, 0) i = 24 := eo.trans ho
  obtain ⟨q1, q2, q3, q4⟩ := q_bnd hD tp.tf.d tp.tf.le s
  have hl : ¬ p_lst ((bk J).op (cd O t j) i) := by rw [ho]; exact nl (by decide) (by decide) (by decide)
  have hp := tp.pi
  rw [ho, p_ins_24] at hp
  obtain ⟨K0, b1, b2⟩ := bind_some hp
  obtain ⟨e1, -⟩ := p_take_some b1
  obtain ⟨e2, -⟩ := p_take_some b2
  subst e2
  subst e1
  obtain ⟨p1, p2⟩ := TF.pop tp.tf
  obtain ⟨p3, p4⟩ := TF.pop p1
  obtain ⟨l1, l2, l3, l4, l5⟩ := h.C.an8 tp.tf.cn tp.lt (Or.inr ho)
  have l8 : (bk J).an (cd O t j) i < 8 := by clear h tp r f s rb; grind
  have l88 : ((bk J).an (cd O t j) i).toNatClampNeg < 8 := by omega
  have hx := m_nf0 hz
  rw [n_pk1 tp.tf.d tp.tf.le] at hx
  have ex : f_tp (f_pop J t j) t j = J (32, t, j) K'.length := by rw [n_tp p1.d p1.le, f_pop_t (by decide)]
  obtain ⟨k1, k2⟩ := ob_k hcn r.qt.n3 hx
  have eq2 : q_tp2 I t j = J (32, t, j) K'.length := by
    unfold q_tp2
    have hle : K'.length + 1 + 1 ≤ 12 := tp.tf.le
    have e5 : Int32.ofNat (K'.length + 1 + 1) - 2 = Int32.ofNat K'.length := by
      apply Int32.toInt_inj.mp
      rw [jsubI (by rw [jofI (by omega)]; omega) (by rw [show (2 : Int32).toInt = 2 from by decide]; omega), jofI (by omega), jofI (by omega), show (2 : Int32).toInt = 2 from by decide]
      omega
    rw [s.d hD, tp.tf.d, List.length_cons, List.length_cons, e5, jofN (by omega), s.va]
  have h2 : 2 ≤ I (12, t, j) 4 := by
    have hle : K'.length + 1 + 1 ≤ 12 := tp.tf.le
    have e1 := jofI (n := K'.length + 1 + 1) (by omega)
    rw [s.d hD, tp.tf.d, List.length_cons, List.length_cons, jle, e1, show (2 : Int32).toInt = 2 from by decide]
    omega
  have hP := ct_M_perform_use (live := live) (c := 0) (op := 24) (a := (bk J).an (cd O t j) i) h.M h.H hf hd (by decide)
  have eu : u_th J t j 24 ((bk J).an (cd O t j) i) = jc_up (f_pop (f_pop J t j) t j) (29, (J (32, t, j) K'.length - 1).toNatClampNeg, 0) ((bk J).an (cd O t j) i).toNatClampNeg (f_tp J t j) := by
    unfold u_th t_sf
    simp +decide only [if_true, if_false]
    rw [f_pop_t (by decide), f_pop_t (by decide), ex, if_pos hx, if_pos ⟨l1, l8⟩]
  have hho : HO (u_th J t j 24 ((bk J).an (cd O t j) i)) S := by
    have := ((h.ho.fl (fl_pop (t := t) (j := j))).fl (fl_pop (t := t) (j := j))).sf (k := (J (32, t, j) K'.length - 1).toNatClampNeg) (x := f_tp J t j) l88 (fun g => by rw [fl_pop.v, fl_pop.v]; exact p2 rfl)
    rw [t_sf_n l88] at this
    rw [eu]
    exact this
  have hR := ct_m_step_16 rb.a1 rb.a2 rb.a3 rb.a4 rb.a5 rb.a6 rb.a7 rb.a8 (fun q h => h) (ct_m_field_p r.qt qf9 h2 q3 (by exact Or.inr eo2) (by rw [eq2]; exact hx.1) (by rw [eq2]; exact k1) (by rw [ea]; exact l1) (by rw [ea]; exact l8) (by rw [eq2]; exact r.of _ k1)) (by exact Or.inr (Or.inr (Or.inr eo2)))
  rw [ea, eq2] at hR
  have hsm : Sim t b n D (f_on (u_th J t j 24 ((bk J).an (cd O t j) i)) t j) (q_fp I t j (b + (J (32, t, j) K'.length - 1).toNatClampNeg) ((bk J).an (cd O t j) i).toNatClampNeg) := by
    unfold q_fp
    refine Sim.on ?_
    rw [eu, s.tp hD tp.tf.d tp.tf.le, n_pop p1.d p1.le]
    have hle : K'.length + 1 + 1 ≤ 12 := tp.tf.le
    rw [s.d hD, tp.tf.d, List.length_cons, List.length_cons, jofs (by omega), jofs (by omega)]
    have s1 := (s.pop hD tp.tf.d tp.tf.le).up (v := f_tp J t j) (mu29 (i := ((bk J).an (cd O t j) i).toNatClampNeg) k1 l88)
    have s2 := s1.up (q := (8, t, j)) (k := 3) (v := Int32.ofNat K'.length) (mu83 hD)
    refine Sim.toC s2 (fun q k w _ => ?_)
    unfold jc_up
    by_cases g1 : q = (8, t, j) ∧ k = 3
    · rw [if_pos g1, if_pos g1, if_neg (fun g => absurd (g1.1.symm.trans g.1) (by simp))]
    · simp only [if_neg g1]
  refine OUT.loc h hj r f hcn hP hR (jLS.heap tp h.C hl (fl_pop.tr fl_pop) (by rw [pop4, pop4]) p3 (fun q k _ h29 _ _ => ?_) (fun x hx9 => ?_) hho) (by omega) ?_ (((rl_pop.tr (rl.ob (Or.inr (Or.inl rfl)))).tr rl.u4).tr rl_on) hsm hDn (by unfold PF; simp +decide only [if_true, if_false])
  · rw [eu]; exact jc_up_q _ _ _ _ _ _ (fun g => h29 (by rw [g]))
  · unfold jV at *; rw [eu, jc_up_t _ _ _ _ _ _ _ _ (by decide)]; exact hx9
  · rw [(fl_on (t := t) (j := j)).o (by decide) (by decide) (by decide), eu, jc_up_t _ _ _ _ _ _ _ _ (by decide)]; exact flc (t := t) (j := j) (fl_pop.tr fl_pop)
