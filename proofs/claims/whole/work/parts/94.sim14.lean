variable {D : Nat → Nat}
theorem RX.pu {I : jc_I} {P : jc_O} {lv : jc_L → Prop} {t b n xt fn n0 c9 : Nat} (h : RX I P lv t b n xt fn n0 c9) (hn : n0 < 30) : PU I P lv t xt fn n0 := ⟨h.qt.m1, h.qt.fs, h.qt.d, h.qt.mf, hn, h.fr, (h.ff fn (Nat.le_refl _)).1, (h.ff fn (Nat.le_refl _)).2.1, (h.ff fn (Nat.le_refl _)).2.2⟩
theorem rc_call {I : jc_I} {P : jc_O} {lv : jc_L → Prop} {t xt n0 j d s p : Nat} {a : Int32} : rc t j n0 xt I (q_cp (jc_up (q_pu I P lv t xt n0 a (11, d, 0)).1 (12, t, j) 4 (Int32.ofNat s)) t j n0 s p) := fun q k g1 g2 g3 g4 g5 g6 g7 => by
  rw [q_cp_e g2]
  have e : jc_up (q_pu I P lv t xt n0 a (11, d, 0)).1 (12, t, j) 4 (Int32.ofNat s) q k = (q_pu I P lv t xt n0 a (11, d, 0)).1 q k := if_neg g7
  rw [e]
  exact q_pu_I g1 g2 g3 g4 g5 g6
theorem RX.call {I : jc_I} {P : jc_O} {lv : jc_L → Prop} {t b n xt fn n0 c9 j d s p : Nat} {a : Int32} (h : RX I P lv t b n xt fn n0 c9) (hn : n0 < 30) (hj : j < n0) (hd : d < c9) (hqr : qr I d) : RX (q_cp (jc_up (q_pu I P lv t xt n0 a (11, d, 0)).1 (12, t, j) 4 (Int32.ofNat s)) t j n0 s p) (q_pu I P lv t xt n0 a (11, d, 0)).2.1 (q_pu I P lv t xt n0 a (11, d, 0)).2.2.1 t b n xt (fnU fn n0) (n0 + 1) c9 := by
  have hPU := h.pu hn
  have hrc : rc t j n0 xt I (q_cp (jc_up (q_pu I P lv t xt n0 a (11, d, 0)).1 (12, t, j) 4 (Int32.ofNat s)) t j n0 s p) := rc_call
  have hN := q_pu_N (x := a) (c := (11, d, 0)) hPU h.fz
  have hfs := q_pu_fs (x := a) (c := (11, d, 0)) hPU
  have hqf := q_pu_f (x := a) (c := (11, d, 0)) hPU
  have hPe : ∀ q k, q ≠ (12, t, n0) → q ≠ (48, t, n0) → q ≠ (49, t, n0) → q ≠ (15, xt, 0) → (∀ z, q ≠ (60, xt, z)) → (q_pu I P lv t xt n0 a (11, d, 0)).2.1 q k = P q k := fun q k g1 g2 g3 g4 g5 => q_pu_O g1 g2 g3 g4 g5
  have hl : ∀ q, (q_pu I P lv t xt n0 a (11, d, 0)).2.2.1 q → lv q ∨ q = (12, t, n0) ∨ q = (48, t, n0) ∨ q = (49, t, n0) ∨ ∃ z, q = (60, xt, z) := fun q g => q_pu_l g
  have eI : (q_cp (jc_up (q_pu I P lv t xt n0 a (11, d, 0)).1 (12, t, j) 4 (Int32.ofNat s)) t j n0 s p) (15, xt, 0) 1 = (q_pu I P lv t xt n0 a (11, d, 0)).1 (15, xt, 0) 1 := by rw [q_cp_e (by simp), jc_up_t _ _ _ _ _ _ _ _ (by decide)]
  have eD : (q_cp (jc_up (q_pu I P lv t xt n0 a (11, d, 0)).1 (12, t, j) 4 (Int32.ofNat s)) t j n0 s p) (14, t, 0) 2 = (q_pu I P lv t xt n0 a (11, d, 0)).1 (14, t, 0) 2 := by rw [q_cp_e (by simp), jc_up_t _ _ _ _ _ _ _ _ (by decide)]
  generalize (q_cp (jc_up (q_pu I P lv t xt n0 a (11, d, 0)).1 (12, t, j) 4 (Int32.ofNat s)) t j n0 s p) = I2 at *
  generalize (q_pu I P lv t xt n0 a (11, d, 0)) = X at *
  have hx := h.x10
  have hmf := h.qt.mf
  have hf30 := h.f30
  have h60 : ∀ y c z, y ≠ xt → ((60, y, c) : jc_L) ≠ (60, xt, z) := fun y c z hne g => hne (congrArg (fun w : jc_L => w.2.1) g)
  have h15 : ∀ y, y ≠ xt → ((15, y, 0) : jc_L) ≠ (15, xt, 0) := fun y hne g => hne (congrArg (fun w : jc_L => w.2.1) g)
  have eo : ∀ q k, q.1 = 10 ∨ q.1 = 11 ∨ q.1 = 13 ∨ q.1 = 14 → X.2.1 q k = P q k := fun q k hq => hPe q k (fun g => by rw [g] at hq; simp at hq) (fun g => by rw [g] at hq; simp at hq) (fun g => by rw [g] at hq; simp at hq) (fun g => by rw [g] at hq; simp at hq) (fun z g => by rw [g] at hq; simp at hq)
  have ei : ∀ q k, q.1 = 10 ∨ q.1 = 11 ∨ q.1 = 13 ∨ q.1 = 45 → I2 q k = I q k := fun q k hq => hrc q k (fun g => by rw [g] at hq; simp at hq) (fun g => by rw [g] at hq; simp at hq) (fun g => by rw [g] at hq; simp at hq) (fun g => by rw [g.1] at hq; simp at hq) (fun g => by rw [g] at hq; simp at hq) (fun z g => by rw [g] at hq; simp at hq) (fun g => by rw [g.1] at hq; simp at hq)
  have el : ∀ q, q.1 = 13 ∨ q.1 = 47 → X.2.2.1 q → lv q := fun q hq g => by
    rcases hl q g with w | w | w | w | ⟨z, w⟩
    · exact w
    all_goals (rw [w] at hq; simp at hq)
  have eq15 : ∀ y, y ≠ xt → ∀ {m : Nat} {f : Nat → jc_L}, ql I P lv y m f → ql I2 X.2.1 X.2.2.1 y m f := fun y hy m f g => g.to (hrc _ _ (by simp) (by simp) (by simp) (by simp) (h15 y hy) (by simp) (by simp)) (hPe _ _ (by simp) (by simp) (by simp) (h15 y hy) (by simp)) (fun c k => hPe _ _ (by simp) (by simp) (by simp) (by simp) (fun z => h60 y c z hy)) (fun c g => by
    rcases hl _ g with w | w | w | w | ⟨z, w⟩
    · exact w
    · cases w
    · cases w
    · cases w
    · exact absurd w (h60 y c z hy))
  have hfu : (n0 < fn ∧ fnU fn n0 = fn) ∨ (n0 = fn ∧ fnU fn n0 = fn + 1) := by
    unfold fnU
    split
    · exact Or.inl ⟨by assumption, rfl⟩
    · exact Or.inr ⟨by omega, rfl⟩
  have hqc : qc X.2.1 d := by
    have := (h.qa.2.2 d hd).1
    unfold qc at *
    rw [eo _ _ (by simp), eo _ _ (by simp), eo _ _ (by simp), eo _ _ (by simp), eo _ _ (by simp), eo _ _ (by simp), eo _ _ (by simp)]
    exact this
  have hqn : ∀ d, qn I d → qn I2 d := fun d g => by
    unfold qn at *
    rw [ei _ _ (by simp), ei _ _ (by simp), ei _ _ (by simp)]
    exact g
  have hqr2 : qr I2 d := fun r hr => by
    rw [ei _ _ (by simp)] at hr ⊢
    exact hqr r hr
  have hcR : cR X.2.1 t n0 = d := by unfold cR; rw [hqf.2]; rfl
  have hfr : ∀ i, i < fnU fn n0 → qf X.2.1 t i := fun i hi => by
    by_cases e : i = n0
    · subst e; exact hqf.1
    · unfold qf
      rw [hPe _ _ (by simp [e]) (by simp) (by simp) (by simp) (by simp), hPe _ _ (by simp [e]) (by simp) (by simp) (by simp) (by simp)]
      exact h.fr i (by omega)
  refine ⟨⟨h.qt.M.to (fun k => eo _ _ (by simp)), eq15 2 (by omega) h.qt.ob, (eo _ _ (by simp)).trans h.qt.m1, hfs.1.to eI rfl (fun _ _ => rfl) (fun _ g => g), eD.trans hN.2.2.2.2.2, by omega, fun i hi => ?_, by rw [ei _ _ (by simp)]; exact h.qt.md, fun g => h.qt.f1 (el _ (by simp) g), fun g => h.qt.f2 (el _ (by simp) g), h.qt.n3, h.qt.x2⟩, ⟨h.qa.1.to (fun k => eo _ _ (by simp)), eq15 0 (by omega) h.qa.2.1, fun d9 hd9 => ?_⟩, hfr, fun i hi => ?_, fun i k hi => ?_, by omega, fun k hk => (eo _ _ (by simp)).trans (h.of k hk), (ei _ _ (by simp)).trans h.mk, h.mb, fun k hk => ⟨fun g => (h.o2 k hk).1 (el _ (by simp) g), fun g => (h.o2 k hk).2 (el _ (by simp) g)⟩, hx, ?_⟩
  · by_cases e : i = n0
    · subst e
      exact ⟨hqf.1, by rw [hcR]; exact hqf.2, by rw [hcR]; exact hqc, by rw [hcR]; exact hqn d (h.qa.2.2 d hd).2.1, by rw [hcR]; exact hqr2⟩
    · refine (h.qt.F i (by omega)).to2 (fun q k hq => ei q k (by omega)) (fun q k hq => ?_)
      rcases hq with hq | hq
      · exact eo q k (by omega)
      · rw [hq]; exact hPe _ _ (by simp [e]) (by simp) (by simp) (by simp) (by simp)
  · obtain ⟨w1, w2, w3⟩ := h.qa.2.2 d9 hd9
    refine ⟨?_, hqn d9 w2, by rw [ei _ _ (by simp)]; exact w3⟩
    unfold qc at *
    rw [eo _ _ (by simp), eo _ _ (by simp), eo _ _ (by simp), eo _ _ (by simp), eo _ _ (by simp), eo _ _ (by simp), eo _ _ (by simp)]
    exact w1
  · obtain ⟨a1, a2, a3⟩ := h.ff i (by omega)
    have hne : i ≠ n0 := by omega
    refine ⟨fun g => ?_, fun g => ?_, fun g => ?_⟩ <;> rcases hl _ g with w | w | w | w | ⟨z, w⟩ <;> first | exact a1 w | exact a2 w | exact a3 w | (have := congrArg (fun w : jc_L => w.2.2) w; exact hne this) | cases w
  · have hne : i ≠ n0 := by omega
    have hne2 : i ≠ j := by omega
    rw [hrc _ _ (by simp [hne]) (by simp) (by simp) (by simp) (by simp) (by simp) (by simp [hne2]), hrc _ _ (by simp) (by simp [hne]) (by simp) (by simp) (by simp) (by simp) (by simp), hrc _ _ (by simp) (by simp) (by simp [hne]) (by simp) (by simp) (by simp) (by simp)]
    exact h.fz i k (by omega)
  · have := h.c7
    rcases hfs.2.2.2.1 with w | w <;> omega
theorem ccI_all {J : jc_I} {t j n0 d s p : Nat} (hfc : J (9, t, 0) 2 = Int32.ofNat n0) (hn : n0 < 30) (hj : j + 1 = n0) (hp : J (6, d, 0) 1 = Int32.ofNat p) (hp8 : p ≤ 8) (h3 : J (8, t, j) 3 = Int32.ofNat (s + p)) (hsp : s + p ≤ 12) :
    m_ccI J t j d (8, t, j) 3 = Int32.ofNat s ∧ (∀ k, m_ccI J t j d (33, t, n0) k = if k < p then J (32, t, j) (s + k) else if k < 8 then 0 else J (33, t, n0) k) ∧ m_ccI J t j d (8, t, n0) 3 = 0 ∧ m_ccI J t j d (8, t, n0) 4 = 0 ∧ m_ccI J t j d (9, t, 0) 2 = Int32.ofNat (n0 + 1) ∧ ∀ q k, ¬ (q = (8, t, j) ∧ k = 3) → q ≠ (33, t, n0) → q ≠ (8, t, n0) → ¬ (q = (9, t, 0) ∧ k = 2) → m_ccI J t j d q k = J q k := by
  have hjn : j ≠ n0 := by omega
  have e9 : (J (9, t, 0) 2).toNatClampNeg = n0 := by rw [hfc, jofN (by omega)]
  unfold m_ccI
  rw [e9, hfc, jof1 (by omega), hp, jofN (by omega)]
  have q1 : ∀ q k, q ≠ (8, t, n0) → q ≠ (33, t, n0) → ¬ (q = (9, t, 0) ∧ k = 2) → jc_up (f_bg J t n0) (9, t, 0) 2 (Int32.ofNat (n0 + 1)) q k = J q k := fun q k g1 g2 g3 => (if_neg g3).trans (f_bg_e g1 g2)
  obtain ⟨a1, a2, a3⟩ := c_par_33 (t := t) (j := j) (n := n0) hjn p s (jc_up (f_bg J t n0) (9, t, 0) 2 (Int32.ofNat (n0 + 1))) (by rw [q1 _ _ (by simp; omega) (by simp) (by simp)]; exact h3) hsp hp8
  have z33 : ∀ k, jc_up (f_bg J t n0) (9, t, 0) 2 (Int32.ofNat (n0 + 1)) (33, t, n0) k = if k < 8 then 0 else J (33, t, n0) k := fun k => by
    rw [jc_up_t _ _ _ _ _ _ _ _ (by decide)]
    unfold f_bg jc_zr
    by_cases hk : k < 8
    · rw [if_pos ⟨rfl, hk⟩, if_pos hk]
    · rw [if_neg (fun g => hk g.2), if_neg hk, jc_up_t _ _ _ _ _ _ _ _ (by decide), jc_up_t _ _ _ _ _ _ _ _ (by decide)]
  refine ⟨a1, fun k => ?_, ?_, ?_, ?_, fun q k g1 g2 g3 g4 => (a3 q k g1 g2).trans (q1 q k g3 g2 g4)⟩
  · rw [a2 k, z33, q1 _ _ (by simp) (by simp) (by simp)]
  · rw [a3 _ _ (by simp; omega) (by simp), jc_up_t _ _ _ _ _ _ _ _ (by decide)]
    unfold f_bg jc_zr
    rw [if_neg (by simp), jc_up_k _ _ _ _ _ _ (by decide), jc_up_s]
  · rw [a3 _ _ (by simp) (by simp), jc_up_t _ _ _ _ _ _ _ _ (by decide)]
    unfold f_bg jc_zr
    rw [if_neg (by simp), jc_up_s]
  · rw [a3 _ _ (by simp) (by simp), jc_up_s]
theorem jo_18 {J I : jc_I} {O P : jc_O} {live lv : jc_L → Prop} {S : Int} {t n0 j i b n xt fn c9 : Nat} {K K' : List Int32} (h : CX J O live S t n0) (hj : j + 1 = n0) (tp : TP J t j (cd O t j) i K K') (r : RX I P lv t b n xt fn n0 c9) (f : FRc I P O t n0) (s : Sim t b n D J I) (hDn : D t = n0) (hcn : J (3, 0, 0) 2 = Int32.ofNat n) (ho : (bk J).op (cd O t j) i = 18) (hn : n0 < 30) (hqr : ∀ d, d < c9 → qr I d) : OUT J O live I P lv t j b n xt fn c9 D S 18 ((bk J).an (cd O t j) i) := by
  have hD : j < D t := by omega
  obtain ⟨rb, qf9, eo, ea⟩ := RB.of h hj tp r f s
  obtain ⟨hT, hf, hd, hc, hin, hC, hn9⟩ := h.top hj
  have eo2 : I (41, cd O t j, 0) i = 18 := eo.trans ho
  obtain ⟨ha, ⟨K1, hpar⟩, hcs⟩ := call_ty h.TH hj hn h.go tp h.C h.ho ho
  generalize hga : (bk J).an (cd O t j) i = a at *
  generalize hgd : a.toNatClampNeg = d at *
  have hdc : (d : Int) < (bk J).cn.toInt := by rw [← hgd]; exact jlN ha.1 ha.2
  have had : a = Int32.ofNat d := by
    apply Int32.toInt_inj.mp
    have h40 := jle.mp h.C.n1
    rw [show (40 : Int32).toInt = 40 from by decide] at h40
    rw [jofI (by omega), ← hgd, jNI ha.1]
  have hdc9 : d < c9 := by
    have e1 : I (15, 0, 0) 1 = J (1, 0, 0) 1 := (s (1, 0, 0) 1 _ rfl).symm
    have hdc : (d : Int) < (J (1, 0, 0) 1).toInt := hdc
    have hb1 := r.qa.2.1.le
    have hb2 := r.qa.2.1.cp
    rw [← e1, r.qa.2.1.sz, jofI (by omega)] at hdc
    omega
  have hpr := h.C.par d hdc
  generalize hgp : ((bk J).par d).toNatClampNeg = p at *
  have hp8 : p ≤ 8 := by
    have h1 := jNI hpr.1
    have h2 := jle.mp hpr.2
    rw [show (8 : Int32).toInt = 8 from by decide] at h2
    omega
  have hpJ : J (6, d, 0) 1 = Int32.ofNat p := by
    apply Int32.toInt_inj.mp
    rw [jofI (by omega), ← hgp, jNI hpr.1]
    rfl
  have hpI : I (11, d, 0) 0 = Int32.ofNat p := (s (6, d, 0) 1 _ rfl).symm.trans hpJ
  have hlen := p_par_len p K K1 hpar
  have hle12 := tp.tf.le
  have h3 : J (8, t, j) 3 = Int32.ofNat (K1.length + p) := by rw [tp.tf.d, hlen]
  obtain ⟨a1, a2, a3, a4, a5, a6⟩ := ccI_all h.TH.fc hn hj hpJ hp8 h3 (by omega)
  have hle := h.TH.le
  have e9 : (J (9, t, 0) 2).toNatClampNeg = n0 := by rw [h.TH.fc, jofN (by omega)]
  have hfcI := jofI (n := n0) (by omega)
  have hP := ct_M_perform_call (c := 0) (live := live) (op := 18) (a := a) h.M h.A h.st.2.1 (by rw [h.TH.fc, jle, hfcI, j0I]; omega) (by rw [h.TH.fc, jlt, hfcI, show (30 : Int32).toInt = 30 from by decide]; omega) (by rw [e9]; exact (h.st.2.2 n0 hn).1) (by rw [e9]; exact (h.st.2.2 n0 hn).2) hf hd (by rw [e9]; omega) ha rfl
  rw [hgd] at hP
  have hPU := r.pu hn
  have hN := q_pu_N (x := a) (c := (11, d, 0)) hPU r.fz
  have hfs := q_pu_fs (x := a) (c := (11, d, 0)) hPU
  have hqf := q_pu_f (x := a) (c := (11, d, 0)) hPU
  have hR := ct_m_step_18 rb.a1 rb.a2 rb.a3 rb.a4 rb.a5 rb.a6 rb.a7 rb.a8 q_pu_live (ct_m_call_o r.qt hPU qf9 (by omega) r.qa.2.1 (ea.trans had) hdc9 hpI hp8 (by rw [s.d hD, h3]) (by omega)) eo2
  rw [ea] at hR
  have r3 := r.call (j := j) (d := d) (s := K1.length) (p := p) (a := a) hn (by omega) hdc9 (hqr d hdc9)
  have hrc : rc t j n0 xt I (q_cp (jc_up (q_pu I P lv t xt n0 a (11, d, 0)).1 (12, t, j) 4 (Int32.ofNat K1.length)) t j n0 K1.length p) := rc_call
  have sm : Sim t b n (dU D t (n0 + 1)) (m_ccI J t j d) (q_cp (jc_up (q_pu I P lv t xt n0 a (11, d, 0)).1 (12, t, j) 4 (Int32.ofNat K1.length)) t j n0 K1.length p) := by
    refine s.call hDn hj r.x10 hp8 a1 a2 a3 a4 a5 a6 ?_ (fun k => ?_) ?_ ?_ ?_ hrc (fun k => ?_)
    · rw [q_cp_e (by simp), jc_up_s]
    · rw [q_cp_48, jc_up_t _ _ _ _ _ _ _ _ (by decide), jc_up_t _ _ _ _ _ _ _ _ (by decide), hN.2.2.2.1 k, q_pu_I (by simp) (by simp) (by simp; omega) (by simp) (by simp) (by simp)]
    · rw [q_cp_e (by simp), jc_up_q _ _ _ _ _ _ (by simp; omega)]; exact hN.2.1
    · rw [q_cp_e (by simp), jc_up_k _ _ _ _ _ _ (by decide)]; exact hN.2.2.1
    · rw [q_cp_e (by simp), jc_up_t _ _ _ _ _ _ _ _ (by decide)]; exact hN.2.2.2.2.2
    · rw [q_cp_e (by simp), jc_up_t _ _ _ _ _ _ _ _ (by decide)]; exact hN.2.2.2.2.1 k
  have e1 : (q_cp (jc_up (q_pu I P lv t xt n0 a (11, d, 0)).1 (12, t, j) 4 (Int32.ofNat K1.length)) t j n0 K1.length p) (12, t, n0) 1 = a := by rw [q_cp_e (by simp), jc_up_k _ _ _ _ _ _ (by decide)]; exact hN.1
  have hcn2 : ∀ i, i ≠ n0 → cd (m_ccO J O t d) t i = cd O t i := fun i hi => by unfold cd m_ccO; rw [e9, jc_up_q _ _ _ _ _ _ (by simp [hi])]
  have hcn3 : cd (m_ccO J O t d) t n0 = d := by unfold cd m_ccO; rw [e9, jc_up_s]; rfl
  have hX15 : ((15, 2, 0) : jc_L) ≠ (15, xt, 0) := by have := r.x10; simp; omega
  refine ⟨m_ccI J t j d, m_ccO J O t d, live, 0, 0, _, _, _, _, _, n, fnU fn n0, n0 + 1, hP, hR, ⟨hcs.tt, hcs.o, fun x hx => ?_, hcs.ho.mono (by omega), hcs.n0, hcs.n6, a6 _ _ (by simp) (by simp) (by simp) (by simp), ?_, ?_, fun q k g1 g2 g3 g4 => ?_, fun _ g => g, fun _ g => Or.inl g⟩, r3, fun i hi => ?_, sm, hcs.c.trans hcn, a5, hrc _ _ (by simp) (by simp) (by simp) (by simp) (by simp) (by simp) (by simp), hrc _ _ (by simp) (by simp) (by simp) (by simp) (by simp) (by simp) (by simp), ?_, ?_, by unfold PF; simp +decide only [if_true, if_false]; rw [hgd]⟩
  · unfold jV at *; rw [hcs.c]; exact hx
  · have g := h.H.to hcs.c
    unfold jw_H at g ⊢
    unfold m_ccO
    refine ⟨?_, ?_, g.2.2.1, g.2.2.2.1, fun k hk => ?_⟩
    · rw [jc_up_t _ _ _ _ _ _ _ _ (by decide)]; exact g.1
    · rw [jc_up_t _ _ _ _ _ _ _ _ (by decide)]; exact g.2.1
    · rw [jc_up_t _ _ _ _ _ _ _ _ (by decide), jc_up_t _ _ _ _ _ _ _ _ (by decide)]; exact g.2.2.2.2 k hk
  · have g := h.th
    unfold ThOK at g ⊢
    unfold m_ccO
    refine ⟨?_, fun k hk => ?_⟩
    · rw [jc_up_t _ _ _ _ _ _ _ _ (by decide)]; exact g.1
    · rw [jc_up_t _ _ _ _ _ _ _ _ (by decide), jc_up_t _ _ _ _ _ _ _ _ (by decide)]; exact g.2 k hk
  · unfold m_ccO
    exact if_neg (fun w => g1 (by rw [w.1, w.2]; exact ⟨rfl, rfl, rfl⟩))
  · by_cases e : i = n0
    · subst e
      rw [hcn3]
      exact ⟨hqf.2, e1.trans had⟩
    · have hne : i ≠ n0 := e
      rw [hcn2 i e, q_pu_O (by simp [hne]) (by simp) (by simp) (by simp) (by simp), hrc _ _ (by simp [hne]) (by simp) (by simp) (by simp) (by simp) (by simp) (by simp)]
      exact f i (by omega)
  · have hc2 : lcap (q_pu I P lv t xt n0 a (11, d, 0)).2.1 2 = lcap P 2 := by
      unfold lcap
      rw [q_pu_O (by simp) (by simp) (by simp) hX15 (by simp)]
    unfold BU
    rw [hc2]
    have hfu : fn ≤ fnU fn n0 := by unfold fnU; split <;> omega
    obtain ⟨-, c1, c2, -, c4⟩ := hfs
    refine ⟨Nat.le_refl _, hfu, c4, Nat.le_refl _, by omega, by omega⟩
  · refine ⟨fun q k g1 g2 g3 g4 g5 g6 g7 g8 => hrc q k (fun w => g1 (by rw [w]; simp)) (fun w => g1 (by rw [w]; simp)) (fun w => g1 (by rw [w]; simp)) (fun w => g1 (by rw [w.1]; simp)) g6 (fun z w => g7 (by rw [w])) (fun w => g1 (by rw [w.1]; simp)), fun q k g1 g2 g3 g4 g5 g6 g7 => q_pu_O (fun w => g1 (by rw [w]; simp)) (fun w => g1 (by rw [w]; simp)) (fun w => g1 (by rw [w]; simp)) g5 g7, q_pu_live, fun q g => ?_⟩
    rcases q_pu_l g with w | w | w | w | w
    · exact Or.inl w
    · rw [w]; simp
    · rw [w]; simp
    · rw [w]; simp
    · exact Or.inr (Or.inr (Or.inr (Or.inr (Or.inl w))))
