variable {D : Nat → Nat}
theorem jo_14 {J I : jc_I} {O P : jc_O} {live lv : jc_L → Prop} {S : Int} {t n0 j i b n xt fn c9 : Nat} {K K' : List Int32} (h : CX J O live S t n0) (hj : j + 1 = n0) (tp : TP J t j (cd O t j) i K K') (r : RX I P lv t b n xt fn n0 c9) (f : FRc I P O t n0) (s : Sim t b n D J I) (hDn : D t = n0) (hcn : J (3, 0, 0) 2 = Int32.ofNat n) (ho : (bk J).op (cd O t j) i = 14) : OUT J O live I P lv t j b n xt fn c9 D S 14 ((bk J).an (cd O t j) i) := by
  have hD : j < D t := by omega
  obtain ⟨rb, qf9, eo, ea⟩ := RB.of h hj tp r f s
  obtain ⟨hT, hf, hd, hc, hin, hC, hn⟩ := h.top hj
  have eo2 : I (41, cd O t j, 0) i = 14 := eo.trans ho
  obtain ⟨q1, q2, q3, q4⟩ := q_bnd hD tp.tf.d tp.tf.le s
  have hN := h.th.N h.ho h.nf
  have hp := tp.pi
  rw [ho, p_ins_14] at hp
  have hl12 := (p_push_some hp).2.2
  have hl : ¬ p_lst ((bk J).op (cd O t j) i) := by rw [ho]; exact nl (by decide) (by decide) (by decide)
  generalize hgx : (bk J).an (cd O t j) i = x at ea
  have hP := ct_M_perform_move (live := live) (op := 14) (a := x) h.M h.H hf hd hc hn hN (by decide)
  have em : m_mv J O live t j (cd O t j) 14 x = (f_psh (h_mk J O live x).2.1 t j (h_mk J O live x).1, (h_mk J O live x).2.2.1, (h_mk J O live x).2.2.2.1, (h_mk J O live x).2.2.2.2.1, (h_mk J O live x).2.2.2.2.2) := by unfold m_mv; simp +decide only [if_true, if_false]
  rw [em] at hP; dsimp only at hP
  have mk := MK.of (x := x) h
  have hn3 := r.qt.n3
  have hmf := r.qt.mf
  obtain ⟨nb1, nb2⟩ := nf_b s h.nf hcn hn3 r.mk r.mb
  have r2 := r.make (x := x) nb1 nb2
  have s2 := s.make (O := O) (live := live) (x := x) h.nf h.ho hcn hn3 r.qt.ob r.qt.md
  have f2 := f.make r.qt.ob r.qt.md hn3 mk
  obtain ⟨m1, m2, m3⟩ := mk_new (O := O) (live := live) (x := x) h.nf
  have g1 := (q_mk_fact (x := x) r.qt.ob r.qt.md (by omega)).1
  have e12 : (q_mk I P lv x).2.1 (12, t, j) 4 = I (12, t, j) 4 := q_mk_I (by decide) (by decide) (by decide) (by decide) (by decide)
  have hR := ct_m_step_pl rb.a1 rb.a2 rb.a3 rb.a4 rb.a5 rb.a6 rb.a7 rb.a8 q_mk_live (ct_m_plain_14 r.qt (by rw [ea]; exact r2.fr j (by omega)) (by rw [ea, e12]; exact q2) (by rw [ea, e12]; exact q4 hl12) eo2) (by clear rb r f s h tp hT hf hd hC hn mk hP f2 r2 s2; rw [eo2]; decide)
  rw [ea] at hR
  have ev : (q_mk I P lv x).1 = (h_mk J O live x).1 := by rw [g1, m1, hcn, jof1 (by omega)]
  rw [ev] at hR
  have hfl : fl t j (h_mk J O live x).2.1 (f_on (f_psh (h_mk J O live x).2.1 t j (h_mk J O live x).1) t j) := fl_psh.tr fl_on
  have hrl : rl t j (q_mk I P lv x).2.1 (q_on (q_psh (q_mk I P lv x).2.1 t j (h_mk J O live x).1) t j) := rl_psh.tr rl_on
  have tf2 := tp.tf.heap (fun q k a b _ c => mk.e q k a b c) mk.v
  have hh : fh t j J (f_on (f_psh (h_mk J O live x).2.1 t j (h_mk J O live x).1) t j) := fh.tr (fun q k _ _ _ a b _ c => mk.e q k a b c) hfl.h
  have e9 : ∀ k, f_on (f_psh (h_mk J O live x).2.1 t j (h_mk J O live x).1) t j (9, t, 0) k = J (9, t, 0) k := fun k => hh _ _ (by simp) (by simp) (by simp) (by simp) (by simp) (by simp) (by simp)
  have ec : cd (h_mk J O live x).2.2.1 t j = cd O t j := by unfold cd; rw [mk.eo _ _ (by simp) (by simp) (by simp)]
  have hft : FTJ (f_on (f_psh (h_mk J O live x).2.1 t j (h_mk J O live x).1) t j) t j (cd (h_mk J O live x).2.2.1 t j) := by
    rw [ec]
    refine tp.on h.C hl ?_ ?_ (TF.psh tf2 hp (fun _ => (mk_v h.nf h.ho).2.1))
    · rw [fl_psh.bk]; exact bk_eq (fun q k hq => mk.e q k (by omega) (by omega) (by omega))
    · rw [n_psh tf2.d hl12, jc_up_k _ _ _ _ _ _ (by decide), jc_up_t _ _ _ _ _ _ _ _ (by decide), mk.e _ _ (by simp) (by simp) (by simp)]
  have hc3 : f_on (f_psh (h_mk J O live x).2.1 t j (h_mk J O live x).1) t j (3, 0, 0) 2 = (h_mk J O live x).2.1 (3, 0, 0) 2 := flc hfl
  obtain ⟨u1, u2, u3⟩ := q_mk_cost (x := x) r.qt.ob
  obtain ⟨w1, w2⟩ := h_mk_cost (J := J) (O := O) (live := live) (x := x)
  have exc : lcap (q_mk I P lv x).2.2.1 xt = lcap P xt := by
    have hx9 := r.x10
    unfold lcap
    rw [(q_mk_fact (x := x) r.qt.ob r.qt.md (by omega)).2.2.2.2.2.2.2.2.2 _ _ (by simp) (by simp) (by simp; omega) (by simp)]
  refine ⟨_, _, _, _, _, _, _, _, _, _, n + 1, fn, n0, hP, hR, ⟨⟨n0, mk.TH.loc hj hfl.h (fun y hy => by rw [hfl.v]; exact hy) hft, Or.inl ⟨(e9 4).trans h.go, h.np⟩⟩, hh.ot, fun y hy => by rw [hfl.v]; exact mk.v y hy, (mk.ho.fl hfl).mono (by omega), e9 0, e9 6, e9 3, mk.H.to hc3, mk.th, fun q k _ a b c => mk.eo q k a b c, h_mk_live, mk.l2⟩, r2.loc (j := j) (by omega) hrl, f2.loc hrl, ?_, ?_, (e9 2).trans h.TH.fc, ?_, ?_, ?_, (RK.make r).tr (RK.loc hrl) (Nat.le_succ n), by unfold PF; simp +decide only [if_true, if_false]; first | rw [em] | rw [hgx, em]⟩
  · rw [dU_e hDn]; exact (s2.psh hD tf2.d hl12).on
  · rw [hc3, m2, hcn, jof1 (by omega)]
  · rw [hrl _ _ (by simp) (by simp) (by simp) (by simp) (by simp) (by simp), q_mk_I (by decide) (by decide) (by decide) (by decide) (by decide)]
  · rw [hrl _ _ (by simp) (by simp) (by simp) (by simp) (by simp) (by simp), q_mk_I (by decide) (by decide) (by decide) (by decide) (by decide)]
  · unfold BU
    rw [exc]
    omega
theorem MK.T {J : jc_I} {O : jc_O} {live : jc_L → Prop} {x : Int32} {S : Int} {t n0 : Nat} (h : MK J O live x S t n0) : jw_T (h_mk J O live x).2.1 (h_mk J O live x).2.2.1 t := by
  have hle := h.TH.le
  have hfc := h.TH.fc
  have e1 := jofI (n := n0) (by omega)
  refine ⟨h.st.2.1, ?_, ?_, fun j hj => ?_⟩
  · rw [hfc, jle, e1, j0I]; omega
  · rw [hfc, jle, e1, show (30 : Int32).toInt = 30 from by decide]; omega
  · rw [hfc, e1] at hj
    have a := h.TH.any (j := j) (by omega)
    obtain ⟨K, d1, d2⟩ := a.d
    have e2 := jofI (n := K.length) (by omega)
    refine ⟨(h.st.2.2 j (by omega)).1, (h.st.2.2 j (by omega)).2, ?_, h.TH.co j (by omega), a.cn⟩
    unfold jw_d
    rw [d2, jle, jle, e2, j0I, show (12 : Int32).toInt = 12 from by decide]
    omega
/-- a whole step, as a function of the first side alone -/
def SF (J : jc_I) (O : jc_O) (live : jc_L → Prop) (t j : Nat) : jc_S :=
  if m_fo (s_cs J t) t j (m_op (s_cs J t) t j (cd O t j)) = 0 then PF (s_cs J t) O live t j (cd O t j) (m_op (s_cs J t) t j (cd O t j)) (m_an (s_cs J t) t j (cd O t j))
  else (m_rse (h_mk (s_cs J t) O live (m_fo (s_cs J t) t j (m_op (s_cs J t) t j (cd O t j)))).2.1 (h_mk (s_cs J t) O live (m_fo (s_cs J t) t j (m_op (s_cs J t) t j (cd O t j)))).2.2.1 t (h_mk (s_cs J t) O live (m_fo (s_cs J t) t j (m_op (s_cs J t) t j (cd O t j)))).1, (h_mk (s_cs J t) O live (m_fo (s_cs J t) t j (m_op (s_cs J t) t j (cd O t j)))).2.2)
/-- both sides, a step done: the class's whole step -/
def OUT2 (J0 J : jc_I) (O : jc_O) (live : jc_L → Prop) (I : jc_I) (P : jc_O) (lv : jc_L → Prop) (t j b n xt fn c9 : Nat) (D : Nat → Nat) (S : Int) : Prop :=
  ∃ (J' : jc_I) (O' : jc_O) (live' : jc_L → Prop) (mc ms : Nat) (I' : jc_I) (P' : jc_O) (lv' : jc_L → Prop) (mc' ms' n' fn' m' : Nat),
    jc_Ct y_M_step [.inr (some (4, 0, 0)), .inr (some (9, t, 0))] J0 O live (none, J', O', live', mc, ms) ∧
    jc_Ct y_m_step [.inr (some (10, 0, 0)), .inr (some (14, t, 0))] I P lv (none, I', P', lv', mc', ms') ∧
    CP J O live J' O' live' t S ∧ RX I' P' lv' t b n' xt fn' m' c9 ∧ FRc I' P' O' t m' ∧ Sim t b n' (dU D t m') J' I' ∧ J' (3, 0, 0) 2 = Int32.ofNat n' ∧ J' (9, t, 0) 2 = Int32.ofNat m' ∧
    I' (14, t, 0) 3 = I (14, t, 0) 3 ∧ I' (14, t, 0) 6 = I (14, t, 0) 6 ∧ BU mc ms mc' ms' P P' xt n n' fn fn' ∧ RK t b n xt I P lv I' P' lv' ∧ SF J0 O live t j = (J', O', live', mc, ms)
theorem OUT.to2 {J0 : jc_I} {I : jc_I} {O P : jc_O} {live lv : jc_L → Prop} {S : Int} {t n0 j i b n xt fn c9 : Nat} {K K' : List Int32} {op a : Int32} (h0 : CX J0 O live S t n0) (hj : j + 1 = n0) (tp : TP (s_cs J0 t) t j (cd O t j) i K K') (hop : (bk (s_cs J0 t)).op (cd O t j) i = op) (ha : (bk (s_cs J0 t)).an (cd O t j) i = a) (hF : m_fo (s_cs J0 t) t j op = 0) (o : OUT (s_cs J0 t) O live I P lv t j b n xt fn c9 D S op a) : OUT2 J0 (s_cs J0 t) O live I P lv t j b n xt fn c9 D S := by
  obtain ⟨J', O', live', mc, ms, I', P', lv', mc', ms', n', fn', m', hP, hR, hCP, w1, w2, w3, w4, w5, w6, w7, w8, w9, hpf⟩ := o
  obtain ⟨hT, hf, hd, hc, hin, hC, hn⟩ := h0.top hj
  obtain ⟨e1, e2⟩ := tp.op h0.cs.C
  rw [hop] at e1
  rw [ha] at e2
  refine ⟨J', O', live', mc, ms, I', P', lv', mc', ms', n', fn', m', ct_M_step_p h0.M h0.H hT hf hd hc hC hn (by rw [e1]; exact hF) hCP.l1 (by rw [e1, e2]; exact hP), hR, hCP, w1, w2, w3, w4, w5, w6, w7, w8, w9, ?_⟩
  unfold SF
  rw [e1, e2, if_pos hF]
  exact hpf
theorem m_kd_new {J : jc_I} {O : jc_O} {live : jc_L → Prop} {x : Int32} {S : Int} (hf : ¬ full J) (hH : HO J S) : m_kd (h_mk J O live x).2.1 (h_mk J O live x).1 = x := by
  obtain ⟨m1, m2, m3, m4, m5⟩ := mk_new (O := O) (live := live) (x := x) hf
  have h1 := (mk_v (O := O) (live := live) (x := x) hf hH).2
  have c0 := jNI hH.c0
  unfold m_kd
  rw [if_pos ⟨h1.2, h1.1.2⟩, m1]
  have : (J (3, 0, 0) 2 + 1 - 1).toNatClampNeg = (J (3, 0, 0) 2).toNatClampNeg := by
    congr 1
    grind
  rw [this]
  exact m4
/-- a failure that the machine makes -/
theorem OUT2.fail {J0 : jc_I} {I : jc_I} {O P : jc_O} {live lv : jc_L → Prop} {S : Int} {t n0 j i b n xt fn c9 : Nat} {K K' : List Int32} {op x : Int32} (h0 : CX J0 O live S t n0) (hj : j + 1 = n0) (tp : TP (s_cs J0 t) t j (cd O t j) i K K') (r : RX I P lv t b n xt fn n0 c9) (f : FRc I P O t n0) (s : Sim t b n D (s_cs J0 t) I) (hDn : D t = n0) (hcn : J0 (3, 0, 0) 2 = Int32.ofNat n) (hop : (bk (s_cs J0 t)).op (cd O t j) i = op) (hF : m_fo (s_cs J0 t) t j op = x) (hx : x ≠ 0)
    (hR : jc_Ct y_m_step [.inr (some (10, 0, 0)), .inr (some (14, t, 0))] I P lv (none, q_fI I P lv t b n n0 x, (q_mk I P lv x).2.2.1, (q_mk I P lv x).2.2.2.1, (q_mk I P lv x).2.2.2.2.1, (q_mk I P lv x).2.2.2.2.2)) : OUT2 J0 (s_cs J0 t) O live I P lv t j b n xt fn c9 D S := by
  have h := h0.cs
  have hcn1 : s_cs J0 t (3, 0, 0) 2 = Int32.ofNat n := by rw [jk_cs (3, 0, 0) 2 (by simp)]; exact hcn
  obtain ⟨hT, hf, hd, hc, hin, hC, hn⟩ := h0.top hj
  obtain ⟨e1, e2⟩ := tp.op h.C
  rw [hop] at e1
  have mk := MK.of (x := x) h
  have hP := ct_M_step_f h0.M h0.H hT hf hd hc hC hn (by rw [e1, hF]; exact hx) (h.th.N h.ho h.nf) (by rw [e1, hF]; exact mk.M) (by rw [e1, hF]; exact mk.H) (by rw [e1, hF]; exact mk.A) (by rw [e1, hF]; exact mk.T)
  rw [e1, hF] at hP
  have hsf : SF J0 O live t j = (m_rse (h_mk (s_cs J0 t) O live x).2.1 (h_mk (s_cs J0 t) O live x).2.2.1 t (h_mk (s_cs J0 t) O live x).1, (h_mk (s_cs J0 t) O live x).2.2) := by
    unfold SF
    rw [e1, if_neg (by rw [hF]; exact hx), hF]
  generalize hJ : s_cs J0 t = J at *
  have hn3 := r.qt.n3
  have hmf := r.qt.mf
  have hle := h.TH.le
  obtain ⟨nb1, nb2⟩ := nf_b s h.nf hcn1 hn3 r.mk r.mb
  have r2 := r.make (x := x) nb1 nb2
  have s2 := s.make (O := O) (live := live) (x := x) h.nf h.ho hcn1 hn3 r.qt.ob r.qt.md
  have f2 := f.make r.qt.ob r.qt.md hn3 mk
  obtain ⟨m1, m2, m3⟩ := mk_new (O := O) (live := live) (x := x) h.nf
  have g1 := (q_mk_fact (x := x) r.qt.ob r.qt.md (by omega)).1
  have ev : (q_mk I P lv x).1 = (h_mk J O live x).1 := by rw [g1, m1, hcn1, jof1 (by omega)]
  have e9 : ∀ k, (h_mk J O live x).2.1 (9, t, 0) k = J (9, t, 0) k := fun k => mk.e _ _ (by simp) (by simp) (by simp)
  have hfr : ((h_mk J O live x).2.1 (9, t, 0) 2).toNatClampNeg = n0 := by rw [e9, h.TH.fc, jofN (by omega)]
  have ers : m_rse (h_mk J O live x).2.1 (h_mk J O live x).2.2.1 t (h_mk J O live x).1 = m_rs (h_mk J O live x).2.2.1 t (h_mk J O live x).1 x n0 (h_mk J O live x).2.1 := by
    unfold m_rse
    rw [m_kd_new h.nf h.ho, hfr]
  have hc2 : (h_mk J O live x).2.1 (3, 0, 0) 2 = Int32.ofNat (n + 1) := by rw [m2, hcn1, jof1 (by omega)]
  obtain ⟨m', b1, b2, b3, b4⟩ := Sim.rs (O := (h_mk J O live x).2.2.1) (P := (q_mk I P lv x).2.2.1) (x := (h_mk J O live x).1) (k := x) (n := n + 1) (by omega) n0 (dU D t j) (h_mk J O live x).2.1 (q_mk I P lv x).2.1 hle (by rw [dU_s]; omega) (s2.cut hDn (by omega)) f2 hc2 ((e9 2).trans h.TH.fc) r2.qt.d
  rw [dU_dU] at b2
  have hjs := rse_ty (x := (h_mk J O live x).1) mk.TH ((e9 4).trans h.go) (by rw [bk_eq (fun q k hq => mk.e q k (by omega) (by omega) (by omega))]; exact h.C) (mk_v h.nf h.ho).2.1 mk.ho
  have h3s := rse_3 (J := (h_mk J O live x).2.1) (O := (h_mk J O live x).2.2.1) (t := t) (x := (h_mk J O live x).1)
  rw [ers] at hP hjs h3s hsf
  unfold q_fI at hR
  rw [ev] at hR
  have hrr := rr_rs (P := (q_mk I P lv x).2.2.1) (t := t) (b := b) (n := n + 1) (x := (h_mk J O live x).1) (y := x) n0 (q_mk I P lv x).2.1
  have hd2 : q_rs (q_mk I P lv x).2.2.1 t b (n + 1) (h_mk J O live x).1 x n0 (q_mk I P lv x).2.1 (14, t, 0) 2 = Int32.ofNat m' := by
    rw [← b3]; exact (b2 (9, t, 0) 2 ((14, t, 0), 2) (by unfold mu; simp)).symm
  have r3 := r2.rs hrr hd2 b1
  have f3 := f2.rs hrr b1
  obtain ⟨u1, u2, u3⟩ := q_mk_cost (x := x) r.qt.ob
  obtain ⟨w1, w2⟩ := h_mk_cost (J := J) (O := O) (live := live) (x := x)
  have exc : lcap (q_mk I P lv x).2.2.1 xt = lcap P xt := by
    have hx9 := r.x10
    unfold lcap
    rw [(q_mk_fact (x := x) r.qt.ob r.qt.md (by omega)).2.2.2.2.2.2.2.2.2 _ _ (by simp) (by simp) (by simp; omega) (by simp)]
  refine ⟨_, _, _, _, _, _, _, _, _, _, n + 1, fn, m', hP, hR, ⟨hjs.tt, ot.tr (fun q k a b c d e => mk.e q k b c e) hjs.o, fun y hy => ?_, hjs.ho.mono (by omega), hjs.n0.trans (e9 0), hjs.n6.trans (e9 6), h3s.trans (e9 3), mk.H.to hjs.c, mk.th, fun q k _ a b c => mk.eo q k a b c, h_mk_live, mk.l2⟩, r3, f3, b2, b4, b3, ?_, ?_, ?_, (RK.make r).tr (RK.rs hrr) (Nat.le_succ n), hsf⟩
  · have := mk.v y hy
    unfold jV at this ⊢
    rw [hjs.c]
    exact this
  · rw [hrr _ _ (by simp) (by simp) (by simp) (by simp), q_mk_I (by decide) (by decide) (by decide) (by decide) (by decide)]
  · rw [hrr _ _ (by simp) (by simp) (by simp) (by simp), q_mk_I (by decide) (by decide) (by decide) (by decide) (by decide)]
  · unfold BU
    rw [exc]
    omega
