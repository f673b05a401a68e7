theorem m_x {x : Int32} {m : Nat} (h0 : 0 ≤ x) (h1 : x < Int32.ofNat m) (hm : m < 1000) : x = Int32.ofNat x.toNatClampNeg ∧ x.toNatClampNeg < m := by
  have e := jNI h0
  have e2 := jlt.mp h1
  rw [jofI (by omega)] at e2
  refine ⟨?_, by omega⟩
  apply Int32.toInt_inj.mp
  rw [jofI (by omega), e]
theorem CO.an4 {B : jc_B} (h : CO B) {c i : Nat} (hc : (c : Int) < B.cn.toInt) (hi : i < (B.sz c).toNatClampNeg) (ho : B.op c i = 25 ∨ B.op c i = 26 ∨ B.op c i = 16 ∨ B.op c i = 17) : 0 ≤ B.an c i ∧ B.an c i < 4 ∧ B.an c i = Int32.ofNat (B.an c i).toNatClampNeg ∧ (B.an c i).toNatClampNeg < 4 := by
  obtain ⟨a, b⟩ := (h.ins c i hc hi).2.2.1 ho
  have h4 : B.an c i < 4 := by grind
  obtain ⟨x, y⟩ := m_x (m := 4) a h4 (by omega)
  exact ⟨a, h4, x, y⟩
theorem CO.an8 {B : jc_B} (h : CO B) {c i : Nat} (hc : (c : Int) < B.cn.toInt) (hi : i < (B.sz c).toNatClampNeg) (ho : B.op c i = 23 ∨ B.op c i = 24) : 0 ≤ B.an c i ∧ B.an c i < 8 ∧ B.an c i = Int32.ofNat (B.an c i).toNatClampNeg ∧ (B.an c i).toNatClampNeg < 8 ∧ 4 ≤ (B.an c i).toNatClampNeg := by
  obtain ⟨a, b⟩ := (h.ins c i hc hi).2.2.2 ho
  have h0 : 0 ≤ B.an c i := by grind
  have h8 : B.an c i < 8 := by grind
  obtain ⟨x, y⟩ := m_x (m := 8) h0 h8 (by omega)
  refine ⟨h0, h8, x, y, ?_⟩
  have e := jNI h0
  have e2 := jle.mp a
  rw [show (4 : Int32).toInt = 4 from by decide] at e2
  omega
/-- a local that is told -/
theorem CO.lo {B : jc_B} (h : CO B) {c : Nat} (hc : (c : Int) < B.cn.toInt) {a : Int32} (hk : p_lk B c a ≠ 0) : 0 ≤ a ∧ a < B.lc c ∧ a < 8 ∧ a = Int32.ofNat a.toNatClampNeg ∧ a.toNatClampNeg < 8 ∧ p_lk B c a = B.lk c a.toNatClampNeg ∧ (a.toNatClampNeg : Int) < (B.lc c).toInt := by
  have hp : 0 ≤ a ∧ a < B.lc c := by
    unfold p_lk at hk
    split at hk
    · assumption
    · exact absurd rfl hk
  have h8 : a < 8 := by have := (h.lc c hc).2; grind
  obtain ⟨x, y⟩ := m_x (m := 8) hp.1 h8 (by omega)
  refine ⟨hp.1, hp.2, h8, x, y, if_pos hp, ?_⟩
  have e := jNI hp.1
  have e2 := jlt.mp hp.2
  omega
theorem jLS.pop {J : jc_I} {t j c i : Nat} {k : Int32} {K' : List Int32} {S : Int} (h : TP J t j c i (k :: K') K') (hC : CO (bk J)) (hH : HO J S) (hl : ¬ p_lst ((bk J).op c i)) : jLS J (f_on (f_pop J t j) t j) t j c S := .of_fl (h.on hC hl fl_pop.bk pop4 (TF.pop h.tf).1) (fl_pop.tr fl_on) hH
theorem jo_0 {D : Nat → Nat} {J I : jc_I} {O P : jc_O} {live lv : jc_L → Prop} {S : Int} {t n0 j i b n xt fn c9 : Nat} {K K' : List Int32} (h : CX J O live S t n0) (hj : j + 1 = n0) (tp : TP J t j (cd O t j) i K K') (r : RX I P lv t b n xt fn n0 c9) (f : FRc I P O t n0) (s : Sim t b n D J I) (hDn : D t = n0) (hcn : J (3, 0, 0) 2 = Int32.ofNat n) (ho : (bk J).op (cd O t j) i = 0) : OUT J O live I P lv t j b n xt fn c9 D S 0 ((bk J).an (cd O t j) i) := by
  have hD : j < D t := by omega
  obtain ⟨rb, qf9, eo, ea⟩ := RB.of h hj tp r f s
  obtain ⟨hT, hf, hd, hc, hin, hC, hn⟩ := h.top hj
  have eo2 : I (41, cd O t j, 0) i = 0 := eo.trans ho
  obtain ⟨q1, q2, q3, q4⟩ := q_bnd hD tp.tf.d tp.tf.le s
  have hN := h.th.N h.ho h.nf
  have hl : ¬ p_lst ((bk J).op (cd O t j) i) := by rw [ho]; exact nl (by decide) (by decide) (by decide)
  have hp := tp.pi
  rw [ho, p_ins_0] at hp
  have hl12 := (p_push_some hp).2.2
  have hP := ct_M_perform_move (live := live) (op := 0) (a := (bk J).an (cd O t j) i) h.M h.H hf hd hc hn hN (by decide)
  have em : m_mv J O live t j (cd O t j) 0 ((bk J).an (cd O t j) i) = (f_psh J t j ((bk J).an (cd O t j) i), O, live, 0, 0) := by unfold m_mv; simp +decide only [if_true, if_false]
  rw [em] at hP; dsimp only at hP
  have hR := ct_m_step_pl rb.a1 rb.a2 rb.a3 rb.a4 rb.a5 rb.a6 rb.a7 rb.a8 (fun q h => h) (ct_m_plain_0 r.qt qf9 q2 (q4 hl12) eo2) (by clear rb r f s h tp hT hf hd hC hn; rw [eo2]; decide)
  rw [ea] at hR
  exact OUT.loc h hj r f hcn hP hR (ls_push tp h.C h.ho hl hp (fun e => absurd e (by decide))) (by omega) (flc (t := t) (j := j) (fl_psh.tr fl_on)) (rl_psh.tr rl_on) ((s.psh hD tp.tf.d hl12).on) hDn (by unfold PF; simp +decide only [if_true, if_false]; rw [em])
theorem jo_1 {D : Nat → Nat} {J I : jc_I} {O P : jc_O} {live lv : jc_L → Prop} {S : Int} {t n0 j i b n xt fn c9 : Nat} {K K' : List Int32} (h : CX J O live S t n0) (hj : j + 1 = n0) (tp : TP J t j (cd O t j) i K K') (r : RX I P lv t b n xt fn n0 c9) (f : FRc I P O t n0) (s : Sim t b n D J I) (hDn : D t = n0) (hcn : J (3, 0, 0) 2 = Int32.ofNat n) (ho : (bk J).op (cd O t j) i = 1) : OUT J O live I P lv t j b n xt fn c9 D S 1 ((bk J).an (cd O t j) i) := by
  have hD : j < D t := by omega
  obtain ⟨rb, qf9, eo, ea⟩ := RB.of h hj tp r f s
  obtain ⟨hT, hf, hd, hc, hin, hC, hn⟩ := h.top hj
  have eo2 : I (41, cd O t j, 0) i = 1 := eo.trans ho
  obtain ⟨q1, q2, q3, q4⟩ := q_bnd hD tp.tf.d tp.tf.le s
  have hN := h.th.N h.ho h.nf
  have hl : ¬ p_lst ((bk J).op (cd O t j) i) := by rw [ho]; exact nl (by decide) (by decide) (by decide)
  have hp := tp.pi
  rw [ho, p_ins_1] at hp
  have hl12 := (p_push_some hp).2.2
  have hP := ct_M_perform_move (live := live) (op := 1) (a := (bk J).an (cd O t j) i) h.M h.H hf hd hc hn hN (by decide)
  have em : m_mv J O live t j (cd O t j) 1 ((bk J).an (cd O t j) i) = (f_psh J t j 0, O, live, 0, 0) := by unfold m_mv; simp +decide only [if_true, if_false]
  rw [em] at hP; dsimp only at hP
  have hR := ct_m_step_pl rb.a1 rb.a2 rb.a3 rb.a4 rb.a5 rb.a6 rb.a7 rb.a8 (fun q h => h) (ct_m_plain_1 r.qt qf9 q2 (q4 hl12) eo2) (by clear rb r f s h tp hT hf hd hC hn; rw [eo2]; decide)
  exact OUT.loc h hj r f hcn hP hR (ls_push tp h.C h.ho hl hp (fun e => jV.z h.ho.c0)) (by omega) (flc (t := t) (j := j) (fl_psh.tr fl_on)) (rl_psh.tr rl_on) ((s.psh hD tp.tf.d hl12).on) hDn (by unfold PF; simp +decide only [if_true, if_false]; rw [em])
theorem jo_2 {D : Nat → Nat} {J I : jc_I} {O P : jc_O} {live lv : jc_L → Prop} {S : Int} {t n0 j i b n xt fn c9 : Nat} {K K' : List Int32} (h : CX J O live S t n0) (hj : j + 1 = n0) (tp : TP J t j (cd O t j) i K K') (r : RX I P lv t b n xt fn n0 c9) (f : FRc I P O t n0) (s : Sim t b n D J I) (hDn : D t = n0) (hcn : J (3, 0, 0) 2 = Int32.ofNat n) (ho : (bk J).op (cd O t j) i = 2) : OUT J O live I P lv t j b n xt fn c9 D S 2 ((bk J).an (cd O t j) i) := by
  have hD : j < D t := by omega
  obtain ⟨rb, qf9, eo, ea⟩ := RB.of h hj tp r f s
  obtain ⟨hT, hf, hd, hc, hin, hC, hn⟩ := h.top hj
  have eo2 : I (41, cd O t j, 0) i = 2 := eo.trans ho
  obtain ⟨q1, q2, q3, q4⟩ := q_bnd hD tp.tf.d tp.tf.le s
  have hN := h.th.N h.ho h.nf
  have hl : ¬ p_lst ((bk J).op (cd O t j) i) := by rw [ho]; exact nl (by decide) (by decide) (by decide)
  have hp := tp.pi
  rw [ho, p_ins_2] at hp
  cases K with
  | nil => cases hp
  | cons x K0 =>
    have hp : (if x ≠ 0 then some K0 else none) = some K' := hp
    split at hp
    case isFalse => cases hp
    cases hp
    have hP := ct_M_perform_move (live := live) (op := 2) (a := (bk J).an (cd O t j) i) h.M h.H hf hd hc hn hN (by decide)
    have em : m_mv J O live t j (cd O t j) 2 ((bk J).an (cd O t j) i) = (f_pop J t j, O, live, 0, 0) := by unfold m_mv; simp +decide only [if_true, if_false]
    rw [em] at hP; dsimp only at hP
    have hR := ct_m_step_pl rb.a1 rb.a2 rb.a3 rb.a4 rb.a5 rb.a6 rb.a7 rb.a8 (fun q h => h) (ct_m_plain_2 r.qt qf9 eo2) (by clear rb r f s h tp hT hf hd hC hn; rw [eo2]; decide)
    exact OUT.loc h hj r f hcn hP hR (jLS.pop tp h.C h.ho hl) (by omega) (flc (t := t) (j := j) (fl_pop.tr fl_on)) (rl_pop.tr rl_on) ((s.pop hD tp.tf.d tp.tf.le).on) hDn (by unfold PF; simp +decide only [if_true, if_false]; rw [em])
theorem jo_3 {D : Nat → Nat} {J I : jc_I} {O P : jc_O} {live lv : jc_L → Prop} {S : Int} {t n0 j i b n xt fn c9 : Nat} {K K' : List Int32} (h : CX J O live S t n0) (hj : j + 1 = n0) (tp : TP J t j (cd O t j) i K K') (r : RX I P lv t b n xt fn n0 c9) (f : FRc I P O t n0) (s : Sim t b n D J I) (hDn : D t = n0) (hcn : J (3, 0, 0) 2 = Int32.ofNat n) (ho : (bk J).op (cd O t j) i = 3) : OUT J O live I P lv t j b n xt fn c9 D S 3 ((bk J).an (cd O t j) i) := by
  have hD : j < D t := by omega
  obtain ⟨rb, qf9, eo, ea⟩ := RB.of h hj tp r f s
  obtain ⟨hT, hf, hd, hc, hin, hC, hn⟩ := h.top hj
  have eo2 : I (41, cd O t j, 0) i = 3 := eo.trans ho
  obtain ⟨q1, q2, q3, q4⟩ := q_bnd hD tp.tf.d tp.tf.le s
  have hN := h.th.N h.ho h.nf
  have hl : ¬ p_lst ((bk J).op (cd O t j) i) := by rw [ho]; exact nl (by decide) (by decide) (by decide)
  have hp := tp.pi
  rw [ho, p_ins_3] at hp
  cases K with
  | nil => cases hp
  | cons x K0 =>
    have hp : p_push x (x :: K0) = some K' := hp
    have hl12 := (p_push_some hp).2.2
    have hP := ct_M_perform_move (live := live) (op := 3) (a := (bk J).an (cd O t j) i) h.M h.H hf hd hc hn hN (by decide)
    have em : m_mv J O live t j (cd O t j) 3 ((bk J).an (cd O t j) i) = (f_psh J t j (f_pk J t j 0), O, live, 0, 0) := by unfold m_mv; simp +decide only [if_true, if_false]
    rw [em] at hP; dsimp only at hP
    have hR := ct_m_step_pl rb.a1 rb.a2 rb.a3 rb.a4 rb.a5 rb.a6 rb.a7 rb.a8 (fun q h => h) (ct_m_plain_3 r.qt qf9 (q1 (by simp)) (q4 hl12) eo2) (by clear rb r f s h tp hT hf hd hC hn; rw [eo2]; decide)
    rw [s.tp hD tp.tf.d tp.tf.le, n_tp tp.tf.d tp.tf.le, ← n_pk tp.tf.d tp.tf.le] at hR
    exact OUT.loc h hj r f hcn hP hR (ls_push tp h.C h.ho hl hp (fun e => by rw [n_pk tp.tf.d tp.tf.le]; exact tp.tf.ty.1 e)) (by omega) (flc (t := t) (j := j) (fl_psh.tr fl_on)) (rl_psh.tr rl_on) ((s.psh hD tp.tf.d hl12).on) hDn (by unfold PF; simp +decide only [if_true, if_false]; rw [em])
theorem jo_9 {D : Nat → Nat} {J I : jc_I} {O P : jc_O} {live lv : jc_L → Prop} {S : Int} {t n0 j i b n xt fn c9 : Nat} {K K' : List Int32} (h : CX J O live S t n0) (hj : j + 1 = n0) (tp : TP J t j (cd O t j) i K K') (r : RX I P lv t b n xt fn n0 c9) (f : FRc I P O t n0) (s : Sim t b n D J I) (hDn : D t = n0) (hcn : J (3, 0, 0) 2 = Int32.ofNat n) (ho : (bk J).op (cd O t j) i = 9) : OUT J O live I P lv t j b n xt fn c9 D S 9 ((bk J).an (cd O t j) i) := by
  have hD : j < D t := by omega
  obtain ⟨rb, qf9, eo, ea⟩ := RB.of h hj tp r f s
  obtain ⟨hT, hf, hd, hc, hin, hC, hn⟩ := h.top hj
  have eo2 : I (41, cd O t j, 0) i = 9 := eo.trans ho
  obtain ⟨q1, q2, q3, q4⟩ := q_bnd hD tp.tf.d tp.tf.le s
  have hN := h.th.N h.ho h.nf
  have hl : ¬ p_lst ((bk J).op (cd O t j) i) := by rw [ho]; exact nl (by decide) (by decide) (by decide)
  have hp := tp.pi
  rw [ho, p_ins_9] at hp
  obtain ⟨e1, e2, hl12⟩ := p_push_some hp
  obtain ⟨l1, l2, l3, l4, l5, l6, l7⟩ := h.C.lo tp.tf.cn e2
  have ela : f_la J t j (cd O t j) ((bk J).an (cd O t j) i) = J (33, t, j) ((bk J).an (cd O t j) i).toNatClampNeg := if_pos ⟨l1, l2⟩
  have hP := ct_M_perform_move (live := live) (op := 9) (a := (bk J).an (cd O t j) i) h.M h.H hf hd hc hn hN (by decide)
  have em : m_mv J O live t j (cd O t j) 9 ((bk J).an (cd O t j) i) = (f_psh J t j (f_la J t j (cd O t j) ((bk J).an (cd O t j) i)), O, live, 0, 0) := by unfold m_mv; simp +decide only [if_true, if_false]
  rw [em] at hP; dsimp only at hP
  rw [ela] at hP
  have hR := ct_m_step_pl rb.a1 rb.a2 rb.a3 rb.a4 rb.a5 rb.a6 rb.a7 rb.a8 (fun q h => h) (ct_m_plain_9 r.qt qf9 q2 (q4 hl12) (by rw [ea]; exact l1) (by rw [ea]; exact l3) eo2) (by clear rb r f s h tp hT hf hd hC hn; rw [eo2]; decide)
  rw [ea, s.lo] at hR
  exact OUT.loc h hj r f hcn hP hR (ls_push tp h.C h.ho hl hp (fun e => tp.tf.lo _ l7 (by rw [← l6]; exact e))) (by omega) (flc (t := t) (j := j) (fl_psh.tr fl_on)) (rl_psh.tr rl_on) ((s.psh hD tp.tf.d hl12).on) hDn (by unfold PF; simp +decide only [if_true, if_false]; rw [em, ela])
theorem jo_10 {D : Nat → Nat} {J I : jc_I} {O P : jc_O} {live lv : jc_L → Prop} {S : Int} {t n0 j i b n xt fn c9 : Nat} {K K' : List Int32} (h : CX J O live S t n0) (hj : j + 1 = n0) (tp : TP J t j (cd O t j) i K K') (r : RX I P lv t b n xt fn n0 c9) (f : FRc I P O t n0) (s : Sim t b n D J I) (hDn : D t = n0) (hcn : J (3, 0, 0) 2 = Int32.ofNat n) (ho : (bk J).op (cd O t j) i = 10) : OUT J O live I P lv t j b n xt fn c9 D S 10 ((bk J).an (cd O t j) i) := by
  have hD : j < D t := by omega
  obtain ⟨rb, qf9, eo, ea⟩ := RB.of h hj tp r f s
  obtain ⟨hT, hf, hd, hc, hin, hC, hn⟩ := h.top hj
  have eo2 : I (41, cd O t j, 0) i = 10 := eo.trans ho
  obtain ⟨q1, q2, q3, q4⟩ := q_bnd hD tp.tf.d tp.tf.le s
  have hN := h.th.N h.ho h.nf
  have hl : ¬ p_lst ((bk J).op (cd O t j) i) := by rw [ho]; exact nl (by decide) (by decide) (by decide)
  have hp := tp.pi
  rw [ho, p_ins_10] at hp
  obtain ⟨e1, e2⟩ := p_take_some hp
  obtain ⟨l1, l2, l3, l4, l5, l6, l7⟩ := h.C.lo tp.tf.cn e2
  subst e1
  have hP := ct_M_perform_move (live := live) (op := 10) (a := (bk J).an (cd O t j) i) h.M h.H hf hd hc hn hN (by decide)
  have em : m_mv J O live t j (cd O t j) 10 ((bk J).an (cd O t j) i) = (f_sl (f_pop J t j) t j ((bk J).an (cd O t j) i) (f_tp J t j), O, live, 0, 0) := by unfold m_mv; simp +decide only [if_true, if_false]
  rw [em] at hP; dsimp only at hP
  have hR := ct_m_step_pl rb.a1 rb.a2 rb.a3 rb.a4 rb.a5 rb.a6 rb.a7 rb.a8 (fun q h => h) (ct_m_plain_10 r.qt qf9 (q1 (by simp)) q3 (by rw [ea]; exact l1) (by rw [ea]; exact l3) eo2) (by clear rb r f s h tp hT hf hd hC hn; rw [eo2]; decide)
  rw [ea, s.tp hD tp.tf.d tp.tf.le] at hR
  obtain ⟨p1, p2⟩ := TF.pop tp.tf
  have hT2 := TF.sl (x := f_tp J t j) p1 l5 (fun g => by rw [fl_pop.v]; rw [fl_pop.bk] at g; exact p2 (l6.trans g))
  have f2 : fl t j J (f_sl (f_pop J t j) t j ((bk J).an (cd O t j) i) (f_tp J t j)) := fl_pop.tr fl_sl
  have hs := (s.pop hD tp.tf.d tp.tf.le).sl (t := t) (j := j) (x := f_tp J t j) l5
  rw [← l4] at hT2 hs
  refine OUT.loc h hj r f hcn hP hR (.of_fl (tp.on h.C hl f2.bk ?_ hT2) (f2.tr fl_on) h.ho) (by omega) (flc (t := t) (j := j) (f2.tr fl_on)) ((rl_pop.tr rl.u48).tr rl_on) hs.on hDn (by unfold PF; simp +decide only [if_true, if_false]; rw [em])
  unfold f_sl
  split
  · rw [jc_up_t _ _ _ _ _ _ _ _ (by decide)]; exact pop4
  · exact pop4
theorem jo_25 {D : Nat → Nat} {J I : jc_I} {O P : jc_O} {live lv : jc_L → Prop} {S : Int} {t n0 j i b n xt fn c9 : Nat} {K K' : List Int32} (h : CX J O live S t n0) (hj : j + 1 = n0) (tp : TP J t j (cd O t j) i K K') (r : RX I P lv t b n xt fn n0 c9) (f : FRc I P O t n0) (s : Sim t b n D J I) (hDn : D t = n0) (hcn : J (3, 0, 0) 2 = Int32.ofNat n) (ho : (bk J).op (cd O t j) i = 25) : OUT J O live I P lv t j b n xt fn c9 D S 25 ((bk J).an (cd O t j) i) := by
  have hD : j < D t := by omega
  obtain ⟨rb, qf9, eo, ea⟩ := RB.of h hj tp r f s
  obtain ⟨hT, hf, hd, hc, hin, hC, hn⟩ := h.top hj
  have eo2 : I (41, cd O t j, 0) i = 25 := eo.trans ho
  obtain ⟨q1, q2, q3, q4⟩ := q_bnd hD tp.tf.d tp.tf.le s
  have hN := h.th.N h.ho h.nf
  have hl : ¬ p_lst ((bk J).op (cd O t j) i) := by rw [ho]; exact nl (by decide) (by decide) (by decide)
  have hp := tp.pi
  rw [ho, p_ins_25] at hp
  have hl12 := (p_push_some hp).2.2
  obtain ⟨l1, l2, l3, l4⟩ := h.C.an4 tp.tf.cn tp.lt (Or.inl ho)
  have ega : h_ga J ((bk J).an (cd O t j) i) = J (31, 0, 0) ((bk J).an (cd O t j) i).toNatClampNeg := if_pos ⟨l1, l2⟩
  have hP := ct_M_perform_move (live := live) (op := 25) (a := (bk J).an (cd O t j) i) h.M h.H hf hd hc hn hN (by decide)
  have em : m_mv J O live t j (cd O t j) 25 ((bk J).an (cd O t j) i) = (f_psh J t j (h_ga J ((bk J).an (cd O t j) i)), O, live, 0, 0) := by unfold m_mv; simp +decide only [if_true, if_false]
  rw [em] at hP; dsimp only at hP
  rw [ega] at hP
  have hR := ct_m_step_pl rb.a1 rb.a2 rb.a3 rb.a4 rb.a5 rb.a6 rb.a7 rb.a8 (fun q h => h) (ct_m_plain_25 r.qt qf9 q2 (q4 hl12) (by rw [ea]; exact l1) (by rw [ea]; exact l2) eo2) (by clear rb r f s h tp hT hf hd hC hn; rw [eo2]; decide)
  rw [ea, ← s (31, 0, 0) ((bk J).an (cd O t j) i).toNatClampNeg _ rfl] at hR
  exact OUT.loc h hj r f hcn hP hR (ls_push tp h.C h.ho hl hp (fun _ => h.ho.gl _ l4)) (by omega) (flc (t := t) (j := j) (fl_psh.tr fl_on)) (rl_psh.tr rl_on) ((s.psh hD tp.tf.d hl12).on) hDn (by unfold PF; simp +decide only [if_true, if_false]; rw [em, ega])
theorem jo_26 {D : Nat → Nat} {J I : jc_I} {O P : jc_O} {live lv : jc_L → Prop} {S : Int} {t n0 j i b n xt fn c9 : Nat} {K K' : List Int32} (h : CX J O live S t n0) (hj : j + 1 = n0) (tp : TP J t j (cd O t j) i K K') (r : RX I P lv t b n xt fn n0 c9) (f : FRc I P O t n0) (s : Sim t b n D J I) (hDn : D t = n0) (hcn : J (3, 0, 0) 2 = Int32.ofNat n) (ho : (bk J).op (cd O t j) i = 26) : OUT J O live I P lv t j b n xt fn c9 D S 26 ((bk J).an (cd O t j) i) := by
  have hD : j < D t := by omega
  obtain ⟨rb, qf9, eo, ea⟩ := RB.of h hj tp r f s
  obtain ⟨hT, hf, hd, hc, hin, hC, hn⟩ := h.top hj
  have eo2 : I (41, cd O t j, 0) i = 26 := eo.trans ho
  obtain ⟨q1, q2, q3, q4⟩ := q_bnd hD tp.tf.d tp.tf.le s
  have hN := h.th.N h.ho h.nf
  have hl : ¬ p_lst ((bk J).op (cd O t j) i) := by rw [ho]; exact nl (by decide) (by decide) (by decide)
  have hp := tp.pi
  rw [ho, p_ins_26] at hp
  obtain ⟨e1, e2⟩ := p_take_some hp
  subst e1
  obtain ⟨l1, l2, l3, l4⟩ := h.C.an4 tp.tf.cn tp.lt (Or.inr (Or.inl ho))
  have hP := ct_M_perform_move (live := live) (op := 26) (a := (bk J).an (cd O t j) i) h.M h.H hf hd hc hn hN (by decide)
  have em : m_mv J O live t j (cd O t j) 26 ((bk J).an (cd O t j) i) = (h_sg (f_pop J t j) ((bk J).an (cd O t j) i) (f_tp J t j), O, live, 0, 0) := by unfold m_mv; simp +decide only [if_true, if_false]
  rw [em] at hP; dsimp only at hP
  have hR := ct_m_step_pl rb.a1 rb.a2 rb.a3 rb.a4 rb.a5 rb.a6 rb.a7 rb.a8 (fun q h => h) (ct_m_plain_26 r.qt qf9 (q1 (by simp)) q3 (by rw [ea]; exact l1) (by rw [ea]; exact l2) eo2) (by clear rb r f s h tp hT hf hd hC hn; rw [eo2]; decide)
  rw [ea, s.tp hD tp.tf.d tp.tf.le] at hR
  obtain ⟨p1, p2⟩ := TF.pop tp.tf
  have esg : h_sg (f_pop J t j) ((bk J).an (cd O t j) i) (f_tp J t j) = jc_up (f_pop J t j) (31, 0, 0) ((bk J).an (cd O t j) i).toNatClampNeg (f_tp J t j) := by
    have := h_sg_n (J := f_pop J t j) (x := f_tp J t j) l4
    rw [← l3] at this
    exact this
  have hho : HO (h_sg (f_pop J t j) ((bk J).an (cd O t j) i) (f_tp J t j)) S := by
    have := (h.ho.fl (fl_pop (t := t) (j := j))).sg (x := f_tp J t j) l4 (by rw [fl_pop.v]; exact p2 rfl)
    rw [← l3] at this
    exact this
  have hcc : h_sg (f_pop J t j) ((bk J).an (cd O t j) i) (f_tp J t j) (3, 0, 0) 2 = J (3, 0, 0) 2 := by rw [esg, jc_up_t _ _ _ _ _ _ _ _ (by decide)]; exact flc (t := t) (j := j) fl_pop
  have hsm : Sim t b n D (h_sg (f_pop J t j) ((bk J).an (cd O t j) i) (f_tp J t j)) (jc_up (q_pop I t j) (50, 0, 0) ((bk J).an (cd O t j) i).toNatClampNeg (f_tp J t j)) := by rw [esg]; exact (s.pop hD tp.tf.d tp.tf.le).up rfl
  refine OUT.loc h hj r f hcn hP hR (jLS.heap tp h.C hl fl_pop pop4 p1 (fun q k _ _ h31 _ => ?_) (fun x hx => ?_) hho) (by omega) ((fl_on (t := t) (j := j)).o (by decide) (by decide) (by decide) |>.trans hcc) ((rl_pop.tr (rl.ob (Or.inr (Or.inr rfl)))).tr rl_on) hsm.on hDn (by unfold PF; simp +decide only [if_true, if_false]; rw [em])
  · rw [esg]; exact jc_up_q _ _ _ _ _ _ (fun g => h31 (by rw [g]))
  · unfold jV at *; rw [esg, jc_up_t _ _ _ _ _ _ _ _ (by decide)]; exact hx
