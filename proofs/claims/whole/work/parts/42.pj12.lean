theorem p_rch.tr {B : jc_B} {c d e : Nat} (h : p_rch B c d) (h2 : p_rch B d e) : p_rch B c e := fun P h0 hs => h2 P (h P h0 hs) hs
theorem TF.other {J J' : jc_I} {t j n d : Nat} {K : List Int32} (h : TFJ J t n d K) (hf : fl t j J J') (hne : j ≠ n) : TFJ J' t n d K := by
  have e8 : ∀ k, J' (8, t, n) k = J (8, t, n) k := fun k => hf _ _ (by simp; omega) (by simp) (by simp)
  have e32 : J' (32, t, n) = J (32, t, n) := by funext k; exact hf _ _ (by simp) (by simp; omega) (by simp)
  have e33 : J' (33, t, n) = J (33, t, n) := by funext k; exact hf _ _ (by simp) (by simp) (by simp; omega)
  unfold TFJ
  rw [hf.bk, hf.v, e8, e32, e33]
  exact h
theorem p_lk_n {B : jc_B} {d m : Nat} (hm : m < 2147483648) (h : p_lk B d (Int32.ofNat m) ≠ 0) : p_lk B d (Int32.ofNat m) = B.lk d m ∧ (m : Int) < (B.lc d).toInt := by
  unfold p_lk at h ⊢
  split at h
  · rename_i hc
    rw [if_pos hc, jofN hm]
    refine ⟨rfl, ?_⟩
    have := jlt.mp hc.2
    rw [jofI hm] at this
    exact this
  · exact absurd rfl h
def fp (t j n : Nat) (J J' : jc_I) : Prop := (∀ q k, ¬ (q = (8, t, j) ∧ k = 3) → q ≠ (33, t, n) → J' q k = J q k)
theorem c_par_ty {t j n c d : Nat} (hne : j ≠ n) : ∀ (m : Nat) (J : jc_I) (K K1 : List Int32), TFJ J t j c K → TFJ J t n d [] → p_par (bk J) d m K = some K1 → m ≤ 8 → TFJ (c_par t j n m (Int32.ofNat m - 1) J) t j c K1 ∧ TFJ (c_par t j n m (Int32.ofNat m - 1) J) t n d [] ∧ fp t j n J (c_par t j n m (Int32.ofNat m - 1) J)
  | 0, J, K, K1, h1, h2, hp, _ => by
    cases hp
    exact ⟨h1, h2, fun _ _ _ _ => rfl⟩
  | m + 1, J, K, K1, h1, h2, hp, hm => by
    rw [c_par, jofs (by omega)]
    have hp : (p_take (p_lk (bk J) d (Int32.ofNat m)) K).bind (p_par (bk J) d m) = some K1 := hp
    obtain ⟨K2, a1, a2⟩ := bind_some hp
    obtain ⟨e1, e2⟩ := p_take_some a1
    obtain ⟨e3, e4⟩ := p_lk_n (by omega) e2
    subst e1
    obtain ⟨b1, b2⟩ := TF.pop h1
    have f1 : fl t j J (f_pop J t j) := fl_pop
    have c2 : TFJ (f_pop J t j) t n d [] := h2.other f1 hne
    have c3 := TF.sl (i := m) (x := f_tp J t j) c2 (by omega) (fun g => by rw [f1.v]; rw [f1.bk] at g; exact b2 (e3.trans g))
    have f2 : fl t n (f_pop J t j) (f_sl (f_pop J t j) t n (Int32.ofNat m) (f_tp J t j)) := fl_sl
    have c1 := TF.other b1 f2 (Ne.symm hne)
    obtain ⟨r1, r2, r3⟩ := c_par_ty hne m _ K2 K1 c1 c3 (by rw [f2.bk, f1.bk]; exact a2) (by omega)
    refine ⟨r1, r2, fun q k g1 g2 => (r3 q k g1 g2).trans ?_⟩
    rw [show f_sl (f_pop J t j) t n (Int32.ofNat m) (f_tp J t j) q k = f_pop J t j q k from by
      unfold f_sl
      split
      · exact jc_up_q _ _ _ _ _ _ g2
      · rfl]
    unfold f_pop jc_up
    rw [if_neg g1]
def jCS (J J' : jc_I) (O O' : jc_O) (t : Nat) (S : Int) : Prop := (jTT J' O' t) ∧ (ot t J J') ∧ (J' (3, 0, 0) 2 = J (3, 0, 0) 2) ∧ (HO J' S) ∧ (J' (9, t, 0) 0 = J (9, t, 0) 0) ∧ (J' (9, t, 0) 6 = J (9, t, 0) 6)
theorem jCS.tt {J J' : jc_I} {O O' : jc_O} {t : Nat} {S : Int} (h9 : jCS J J' O O' t S) : jTT J' O' t := h9.1
theorem jCS.o {J J' : jc_I} {O O' : jc_O} {t : Nat} {S : Int} (h9 : jCS J J' O O' t S) : ot t J J' := h9.2.1
theorem jCS.c {J J' : jc_I} {O O' : jc_O} {t : Nat} {S : Int} (h9 : jCS J J' O O' t S) : J' (3, 0, 0) 2 = J (3, 0, 0) 2 := h9.2.2.1
theorem jCS.ho {J J' : jc_I} {O O' : jc_O} {t : Nat} {S : Int} (h9 : jCS J J' O O' t S) : HO J' S := h9.2.2.2.1
theorem jCS.n0 {J J' : jc_I} {O O' : jc_O} {t : Nat} {S : Int} (h9 : jCS J J' O O' t S) : J' (9, t, 0) 0 = J (9, t, 0) 0 := h9.2.2.2.2.1
theorem jCS.n6 {J J' : jc_I} {O O' : jc_O} {t : Nat} {S : Int} (h9 : jCS J J' O O' t S) : J' (9, t, 0) 6 = J (9, t, 0) 6 := h9.2.2.2.2.2
theorem f_bg_e {J : jc_I} {t n : Nat} {q : jc_L} {k : Nat} (h1 : q ≠ (8, t, n)) (h2 : q ≠ (33, t, n)) : f_bg J t n q k = J q k := by
  unfold f_bg jc_zr
  rw [if_neg (fun g => h2 g.1), jc_up_q _ _ _ _ _ _ h1, jc_up_q _ _ _ _ _ _ h1]
theorem call_ty {J : jc_I} {O : jc_O} {t n j i : Nat} {K K' : List Int32} {S : Int} (h : TH J O t n) (hj : j + 1 = n) (hn : n < 30) (h4 : J (9, t, 0) 4 = 0) (hp : TP J t j (cd O t j) i K K') (hC : CO (bk J)) (hH : HO J S) (ho : (bk J).op (cd O t j) i = 18) :
    (0 ≤ (bk J).an (cd O t j) i ∧ (bk J).an (cd O t j) i < (bk J).cn) ∧ (∃ K1, p_par (bk J) ((bk J).an (cd O t j) i).toNatClampNeg ((bk J).par ((bk J).an (cd O t j) i).toNatClampNeg).toNatClampNeg K = some K1) ∧ jCS J (m_ccI J t j ((bk J).an (cd O t j) i).toNatClampNeg) O (m_ccO J O t ((bk J).an (cd O t j) i).toNatClampNeg) t S := by
  have hpi := hp.pi
  rw [ho, p_ins_18] at hpi
  split at hpi
  case isFalse => cases hpi
  rename_i ha
  refine ⟨ha, ?_⟩
  obtain ⟨K1, a1, a2⟩ := bind_some hpi
  refine ⟨⟨K1, a1⟩, ?_⟩
  generalize hd : ((bk J).an (cd O t j) i).toNatClampNeg = d at *
  have hdc : (d : Int) < (bk J).cn.toInt := by rw [← hd]; exact jlN ha.1 ha.2
  have hrd : p_rch (bk J) (cd O t j) d := by rw [← hd]; exact p_rch.call .self hp.lt ho ha.1 ha.2
  have hal : p_all (bk J) d := fun e he => hp.tf.al e (hrd.tr he)
  have hjn : j ≠ n := by omega
  have e9 : (J (9, t, 0) 2).toNatClampNeg = n := by rw [h.fc, jofN (by omega)]
  unfold m_ccI m_ccO
  rw [e9, h.fc, jof1 (by omega)]
  generalize hJ1 : jc_up (f_bg J t n) (9, t, 0) 2 (Int32.ofNat (n + 1)) = J1
  have q1 : ∀ q k, q ≠ (8, t, n) → q ≠ (33, t, n) → ¬ (q = (9, t, 0) ∧ k = 2) → J1 q k = J q k := by
    intro q k g1 g2 g3
    rw [← hJ1]
    unfold jc_up
    rw [if_neg g3]
    exact f_bg_e g1 g2
  have hb1 : bk J1 = bk J := bk_eq (fun q k hq => q1 q k (fun g => by rw [g] at hq; simp at hq) (fun g => by rw [g] at hq; simp at hq) (fun g => by rw [g.1] at hq; simp at hq))
  have hV1 : jV J1 = jV J := by funext y; unfold jV; rw [q1 _ _ (by simp) (by simp) (by simp)]
  have hT1 : TFJ J1 t j (cd O t j) K := by
    have e8 : ∀ k, J1 (8, t, j) k = J (8, t, j) k := fun k => q1 _ _ (by simp; omega) (by simp) (by simp)
    have e32 : J1 (32, t, j) = J (32, t, j) := by funext k; exact q1 _ _ (by simp) (by simp) (by simp)
    have e33 : J1 (33, t, j) = J (33, t, j) := by funext k; exact q1 _ _ (by simp) (by simp; omega) (by simp)
    unfold TFJ
    rw [hb1, hV1, e8, e32, e33]
    exact hp.tf
  have hT2 : TFJ J1 t n d [] := by
    unfold TFJ
    rw [hb1, hV1]
    refine ⟨hal, hdc, ?_, by decide, trivial, fun k hk _ => ?_⟩
    · rw [← hJ1, jc_up_t _ _ _ _ _ _ _ _ (by decide)]
      unfold f_bg jc_zr
      rw [if_neg (by simp), jc_up_k _ _ _ _ _ _ (by decide), jc_up_s]
      rfl
    · have h8 : k < 8 := by
        have := (hC.lc d hdc).2
        rw [jle, show (8 : Int32).toInt = 8 from by decide] at this
        omega
      rw [← hJ1, jc_up_t _ _ _ _ _ _ _ _ (by decide)]
      unfold f_bg jc_zr
      rw [if_pos ⟨rfl, h8⟩]
      exact jV.z hH.c0
  have hpar := hC.par d hdc
  have hm8 : ((bk J).par d).toNatClampNeg ≤ 8 := by
    have h1 := jNI hpar.1
    have h2 := hpar.2
    rw [jle, show (8 : Int32).toInt = 8 from by decide] at h2
    omega
  have epar : Int32.ofNat ((bk J).par d).toNatClampNeg = J (6, d, 0) 1 := by
    apply Int32.toInt_inj.mp
    rw [jofI (by omega), jNI hpar.1]
    rfl
  obtain ⟨r1, r2, r3⟩ := c_par_ty hjn ((bk J).par d).toNatClampNeg J1 K K1 hT1 hT2 (by rw [hb1]; exact a1) hm8
  rw [epar] at r1 r2 r3
  have hJ2 : ∃ J2, c_par t j n ((bk J).par d).toNatClampNeg (J (6, d, 0) 1 - 1) J1 = J2 := ⟨_, rfl⟩
  obtain ⟨J2, hJ2⟩ := hJ2
  have goal : jCS J J2 O (jc_up O (8, t, n) 2 (some (6, d, 0))) t S := by
    rw [hJ2] at r1 r2 r3
    have q2 : ∀ q k, q ≠ (8, t, n) → q ≠ (33, t, n) → ¬ (q = (9, t, 0) ∧ k = 2) → ¬ (q = (8, t, j) ∧ k = 3) → J2 q k = J q k := fun q k g1 g2 g3 g4 => (r3 q k g4 g2).trans (q1 q k g1 g2 g3)
    have hb2 : bk J2 = bk J := bk_eq (fun q k hq => q2 q k (fun g => by rw [g] at hq; simp at hq) (fun g => by rw [g] at hq; simp at hq) (fun g => by rw [g.1] at hq; simp at hq) (fun g => by rw [g.1] at hq; simp at hq))
    have hV2 : jV J2 = jV J := by funext y; unfold jV; rw [q2 _ _ (by simp) (by simp) (by simp) (by simp)]
    have hco : ∀ j', j' ≠ n → cd (jc_up O (8, t, n) 2 (some (6, d, 0))) t j' = cd O t j' := by
      intro j' hj'
      unfold cd
      rw [jc_up_q _ _ _ _ _ _ (by simp [hj'])]
    have hcn : cd (jc_up O (8, t, n) 2 (some (6, d, 0))) t n = d := by
      unfold cd
      rw [jc_up_s]
      rfl
    have h91 : J2 (9, t, 0) 2 = Int32.ofNat (n + 1) := by
      rw [r3 _ _ (by simp) (by simp), ← hJ1, jc_up_s]
    refine ⟨⟨n + 1, ⟨h91, by omega, fun j' hj' => ?_, fun j' hj' => ?_, fun j' hj' => ?_⟩, Or.inl ⟨?_, by omega⟩⟩, ?_, ?_, ?_, ?_, ?_⟩
    · by_cases e : j' = n
      · subst e; rw [hcn, jc_up_s]
      · rw [hco j' e, jc_up_q _ _ _ _ _ _ (by simp [e])]; exact h.co j' (by omega)
    · have : j' = n := by omega
      subst this
      rw [hcn]
      obtain ⟨z1, z2⟩ := (hal d .self).zero
      refine ⟨0, [], ?_, by rw [hb2]; exact z2, by rw [hb2]; exact z1, r2⟩
      rw [r3 _ _ (by simp) (by simp), ← hJ1, jc_up_t _ _ _ _ _ _ _ _ (by decide)]
      unfold f_bg jc_zr
      rw [if_neg (by simp), jc_up_s]
      rfl
    · by_cases e : j' = j
      · subst e
        rw [hco j' hjn, show j' + 1 = n from hj, hcn]
        refine ⟨i, K, K1, ?_, by rw [hb2]; exact hp.lt, by rw [hb2]; exact hp.pa, by rw [hb2]; exact ho, by rw [hb2]; exact ha, by rw [hb2]; exact hd, by rw [hb2]; exact a1, r1⟩
        rw [q2 _ _ (by simp; omega) (by simp) (by simp) (by simp)]
        exact hp.at_
      · rw [hco j' (by omega), hco (j' + 1) (by omega)]
        have e8 : ∀ k, J2 (8, t, j') k = J (8, t, j') k := fun k => q2 _ _ (by simp; omega) (by simp) (by simp) (by simp [e])
        have e32 : J2 (32, t, j') = J (32, t, j') := by funext k; exact q2 _ _ (by simp) (by simp) (by simp) (by simp)
        have e33 : J2 (33, t, j') = J (33, t, j') := by funext k; exact q2 _ _ (by simp) (by simp; omega) (by simp) (by simp)
        unfold FMJ
        rw [hb2, hV2, e8, e8, e32, e33]
        exact h.mid j' (by omega)
    · rw [q2 _ _ (by simp) (by simp) (by simp) (by simp)]; exact h4
    · intro q k g1 g2 g3 g4 g5
      exact q2 q k (fun g => g1 (by rw [g]; simp) (by rw [g])) (fun g => g1 (by rw [g]; simp) (by rw [g])) (fun g => g1 (by rw [g.1]; simp) (by rw [g.1])) (fun g => g1 (by rw [g.1]; simp) (by rw [g.1]))
    · exact q2 _ _ (by simp) (by simp) (by simp) (by simp)
    · exact hH.to (fun q k hq => q2 q k (fun g => by rw [g] at hq; simp at hq) (fun g => by rw [g] at hq; simp at hq) (fun g => by rw [g.1] at hq; simp at hq) (fun g => by rw [g.1] at hq; simp at hq))
    · exact q2 _ _ (by simp) (by simp) (by simp) (by simp)
    · exact q2 _ _ (by simp) (by simp) (by simp) (by simp)
  rw [← hJ2] at goal
  exact goal
theorem p_end_some {K K' : List Int32} (h : p_end K = some K') : K = [] := by
  unfold p_end at h
  split at h
  · assumption
  · cases h
theorem TP.ret {J : jc_I} {t j c i : Nat} {K K' : List Int32} (h : TP J t j c i K K') (ho : (bk J).op c i = 22) : (J (6, c, 0) 2 ≠ 0 ∧ K = [J (6, c, 0) 2]) ∨ (J (6, c, 0) 2 = 0 ∧ K = []) := by
  have hp := h.pi
  rw [ho, p_ins_22] at hp
  by_cases hr : (bk J).res c ≠ 0
  · rw [if_pos hr] at hp
    obtain ⟨K1, a1, a2⟩ := bind_some hp
    have e := p_end_some a2
    subst e
    exact Or.inl ⟨hr, (p_take_some a1).1⟩
  · rw [if_neg hr] at hp
    exact Or.inr ⟨Decidable.not_not.mp hr, p_end_some hp⟩
theorem ret0_ty {J : jc_I} {O : jc_O} {t j i : Nat} {K K' : List Int32} {S : Int} (h : TH J O t 1) (hj : j = 0) (hp : TP J t j (cd O t j) i K K') (hC : CO (bk J)) (hH : HO J S) (ho : (bk J).op (cd O t j) i = 22) : jRS J (m_gb0 J t j (cd O t j)) O t S := by
  have hf : fl t j J (if J (6, cd O t j, 0) 2 ≠ 0 then f_pop J t j else J) := fl.ite fl_pop fl.rf
  unfold m_gb0
  have e2 : (if J (6, cd O t j, 0) 2 ≠ 0 then f_pop J t j else J) (9, t, 0) 2 = 1 := (hf.o (by decide) (by decide) (by decide)).trans h.fc
  have hef : s_ef (if J (6, cd O t j, 0) 2 ≠ 0 then f_pop J t j else J) t (9, t, 0) 2 = 0 := by
    rw [s_ef_2 (by rw [e2]; decide), e2]; decide
  have hk : ∀ k, k ≠ 2 → s_ef (if J (6, cd O t j, 0) 2 ≠ 0 then f_pop J t j else J) t (9, t, 0) k = J (9, t, 0) k := by
    intro k hk
    unfold s_ef
    rw [jc_up_k _ _ _ _ _ _ hk]
    exact hf.o (by decide) (by decide) (by decide)
  refine ⟨jTT_end hef (Or.inl rfl), (hf.h.ot.tr ot_ef).tr ot_end, ?_, ?_, ?_, ?_⟩
  · rw [end_v, s_ef_t (by decide)]; exact hf.o (by decide) (by decide) (by decide)
  · exact HO.end_ ((hH.fl hf).to (fun q k hq => jk_ef q k (by simp; omega)))
  · rw [end_9.2.2.2.1]; exact hk 0 (by decide)
  · rw [end_9.2.2.2.2]; exact hk 6 (by decide)
theorem ret1_ty {J : jc_I} {O : jc_O} {t n j l i : Nat} {K K' : List Int32} {S : Int} (h : TH J O t n) (hj : j + 1 = n) (hl : l + 1 = j) (h4 : J (9, t, 0) 4 = 0) (hp : TP J t j (cd O t j) i K K') (hC : CO (bk J)) (hH : HO J S) (ho : (bk J).op (cd O t j) i = 22) : jRS J (m_gb1 J t j l (cd O t j)) O t S := by
  obtain ⟨i1, K0, K1, b1, b2, b3, b4, b5, b6, b7, b8⟩ := h.mid l (by omega)
  rw [hl] at b6 b7
  have hn := h.le
  have e1 := jofI (n := j) (by omega)
  have hef : ∀ X : jc_I, X (9, t, 0) 2 = Int32.ofNat n → s_ef X t = jc_up X (9, t, 0) 2 (Int32.ofNat j) := by
    intro X hX
    unfold s_ef
    rw [hX, ← hj, jofs (by omega), if_neg (by rw [jlt, e1, j0I]; omega)]
  have hcall : p_res (bk J) (cd O t j) K1 = p_run (bk J) (cd O t l) (i1 + 1) := by
    obtain ⟨A, A', g1, g2, g3⟩ := (b8.al _ .self).at_ b2
    rw [b3] at g1
    cases g1
    rw [b4, p_ins_18, if_pos b5, b6, b7] at g2
    rw [g3]; exact g2
  obtain ⟨A, A', g1, g2, g3⟩ := (b8.al _ .self).at_ b2
  rw [g3] at hcall
  obtain ⟨o1, o2⟩ := (b8.al _ .self).on b2 (by rw [b4]; exact nl (by decide) (by decide) (by decide))
  have h60 := hC.s60 b8.cn
  have key : ∃ J1, (if J (6, cd O t j, 0) 2 ≠ 0 then f_psh (s_ef (f_pop J t j) t) t l (f_tp J t j) else s_ef J t) = J1 ∧ TFJ J1 t l (cd O t l) A' ∧ J1 (8, t, l) 4 = J (8, t, l) 4 ∧ (∀ q k, q ≠ (8, t, l) → q ≠ (32, t, l) → q ≠ (33, t, l) → q ≠ (8, t, j) → ¬ (q = (9, t, 0) ∧ k = 2) → J1 q k = J q k) ∧ J1 (9, t, 0) 2 = Int32.ofNat j := by
    have pre : ∀ X : jc_I, (∀ q k, q ≠ (8, t, j) → ¬ (q = (9, t, 0) ∧ k = 2) → X q k = J q k) → TFJ X t l (cd O t l) K1 ∧ jV X = jV J ∧ X (8, t, l) 4 = J (8, t, l) 4 := by
      intro X hq
      have hb : bk X = bk J := bk_eq (fun q k w => hq q k (fun g => by rw [g] at w; simp at w) (fun g => by rw [g.1] at w; simp at w))
      have hv : jV X = jV J := by funext y; unfold jV; rw [hq _ _ (by simp) (by simp)]
      have e8 : ∀ k, X (8, t, l) k = J (8, t, l) k := fun k => hq _ _ (by simp; omega) (by simp)
      have e32 : X (32, t, l) = J (32, t, l) := by funext k; exact hq _ _ (by simp) (by simp)
      have e33 : X (33, t, l) = J (33, t, l) := by funext k; exact hq _ _ (by simp) (by simp)
      refine ⟨?_, hv, e8 4⟩
      unfold TFJ
      rw [hb, hv, e8, e32, e33]
      exact b8
    rcases hp.ret ho with ⟨hr, hK⟩ | ⟨hr, hK⟩
    · rw [if_pos hr]
      refine ⟨_, rfl, ?_⟩
      subst hK
      obtain ⟨c1, c2⟩ := TF.pop hp.tf
      have hq : ∀ q k, q ≠ (8, t, j) → ¬ (q = (9, t, 0) ∧ k = 2) → s_ef (f_pop J t j) t q k = J q k := by
        intro q k w1 w2
        unfold s_ef f_pop jc_up
        rw [if_neg w2, if_neg (fun g => w1 g.1)]
      have h92 : s_ef (f_pop J t j) t (9, t, 0) 2 = Int32.ofNat j := by
        rw [hef _ (by unfold f_pop; rw [jc_up_t _ _ _ _ _ _ _ _ (by decide)]; exact h.fc), jc_up_s]
      generalize s_ef (f_pop J t j) t = X at hq h92 ⊢
      obtain ⟨d1, d2, d3⟩ := pre X hq
      have hpush : p_push (J (6, cd O t j, 0) 2) K1 = some A' := by
        have := hcall
        unfold p_res at this
        rw [if_pos (show (bk J).res (cd O t j) ≠ 0 from hr)] at this
        exact this
      have hT := TF.psh (x := f_tp J t j) d1 hpush (fun e => by rw [d2]; exact c2 e)
      have hfl : fl t l X (f_psh X t l (f_tp J t j)) := fl_psh
      refine ⟨hT, ?_, fun q k w1 w2 w3 w4 w5 => (hfl q k w1 w2 w3).trans (hq q k w4 w5), ?_⟩
      · rw [n_psh d1.d (p_push_some hpush).2.2, jc_up_k _ _ _ _ _ _ (by decide), jc_up_t _ _ _ _ _ _ _ _ (by decide)]; exact d3
      · rw [hfl.o (by decide) (by decide) (by decide)]; exact h92
    · rw [if_neg (by rw [hr]; decide)]
      refine ⟨_, rfl, ?_⟩
      have hq : ∀ q k, q ≠ (8, t, j) → ¬ (q = (9, t, 0) ∧ k = 2) → s_ef J t q k = J q k := by
        intro q k w1 w2
        unfold s_ef jc_up
        rw [if_neg w2]
      have h92 : s_ef J t (9, t, 0) 2 = Int32.ofNat j := by rw [hef _ h.fc, jc_up_s]
      obtain ⟨d1, d2, d3⟩ := pre _ hq
      have hA : K1 = A' := by
        have := hcall
        unfold p_res at this
        rw [if_neg (show ¬ (bk J).res (cd O t j) ≠ 0 from fun w => w hr)] at this
        exact Option.some.inj this
      rw [← hA]
      exact ⟨d1, d3, fun q k w1 w2 w3 w4 w5 => hq q k w4 w5, h92⟩
  obtain ⟨J1, k1, k2, k3, k4, k5⟩ := key
  unfold m_gb1
  rw [k1]
  have kb : bk J1 = bk J := bk_eq (fun q k w => k4 q k (fun g => by rw [g] at w; simp at w) (fun g => by rw [g] at w; simp at w) (fun g => by rw [g] at w; simp at w) (fun g => by rw [g] at w; simp at w) (fun g => by rw [g.1] at w; simp at w))
  have kv : jV J1 = jV J := by funext y; unfold jV; rw [k4 _ _ (by simp) (by simp) (by simp) (by simp) (by simp)]
  have hfo : fl t l J1 (f_on J1 t l) := fl_on
  have q3 : ∀ q k, q ≠ (8, t, l) → q ≠ (32, t, l) → q ≠ (33, t, l) → q ≠ (8, t, j) → ¬ (q = (9, t, 0) ∧ k = 2) → f_on J1 t l q k = J q k := fun q k w1 w2 w3 w4 w5 => (hfo q k w1 w2 w3).trans (k4 q k w1 w2 w3 w4 w5)
  refine ⟨⟨j, ⟨?_, by omega, fun j' hj' => h.co j' (by omega), fun j' hj' => ?_, fun j' hj' => ?_⟩, Or.inl ⟨?_, by omega⟩⟩, ?_, ?_, ?_, ?_, ?_⟩
  · rw [hfo.o (by decide) (by decide) (by decide)]; exact k5
  · have : j' = l := by omega
    subst this
    refine ⟨i1 + 1, A', ?_, ?_, ?_, TF.at k2⟩
    · unfold f_on; rw [jc_up_s, k3, b1, jof1 (by omega)]
    · rw [hfo.bk, kb]; exact o1
    · rw [hfo.bk, kb, o2]; exact g3
  · have e8 : ∀ k, f_on J1 t l (8, t, j') k = J (8, t, j') k := fun k => q3 _ _ (by simp; omega) (by simp) (by simp) (by simp; omega) (by simp)
    have e32 : f_on J1 t l (32, t, j') = J (32, t, j') := by funext k; exact q3 _ _ (by simp) (by simp; omega) (by simp) (by simp) (by simp)
    have e33 : f_on J1 t l (33, t, j') = J (33, t, j') := by funext k; exact q3 _ _ (by simp) (by simp) (by simp; omega) (by simp) (by simp)
    unfold FMJ
    rw [hfo.bk, hfo.v, kb, kv, e8, e8, e32, e33]
    exact h.mid j' (by omega)
  · rw [q3 _ _ (by simp) (by simp) (by simp) (by simp) (by simp)]; exact h4
  · intro q k w1 w2 w3 w4 w5
    exact q3 q k (fun g => w1 (by rw [g]; simp) (by rw [g])) (fun g => w1 (by rw [g]; simp) (by rw [g])) (fun g => w1 (by rw [g]; simp) (by rw [g])) (fun g => w1 (by rw [g]; simp) (by rw [g])) (fun g => w1 (by rw [g.1]; simp) (by rw [g.1]))
  · exact q3 _ _ (by simp) (by simp) (by simp) (by simp) (by simp)
  · exact hH.to (fun q k hq => q3 q k (fun g => by rw [g] at hq; simp at hq) (fun g => by rw [g] at hq; simp at hq) (fun g => by rw [g] at hq; simp at hq) (fun g => by rw [g] at hq; simp at hq) (fun g => by rw [g.1] at hq; simp at hq))
  · exact q3 _ _ (by simp) (by simp) (by simp) (by simp) (by simp)
  · exact q3 _ _ (by simp) (by simp) (by simp) (by simp) (by simp)
