def jLS (J J' : jc_I) (t j c : Nat) (S : Int) : Prop := (FTJ J' t j c) ∧ (fh t j J J') ∧ (∀ x, jV J x → jV J' x) ∧ (HO J' S)
theorem jLS.ft {J J' : jc_I} {t j c : Nat} {S : Int} (h9 : jLS J J' t j c S) : FTJ J' t j c := h9.1
theorem jLS.h {J J' : jc_I} {t j c : Nat} {S : Int} (h9 : jLS J J' t j c S) : fh t j J J' := h9.2.1
theorem jLS.v {J J' : jc_I} {t j c : Nat} {S : Int} (h9 : jLS J J' t j c S) : ∀ x, jV J x → jV J' x := h9.2.2.1
theorem jLS.ho {J J' : jc_I} {t j c : Nat} {S : Int} (h9 : jLS J J' t j c S) : HO J' S := h9.2.2.2
theorem p_leave_some {B : jc_B} {c : Nat} {a : Int32} {K K' : List Int32} (h : p_leave B c a K = some K') : K = [] ∧ K' = [] ∧ ¬ p_tkr B c a := by
  unfold p_leave at h
  split at h
  · rename_i hc; cases h; exact ⟨hc.1, rfl, hc.2⟩
  · cases h
theorem jLS.of_fl {J J' : jc_I} {t j c : Nat} {S : Int} (ft : FTJ J' t j c) (h : fl t j J J') (ho : HO J S) : jLS J J' t j c S := ⟨ft, h.h, fun x hx => by rw [h.v]; exact hx, ho.fl h⟩
section
variable {J : jc_I} {t j c i : Nat} {K K' : List Int32} {S : Int}
theorem nl {op : Int32} (h : op ≠ 11) (h2 : op ≠ 19) (h3 : op ≠ 22) : ¬ p_lst op := by
  rintro (e | e | e)
  · exact h e
  · exact h2 e
  · exact h3 e
theorem ls_jump (h : TP J t j c i K K') (hC : CO (bk J)) (hH : HO J S) (ho : (bk J).op c i = 11) : jLS J (jc_up J (8, t, j) 4 ((bk J).an c i)) t j c S := by
  have hp := h.pi
  rw [ho, p_ins_11] at hp
  obtain ⟨e1, e2, e3⟩ := p_leave_some hp
  subst e1
  exact .of_fl (h.off hC (Or.inl ho) e3 rfl h.tf) fl.u8 hH
theorem ls_zero (h : TP J t j c i K K') (hC : CO (bk J)) (hH : HO J S) (ho : (bk J).op c i = 12 ∨ (bk J).op c i = 13) : jLS J (jc_up (f_pop J t j) (8, t, j) 4 (if f_tp J t j = 0 then (bk J).an c i else f_pop J t j (8, t, j) 4 + 1)) t j c S := by
  have key : ∃ k, K = [k] ∧ K' = [] ∧ ¬ p_tkr (bk J) c ((bk J).an c i) := by
    have hp := h.pi
    rcases ho with ho | ho
    · rw [ho, p_ins_12] at hp
      obtain ⟨y, a1, a2⟩ := bind_some hp
      obtain ⟨e1, e2, e3⟩ := p_leave_some a2
      obtain ⟨e4, -⟩ := p_take_some a1
      exact ⟨1, by rw [e4, e1], e2, e3⟩
    · rw [ho, p_ins_13] at hp
      obtain ⟨y, a1, a2⟩ := bind_some hp
      obtain ⟨e1, e2, e3⟩ := p_leave_some a2
      obtain ⟨e4, -⟩ := p_take_some a1
      exact ⟨2, by rw [e4, e1], e2, e3⟩
  obtain ⟨k, e1, e2, e3⟩ := key
  subst e1
  subst e2
  have hT := (TF.pop h.tf).1
  by_cases hz : f_tp J t j = 0
  · rw [if_pos hz]
    exact .of_fl (h.off hC (by rcases ho with ho | ho; exact Or.inr (Or.inl ho); exact Or.inr (Or.inr ho)) e3 fl_pop.bk hT) (fl_pop.tr fl.u8) hH
  · rw [if_neg hz]
    refine .of_fl (h.on hC ?_ fl_pop.bk (by unfold f_pop; rw [jc_up_k _ _ _ _ _ _ (by decide)]) hT) (fl_pop.tr fl.u8) hH
    rcases ho with ho | ho <;> rw [ho] <;> exact nl (by decide) (by decide) (by decide)
theorem ls_arith {x : Int32} (h : TP J t j c i K K') (hC : CO (bk J)) (hH : HO J S) (ho : (bk J).op c i = 4 ∨ (bk J).op c i = 5 ∨ (bk J).op c i = 6 ∨ (bk J).op c i = 7 ∨ (bk J).op c i = 8) : (∃ K0, K = 1 :: 1 :: K0 ∧ K0.length < 12) ∧ jLS J (f_on (f_psh (f_pop (f_pop J t j) t j) t j x) t j) t j c S := by
  have hp : ((p_take 1 K).bind (p_take 1)).bind (p_push 1) = some K' := by
    have hp := h.pi
    rcases ho with ho | ho | ho | ho | ho
    · rw [ho, p_ins_4] at hp; exact hp
    · rw [ho, p_ins_5] at hp; exact hp
    · rw [ho, p_ins_6] at hp; exact hp
    · rw [ho, p_ins_7] at hp; exact hp
    · rw [ho, p_ins_8] at hp; exact hp
  obtain ⟨K2, a1, a2⟩ := bind_some hp
  obtain ⟨K1, b1, b2⟩ := bind_some a1
  obtain ⟨e1, -⟩ := p_take_some b1
  obtain ⟨e2, -⟩ := p_take_some b2
  subst e2
  subst e1
  refine ⟨⟨K2, rfl, (p_push_some a2).2.2⟩, ?_⟩
  have hT := TF.psh (x := x) (TF.pop (TF.pop h.tf).1).1 a2 (fun e => absurd e (by decide))
  have hf : fl t j J (f_psh (f_pop (f_pop J t j) t j) t j x) := (fl_pop.tr fl_pop).tr fl_psh
  refine .of_fl (h.on hC ?_ hf.bk ?_ hT) (hf.tr fl_on) hH
  · rcases ho with ho | ho | ho | ho | ho <;> rw [ho] <;> exact nl (by decide) (by decide) (by decide)
  · rw [n_psh (K := K2) (TF.pop (TF.pop h.tf).1).1.d (p_push_some a2).2.2]
    rw [jc_up_k _ _ _ _ _ _ (by decide), jc_up_t _ _ _ _ _ _ _ _ (by decide)]
    unfold f_pop
    rw [jc_up_k _ _ _ _ _ _ (by decide), jc_up_k _ _ _ _ _ _ (by decide)]
theorem ls_push {k x : Int32} (h : TP J t j c i K K') (hC : CO (bk J)) (hH : HO J S) (hl : ¬ p_lst ((bk J).op c i)) (hp : p_push k K = some K') (hx : k = 2 → jV J x) : jLS J (f_on (f_psh J t j x) t j) t j c S := by
  have hT := TF.psh (x := x) h.tf hp hx
  refine .of_fl (h.on hC hl fl_psh.bk ?_ hT) (fl_psh.tr fl_on) hH
  rw [n_psh h.tf.d (p_push_some hp).2.2, jc_up_k _ _ _ _ _ _ (by decide), jc_up_t _ _ _ _ _ _ _ _ (by decide)]
theorem ls_pp {k k2 x : Int32} {K0 : List Int32} (h : TP J t j c i (k :: K0) K') (hC : CO (bk J)) (hH : HO J S) (hl : ¬ p_lst ((bk J).op c i)) (hp : p_push k2 K0 = some K') (hx : k2 = 2 → jV J x) : jLS J (f_on (f_psh (f_pop J t j) t j x) t j) t j c S := by
  have h1 := (TF.pop h.tf).1
  have hT := TF.psh (x := x) h1 hp (fun e => by rw [fl_pop.v]; exact hx e)
  have hf : fl t j J (f_psh (f_pop J t j) t j x) := fl_pop.tr fl_psh
  refine .of_fl (h.on hC hl hf.bk ?_ hT) (hf.tr fl_on) hH
  rw [n_psh h1.d (p_push_some hp).2.2, jc_up_k _ _ _ _ _ _ (by decide), jc_up_t _ _ _ _ _ _ _ _ (by decide)]
  unfold f_pop
  rw [jc_up_k _ _ _ _ _ _ (by decide)]
theorem TF.heap {J J' : jc_I} (h : TFJ J t j c K) (e : ∀ q k, q.1 ≠ 7 → q.1 ≠ 29 → q.1 ≠ 31 → q.1 ≠ 3 → J' q k = J q k) (hv : ∀ x, jV J x → jV J' x) : TFJ J' t j c K := by
  have hb : bk J' = bk J := bk_eq (fun q k hq => e q k (by omega) (by omega) (by omega) (by omega))
  have e32 : J' (32, t, j) = J (32, t, j) := by funext k; exact e _ _ (by simp) (by simp) (by simp) (by simp)
  have e33 : J' (33, t, j) = J (33, t, j) := by funext k; exact e _ _ (by simp) (by simp) (by simp) (by simp)
  unfold TFJ
  rw [hb, e32, e33, e _ _ (by simp) (by simp) (by simp) (by simp)]
  exact h.mono hv
theorem jLS.heap {J1 J2 : jc_I} (h : TP J t j c i K K') (hC : CO (bk J)) (hl : ¬ p_lst ((bk J).op c i)) (hf : fl t j J J1) (h4 : J1 (8, t, j) 4 = J (8, t, j) 4) (hT : TFJ J1 t j c K') (e : ∀ q k, q.1 ≠ 7 → q.1 ≠ 29 → q.1 ≠ 31 → q.1 ≠ 3 → J2 q k = J1 q k) (hv : ∀ x, jV J1 x → jV J2 x) (ho : HO J2 S) : jLS J (f_on J2 t j) t j c S := by
  have hb : bk J2 = bk J := (bk_eq (fun q k hq => e q k (by omega) (by omega) (by omega) (by omega))).trans hf.bk
  refine ⟨h.on hC hl hb ?_ (hT.heap e hv), ?_, ?_, ho.fl fl_on⟩
  · rw [e _ _ (by simp) (by simp) (by simp) (by simp)]; exact h4
  · refine hf.h.tr (fh.tr (fun q k _ _ _ a b c d => e q k a b c d) fl_on.h)
  · intro x hx
    rw [fl_on.v]
    exact hv x (by rw [hf.v]; exact hx)
theorem pop4 : f_pop J t j (8, t, j) 4 = J (8, t, j) 4 := by unfold f_pop; rw [jc_up_k _ _ _ _ _ _ (by decide)]
end
section
variable {J : jc_I} {S : Int} {x : Int32} {k i : Nat}
theorem h_sg_n (hi : i < 4) : h_sg J (Int32.ofNat i) x = jc_up J (31, 0, 0) i x := by
  unfold h_sg
  have e1 := jofI (n := i) (by omega)
  have e2 : (4 : Int32).toInt = 4 := by decide
  rw [if_pos (by rw [jle, jlt, e1, e2, j0I]; omega), jofN (by omega)]
theorem HO.sg (h : HO J S) (hi : i < 4) (hx : jV J x) : HO (h_sg J (Int32.ofNat i) x) S := by
  rw [h_sg_n hi]
  have e3 : ∀ k, jc_up J (31, 0, 0) i x (3, 0, 0) k = J (3, 0, 0) k := fun k => jc_up_t _ _ _ _ _ _ _ _ (by decide)
  have eV : jV (jc_up J (31, 0, 0) i x) = jV J := by funext y; unfold jV; rw [e3]
  refine ⟨by rw [e3]; exact h.c0, by rw [e3]; exact h.c1, fun k hk => ?_, fun k i2 hk h4 h8 => ?_, fun i2 hi2 => ?_⟩
  · rw [e3] at hk; rw [jc_up_t _ _ _ _ _ _ _ _ (by decide), jc_up_t _ _ _ _ _ _ _ _ (by decide)]; exact h.th k hk
  · rw [e3] at hk; rw [eV, jc_up_t _ _ _ _ _ _ _ _ (by decide)]; exact h.fi k i2 hk h4 h8
  · rw [eV]
    by_cases e : i2 = i
    · subst e; rw [jc_up_s]; exact hx
    · rw [jc_up_k _ _ _ _ _ _ e]; exact h.gl i2 hi2
theorem t_sf_n (hi : i < 8) : t_sf J k (Int32.ofNat i) x = jc_up J (29, k, 0) i x := by
  unfold t_sf
  have e1 := jofI (n := i) (by omega)
  have e2 : (8 : Int32).toInt = 8 := by decide
  rw [if_pos (by rw [jle, jlt, e1, e2, j0I]; omega), jofN (by omega)]
theorem HO.sf (h : HO J S) (hi : i < 8) (hx : 4 ≤ i → jV J x) : HO (t_sf J k (Int32.ofNat i) x) S := by
  rw [t_sf_n hi]
  have e3 : ∀ k', jc_up J (29, k, 0) i x (3, 0, 0) k' = J (3, 0, 0) k' := fun k' => jc_up_t _ _ _ _ _ _ _ _ (by decide)
  have eV : jV (jc_up J (29, k, 0) i x) = jV J := by funext y; unfold jV; rw [e3]
  refine ⟨by rw [e3]; exact h.c0, by rw [e3]; exact h.c1, fun k hk => ?_, fun k2 i2 hk h4 h8 => ?_, fun i2 hi2 => ?_⟩
  · rw [e3] at hk; rw [jc_up_t _ _ _ _ _ _ _ _ (by decide), jc_up_t _ _ _ _ _ _ _ _ (by decide)]; exact h.th k hk
  · rw [e3] at hk
    rw [eV]
    by_cases e : (29, k2, 0) = ((29, k, 0) : jc_L) ∧ i2 = i
    · obtain ⟨e5, e6⟩ := e
      subst e6
      unfold jc_up
      rw [if_pos ⟨e5, rfl⟩]
      exact hx h4
    · unfold jc_up
      rw [if_neg e]
      exact h.fi k2 i2 hk h4 h8
  · rw [eV, jc_up_t _ _ _ _ _ _ _ _ (by decide)]; exact h.gl i2 hi2
theorem HO.mon {a z : Int32} (h : HO J S) (hs : (a = -1 ∧ z = 0) ∨ (a ≠ -1 ∧ 1 ≤ z.toInt ∧ z.toInt ≤ S)) : HO (jc_up (jc_up J (7, k, 0) 2 a) (7, k, 0) 3 z) S := by
  have e3 : ∀ k', jc_up (jc_up J (7, k, 0) 2 a) (7, k, 0) 3 z (3, 0, 0) k' = J (3, 0, 0) k' := fun k' => by rw [jc_up_t _ _ _ _ _ _ _ _ (by decide), jc_up_t _ _ _ _ _ _ _ _ (by decide)]
  have eV : jV (jc_up (jc_up J (7, k, 0) 2 a) (7, k, 0) 3 z) = jV J := by funext y; unfold jV; rw [e3]
  refine ⟨by rw [e3]; exact h.c0, by rw [e3]; exact h.c1, fun k2 hk => ?_, fun k2 i2 hk h4 h8 => ?_, fun i2 hi2 => ?_⟩
  · rw [e3] at hk
    by_cases e : k2 = k
    · subst e
      rw [jc_up_k _ _ _ _ _ _ (by decide), jc_up_s, jc_up_s]
      exact hs
    · have hq : ((7, k2, 0) : jc_L) ≠ (7, k, 0) := by simp [e]
      rw [jc_up_q _ _ _ _ _ _ hq, jc_up_q _ _ _ _ _ _ hq, jc_up_q _ _ _ _ _ _ hq, jc_up_q _ _ _ _ _ _ hq]
      exact h.th k2 hk
  · rw [e3] at hk; rw [eV, jc_up_t _ _ _ _ _ _ _ _ (by decide), jc_up_t _ _ _ _ _ _ _ _ (by decide)]; exact h.fi k2 i2 hk h4 h8
  · rw [eV, jc_up_t _ _ _ _ _ _ _ _ (by decide), jc_up_t _ _ _ _ _ _ _ _ (by decide)]; exact h.gl i2 hi2
theorem HO.en (h : HO J S) (hk : (k : Int) < (J (3, 0, 0) 2).toInt) (hx : x ≠ -1) (hs0 : 0 ≤ S) (hs : S < 2147483647) : HO (t_en J k x) (S + 1) := by
  unfold t_en
  refine HO.mon (h.mono (by omega)) (Or.inr ⟨hx, ?_⟩)
  have e : (J (7, k, 0) 3 + 1).toInt = (J (7, k, 0) 3).toInt + 1 := jI1 (by
    rw [jlt, show (2147483647 : Int32).toInt = 2147483647 from by decide]
    rcases h.th k hk with ⟨_, g⟩ | ⟨_, g1, g2⟩
    · rw [g, j0I]; omega
    · omega)
  rw [e]
  rcases h.th k hk with ⟨_, g⟩ | ⟨_, g1, g2⟩
  · rw [g, j0I]; omega
  · omega
theorem t_lv_n (h : HO J S) (hk : (k : Int) < (J (3, 0, 0) 2).toInt) (hx : J (7, k, 0) 2 ≠ -1) : t_lv J k = jc_up (jc_up J (7, k, 0) 2 (if J (7, k, 0) 3 - 1 = 0 then -1 else J (7, k, 0) 2)) (7, k, 0) 3 (J (7, k, 0) 3 - 1) := by
  have hth := (h.th k hk).resolve_left (fun g => hx g.1)
  have e : (J (7, k, 0) 3 - 1).toInt = (J (7, k, 0) 3).toInt - 1 := jsub0 (by rw [jle, j0I]; omega)
  unfold t_lv
  by_cases hz : J (7, k, 0) 3 - 1 = 0
  · rw [if_pos (by rw [hz]; decide), if_pos hz, hz]
    funext q' k'
    unfold jc_up
    by_cases h1 : q' = (7, k, 0) ∧ k' = 3
    · simp only [if_pos h1]
    · by_cases h2 : q' = (7, k, 0) ∧ k' = 2
      · simp only [if_neg h1, if_pos h2]
      · simp only [if_neg h1, if_neg h2]
  · rw [if_neg (by rw [jle, e, j0I]; intro g; apply hz; apply Int32.toInt_inj.mp; rw [e, j0I]; omega), if_neg hz]
    funext q' k'
    unfold jc_up
    by_cases h1 : q' = (7, k, 0) ∧ k' = 3
    · rw [if_pos h1, if_pos h1]
    · rw [if_neg h1, if_neg h1]
      by_cases h2 : q' = (7, k, 0) ∧ k' = 2
      · rw [if_pos h2, h2.1, h2.2]
      · rw [if_neg h2]
theorem HO.lv (h : HO J S) (hk : (k : Int) < (J (3, 0, 0) 2).toInt) (hx : J (7, k, 0) 2 ≠ -1) : HO (t_lv J k) S := by
  rw [t_lv_n h hk hx]
  have hth := (h.th k hk).resolve_left (fun g => hx g.1)
  have e : (J (7, k, 0) 3 - 1).toInt = (J (7, k, 0) 3).toInt - 1 := jsub0 (by rw [jle, j0I]; omega)
  refine HO.mon h ?_
  by_cases hz : J (7, k, 0) 3 - 1 = 0
  · rw [if_pos hz]; exact Or.inl ⟨rfl, hz⟩
  · rw [if_neg hz]
    refine Or.inr ⟨hx, ?_, by omega⟩
    have : (J (7, k, 0) 3 - 1).toInt ≠ 0 := fun g => hz (Int32.toInt_inj.mp (by rw [g, j0I]))
    omega
theorem HO.free (h : HO J S) : ∀ m, HO (h_free J x m) S
  | 0 => h
  | m + 1 => by
    rw [h_free]
    split
    · exact HO.mon (HO.free h m) (Or.inl ⟨rfl, rfl⟩)
    · exact HO.free h m
end
