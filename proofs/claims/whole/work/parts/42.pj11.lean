def ot (t : Nat) (J J' : jc_I) : Prop := ∀ q k, (q.1 = 8 ∨ q.1 = 32 ∨ q.1 = 33 ∨ q.1 = 9 → q.2.1 ≠ t) → q.1 ≠ 7 → q.1 ≠ 29 → q.1 ≠ 31 → q.1 ≠ 3 → J' q k = J q k
theorem ot.rf {t : Nat} {J : jc_I} : ot t J J := fun _ _ _ _ _ _ _ => rfl
theorem ot.tr {t : Nat} {I J K : jc_I} (h : ot t I J) (h2 : ot t J K) : ot t I K := fun q k a b c d e => (h2 q k a b c d e).trans (h q k a b c d e)
theorem ot.up {t : Nat} {J : jc_I} {q : jc_L} {k : Nat} {v : Int32} (hq : ((q.1 = 8 ∨ q.1 = 32 ∨ q.1 = 33 ∨ q.1 = 9) ∧ q.2.1 = t) ∨ q.1 = 7 ∨ q.1 = 29 ∨ q.1 = 31 ∨ q.1 = 3) : ot t J (jc_up J q k v) := fun q' k' a b c d e => jc_up_q _ _ _ _ _ _ (fun x => by
  subst x
  rcases hq with ⟨h1, h2⟩ | h1 | h1 | h1 | h1
  · exact a h1 h2
  all_goals contradiction)
theorem fh.ot {t j : Nat} {J J' : jc_I} (h : fh t j J J') : ot t J J' := fun q k a b c d e => h q k (fun g => a (by rw [g]; simp) (by rw [g])) (fun g => a (by rw [g]; simp) (by rw [g])) (fun g => a (by rw [g]; simp) (by rw [g])) b c d e
theorem ot.bk {t : Nat} {J J' : jc_I} (h : ot t J J') : bk J' = bk J := bk_eq (fun q k hq => h q k (by omega) (by omega) (by omega) (by omega) (by omega))
theorem ot.ite {t : Nat} {I J K : jc_I} {p : Prop} [Decidable p] (h1 : ot t I J) (h2 : ot t I K) : ot t I (if p then J else K) := by split; exact h1; exact h2
theorem ot.u9 {t : Nat} {J : jc_I} {k : Nat} {v : Int32} : ot t J (jc_up J (9, t, 0) k v) := ot.up (Or.inl ⟨Or.inr (Or.inr (Or.inr rfl)), rfl⟩)
theorem ot_cs {t : Nat} {J : jc_I} : ot t J (s_cs J t) := ot.u9.tr ot.u9
theorem ot_ef {t : Nat} {J : jc_I} : ot t J (s_ef J t) := ot.up (Or.inl ⟨Or.inr (Or.inr (Or.inr rfl)), rfl⟩)
theorem ot_free {t : Nat} {J : jc_I} {x : Int32} : ∀ m, ot t J (h_free J x m)
  | 0 => ot.rf
  | m + 1 => by
    rw [h_free]
    exact ot.ite ((ot_free m).tr ((ot.up (Or.inr (Or.inl rfl))).tr (ot.up (Or.inr (Or.inl rfl))))) (ot_free m)
theorem ot_end {t : Nat} {J : jc_I} {a b : Int32} : ot t J (m_end J t a b) := (ot.u9.tr ot.u9).tr (ot_free _)
section
variable {J : jc_I} {O : jc_O} {live : jc_L → Prop} {x : Int32} {S : Int}
def full (J : jc_I) : Prop := 2000 ≤ J (3, 0, 0) 2 ∨ 40000 ≤ J (3, 0, 0) 3
theorem mk_ne (hf : ¬ full J) {q : jc_L} {k : Nat} (h7 : q ≠ (7, (J (3, 0, 0) 2).toNatClampNeg, 0)) (h29 : q ≠ (29, (J (3, 0, 0) 2).toNatClampNeg, 0)) (h3 : q ≠ (3, 0, 0)) : (h_mk J O live x).2.1 q k = J q k := by
  unfold h_mk
  rw [if_neg (show ¬ (2000 ≤ J (3, 0, 0) 2 ∨ 40000 ≤ J (3, 0, 0) 3) from hf)]
  split
  · dsimp only
    rw [jc_up_q _ _ _ _ _ _ h3, jc_up_q _ _ _ _ _ _ h3]
    unfold t_bg jc_zr
    rw [if_neg (fun g => h29 g.1), jc_up_q _ _ _ _ _ _ h7, jc_up_q _ _ _ _ _ _ h7, jc_up_q _ _ _ _ _ _ h7]
    unfold jc_cl
    rw [if_neg h29, if_neg h7]
  · dsimp only
    rw [jc_up_q _ _ _ _ _ _ h3, jc_up_q _ _ _ _ _ _ h3]
    unfold t_bg jc_zr
    rw [if_neg (fun g => h29 g.1), jc_up_q _ _ _ _ _ _ h7, jc_up_q _ _ _ _ _ _ h7, jc_up_q _ _ _ _ _ _ h7]
theorem mk_new (hf : ¬ full J) : (h_mk J O live x).1 = J (3, 0, 0) 2 + 1 ∧ (h_mk J O live x).2.1 (3, 0, 0) 2 = J (3, 0, 0) 2 + 1 ∧ (h_mk J O live x).2.1 (3, 0, 0) 3 = J (3, 0, 0) 3 + 1 ∧ (h_mk J O live x).2.1 (7, (J (3, 0, 0) 2).toNatClampNeg, 0) 1 = x ∧ (h_mk J O live x).2.1 (7, (J (3, 0, 0) 2).toNatClampNeg, 0) 2 = -1 ∧ (h_mk J O live x).2.1 (7, (J (3, 0, 0) 2).toNatClampNeg, 0) 3 = 0 ∧ ∀ i, i < 8 → (h_mk J O live x).2.1 (29, (J (3, 0, 0) 2).toNatClampNeg, 0) i = 0 := by
  unfold h_mk
  rw [if_neg (show ¬ (2000 ≤ J (3, 0, 0) 2 ∨ 40000 ≤ J (3, 0, 0) 3) from hf)]
  split
  · dsimp only
    refine ⟨rfl, ?_, jc_up_s _ _ _ _, ?_, ?_, ?_, fun i hi => ?_⟩
    · rw [jc_up_k _ _ _ _ _ _ (by decide), jc_up_s]
    · rw [jc_up_t _ _ _ _ _ _ _ _ (by decide), jc_up_t _ _ _ _ _ _ _ _ (by decide)]
      unfold t_bg jc_zr
      rw [if_neg (fun g => absurd (show (7 : Nat) = 29 from congrArg Prod.fst g.1) (by decide)), jc_up_k _ _ _ _ _ _ (by decide), jc_up_k _ _ _ _ _ _ (by decide), jc_up_s]
    · rw [jc_up_t _ _ _ _ _ _ _ _ (by decide), jc_up_t _ _ _ _ _ _ _ _ (by decide)]
      unfold t_bg jc_zr
      rw [if_neg (fun g => absurd (show (7 : Nat) = 29 from congrArg Prod.fst g.1) (by decide)), jc_up_k _ _ _ _ _ _ (by decide), jc_up_s]
    · rw [jc_up_t _ _ _ _ _ _ _ _ (by decide), jc_up_t _ _ _ _ _ _ _ _ (by decide)]
      unfold t_bg jc_zr
      rw [if_neg (fun g => absurd (show (7 : Nat) = 29 from congrArg Prod.fst g.1) (by decide)), jc_up_s]
    · rw [jc_up_t _ _ _ _ _ _ _ _ (by decide), jc_up_t _ _ _ _ _ _ _ _ (by decide)]
      unfold t_bg jc_zr
      rw [if_pos ⟨rfl, hi⟩]
  · dsimp only
    refine ⟨rfl, ?_, jc_up_s _ _ _ _, ?_, ?_, ?_, fun i hi => ?_⟩
    · rw [jc_up_k _ _ _ _ _ _ (by decide), jc_up_s]
    · rw [jc_up_t _ _ _ _ _ _ _ _ (by decide), jc_up_t _ _ _ _ _ _ _ _ (by decide)]
      unfold t_bg jc_zr
      rw [if_neg (fun g => absurd (show (7 : Nat) = 29 from congrArg Prod.fst g.1) (by decide)), jc_up_k _ _ _ _ _ _ (by decide), jc_up_k _ _ _ _ _ _ (by decide), jc_up_s]
    · rw [jc_up_t _ _ _ _ _ _ _ _ (by decide), jc_up_t _ _ _ _ _ _ _ _ (by decide)]
      unfold t_bg jc_zr
      rw [if_neg (fun g => absurd (show (7 : Nat) = 29 from congrArg Prod.fst g.1) (by decide)), jc_up_k _ _ _ _ _ _ (by decide), jc_up_s]
    · rw [jc_up_t _ _ _ _ _ _ _ _ (by decide), jc_up_t _ _ _ _ _ _ _ _ (by decide)]
      unfold t_bg jc_zr
      rw [if_neg (fun g => absurd (show (7 : Nat) = 29 from congrArg Prod.fst g.1) (by decide)), jc_up_s]
    · rw [jc_up_t _ _ _ _ _ _ _ _ (by decide), jc_up_t _ _ _ _ _ _ _ _ (by decide)]
      unfold t_bg jc_zr
      rw [if_pos ⟨rfl, hi⟩]
theorem mk_e (hf : ¬ full J) {q : jc_L} {k : Nat} (h7 : q.1 ≠ 7) (h29 : q.1 ≠ 29) (h3 : q.1 ≠ 3) : (h_mk J O live x).2.1 q k = J q k := mk_ne hf (fun g => h7 (by rw [g])) (fun g => h29 (by rw [g])) (fun g => h3 (by rw [g]))
theorem mk_cI (hf : ¬ full J) (h : HO J S) : (J (3, 0, 0) 2 + 1).toInt = (J (3, 0, 0) 2).toInt + 1 ∧ (J (3, 0, 0) 2).toInt < 2000 := by
  have e2 : (2000 : Int32).toInt = 2000 := by decide
  have h1 : ¬ 2000 ≤ J (3, 0, 0) 2 := fun g => hf (Or.inl g)
  rw [jle, e2] at h1
  refine ⟨jI1 ?_, by omega⟩
  rw [jlt, show (2147483647 : Int32).toInt = 2147483647 from by decide]
  omega
theorem mk_v (hf : ¬ full J) (h : HO J S) : (∀ y, jV J y → jV (h_mk J O live x).2.1 y) ∧ jV (h_mk J O live x).2.1 (h_mk J O live x).1 ∧ 1 ≤ (h_mk J O live x).1 := by
  have hn := mk_new (O := O) (live := live) (x := x) hf
  obtain ⟨e1, e2⟩ := mk_cI hf h
  have h0 := jle.mp h.c0
  rw [j0I] at h0
  unfold jV
  rw [hn.1, hn.2.1]
  refine ⟨fun y hy => ⟨hy.1, ?_⟩, ⟨?_, by rw [jle]; omega⟩, ?_⟩
  · have := jle.mp hy.2
    rw [jle]; omega
  · rw [jle, e1, j0I]; omega
  · rw [jle, e1, j1I]; omega
theorem HO.make (hf : ¬ full J) (h : HO J S) : HO (h_mk J O live x).2.1 S := by
  have hn := mk_new (O := O) (live := live) (x := x) hf
  obtain ⟨e1, e2⟩ := mk_cI hf h
  obtain ⟨v1, v2, v3⟩ := mk_v (O := O) (live := live) (x := x) hf h
  have h0 := jle.mp h.c0
  rw [j0I] at h0
  have hN := jNI h.c0
  have e2000 : (2000 : Int32).toInt = 2000 := by decide
  refine ⟨?_, ?_, fun k hk => ?_, fun k i hk h4 h8 => ?_, fun i hi => ?_⟩
  · rw [hn.2.1, jle, e1, j0I]; omega
  · rw [hn.2.1, jle, e1, e2000]; omega
  · rw [hn.2.1, e1] at hk
    by_cases e : k = (J (3, 0, 0) 2).toNatClampNeg
    · subst e; rw [hn.2.2.2.2.1, hn.2.2.2.2.2.1]; exact Or.inl ⟨rfl, rfl⟩
    · rw [mk_ne hf (by simp [e]) (by simp) (by simp), mk_ne hf (by simp [e]) (by simp) (by simp)]
      exact h.th k (by omega)
  · rw [hn.2.1, e1] at hk
    by_cases e : k = (J (3, 0, 0) 2).toNatClampNeg
    · subst e; rw [hn.2.2.2.2.2.2 i h8]; exact v1 _ (jV.z h.c0)
    · rw [mk_ne hf (by simp) (by simp [e]) (by simp)]
      exact v1 _ (h.fi k i (by omega) h4 h8)
  · rw [mk_ne hf (by simp) (by simp) (by simp)]; exact v1 _ (h.gl i hi)
end
def FA (J : jc_I) (t j c : Nat) : Prop := (p_all (bk J) c) ∧ ((c : Int) < (bk J).cn.toInt) ∧ (tyL (bk J) (jV J) c (J (33, t, j))) ∧ (∃ i : Nat, J (8, t, j) 4 = Int32.ofNat i ∧ i < ((bk J).sz c).toNatClampNeg) ∧ (∃ K : List Int32, K.length ≤ 12 ∧ J (8, t, j) 3 = Int32.ofNat K.length)
theorem FA.al {J : jc_I} {t j c : Nat} (h9 : FA J t j c) : p_all (bk J) c := h9.1
theorem FA.cn {J : jc_I} {t j c : Nat} (h9 : FA J t j c) : (c : Int) < (bk J).cn.toInt := h9.2.1
theorem FA.lo {J : jc_I} {t j c : Nat} (h9 : FA J t j c) : tyL (bk J) (jV J) c (J (33, t, j)) := h9.2.2.1
theorem FA.at_ {J : jc_I} {t j c : Nat} (h9 : FA J t j c) : ∃ i : Nat, J (8, t, j) 4 = Int32.ofNat i ∧ i < ((bk J).sz c).toNatClampNeg := h9.2.2.2.1
theorem FA.d {J : jc_I} {t j c : Nat} (h9 : FA J t j c) : ∃ K : List Int32, K.length ≤ 12 ∧ J (8, t, j) 3 = Int32.ofNat K.length := h9.2.2.2.2
theorem FT.any {J : jc_I} {t j c : Nat} (h : FTJ J t j c) : FA J t j c := by
  obtain ⟨i, K, a1, a2, a3, a4⟩ := h
  exact ⟨a4.al, a4.cn, a4.lo, ⟨i, a1, a2⟩, ⟨K, a4.le, a4.d⟩⟩
theorem FM.any {J : jc_I} {t j c e : Nat} (h : FMJ J t j c e) : FA J t j c := by
  obtain ⟨i, K, K', a1, a2, a3, a4, a5, a6, a7, a8⟩ := h
  exact ⟨a8.al, a8.cn, a8.lo, ⟨i, a1, a2⟩, ⟨K', a8.le, a8.d⟩⟩
theorem TH.any {J : jc_I} {O : jc_O} {t n : Nat} (h : TH J O t n) {j : Nat} (hj : j < n) : FA J t j (cd O t j) := by
  by_cases e : j + 1 = n
  · exact FT.any (h.top j e)
  · exact FM.any (h.mid j (by omega))
theorem c_tk_some {J : jc_I} {c : Nat} {y k : Int32} : ∀ (m r : Nat), c_tk J c y k m r = -1 ∨ ∃ r', r ≤ r' ∧ r' < r + m ∧ c_tk J c y k m r = (bk J).at_ c r'
  | 0, r => Or.inl rfl
  | m + 1, r => by
    rw [c_tk]
    split
    · exact Or.inr ⟨r, Nat.le_refl _, by omega, rfl⟩
    · rcases c_tk_some m (r + 1) with h | ⟨r', a, b, e⟩
      · exact Or.inl h
      · exact Or.inr ⟨r', by omega, by omega, e⟩
theorem FA.take {J : jc_I} {O : jc_O} {t m : Nat} {x k : Int32} (h : FA J t m (cd O t m)) (hC : CO (bk J)) (hx : jV J x) (ht : 0 ≤ m_tk J O t m k) : FTJ (jc_up (f_ho J t m x) (8, t, m) 4 (m_tk J O t m k)) t m (cd O t m) := by
  have hf : fl t m J (jc_up (f_ho J t m x) (8, t, m) 4 (m_tk J O t m k)) := ((fl.u8.tr fl.u32).tr fl.u8).tr fl.u8
  have h60 := hC.s60 h.cn
  have hr : ∃ r, r < ((bk J).rc (cd O t m)).toNatClampNeg ∧ m_tk J O t m k = (bk J).at_ (cd O t m) r := by
    unfold m_tk at ht ⊢
    rcases c_tk_some (J := J) (c := cd O t m) (y := J (8, t, m) 4) (k := k) (J (6, cd O t m, 0) 9).toNatClampNeg 0 with g | ⟨r, a, b, e⟩
    · rw [g] at ht; exact absurd ht (by decide)
    · exact ⟨r, by rw [Nat.zero_add] at b; exact b, e⟩
  obtain ⟨r, hr1, hr2⟩ := hr
  obtain ⟨b1, b2, b3⟩ := (h.al _ .self).row hr1 h60
  refine ⟨((bk J).at_ (cd O t m) r).toNatClampNeg, [2], ?_, ?_, ?_, ?_⟩
  · rw [jc_up_s, hr2]
    apply Int32.toInt_inj.mp
    rw [jofI (by omega), jNI b1]
  · rw [hf.bk]; exact b2
  · rw [hf.bk]; exact b3
  · rw [hf.bk, hf.v]
    unfold f_ho
    refine ⟨h.al, h.cn, ?_, by decide, ⟨fun _ => ?_, trivial⟩, ?_⟩
    · rw [jc_up_k _ _ _ _ _ _ (by decide), jc_up_s]; rfl
    · rw [jc_up_t _ _ _ _ _ _ _ _ (by decide), jc_up_t _ _ _ _ _ _ _ _ (by decide)]
      rw [show ([] : List Int32).length = 0 from rfl, jc_up_s]
      exact hx
    · intro k9 a b
      rw [jc_up_t _ _ _ _ _ _ _ _ (by decide), jc_up_t _ _ _ _ _ _ _ _ (by decide), jc_up_t _ _ _ _ _ _ _ _ (by decide), jc_up_t _ _ _ _ _ _ _ _ (by decide)]
      exact h.lo k9 a b
def jTT (J : jc_I) (O : jc_O) (t : Nat) : Prop := ∃ n, TH J O t n ∧ ((J (9, t, 0) 4 = 0 ∧ 0 < n) ∨ ((J (9, t, 0) 4 = 1 ∨ J (9, t, 0) 4 = 2) ∧ n = 0))
theorem free_9 {J : jc_I} {x : Int32} {m : Nat} {q : jc_L} {k : Nat} (h : q.1 ≠ 7) : h_free J x m q k = J q k := h_free_ne _ _ _ _ _ h
theorem end_9 {J : jc_I} {t : Nat} {a b : Int32} : m_end J t a b (9, t, 0) 2 = J (9, t, 0) 2 ∧ m_end J t a b (9, t, 0) 4 = a ∧ m_end J t a b (9, t, 0) 5 = b ∧ m_end J t a b (9, t, 0) 0 = J (9, t, 0) 0 ∧ m_end J t a b (9, t, 0) 6 = J (9, t, 0) 6 := by
  unfold m_end
  rw [free_9 (by simp), free_9 (by simp), free_9 (by simp), free_9 (by simp), free_9 (by simp)]
  refine ⟨?_, ?_, ?_, ?_, ?_⟩
  · rw [jc_up_k _ _ _ _ _ _ (by decide), jc_up_k _ _ _ _ _ _ (by decide)]
  · rw [jc_up_k _ _ _ _ _ _ (by decide), jc_up_s]
  · rw [jc_up_s]
  · rw [jc_up_k _ _ _ _ _ _ (by decide), jc_up_k _ _ _ _ _ _ (by decide)]
  · rw [jc_up_k _ _ _ _ _ _ (by decide), jc_up_k _ _ _ _ _ _ (by decide)]
theorem HO.end_ {J : jc_I} {t : Nat} {a b : Int32} {S : Int} (h : HO J S) : HO (m_end J t a b) S := by
  unfold m_end
  refine HO.free (h.to (fun q k hq => ?_)) _
  have hq9 : q ≠ (9, t, 0) := fun e => by rw [e] at hq; simp at hq
  rw [jc_up_q _ _ _ _ _ _ hq9, jc_up_q _ _ _ _ _ _ hq9]
theorem end_v {J : jc_I} {t : Nat} {a b : Int32} : m_end J t a b (3, 0, 0) 2 = J (3, 0, 0) 2 := by
  unfold m_end
  rw [free_9 (by simp), jc_up_t _ _ _ _ _ _ _ _ (by decide), jc_up_t _ _ _ _ _ _ _ _ (by decide)]
theorem jTT_end {J : jc_I} {O : jc_O} {t : Nat} {a b : Int32} (h : J (9, t, 0) 2 = 0) (ha : a = 1 ∨ a = 2) : jTT (m_end J t a b) O t := by
  refine ⟨0, ⟨by rw [end_9.1, h]; rfl, by decide, fun j hj => absurd hj (Nat.not_lt_zero _), fun j hj => absurd hj (by omega), fun j hj => absurd hj (by omega)⟩, Or.inr ⟨?_, rfl⟩⟩
  rw [end_9.2.1]; exact ha
def jRS (J J' : jc_I) (O : jc_O) (t : Nat) (S : Int) : Prop := (jTT J' O t) ∧ (ot t J J') ∧ (J' (3, 0, 0) 2 = J (3, 0, 0) 2) ∧ (HO J' S) ∧ (J' (9, t, 0) 0 = J (9, t, 0) 0) ∧ (J' (9, t, 0) 6 = J (9, t, 0) 6)
theorem jRS.tt {J J' : jc_I} {O : jc_O} {t : Nat} {S : Int} (h9 : jRS J J' O t S) : jTT J' O t := h9.1
theorem jRS.o {J J' : jc_I} {O : jc_O} {t : Nat} {S : Int} (h9 : jRS J J' O t S) : ot t J J' := h9.2.1
theorem jRS.c {J J' : jc_I} {O : jc_O} {t : Nat} {S : Int} (h9 : jRS J J' O t S) : J' (3, 0, 0) 2 = J (3, 0, 0) 2 := h9.2.2.1
theorem jRS.ho {J J' : jc_I} {O : jc_O} {t : Nat} {S : Int} (h9 : jRS J J' O t S) : HO J' S := h9.2.2.2.1
theorem jRS.n0 {J J' : jc_I} {O : jc_O} {t : Nat} {S : Int} (h9 : jRS J J' O t S) : J' (9, t, 0) 0 = J (9, t, 0) 0 := h9.2.2.2.2.1
theorem jRS.n6 {J J' : jc_I} {O : jc_O} {t : Nat} {S : Int} (h9 : jRS J J' O t S) : J' (9, t, 0) 6 = J (9, t, 0) 6 := h9.2.2.2.2.2
theorem rs_ty {O : jc_O} {t : Nat} {x k : Int32} {S : Int} : ∀ (m : Nat) (J : jc_I), J (9, t, 0) 2 = Int32.ofNat m → m ≤ 30 → J (9, t, 0) 4 = 0 → (∀ j, j < m → O (8, t, j) 2 = some (6, cd O t j, 0)) → (∀ j, j < m → FA J t j (cd O t j)) → (∀ j, j + 1 < m → FMJ J t j (cd O t j) (cd O t (j + 1))) → CO (bk J) → jV J x → HO J S → jRS J (m_rs O t x k m J) O t S
  | 0, J, h2, _, h4, hco, hfa, hmi, hC, hx, hH => by
    rw [m_rs]
    exact ⟨jTT_end (by rw [h2]; rfl) (Or.inr rfl), ot_end, end_v, hH.end_, end_9.2.2.2.1, end_9.2.2.2.2⟩
  | m + 1, J, h2, hm, h4, hco, hfa, hmi, hC, hx, hH => by
    rw [m_rs]
    by_cases ht : 0 ≤ m_tk J O t m k
    · rw [if_pos ht]
      have hf : fl t m J (jc_up (f_ho J t m x) (8, t, m) 4 (m_tk J O t m k)) := ((fl.u8.tr fl.u32).tr fl.u8).tr fl.u8
      have hT : TH (jc_up (f_ho J t m x) (8, t, m) 4 (m_tk J O t m k)) O t (m + 1) := by
        refine ⟨by rw [hf.o (by decide) (by decide) (by decide)]; exact h2, hm, hco, fun j hj => ?_, fun j hj => ?_⟩
        · have : j = m := by omega
          subst this
          exact (hfa j (by omega)).take hC hx ht
        · have hne : j ≠ m := by omega
          have e8 : ∀ k9, jc_up (f_ho J t m x) (8, t, m) 4 (m_tk J O t m k) (8, t, j) k9 = J (8, t, j) k9 := fun k9 => hf _ _ (by simp [hne]) (by simp) (by simp)
          have e32 : jc_up (f_ho J t m x) (8, t, m) 4 (m_tk J O t m k) (32, t, j) = J (32, t, j) := by funext k9; exact hf _ _ (by simp) (by simp [hne]) (by simp)
          have e33 : jc_up (f_ho J t m x) (8, t, m) 4 (m_tk J O t m k) (33, t, j) = J (33, t, j) := by funext k9; exact hf _ _ (by simp) (by simp) (by simp [hne])
          unfold FMJ
          rw [hf.bk, hf.v, e8, e8, e32, e33]
          exact hmi j hj
      refine ⟨⟨m + 1, hT, Or.inl ⟨by rw [hf.o (by decide) (by decide) (by decide)]; exact h4, by omega⟩⟩, hf.h.ot, hf.o (by decide) (by decide) (by decide), hH.fl hf, hf.o (by decide) (by decide) (by decide), hf.o (by decide) (by decide) (by decide)⟩
    · rw [if_neg ht]
      have e1 := jofI (n := m) (by omega)
      have hef : s_ef J t = jc_up J (9, t, 0) 2 (Int32.ofNat m) := by
        unfold s_ef
        rw [h2, jofs (by omega), if_neg (by rw [jlt, e1, j0I]; omega)]
      have hb : bk (s_ef J t) = bk J := ot_ef.bk
      have hV : jV (s_ef J t) = jV J := by funext y; unfold jV; rw [s_ef_t (by decide)]
      have e8 : ∀ j k9, s_ef J t (8, t, j) k9 = J (8, t, j) k9 := fun j k9 => s_ef_t (by decide)
      have e32 : ∀ j, s_ef J t (32, t, j) = J (32, t, j) := fun j => by funext k9; exact s_ef_t (by decide)
      have e33 : ∀ j, s_ef J t (33, t, j) = J (33, t, j) := fun j => by funext k9; exact s_ef_t (by decide)
      have r := rs_ty (O := O) (t := t) (x := x) (k := k) (S := S) m (s_ef J t) (by rw [hef, jc_up_s]) (by omega) (by rw [hef, jc_up_k _ _ _ _ _ _ (by decide)]; exact h4) (fun j hj => hco j (by omega)) (fun j hj => by
        have a := hfa j (by omega)
        refine ⟨by rw [hb]; exact a.al, by rw [hb]; exact a.cn, ?_, ?_, ?_⟩
        · rw [hb, hV, e33]; exact a.lo
        · rw [hb, e8]; exact a.at_
        · rw [e8]; exact a.d) (fun j hj => by unfold FMJ; rw [hb, hV, e8, e8, e32, e33]; exact hmi j (by omega)) (by rw [hb]; exact hC) (by rw [hV]; exact hx) (hH.to (fun q k9 hq => jk_ef q k9 (by simp; omega)))
      refine ⟨r.tt, ot_ef.tr r.o, r.c.trans (s_ef_t (by decide)), r.ho, r.n0.trans ?_, r.n6.trans ?_⟩
      · rw [hef, jc_up_k _ _ _ _ _ _ (by decide)]
      · rw [hef, jc_up_k _ _ _ _ _ _ (by decide)]
theorem rse_ty {J : jc_I} {O : jc_O} {t n : Nat} {x : Int32} {S : Int} (h : TH J O t n) (h4 : J (9, t, 0) 4 = 0) (hC : CO (bk J)) (hx : jV J x) (hH : HO J S) : jRS J (m_rse J O t x) O t S := by
  unfold m_rse
  have := h.le
  rw [h.fc, jofN (by omega)]
  exact rs_ty n J h.fc h.le h4 h.co (fun j hj => h.any hj) h.mid hC hx hH
