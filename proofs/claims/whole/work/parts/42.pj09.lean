theorem p_ins_0 {B : jc_B} {c : Nat} {a : Int32} {K : List Int32} : p_ins B c 0 a K = p_push 1 K := by
  unfold p_ins
  simp +decide only [if_true, if_false]
theorem p_ins_1 {B : jc_B} {c : Nat} {a : Int32} {K : List Int32} : p_ins B c 1 a K = p_push 2 K := by
  unfold p_ins
  simp +decide only [if_true, if_false]
theorem p_ins_2 {B : jc_B} {c : Nat} {a : Int32} {K : List Int32} : p_ins B c 2 a K = p_pop K := by
  unfold p_ins
  simp +decide only [if_true, if_false]
theorem p_ins_3 {B : jc_B} {c : Nat} {a : Int32} {K : List Int32} : p_ins B c 3 a K = p_dup K := by
  unfold p_ins
  simp +decide only [if_true, if_false]
theorem p_ins_4 {B : jc_B} {c : Nat} {a : Int32} {K : List Int32} : p_ins B c 4 a K = ((p_take 1 K).bind (p_take 1)).bind (p_push 1) := by
  unfold p_ins
  simp +decide only [if_true, if_false]
theorem p_ins_5 {B : jc_B} {c : Nat} {a : Int32} {K : List Int32} : p_ins B c 5 a K = ((p_take 1 K).bind (p_take 1)).bind (p_push 1) := by
  unfold p_ins
  simp +decide only [if_true, if_false]
theorem p_ins_6 {B : jc_B} {c : Nat} {a : Int32} {K : List Int32} : p_ins B c 6 a K = ((p_take 1 K).bind (p_take 1)).bind (p_push 1) := by
  unfold p_ins
  simp +decide only [if_true, if_false]
theorem p_ins_7 {B : jc_B} {c : Nat} {a : Int32} {K : List Int32} : p_ins B c 7 a K = ((p_take 1 K).bind (p_take 1)).bind (p_push 1) := by
  unfold p_ins
  simp +decide only [if_true, if_false]
theorem p_ins_8 {B : jc_B} {c : Nat} {a : Int32} {K : List Int32} : p_ins B c 8 a K = ((p_take 1 K).bind (p_take 1)).bind (p_push 1) := by
  unfold p_ins
  simp +decide only [if_true, if_false]
theorem p_ins_9 {B : jc_B} {c : Nat} {a : Int32} {K : List Int32} : p_ins B c 9 a K = p_push (p_lk B c a) K := by
  unfold p_ins
  simp +decide only [if_true, if_false]
theorem p_ins_10 {B : jc_B} {c : Nat} {a : Int32} {K : List Int32} : p_ins B c 10 a K = p_take (p_lk B c a) K := by
  unfold p_ins
  simp +decide only [if_true, if_false]
theorem p_ins_11 {B : jc_B} {c : Nat} {a : Int32} {K : List Int32} : p_ins B c 11 a K = p_leave B c a K := by
  unfold p_ins
  simp +decide only [if_true, if_false]
theorem p_ins_12 {B : jc_B} {c : Nat} {a : Int32} {K : List Int32} : p_ins B c 12 a K = (p_take 1 K).bind (p_leave B c a) := by
  unfold p_ins
  simp +decide only [if_true, if_false]
theorem p_ins_13 {B : jc_B} {c : Nat} {a : Int32} {K : List Int32} : p_ins B c 13 a K = (p_take 2 K).bind (p_leave B c a) := by
  unfold p_ins
  simp +decide only [if_true, if_false]
theorem p_ins_14 {B : jc_B} {c : Nat} {a : Int32} {K : List Int32} : p_ins B c 14 a K = p_push 2 K := by
  unfold p_ins
  simp +decide only [if_true, if_false]
theorem p_ins_15 {B : jc_B} {c : Nat} {a : Int32} {K : List Int32} : p_ins B c 15 a K = (p_take 2 K).bind (p_push 1) := by
  unfold p_ins
  simp +decide only [if_true, if_false]
theorem p_ins_16 {B : jc_B} {c : Nat} {a : Int32} {K : List Int32} : p_ins B c 16 a K = (p_take 2 K).bind (p_push 1) := by
  unfold p_ins
  simp +decide only [if_true, if_false]
theorem p_ins_17 {B : jc_B} {c : Nat} {a : Int32} {K : List Int32} : p_ins B c 17 a K = (p_take 1 K).bind (p_take 2) := by
  unfold p_ins
  simp +decide only [if_true, if_false]
theorem p_ins_18 {B : jc_B} {c : Nat} {a : Int32} {K : List Int32} : p_ins B c 18 a K = if 0 ≤ a ∧ a < B.cn then (p_par B a.toNatClampNeg (B.par a.toNatClampNeg).toNatClampNeg K).bind (p_res B a.toNatClampNeg) else none := by
  unfold p_ins
  simp +decide only [if_true, if_false]
theorem p_ins_19 {B : jc_B} {c : Nat} {a : Int32} {K : List Int32} : p_ins B c 19 a K = p_take 2 K := by
  unfold p_ins
  simp +decide only [if_true, if_false]
theorem p_ins_20 {B : jc_B} {c : Nat} {a : Int32} {K : List Int32} : p_ins B c 20 a K = p_take 2 K := by
  unfold p_ins
  simp +decide only [if_true, if_false]
theorem p_ins_21 {B : jc_B} {c : Nat} {a : Int32} {K : List Int32} : p_ins B c 21 a K = p_take 2 K := by
  unfold p_ins
  simp +decide only [if_true, if_false]
theorem p_ins_22 {B : jc_B} {c : Nat} {a : Int32} {K : List Int32} : p_ins B c 22 a K = if B.res c ≠ 0 then (p_take (B.res c) K).bind p_end else p_end K := by
  unfold p_ins
  simp +decide only [if_true, if_false]
theorem p_ins_23 {B : jc_B} {c : Nat} {a : Int32} {K : List Int32} : p_ins B c 23 a K = (p_take 2 K).bind (p_push 2) := by
  unfold p_ins
  simp +decide only [if_true, if_false]
theorem p_ins_24 {B : jc_B} {c : Nat} {a : Int32} {K : List Int32} : p_ins B c 24 a K = (p_take 2 K).bind (p_take 2) := by
  unfold p_ins
  simp +decide only [if_true, if_false]
theorem p_ins_25 {B : jc_B} {c : Nat} {a : Int32} {K : List Int32} : p_ins B c 25 a K = p_push 2 K := by
  unfold p_ins
  simp +decide only [if_true, if_false]
theorem p_ins_26 {B : jc_B} {c : Nat} {a : Int32} {K : List Int32} : p_ins B c 26 a K = p_take 2 K := by
  unfold p_ins
  simp +decide only [if_true, if_false]
def insOK (op a : Int32) : Prop := 0 ≤ op ∧ op ≤ 26 ∧ (op = 25 ∨ op = 26 ∨ op = 16 ∨ op = 17 → 0 ≤ a ∧ a ≤ 3) ∧ (op = 23 ∨ op = 24 → 4 ≤ a ∧ a ≤ 7)
def CO (B : jc_B) : Prop := (0 ≤ B.cn) ∧ (B.cn ≤ 40) ∧ (∀ c : Nat, (c : Int) < B.cn.toInt → 0 ≤ B.lc c ∧ B.lc c ≤ 8) ∧ (∀ c : Nat, (c : Int) < B.cn.toInt → 0 ≤ B.sz c ∧ B.sz c ≤ 60) ∧ (∀ c : Nat, (c : Int) < B.cn.toInt → 0 ≤ B.rc c ∧ B.rc c ≤ 20) ∧ (∀ c : Nat, (c : Int) < B.cn.toInt → 0 ≤ B.par c ∧ B.par c ≤ 8) ∧ (∀ c i : Nat, (c : Int) < B.cn.toInt → i < (B.sz c).toNatClampNeg → insOK (B.op c i) (B.an c i))
theorem CO.n0 {B : jc_B} (h9 : CO B) : 0 ≤ B.cn := h9.1
theorem CO.n1 {B : jc_B} (h9 : CO B) : B.cn ≤ 40 := h9.2.1
theorem CO.lc {B : jc_B} (h9 : CO B) : ∀ c : Nat, (c : Int) < B.cn.toInt → 0 ≤ B.lc c ∧ B.lc c ≤ 8 := h9.2.2.1
theorem CO.sz {B : jc_B} (h9 : CO B) : ∀ c : Nat, (c : Int) < B.cn.toInt → 0 ≤ B.sz c ∧ B.sz c ≤ 60 := h9.2.2.2.1
theorem CO.rc {B : jc_B} (h9 : CO B) : ∀ c : Nat, (c : Int) < B.cn.toInt → 0 ≤ B.rc c ∧ B.rc c ≤ 20 := h9.2.2.2.2.1
theorem CO.par {B : jc_B} (h9 : CO B) : ∀ c : Nat, (c : Int) < B.cn.toInt → 0 ≤ B.par c ∧ B.par c ≤ 8 := h9.2.2.2.2.2.1
theorem CO.ins {B : jc_B} (h9 : CO B) : ∀ c i : Nat, (c : Int) < B.cn.toInt → i < (B.sz c).toNatClampNeg → insOK (B.op c i) (B.an c i) := h9.2.2.2.2.2.2
def HO (J : jc_I) (S : Int) : Prop := (0 ≤ J (3, 0, 0) 2) ∧ (J (3, 0, 0) 2 ≤ 2000) ∧ (∀ k : Nat, (k : Int) < (J (3, 0, 0) 2).toInt → (J (7, k, 0) 2 = -1 ∧ J (7, k, 0) 3 = 0) ∨ (J (7, k, 0) 2 ≠ -1 ∧ 1 ≤ (J (7, k, 0) 3).toInt ∧ (J (7, k, 0) 3).toInt ≤ S)) ∧ (∀ k i : Nat, (k : Int) < (J (3, 0, 0) 2).toInt → 4 ≤ i → i < 8 → jV J (J (29, k, 0) i)) ∧ (∀ i : Nat, i < 4 → jV J (J (31, 0, 0) i))
theorem HO.c0 {J : jc_I} {S : Int} (h9 : HO J S) : 0 ≤ J (3, 0, 0) 2 := h9.1
theorem HO.c1 {J : jc_I} {S : Int} (h9 : HO J S) : J (3, 0, 0) 2 ≤ 2000 := h9.2.1
theorem HO.th {J : jc_I} {S : Int} (h9 : HO J S) : ∀ k : Nat, (k : Int) < (J (3, 0, 0) 2).toInt → (J (7, k, 0) 2 = -1 ∧ J (7, k, 0) 3 = 0) ∨ (J (7, k, 0) 2 ≠ -1 ∧ 1 ≤ (J (7, k, 0) 3).toInt ∧ (J (7, k, 0) 3).toInt ≤ S) := h9.2.2.1
theorem HO.fi {J : jc_I} {S : Int} (h9 : HO J S) : ∀ k i : Nat, (k : Int) < (J (3, 0, 0) 2).toInt → 4 ≤ i → i < 8 → jV J (J (29, k, 0) i) := h9.2.2.2.1
theorem HO.gl {J : jc_I} {S : Int} (h9 : HO J S) : ∀ i : Nat, i < 4 → jV J (J (31, 0, 0) i) := h9.2.2.2.2
theorem HO.to {J J' : jc_I} {S : Int} (h : HO J S) (e : ∀ q k, q.1 = 3 ∨ q.1 = 7 ∨ q.1 = 29 ∨ q.1 = 31 → J' q k = J q k) : HO J' S := by
  have e3 := e (3, 0, 0) 2 (Or.inl rfl)
  have eV : jV J' = jV J := by funext x; unfold jV; rw [e3]
  refine ⟨by rw [e3]; exact h.c0, by rw [e3]; exact h.c1, fun k hk => ?_, fun k i hk h4 h8 => ?_, fun i hi => ?_⟩
  · rw [e3] at hk; rw [e _ 2 (by simp), e _ 3 (by simp)]; exact h.th k hk
  · rw [e3] at hk; rw [eV, e _ i (by simp)]; exact h.fi k i hk h4 h8
  · rw [eV, e _ i (by simp)]; exact h.gl i hi
theorem HO.fl {J J' : jc_I} {S : Int} {t j : Nat} (h : HO J S) (e : fl t j J J') : HO J' S := h.to (fun q k hq => e q k (fun g => by rw [g] at hq; simp at hq) (fun g => by rw [g] at hq; simp at hq) (fun g => by rw [g] at hq; simp at hq))
theorem HO.mono {J : jc_I} {S S' : Int} (h : HO J S) (hs : S ≤ S') : HO J S' := ⟨h.c0, h.c1, fun k hk => (h.th k hk).imp id (fun g => ⟨g.1, g.2.1, by omega⟩), h.fi, h.gl⟩
theorem HO.cs {J : jc_I} {S : Int} {t : Nat} (h : HO J S) : HO (s_cs J t) S := h.to (fun q k hq => jk_cs q k (by simp; omega))
def fh (t j : Nat) (J J' : jc_I) : Prop := ∀ q k, q ≠ (8, t, j) → q ≠ (32, t, j) → q ≠ (33, t, j) → q.1 ≠ 7 → q.1 ≠ 29 → q.1 ≠ 31 → q.1 ≠ 3 → J' q k = J q k
theorem fl.h {t j : Nat} {J J' : jc_I} (h : fl t j J J') : fh t j J J' := fun q k a b c _ _ _ _ => h q k a b c
theorem fh.tr {t j : Nat} {I J K : jc_I} (h : fh t j I J) (h2 : fh t j J K) : fh t j I K := fun q k a b c d e f g => (h2 q k a b c d e f g).trans (h q k a b c d e f g)
theorem fh.u {t j : Nat} {J : jc_I} {q : jc_L} {k : Nat} {v : Int32} (hq : q.1 = 7 ∨ q.1 = 29 ∨ q.1 = 31 ∨ q.1 = 3) : fh t j J (jc_up J q k v) := fun q' k' _ _ _ d e f g => jc_up_q _ _ _ _ _ _ (fun x => by subst x; omega)
theorem fh.bk {t j : Nat} {J J' : jc_I} (h : fh t j J J') : bk J' = bk J := bk_eq (fun q k hq => h q k (fun e => by rw [e] at hq; simp at hq) (fun e => by rw [e] at hq; simp at hq) (fun e => by rw [e] at hq; simp at hq) (by omega) (by omega) (by omega) (by omega))
def TH (J : jc_I) (O : jc_O) (t n : Nat) : Prop := (J (9, t, 0) 2 = Int32.ofNat n) ∧ (n ≤ 30) ∧ (∀ j, j < n → O (8, t, j) 2 = some (6, cd O t j, 0)) ∧ (∀ j, j + 1 = n → FTJ J t j (cd O t j)) ∧ (∀ j, j + 1 < n → FMJ J t j (cd O t j) (cd O t (j + 1)))
theorem TH.fc {J : jc_I} {O : jc_O} {t n : Nat} (h9 : TH J O t n) : J (9, t, 0) 2 = Int32.ofNat n := h9.1
theorem TH.le {J : jc_I} {O : jc_O} {t n : Nat} (h9 : TH J O t n) : n ≤ 30 := h9.2.1
theorem TH.co {J : jc_I} {O : jc_O} {t n : Nat} (h9 : TH J O t n) : ∀ j, j < n → O (8, t, j) 2 = some (6, cd O t j, 0) := h9.2.2.1
theorem TH.top {J : jc_I} {O : jc_O} {t n : Nat} (h9 : TH J O t n) : ∀ j, j + 1 = n → FTJ J t j (cd O t j) := h9.2.2.2.1
theorem TH.mid {J : jc_I} {O : jc_O} {t n : Nat} (h9 : TH J O t n) : ∀ j, j + 1 < n → FMJ J t j (cd O t j) (cd O t (j + 1)) := h9.2.2.2.2
theorem TH.loc {J J' : jc_I} {O : jc_O} {t n j : Nat} (h : TH J O t n) (hj : j + 1 = n) (e : fh t j J J') (hv : ∀ x, jV J x → jV J' x) (hT : FTJ J' t j (cd O t j)) : TH J' O t n := by
  have e9 : J' (9, t, 0) 2 = J (9, t, 0) 2 := e _ _ (by simp) (by simp) (by simp) (by simp) (by simp) (by simp) (by simp)
  refine ⟨e9.trans h.fc, h.le, h.co, fun j' hj' => ?_, fun j' hj' => ?_⟩
  · have : j' = j := by omega
    subst this; exact hT
  · have hne : j' ≠ j := by omega
    have e8 : ∀ k, J' (8, t, j') k = J (8, t, j') k := fun k => e _ _ (by simp [hne]) (by simp) (by simp) (by simp) (by simp) (by simp) (by simp)
    have e32 : J' (32, t, j') = J (32, t, j') := by funext k; exact e _ _ (by simp) (by simp [hne]) (by simp) (by simp) (by simp) (by simp) (by simp)
    have e33 : J' (33, t, j') = J (33, t, j') := by funext k; exact e _ _ (by simp) (by simp) (by simp [hne]) (by simp) (by simp) (by simp) (by simp)
    unfold FMJ
    rw [e.bk, e8, e8, e32, e33]
    exact (h.mid j' hj').mono hv
theorem TH.to {J J' : jc_I} {O O' : jc_O} {t n : Nat} (h : TH J O t n) (hb : bk J' = bk J) (hv : ∀ x, jV J x → jV J' x) (e9 : J' (9, t, 0) 2 = J (9, t, 0) 2) (e : ∀ q k, (q.1 = 8 ∨ q.1 = 32 ∨ q.1 = 33) → q.2.1 = t → J' q k = J q k) (eo : ∀ j, O' (8, t, j) 2 = O (8, t, j) 2) : TH J' O' t n := by
  have hc : ∀ j, cd O' t j = cd O t j := fun j => by unfold cd; rw [eo]
  have e32 : ∀ j, J' (32, t, j) = J (32, t, j) := fun j => by funext k; exact e _ _ (by simp) rfl
  have e33 : ∀ j, J' (33, t, j) = J (33, t, j) := fun j => by funext k; exact e _ _ (by simp) rfl
  refine ⟨e9.trans h.fc, h.le, fun j hj => ?_, fun j hj => ?_, fun j hj => ?_⟩
  · rw [eo, hc]; exact h.co j hj
  · unfold FTJ; rw [hb, hc, e _ _ (by simp) rfl, e _ _ (by simp) rfl, e32, e33]; exact (h.top j hj).mono hv
  · unfold FMJ; rw [hb, hc, hc, e _ _ (by simp) rfl, e _ _ (by simp) rfl, e32, e33]; exact (h.mid j hj).mono hv
def TP (J : jc_I) (t j c i : Nat) (K K' : List Int32) : Prop := (TFJ J t j c K) ∧ (J (8, t, j) 4 = Int32.ofNat i) ∧ (i < ((bk J).sz c).toNatClampNeg) ∧ (p_at (bk J) c i = some K) ∧ (p_ins (bk J) c ((bk J).op c i) ((bk J).an c i) K = some K') ∧ (p_run (bk J) c (i + 1) = some K')
theorem TP.tf {J : jc_I} {t j c i : Nat} {K K' : List Int32} (h9 : TP J t j c i K K') : TFJ J t j c K := h9.1
theorem TP.at_ {J : jc_I} {t j c i : Nat} {K K' : List Int32} (h9 : TP J t j c i K K') : J (8, t, j) 4 = Int32.ofNat i := h9.2.1
theorem TP.lt {J : jc_I} {t j c i : Nat} {K K' : List Int32} (h9 : TP J t j c i K K') : i < ((bk J).sz c).toNatClampNeg := h9.2.2.1
theorem TP.pa {J : jc_I} {t j c i : Nat} {K K' : List Int32} (h9 : TP J t j c i K K') : p_at (bk J) c i = some K := h9.2.2.2.1
theorem TP.pi {J : jc_I} {t j c i : Nat} {K K' : List Int32} (h9 : TP J t j c i K K') : p_ins (bk J) c ((bk J).op c i) ((bk J).an c i) K = some K' := h9.2.2.2.2.1
theorem TP.pr {J : jc_I} {t j c i : Nat} {K K' : List Int32} (h9 : TP J t j c i K K') : p_run (bk J) c (i + 1) = some K' := h9.2.2.2.2.2
theorem TP.of {J : jc_I} {t j c : Nat} (h : FTJ J t j c) : ∃ i K K', TP J t j c i K K' := by
  obtain ⟨i, K, a1, a2, a3, a4⟩ := h
  obtain ⟨K2, K', b1, b2, b3⟩ := (a4.al c .self).at_ a2
  rw [a3] at b1
  cases b1
  exact ⟨i, K, K', a4, a1, a2, a3, b2, b3⟩
theorem TP.good {J : jc_I} {t j c i : Nat} {K K' : List Int32} (h : TP J t j c i K K') : p_good (bk J) c := h.tf.al c .self
theorem CO.s60 {B : jc_B} (h : CO B) {c : Nat} (hc : (c : Int) < B.cn.toInt) : (B.sz c).toNatClampNeg ≤ 60 := by
  obtain ⟨a, b⟩ := h.sz c hc
  have e : (60 : Int32).toInt = 60 := by decide
  have := jNI a
  rw [jle, e] at b
  omega
theorem TP.op {J : jc_I} {t j c i : Nat} {K K' : List Int32} (h : TP J t j c i K K') (hC : CO (bk J)) : m_op J t j c = (bk J).op c i ∧ m_an J t j c = (bk J).an c i := by
  have h60 := hC.s60 h.tf.cn
  have hl := h.lt
  have e1 := jofI (n := i) (by omega)
  have hs := jNI (hC.sz c h.tf.cn).1
  have hp : 0 ≤ Int32.ofNat i ∧ Int32.ofNat i < J (6, c, 0) 8 := by
    rw [jle, jlt, e1, j0I]
    have : ((bk J).sz c).toInt = (J (6, c, 0) 8).toInt := rfl
    omega
  unfold m_op m_an
  rw [h.at_, if_pos hp, if_pos hp, jofN (by omega)]
  exact ⟨rfl, rfl⟩
theorem TP.on {J J' : jc_I} {t j c i : Nat} {K K' : List Int32} (h : TP J t j c i K K') (hC : CO (bk J)) (hl : ¬ p_lst ((bk J).op c i)) (hb : bk J' = bk J) (h4 : J' (8, t, j) 4 = J (8, t, j) 4) (hT : TFJ J' t j c K') : FTJ (f_on J' t j) t j c := by
  obtain ⟨a1, a2⟩ := h.good.on h.lt hl
  have h60 := hC.s60 h.tf.cn
  have hT2 : TFJ (f_on J' t j) t j c K' := TF.at hT
  refine ⟨i + 1, K', ?_, ?_, ?_, hT2⟩
  · unfold f_on; rw [jc_up_s, h4, h.at_, jof1 (by have := h.lt; omega)]
  · rw [fl_on.bk, hb]; exact a1
  · rw [fl_on.bk, hb, a2]; exact h.pr
theorem TP.off {J J' : jc_I} {t j c i : Nat} {K K' : List Int32} (h : TP J t j c i K K') (hC : CO (bk J)) (hj : p_jmp ((bk J).op c i)) (ht : ¬ p_tkr (bk J) c ((bk J).an c i)) (hb : bk J' = bk J) (hT : TFJ J' t j c []) : FTJ (jc_up J' (8, t, j) 4 ((bk J).an c i)) t j c := by
  obtain ⟨a1, a2, a3⟩ := h.good.jump h.lt hj (hC.s60 h.tf.cn) ht
  have hb2 : bk (jc_up J' (8, t, j) 4 ((bk J).an c i)) = bk J := (fl.u8 (t := t) (j := j)).bk.trans hb
  have h60 := hC.s60 h.tf.cn
  refine ⟨((bk J).an c i).toNatClampNeg, [], ?_, ?_, ?_, TF.at hT⟩
  · rw [jc_up_s]
    apply Int32.toInt_inj.mp
    rw [jofI (by omega), jNI a1]
  · rw [hb2]; exact a2
  · rw [hb2]; exact a3
