def sF (f : Nat → Int32) : Nat → Nat
  | 0 => 0
  | n + 1 => sF f n + if f n = 0 then 0 else 1
theorem sF_le {f : Nat → Int32} : ∀ n, sF f n ≤ n
  | 0 => Nat.le_refl _
  | n + 1 => by have := sF_le (f := f) n; rw [sF]; split <;> omega
theorem sF_full {f : Nat → Int32} : ∀ n, sF f n = n → ∀ d, d < n → f d ≠ 0
  | 0, _, d, hd => absurd hd (Nat.not_lt_zero _)
  | n + 1, h, d, hd => by
    rw [sF] at h
    have := sF_le (f := f) n
    by_cases e : f n = 0
    · rw [if_pos e] at h; omega
    · rw [if_neg e] at h
      by_cases e2 : d = n
      · subst e2; exact e
      · exact sF_full n (by omega) d (by omega)
theorem sF_eq {f g : Nat → Int32} : ∀ n, (∀ d, d < n → g d = f d) → sF g n = sF f n
  | 0, _ => rfl
  | n + 1, h => by rw [sF, sF, sF_eq n (fun d hd => h d (by omega)), h n (by omega)]
theorem sF_up {f g : Nat → Int32} {d : Nat} (h0 : f d = 0) (h1 : g d ≠ 0) (h2 : ∀ e, e ≠ d → g e = f e) : ∀ n, d < n → sF g n = sF f n + 1
  | 0, h => absurd h (Nat.not_lt_zero _)
  | n + 1, h => by
    rw [sF, sF]
    by_cases e : d = n
    · subst e
      rw [sF_eq d (fun k hk => h2 k (by omega)), if_neg h1, if_pos h0]
    · rw [sF_up h0 h1 h2 n (by omega), h2 n (fun e2 => e e2.symm)]
      omega
theorem sF_zero {f : Nat → Int32} : ∀ n, (∀ d, d < n → f d = 0) → sF f n = 0
  | 0, _ => rfl
  | n + 1, h => by rw [sF, sF_zero n (fun d hd => h d (by omega)), if_pos (h n (by omega))]
theorem g_lp_F {c : Nat} : ∀ (m : Nat) (i : Int32) (J : jc_I), jF J (g_lp c m i J)
  | 0, _, _ => jF.rf
  | m + 1, i, J => jF.ite jF.rf (jF_st.tr (g_lp_F m (i + 1) _))
theorem g_good_ne {J : jc_I} {c : Nat} {q : jc_L} {k : Nat} (h1 : q.1 ≠ 2) (h2 : q.1 ≠ 25) (h3 : q.1 ≠ 26) : g_good J c q k = J q k := by
  unfold g_good
  have hq : q ≠ (2, 0, 0) := fun e => h1 (by rw [e])
  split
  · exact jc_up_q _ _ _ _ _ _ hq
  · rw [g_lp_F _ _ _ _ _ h1 h3, jc_up_q _ _ _ _ _ _ hq, g_marks_ne (by cases h9 : Nat.beq q.1 25 with | false => rfl | true => exact absurd (Nat.eq_of_beq_eq_true h9) h2), jc_up_q _ _ _ _ _ _ hq]
def jNum (J : jc_I) : Prop := 0 ≤ J (1, 0, 0) 1 ∧ J (1, 0, 0) 1 ≤ 40 ∧ ∀ d : Nat, (d : Int) < (J (1, 0, 0) 1).toInt → J (6, d, 0) 0 = Int32.ofNat d ∧ jw_n J d
theorem jNum.to {J J' : jc_I} (h : jNum J) (e : ∀ q k, q.1 = 1 ∨ q.1 = 6 → J' q k = J q k) : jNum J' := by
  obtain ⟨h1, h2, h3⟩ := h
  unfold jNum jw_n
  rw [e (1, 0, 0) 1 (Or.inl rfl)]
  refine ⟨h1, h2, fun d hd => ?_⟩
  rw [e (6, d, 0) 0 (Or.inr rfl), e (6, d, 0) 7 (Or.inr rfl), e (6, d, 0) 8 (Or.inr rfl), e (6, d, 0) 9 (Or.inr rfl)]
  exact h3 d hd
def jS (B : jc_B) (c : Nat) (J : jc_I) (N : Nat) : Prop := (bk J = B) ∧ (J (2, 0, 0) 5 = Int32.ofNat N) ∧ (N ≤ 40) ∧ (∀ k, k < N → ∃ d : Nat, J (27, 0, 0) k = Int32.ofNat d ∧ (d : Int) < B.cn.toInt ∧ p_rch B c d) ∧ (∀ d, d < 40 → J (28, 0, 0) d ≠ 0 → ∃ k, k < N ∧ J (27, 0, 0) k = Int32.ofNat d) ∧ (sF (J (28, 0, 0)) 40 = N) ∧ (jNum J) ∧ (jPar J)
theorem jS.b {B : jc_B} {c : Nat} {J : jc_I} {N : Nat} (h9 : jS B c J N) : bk J = B := h9.1
theorem jS.n {B : jc_B} {c : Nat} {J : jc_I} {N : Nat} (h9 : jS B c J N) : J (2, 0, 0) 5 = Int32.ofNat N := h9.2.1
theorem jS.le {B : jc_B} {c : Nat} {J : jc_I} {N : Nat} (h9 : jS B c J N) : N ≤ 40 := h9.2.2.1
theorem jS.el {B : jc_B} {c : Nat} {J : jc_I} {N : Nat} (h9 : jS B c J N) : ∀ k, k < N → ∃ d : Nat, J (27, 0, 0) k = Int32.ofNat d ∧ (d : Int) < B.cn.toInt ∧ p_rch B c d := h9.2.2.2.1
theorem jS.fl {B : jc_B} {c : Nat} {J : jc_I} {N : Nat} (h9 : jS B c J N) : ∀ d, d < 40 → J (28, 0, 0) d ≠ 0 → ∃ k, k < N ∧ J (27, 0, 0) k = Int32.ofNat d := h9.2.2.2.2.1
theorem jS.su {B : jc_B} {c : Nat} {J : jc_I} {N : Nat} (h9 : jS B c J N) : sF (J (28, 0, 0)) 40 = N := h9.2.2.2.2.2.1
theorem jS.nu {B : jc_B} {c : Nat} {J : jc_I} {N : Nat} (h9 : jS B c J N) : jNum J := h9.2.2.2.2.2.2.1
theorem jS.pr {B : jc_B} {c : Nat} {J : jc_I} {N : Nat} (h9 : jS B c J N) : jPar J := h9.2.2.2.2.2.2.2
theorem jE.nu {J J' : jc_I} (h : jE J J') (hn : jNum J) : jNum J' := hn.to (fun q k hq => h q k (by omega) (by omega))
theorem jE.pr {J J' : jc_I} (h : jE J J') (hp : jPar J) : jPar J' := by
  intro d hd
  rw [h _ _ (by simp) (by simp)] at hd
  rw [h _ _ (by simp) (by simp)]
  exact hp d hd
theorem jS.rch {B : jc_B} {c : Nat} {J : jc_I} {N d : Nat} (h : jS B c J N) (hd : (d : Int) < B.cn.toInt) (hr : p_rch B c d) : ∃ N', jS B c (g_rch J d) N' ∧ N ≤ N' ∧ (∀ k, k < N → g_rch J d (27, 0, 0) k = J (27, 0, 0) k) ∧ (∀ e, J (28, 0, 0) e ≠ 0 → g_rch J d (28, 0, 0) e ≠ 0) ∧ g_rch J d (28, 0, 0) d ≠ 0 := by
  have hcn : B.cn = J (1, 0, 0) 1 := by rw [← h.b]; rfl
  have e40 : (40 : Int32).toInt = 40 := by decide
  have hd' : (d : Int) < (J (1, 0, 0) 1).toInt := by rw [← hcn]; exact hd
  have h40 : d < 40 := by have := jle.mp h.nu.2.1; omega
  have hnum := (h.nu.2.2 d hd').1
  have hE : jE J (g_rch J d) := jE_rch
  by_cases hc : J (28, 0, 0) d = 0
  · have hN : N < 40 := by
      refine Nat.lt_of_le_of_ne h.le (fun e => ?_)
      exact sF_full 40 (h.su.trans e) d h40 hc
    have e1 := jofI (n := N) (by omega)
    have hg : g_rch J d = jc_up (jc_up (jc_up J (28, 0, 0) d 1) (27, 0, 0) N (Int32.ofNat d)) (2, 0, 0) 5 (Int32.ofNat (N + 1)) := by
      unfold g_rch
      rw [hnum, jofN (by omega), h.n, if_pos ⟨hc, by rw [jlt, e1, e40]; omega⟩, jofN (by omega), jof1 (by omega)]
    refine ⟨N + 1, ⟨hE.bk.trans h.b, ?_, by omega, ?_, ?_, ?_, hE.nu h.nu, hE.pr h.pr⟩, by omega, ?_, ?_, ?_⟩
    · rw [hg, jc_up_s]
    · intro k hk
      rw [hg, jc_up_t _ _ _ _ _ _ _ _ (by decide)]
      by_cases e : k = N
      · subst e; rw [jc_up_s]; exact ⟨d, rfl, hd, hr⟩
      · rw [jc_up_k _ _ _ _ _ _ e, jc_up_t _ _ _ _ _ _ _ _ (by decide)]; exact h.el k (by omega)
    · intro e he hf
      rw [hg, jc_up_t _ _ _ _ _ _ _ _ (by decide), jc_up_t _ _ _ _ _ _ _ _ (by decide)] at hf
      by_cases e2 : e = d
      · subst e2
        refine ⟨N, by omega, ?_⟩
        rw [hg, jc_up_t _ _ _ _ _ _ _ _ (by decide), jc_up_s]
      · rw [jc_up_k _ _ _ _ _ _ e2] at hf
        obtain ⟨k, a, b⟩ := h.fl e he hf
        refine ⟨k, by omega, ?_⟩
        rw [hg, jc_up_t _ _ _ _ _ _ _ _ (by decide), jc_up_k _ _ _ _ _ _ (by omega), jc_up_t _ _ _ _ _ _ _ _ (by decide)]
        exact b
    · rw [hg, ← h.su]
      refine sF_up (d := d) hc ?_ ?_ 40 h40
      · rw [jc_up_t _ _ _ _ _ _ _ _ (by decide), jc_up_t _ _ _ _ _ _ _ _ (by decide), jc_up_s]; decide
      · intro e he
        rw [jc_up_t _ _ _ _ _ _ _ _ (by decide), jc_up_t _ _ _ _ _ _ _ _ (by decide), jc_up_k _ _ _ _ _ _ he]
    · intro k hk
      rw [hg, jc_up_t _ _ _ _ _ _ _ _ (by decide), jc_up_k _ _ _ _ _ _ (by omega), jc_up_t _ _ _ _ _ _ _ _ (by decide)]
    · intro e he
      rw [hg, jc_up_t _ _ _ _ _ _ _ _ (by decide), jc_up_t _ _ _ _ _ _ _ _ (by decide)]
      by_cases e2 : e = d
      · subst e2; rw [jc_up_s]; decide
      · rw [jc_up_k _ _ _ _ _ _ e2]; exact he
    · rw [hg, jc_up_t _ _ _ _ _ _ _ _ (by decide), jc_up_t _ _ _ _ _ _ _ _ (by decide), jc_up_s]; decide
  · have hg : g_rch J d = J := by
      unfold g_rch
      rw [hnum, jofN (by omega), if_neg (fun g => hc g.1)]
    rw [hg]
    exact ⟨N, h, Nat.le_refl _, fun _ _ => rfl, fun _ he => he, hc⟩
theorem jS.rco {B : jc_B} {c x : Nat} (hx : p_rch B c x) : ∀ (m r : Nat) (J : jc_I) (N : Nat), jS B c J N → r + m = (B.sz x).toNatClampNeg → ∃ N', jS B c (g_rco x m r J) N' ∧ N ≤ N' ∧ (∀ k, k < N → g_rco x m r J (27, 0, 0) k = J (27, 0, 0) k) ∧ (∀ e, J (28, 0, 0) e ≠ 0 → g_rco x m r J (28, 0, 0) e ≠ 0) ∧ ∀ i, r ≤ i → i < r + m → B.op x i = 18 → 0 ≤ B.an x i → B.an x i < B.cn → g_rco x m r J (28, 0, 0) (B.an x i).toNatClampNeg ≠ 0
  | 0, r, J, N, h, _ => ⟨N, h, Nat.le_refl _, fun _ _ => rfl, fun _ he => he, fun i a b => absurd b (by omega)⟩
  | m + 1, r, J, N, h, hm => by
    rw [g_rco]
    have hop : J (21, x, 0) r = B.op x r := by rw [← h.b]; rfl
    have han : J (22, x, 0) r = B.an x r := by rw [← h.b]; rfl
    have hcn : J (1, 0, 0) 1 = B.cn := by rw [← h.b]; rfl
    by_cases hc : B.op x r = 18 ∧ 0 ≤ B.an x r ∧ B.an x r < B.cn
    · rw [hop, if_pos hc.1, han]
      unfold g_rchO
      rw [hcn, if_pos hc.2]
      obtain ⟨N1, a1, a2, a3, a4, a5⟩ := h.rch (d := (B.an x r).toNatClampNeg) (jlN hc.2.1 hc.2.2) (hx.call (by omega) hc.1 hc.2.1 hc.2.2)
      obtain ⟨N2, b1, b2, b3, b4, b5⟩ := jS.rco hx m (r + 1) _ N1 a1 (by omega)
      refine ⟨N2, b1, by omega, fun k hk => (b3 k (by omega)).trans (a3 k hk), fun e he => b4 e (a4 e he), fun i g1 g2 g3 g4 g5 => ?_⟩
      by_cases e : i = r
      · subst e; exact b4 _ a5
      · exact b5 i (by omega) (by omega) g3 g4 g5
    · have hJ : (if J (21, x, 0) r = 18 then g_rchO J (J (22, x, 0) r) else J) = J := by
        rw [hop, han]
        split
        · rename_i h18
          unfold g_rchO
          rw [hcn, if_neg (fun g => hc ⟨h18, g⟩)]
        · rfl
      rw [hJ]
      obtain ⟨N2, b1, b2, b3, b4, b5⟩ := jS.rco hx m (r + 1) _ N h (by omega)
      refine ⟨N2, b1, b2, b3, b4, fun i g1 g2 g3 g4 g5 => ?_⟩
      by_cases e : i = r
      · subst e; exact absurd ⟨g3, g4, g5⟩ hc
      · exact b5 i (by omega) (by omega) g3 g4 g5
theorem jS.good {B : jc_B} {c x : Nat} {J : jc_I} {N : Nat} (h : jS B c J N) : jS B c (g_good J x) N := by
  have hE : jE J (g_good J x) := jE_good
  have e27 : ∀ k, g_good J x (27, 0, 0) k = J (27, 0, 0) k := fun k => g_good_ne (by simp) (by simp) (by simp)
  have e28 : ∀ k, g_good J x (28, 0, 0) k = J (28, 0, 0) k := fun k => g_good_ne (by simp) (by simp) (by simp)
  refine ⟨hE.bk.trans h.b, by rw [g_good5]; exact h.n, h.le, ?_, ?_, ?_, hE.nu h.nu, hE.pr h.pr⟩
  · intro k hk; rw [e27]; exact h.el k hk
  · intro d hd hf; rw [e28] at hf; obtain ⟨k, a, b⟩ := h.fl d hd hf; exact ⟨k, a, by rw [e27]; exact b⟩
  · rw [sF_eq 40 (fun d _ => e28 d)]; exact h.su
def jDone (B : jc_B) (J : jc_I) (i : Nat) : Prop := ∀ k, k < i → ∀ d : Nat, d < 40 → J (27, 0, 0) k = Int32.ofNat d → p_good B d ∧ ∀ j, j < (B.sz d).toNatClampNeg → B.op d j = 18 → 0 ≤ B.an d j → B.an d j < B.cn → J (28, 0, 0) (B.an d j).toNatClampNeg ≠ 0
theorem jS.done {B : jc_B} {c : Nat} {J : jc_I} {N : Nat} (h : jS B c J N) (hc : J (28, 0, 0) c ≠ 0) (hc4 : c < 40) (hi : jDone B J N) : p_all B c := by
  have hle : ∀ d : Nat, (d : Int) < B.cn.toInt → d < 40 := by
    intro d hd
    have hcn : B.cn = J (1, 0, 0) 1 := by rw [← h.b]; rfl
    have := jle.mp h.nu.2.1
    rw [hcn] at hd
    have e40 : (40 : Int32).toInt = 40 := by decide
    omega
  have key : ∀ d, p_rch B c d → d < 40 ∧ J (28, 0, 0) d ≠ 0 := by
    intro d hd
    refine hd (fun d => d < 40 ∧ J (28, 0, 0) d ≠ 0) ⟨hc4, hc⟩ ?_
    intro d i ih a1 a2 a3 a4
    obtain ⟨k, b1, b2⟩ := h.fl d ih.1 ih.2
    exact ⟨hle _ (jlN a3 a4), (hi k b1 d ih.1 b2).2 i a1 a2 a3 a4⟩
  intro d hd
  obtain ⟨k1, k2⟩ := key d hd
  obtain ⟨k, b1, b2⟩ := h.fl d k1 k2
  exact (hi k b1 d k1 b2).1
theorem jS.all {B : jc_B} {c : Nat} (hc4 : c < 40) : ∀ (m i : Nat) (J : jc_I) (N : Nat), i + m = 40 → jS B c J N → J (28, 0, 0) c ≠ 0 → i ≤ N → jDone B J i → ((g_all m (Int32.ofNat i) J).1 = 1 ↔ p_all B c)
  | 0, i, J, N, hm, h, hc, hN, hi => ⟨fun _ => h.done hc hc4 (by have := h.le; rw [show N = i from by omega]; exact hi), fun _ => rfl⟩
  | m + 1, i, J, N, hm, h, hc, hN, hi => by
    rw [g_all, h.n, jof1 (by omega)]
    have e1 := jofI (n := i) (by omega)
    have e2 := jofI (n := N) (by have := h.le; omega)
    by_cases hle : N ≤ i
    · rw [if_pos (by rw [jle, e1, e2]; omega)]
      exact ⟨fun _ => h.done hc hc4 (by rw [show N = i from by omega]; exact hi), fun _ => rfl⟩
    · rw [if_neg (by rw [jle, e1, e2]; omega), jofN (by omega)]
      obtain ⟨d, d1, d2, d3⟩ := h.el i (by omega)
      have hcn : J (1, 0, 0) 1 = B.cn := by rw [← h.b]; rfl
      have d40 : d < 40 := by
        have := jle.mp h.nu.2.1
        rw [hcn] at this
        have e40 : (40 : Int32).toInt = 40 := by decide
        omega
      have ed := jofI (n := d) (by omega)
      rw [d1, hcn, if_neg (by rw [Classical.not_not, jle, jlt, ed, j0I]; omega), jofN (by omega)]
      have hgood := g_good_iff (J := J) (c := d) h.pr (h.nu.2.2 d (by rw [hcn]; exact d2)).2
      rw [h.b] at hgood
      by_cases hg : g_good J d (2, 0, 0) 7 = 0
      · rw [if_pos hg]
        refine ⟨fun g => absurd (show (0 : Int32) = 1 from g) (by decide), fun g => ?_⟩
        have := hgood.mpr (g d d3)
        rw [hg] at this
        exact absurd this (by decide)
      · rw [if_neg hg]
        have hg1 : p_good B d := hgood.mp ((g01_good (I := J) (c := d)).resolve_left hg)
        have hS := h.good (x := d)
        unfold g_nx
        have hsz : (g_good J d (6, d, 0) 8).toNatClampNeg = (B.sz d).toNatClampNeg := by rw [← hS.b]; rfl
        rw [hsz]
        obtain ⟨N', b1, b2, b3, b4, b5⟩ := jS.rco d3 (B.sz d).toNatClampNeg 0 _ N hS (by omega)
        have e27 : ∀ k, g_good J d (27, 0, 0) k = J (27, 0, 0) k := fun k => g_good_ne (by simp) (by simp) (by simp)
        have e28 : ∀ k, g_good J d (28, 0, 0) k = J (28, 0, 0) k := fun k => g_good_ne (by simp) (by simp) (by simp)
        refine jS.all hc4 m (i + 1) _ N' (by omega) b1 (b4 c (by rw [e28]; exact hc)) (by omega) ?_
        intro k hk e he hke
        rw [b3 k (by omega), e27] at hke
        by_cases ek : k = i
        · subst ek
          rw [d1] at hke
          have : d = e := by have := congrArg Int32.toNatClampNeg hke; rw [jofN (by omega), jofN (by omega)] at this; exact this
          subst this
          exact ⟨hg1, fun j g1 g2 g3 g4 => b5 j (Nat.zero_le _) (by omega) g2 g3 g4⟩
        · obtain ⟨a1, a2⟩ := hi k (by omega) e he hke
          exact ⟨a1, fun j g1 g2 g3 g4 => b4 _ (by rw [e28]; exact a2 j g1 g2 g3 g4)⟩
theorem g_thr_iff {J : jc_I} {c : Nat} (hn : jNum J) (hp : jPar J) (hc : (c : Int) < (J (1, 0, 0) 1).toInt) : (g_thr J c).1 = 1 ↔ p_all (bk J) c := by
  unfold g_thr
  have e40 : (40 : Int32).toInt = 40 := by decide
  have hc4 : c < 40 := by have := jle.mp hn.2.1; omega
  have hE : jE J (jc_up (jc_zr J (28, 0, 0) 40 0) (2, 0, 0) 5 0) := (jE.zr (Or.inr ⟨by decide, by decide⟩)).tr (jE.up (Or.inl rfl))
  have hz : ∀ d, d < 40 → jc_up (jc_zr J (28, 0, 0) 40 0) (2, 0, 0) 5 0 (28, 0, 0) d = 0 := by
    intro d hd
    rw [jc_up_t _ _ _ _ _ _ _ _ (by decide)]
    exact if_pos ⟨rfl, hd⟩
  have h0 : jS (bk J) c (jc_up (jc_zr J (28, 0, 0) 40 0) (2, 0, 0) 5 0) 0 := ⟨hE.bk, jc_up_s _ _ _ _, by omega, fun k hk => absurd hk (Nat.not_lt_zero _), fun d hd hf => absurd (hz d hd) hf, sF_zero 40 hz, hE.nu hn, hE.pr hp⟩
  obtain ⟨N, a1, a2, a3, a4, a5⟩ := h0.rch (d := c) hc .self
  exact jS.all hc4 40 0 _ N rfl a1 a5 (Nat.zero_le _) (fun k hk => absurd hk (Nat.not_lt_zero _))
