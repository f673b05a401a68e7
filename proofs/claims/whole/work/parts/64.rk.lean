/-- the book of the reference's codes -/
def bq (I : jc_I) : jc_B := (I (15, 0, 0) 1, fun c => I (11, c, 0) 0, fun c => I (11, c, 0) 1, fun c => I (11, c, 0) 3, fun c => I (11, c, 0) 6, fun c => I (11, c, 0) 11, fun c => I (40, c, 0), fun c => I (41, c, 0), fun c => I (42, c, 0), fun c r => I (43, c, 0) r, fun c r => I (44, c, 0) r, fun c r => I (45, c, 0) r, fun c r => I (46, c, 0) r)
theorem bq_eq {I I' : jc_I} (h : ∀ q k, q.1 = 15 ∨ q.1 = 11 ∨ (40 ≤ q.1 ∧ q.1 ≤ 46) → I' q k = I q k) : bq I' = bq I := by
  unfold bq
  have e0 : I' (15, 0, 0) 1 = I (15, 0, 0) 1 := h _ _ (Or.inl rfl)
  have e1 : (fun c => I' (11, c, 0) 0) = (fun c => I (11, c, 0) 0) := funext fun c => h _ _ (by simp)
  have e2 : (fun c => I' (11, c, 0) 1) = (fun c => I (11, c, 0) 1) := funext fun c => h _ _ (by simp)
  have e3 : (fun c => I' (11, c, 0) 3) = (fun c => I (11, c, 0) 3) := funext fun c => h _ _ (by simp)
  have e4 : (fun c => I' (11, c, 0) 6) = (fun c => I (11, c, 0) 6) := funext fun c => h _ _ (by simp)
  have e5 : (fun c => I' (11, c, 0) 11) = (fun c => I (11, c, 0) 11) := funext fun c => h _ _ (by simp)
  have e6 : (fun c => I' (40, c, 0)) = (fun c => I (40, c, 0)) := funext fun c => funext fun k => h _ _ (by simp)
  have e7 : (fun c => I' (41, c, 0)) = (fun c => I (41, c, 0)) := funext fun c => funext fun k => h _ _ (by simp)
  have e8 : (fun c => I' (42, c, 0)) = (fun c => I (42, c, 0)) := funext fun c => funext fun k => h _ _ (by simp)
  have e9 : (fun c r => I' (43, c, 0) r) = (fun c r => I (43, c, 0) r) := funext fun c => funext fun k => h _ _ (by simp)
  have e10 : (fun c r => I' (44, c, 0) r) = (fun c r => I (44, c, 0) r) := funext fun c => funext fun k => h _ _ (by simp)
  have e11 : (fun c r => I' (45, c, 0) r) = (fun c r => I (45, c, 0) r) := funext fun c => funext fun k => h _ _ (by simp)
  have e12 : (fun c r => I' (46, c, 0) r) = (fun c r => I (46, c, 0) r) := funext fun c => funext fun k => h _ _ (by simp)
  rw [e0, e1, e2, e3, e4, e5, e6, e7, e8, e9, e10, e11, e12]
theorem Sim.bkq {x b n : Nat} {D : Nat → Nat} {J I : jc_I} (h : Sim x b n D J I) : bq I = bk J := by
  unfold bq bk
  have e0 : I (15, 0, 0) 1 = J (1, 0, 0) 1 := (h (1, 0, 0) 1 _ rfl).symm
  have e1 : (fun c => I (11, c, 0) 0) = (fun c => J (6, c, 0) 1) := funext fun c => (h (6, c, 0) 1 _ rfl).symm
  have e2 : (fun c => I (11, c, 0) 1) = (fun c => J (6, c, 0) 2) := funext fun c => (h (6, c, 0) 2 _ rfl).symm
  have e3 : (fun c => I (11, c, 0) 3) = (fun c => J (6, c, 0) 7) := funext fun c => (h (6, c, 0) 7 _ rfl).symm
  have e4 : (fun c => I (11, c, 0) 6) = (fun c => J (6, c, 0) 8) := funext fun c => (h (6, c, 0) 8 _ rfl).symm
  have e5 : (fun c => I (11, c, 0) 11) = (fun c => J (6, c, 0) 9) := funext fun c => (h (6, c, 0) 9 _ rfl).symm
  have e6 : (fun c => I (40, c, 0)) = (fun c => J (20, c, 0)) := funext fun c => funext fun k => (h (20, c, 0) k _ rfl).symm
  have e7 : (fun c => I (41, c, 0)) = (fun c => J (21, c, 0)) := funext fun c => funext fun k => (h (21, c, 0) k _ rfl).symm
  have e8 : (fun c => I (42, c, 0)) = (fun c => J (22, c, 0)) := funext fun c => funext fun k => (h (22, c, 0) k _ rfl).symm
  have e9 : (fun c r => I (43, c, 0) r) = (fun c r => J (5, c, r) 0) := funext fun c => funext fun r => (h (5, c, r) 0 _ rfl).symm
  have e10 : (fun c r => I (44, c, 0) r) = (fun c r => J (5, c, r) 1) := funext fun c => funext fun r => (h (5, c, r) 1 _ rfl).symm
  have e11 : (fun c r => I (45, c, 0) r) = (fun c r => J (5, c, r) 2) := funext fun c => funext fun r => (h (5, c, r) 2 _ rfl).symm
  have e12 : (fun c r => I (46, c, 0) r) = (fun c r => J (5, c, r) 3) := funext fun c => funext fun r => (h (5, c, r) 3 _ rfl).symm
  rw [e0, e1, e2, e3, e4, e5, e6, e7, e8, e9, e10, e11, e12]
theorem qE.bkq {I J : jc_I} (h : qE I J) : bq J = bq I := bq_eq (fun q k hq => h q k (fun g => by rw [g] at hq; simp at hq) (fun g => by rw [g.1] at hq; simp at hq))
def rkK (I : jc_I) (K : List Int32) : Prop := I (10, 0, 0) 8 = Int32.ofNat K.length ∧ K.length ≤ 12 ∧ aK (I (51, 0, 0)) K ∧ ∀ y ∈ K, y ≠ 0
def rkO (r : Int32 × jc_I) (x : Option (List Int32)) : Prop := match x with
  | some K => r.1 = 1 ∧ rkK r.2 K
  | none => r.1 = 0
theorem rk_gv {I : jc_I} {K : List Int32} {k : Int32} (h : rkK I K) (hk : k ≠ 0) : rkO (q_gv I k) (p_push k K) := by
  obtain ⟨h1, h2, h3, h4⟩ := h
  unfold q_gv p_push
  rw [if_neg hk]
  have e12 : Int32.ofNat 12 = 12 := by decide
  by_cases hl : 12 ≤ K.length
  · rw [if_pos (show k = 0 ∨ 12 ≤ K.length from Or.inr hl), if_pos (by rw [h1, show K.length = 12 from by omega, e12])]
    rfl
  · have hne : ¬ I (10, 0, 0) 8 = 12 := by
      intro g
      rw [h1] at g
      have := congrArg Int32.toInt g
      rw [jofI (by omega), show (12 : Int32).toInt = 12 from by decide] at this
      omega
    rw [if_neg (show ¬ (k = 0 ∨ 12 ≤ K.length) from fun g => g.elim hk hl), if_neg hne, h1, jofN (by omega), jof1 (by omega)]
    have hK : rkK (jc_up (jc_up I (51, 0, 0) K.length k) (10, 0, 0) 8 (Int32.ofNat (K.length + 1))) (k :: K) := by
      refine ⟨jc_up_s _ _ _ _, by simp; omega, ⟨?_, ?_⟩, fun y hy => ?_⟩
      rotate_left 2
      · rcases List.mem_cons.mp hy with e | e
        · rw [e]; exact hk
        · exact h4 y e
      · rw [jc_up_t _ _ _ _ _ _ _ _ (by decide), jc_up_s]
      · refine h3.to (fun i hi => ?_)
        rw [jc_up_t _ _ _ _ _ _ _ _ (by decide), jc_up_k _ _ _ _ _ _ (by omega)]
    exact ⟨rfl, hK⟩
theorem rkK.top {I : jc_I} {K : List Int32} {y : Int32} (h : rkK I (y :: K)) : I (51, 0, 0) (I (10, 0, 0) 8 - 1).toNatClampNeg = y := by
  obtain ⟨h1, h2, h3, h4⟩ := h
  have hl : K.length + 1 ≤ 12 := h2
  rw [h1, List.length_cons, jofs (by omega), jofN (by omega)]
  exact h3.1
theorem rkK.d0 {I : jc_I} {K : List Int32} (h : rkK I K) : (I (10, 0, 0) 8 = 0 ↔ K = []) ∧ (0 < I (10, 0, 0) 8 ↔ K ≠ []) := by
  obtain ⟨h1, h2, h3, h4⟩ := h
  have e1 := jofI (n := K.length) (by omega)
  rw [h1]
  constructor
  · constructor
    · intro g
      have := congrArg Int32.toInt g
      rw [e1, j0I] at this
      exact List.length_eq_zero_iff.mp (by omega)
    · intro g; rw [g]; rfl
  · rw [jlt, e1, j0I]
    constructor
    · intro g e; rw [e] at g; simp at g
    · intro g
      have : K.length ≠ 0 := fun e => g (List.length_eq_zero_iff.mp e)
      omega
theorem rk_tk {I : jc_I} {K : List Int32} {k : Int32} (h : rkK I K) (hk : k ≠ 0) : rkO (q_tk I k) (p_take k K) := by
  unfold q_tk
  rw [if_neg hk]
  cases K with
  | nil =>
    rw [if_pos (Or.inl (h.d0.1.mpr rfl))]
    rfl
  | cons y K =>
    have ht := h.top
    show rkO _ (if k ≠ 0 ∧ y = k then some K else none)
    have hz : ¬ I (10, 0, 0) 8 = 0 := fun g => by have := h.d0.1.mp g; cases this
    by_cases e : y = k
    · rw [if_neg (by rintro (g | g); exact hz g; exact g (ht.trans e)), if_pos ⟨hk, e⟩]
      obtain ⟨h1, h2, h3, h4⟩ := h
      have hl : K.length + 1 ≤ 12 := h2
      have hK : rkK (jc_up I (10, 0, 0) 8 (I (10, 0, 0) 8 - 1)) K := by
        refine ⟨by rw [jc_up_s, h1, List.length_cons, jofs (by omega)], by omega, ?_, fun y9 hy => h4 y9 (List.mem_cons_of_mem _ hy)⟩
        refine h3.2.to (fun i hi => ?_)
        rw [jc_up_t _ _ _ _ _ _ _ _ (by decide)]
      exact ⟨rfl, hK⟩
    · rw [if_pos (Or.inr (fun g => e (ht.symm.trans g))), if_neg (fun g => e g.2)]
      rfl
theorem rk_and {r : Int32 × jc_I} {x : Option (List Int32)} {f : jc_I → Int32 × jc_I} {g : List Int32 → Option (List Int32)} (h : rkO r x) (hf : ∀ K, x = some K → rkK r.2 K → rkO (f r.2) (g K)) : rkO (q_and r f) (x.bind g) := by
  unfold q_and
  cases x with
  | none =>
    rw [if_pos (show r.1 = 0 from h)]
    rfl
  | some K =>
    rw [if_neg (by rw [h.1]; decide)]
    exact hf K rfl h.2
theorem rk_1 {r : Int32 × jc_I} {x : Option (List Int32)} (h : rkO r x) : rkO (q_and r q_1) x := by
  unfold q_and
  cases x with
  | none => rw [if_pos (show r.1 = 0 from h)]; rfl
  | some K => rw [if_neg (by rw [h.1]; decide)]; exact ⟨rfl, h.2⟩
theorem q_lk_bq {I : jc_I} {c : Nat} {i : Int32} : q_lk I c i = p_lk (bq I) c i := rfl
theorem q_ta_iff {I : jc_I} {c : Nat} {p : Int32} : ∀ m r, q_ta I c p m r ≠ 0 ↔ ∃ i, r ≤ i ∧ i < r + m ∧ (bq I).at_ c i = p
  | 0, r => ⟨fun h => absurd rfl h, fun ⟨i, a, b, _⟩ => absurd b (by omega)⟩
  | m + 1, r => by
    rw [q_ta]
    by_cases h : I (45, c, 0) r = p
    · rw [if_pos h]
      exact ⟨fun _ => ⟨r, Nat.le_refl _, by omega, h⟩, fun _ => by decide⟩
    · rw [if_neg h, q_ta_iff m (r + 1)]
      constructor
      · rintro ⟨i, a, b, e⟩; exact ⟨i, by omega, by omega, e⟩
      · rintro ⟨i, a, b, e⟩
        by_cases g : i = r
        · subst g; exact absurd e h
        · exact ⟨i, by omega, by omega, e⟩
theorem q_tkr_iff {I : jc_I} {c : Nat} {p : Int32} : q_ta I c p (I (11, c, 0) 11).toNatClampNeg 0 ≠ 0 ↔ p_tkr (bq I) c p := by
  rw [q_ta_iff]
  constructor
  · rintro ⟨i, a, b, e⟩; exact ⟨i, by rw [Nat.zero_add] at b; exact b, e⟩
  · rintro ⟨i, b, e⟩; exact ⟨i, Nat.zero_le _, by rw [Nat.zero_add]; exact b, e⟩
theorem q_lr_iff {I : jc_I} {c : Nat} {p : Int32} : ∀ m r, q_lr I c p m r = 1 ↔ ∃ i, r ≤ i ∧ i < r + m ∧ ((bq I).at_ c i = p ∨ (bq I).fr c i = p ∨ (bq I).to c i = p)
  | 0, r => ⟨fun h => absurd (show (0 : Int32) = 1 from h) (by decide), fun ⟨i, a, b, _⟩ => absurd b (by omega)⟩
  | m + 1, r => by
    rw [q_lr]
    by_cases h : I (45, c, 0) r = p ∨ I (43, c, 0) r = p ∨ I (44, c, 0) r = p
    · rw [if_pos h]
      exact ⟨fun _ => ⟨r, Nat.le_refl _, by omega, h⟩, fun _ => rfl⟩
    · rw [if_neg h, q_lr_iff m (r + 1)]
      constructor
      · rintro ⟨i, a, b, e⟩; exact ⟨i, by omega, by omega, e⟩
      · rintro ⟨i, a, b, e⟩
        by_cases g : i = r
        · subst g; exact absurd e h
        · exact ⟨i, by omega, by omega, e⟩
theorem p_jmp_iff {x : Int32} : 11 ≤ x ∧ x ≤ 13 ↔ p_jmp x := by
  unfold p_jmp
  constructor
  · rintro ⟨h1, h2⟩
    rcases j_11_24 x with h | h | h | h | h | h | h | h | h | h | h | h | h | h | h | h <;> grind
  · rintro (h | h | h) <;> subst h <;> decide
theorem q_li_iff {I : jc_I} {c : Nat} {p : Int32} : ∀ m r, q_li I c p m r ≠ 0 ↔ ∃ i, r ≤ i ∧ i < r + m ∧ p_jmp ((bq I).op c i) ∧ (bq I).an c i = p
  | 0, r => ⟨fun h => absurd rfl h, fun ⟨i, a, b, _⟩ => absurd b (by omega)⟩
  | m + 1, r => by
    rw [q_li]
    by_cases h : 11 ≤ I (41, c, 0) r ∧ I (41, c, 0) r ≤ 13 ∧ I (42, c, 0) r = p
    · rw [if_pos h]
      exact ⟨fun _ => ⟨r, Nat.le_refl _, by omega, p_jmp_iff.mp ⟨h.1, h.2.1⟩, h.2.2⟩, fun _ => by decide⟩
    · rw [if_neg h, q_li_iff m (r + 1)]
      constructor
      · rintro ⟨i, a, b, e⟩; exact ⟨i, by omega, by omega, e⟩
      · rintro ⟨i, a, b, e⟩
        by_cases g : i = r
        · subst g; exact absurd ⟨(p_jmp_iff.mpr e.1).1, (p_jmp_iff.mpr e.1).2, e.2⟩ h
        · exact ⟨i, by omega, by omega, e⟩
theorem q_lb_iff {I : jc_I} {c : Nat} {p : Int32} : q_lb I c p ≠ 0 ↔ p_lbl (bq I) c p := by
  unfold q_lb p_lbl
  by_cases h : q_lr I c p (I (11, c, 0) 11).toNatClampNeg 0 = 1
  · rw [if_pos h]
    refine ⟨fun _ => Or.inl ?_, fun _ => by decide⟩
    obtain ⟨i, a, b, e⟩ := (q_lr_iff _ _).mp h
    exact ⟨i, by rw [Nat.zero_add] at b; exact b, e⟩
  · rw [if_neg h, q_li_iff]
    constructor
    · rintro ⟨i, a, b, e⟩; exact Or.inr ⟨i, by rw [Nat.zero_add] at b; exact b, e⟩
    · rintro (⟨i, b, e⟩ | ⟨i, b, e⟩)
      · exact absurd ((q_lr_iff _ _).mpr ⟨i, Nat.zero_le _, by rw [Nat.zero_add]; exact b, e⟩) h
      · exact ⟨i, Nat.zero_le _, by rw [Nat.zero_add]; exact b, e⟩
