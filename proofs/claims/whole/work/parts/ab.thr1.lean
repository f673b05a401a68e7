section
variable {J : jc_I} {O : jc_O} {t : Nat} {q : jc_L} {k : Nat}
theorem s_mkI_0 : ∀ n, s_mkI J t n q k = 0 ∨ s_mkI J t n q k = J q k
  | 0 => Or.inr rfl
  | n + 1 => by
    rw [s_mkI]
    unfold jc_cl
    by_cases g1 : q = (33, t, n)
    · rw [if_pos g1]; exact Or.inl rfl
    rw [if_neg g1]
    by_cases g2 : q = (32, t, n)
    · rw [if_pos g2]; exact Or.inl rfl
    rw [if_neg g2]
    by_cases g3 : q = (8, t, n)
    · rw [if_pos g3]; exact Or.inl rfl
    rw [if_neg g3]
    exact s_mkI_0 n
theorem s_mkI_e (h : ¬ ((q.1 = 8 ∨ q.1 = 32 ∨ q.1 = 33) ∧ q.2.1 = t)) : ∀ n, s_mkI J t n q k = J q k
  | 0 => rfl
  | n + 1 => by
    rw [s_mkI]
    unfold jc_cl
    rw [if_neg (fun g => h (by rw [g]; simp)), if_neg (fun g => h (by rw [g]; simp)), if_neg (fun g => h (by rw [g]; simp)), s_mkI_e h n]
theorem s_mkO_e (h : ¬ ((q.1 = 8 ∨ q.1 = 32 ∨ q.1 = 33) ∧ q.2.1 = t)) (h2 : q ≠ (34, t, 0)) : ∀ n, s_mkO O t n q k = O q k
  | 0 => rfl
  | n + 1 => by
    rw [s_mkO, jc_up_q _ _ _ _ _ _ h2, jc_up_q _ _ _ _ _ _ (fun g => h (by rw [g]; simp))]
    have cl : ∀ (Z : jc_O) (q9 : jc_L), q ≠ q9 → jc_cl Z q9 none q k = Z q k := fun Z q9 h => if_neg h
    rw [cl _ _ (fun g => h (by rw [g]; simp)), jc_up_q _ _ _ _ _ _ (fun g => h (by rw [g]; simp)), cl _ _ (fun g => h (by rw [g]; simp)), cl _ _ (fun g => h (by rw [g]; simp)), s_mkO_e h h2 n]
theorem s_nI_e (h : ¬ ((q.1 = 8 ∨ q.1 = 32 ∨ q.1 = 33) ∧ q.2.1 = t)) (h9 : q ≠ (9, t, 0)) (h34 : q ≠ (34, t, 0)) : s_nI J t q k = J q k := by
  unfold s_nI
  rw [s_mkI_e h, jc_up_q _ _ _ _ _ _ h9]
  unfold jc_cl
  rw [if_neg h34, if_neg h9]
theorem s_nI_9 : s_nI J t (9, t, 0) 0 = J (4, 0, 0) 4 ∧ ∀ i, i ≠ 0 → s_nI J t (9, t, 0) i = 0 := by
  unfold s_nI
  refine ⟨?_, fun i hi => ?_⟩
  · rw [s_mkI_9 (by decide) (by decide) (by decide), jc_up_s]
  · rw [s_mkI_9 (by decide) (by decide) (by decide), jc_up_k _ _ _ _ _ _ hi]
    unfold jc_cl
    rw [if_neg (by simp), if_pos rfl]
theorem s_nI_0 (h9 : q ≠ (9, t, 0)) (h34 : q ≠ (34, t, 0)) : s_nI J t q k = 0 ∨ s_nI J t q k = J q k := by
  unfold s_nI
  rcases s_mkI_0 (J := jc_up (jc_cl (jc_cl J (9, t, 0) 0) (34, t, 0) 0) (9, t, 0) 0 (J (4, 0, 0) 4)) (t := t) (q := q) (k := k) 30 with e | e
  · exact Or.inl e
  · right
    rw [e, jc_up_q _ _ _ _ _ _ h9]
    unfold jc_cl
    rw [if_neg h34, if_neg h9]
theorem s_nO_e (h : ¬ ((q.1 = 8 ∨ q.1 = 32 ∨ q.1 = 33) ∧ q.2.1 = t)) (h9 : q ≠ (9, t, 0)) (h34 : q ≠ (34, t, 0)) (h35 : ¬ (q = (35, 0, 0) ∧ k = t)) : s_nO O t q k = O q k := by
  unfold s_nO
  have e : ∀ Z : jc_O, jc_up Z (35, 0, 0) t (some (9, t, 0)) q k = Z q k := fun Z => if_neg h35
  rw [e, s_mkO_e h h34, jc_up_q _ _ _ _ _ _ h9]
  unfold jc_cl
  rw [if_neg h34, if_neg h9]
theorem s_nO_St : St (s_nO O t) t := by
  unfold s_nO
  refine ⟨jc_up_s _ _ _ _, ?_, fun j hj => ?_⟩
  · rw [jc_up_t _ _ _ _ _ _ _ _ (by decide), s_mkO_9 (by decide) (by decide) (by decide) (by decide), jc_up_s]
  · obtain ⟨a, b, c⟩ := s_mkO_f (O := jc_up (jc_cl (jc_cl O (9, t, 0) none) (34, t, 0) none) (9, t, 0) 1 (some (34, t, 0))) (t := t) 30 j hj
    refine ⟨?_, ?_, ?_⟩
    · rw [jc_up_t _ _ _ _ _ _ _ _ (by decide)]; exact c
    · rw [jc_up_t _ _ _ _ _ _ _ _ (by decide)]; exact a
    · rw [jc_up_t _ _ _ _ _ _ _ _ (by decide)]; exact b
theorem s_nl_e {live : jc_L → Prop} (h : ¬ ((q.1 = 8 ∨ q.1 = 32 ∨ q.1 = 33) ∧ q.2.1 = t)) (h9 : q ≠ (9, t, 0)) (h34 : q ≠ (34, t, 0)) : s_nl live t q ↔ live q := by
  refine ⟨fun g => ?_, fun g => s_mkl_in 30 (Or.inr (Or.inr g))⟩
  rcases s_mkl_l 30 g with w | w
  · rcases w with w | w | w
    · exact absurd w h34
    · exact absurd w h9
    · exact w
  · exact absurd ⟨w.1, w.2.1⟩ h
end
def fS (a : Nat) : Bool := Nat.blt a 8 || (Nat.ble 20 a && Nat.ble a 31)
theorem fS_s {a : Nat} (h : fS a = true) : isC a = true ∧ a ≠ 8 ∧ a ≠ 9 ∧ a ≠ 32 ∧ a ≠ 33 ∧ a ≠ 34 ∧ a ≠ 35 := by
  simp only [fS, isC, Bool.or_eq_true, Bool.and_eq_true, Nat.ble_eq, Nat.blt_eq] at h ⊢
  omega
/-- a thread's place that is new: the first side -/
theorem GC.newS {J : jc_I} {O : jc_O} {live : jc_L → Prop} {S : Int} {sn cn : Nat} {D : Nat → Nat} (h : GC J O live S sn sn cn D) (hs : sn < 8) : GC (s_nI J sn) (s_nO O sn) (s_nl live sn) S sn (sn + 1) cn D := by
  have e1 : ∀ q k, ¬ ((q.1 = 8 ∨ q.1 = 32 ∨ q.1 = 33) ∧ q.2.1 = sn) → q ≠ (9, sn, 0) → q ≠ (34, sn, 0) → s_nI J sn q k = J q k := fun q k g1 g2 g3 => s_nI_e g1 g2 g3
  have o1 : ∀ q k, ¬ ((q.1 = 8 ∨ q.1 = 32 ∨ q.1 = 33) ∧ q.2.1 = sn) → q ≠ (9, sn, 0) → q ≠ (34, sn, 0) → ¬ (q = (35, 0, 0) ∧ k = sn) → s_nO O sn q k = O q k := fun q k g1 g2 g3 g4 => s_nO_e g1 g2 g3 g4
  have l1 : ∀ q, ¬ ((q.1 = 8 ∨ q.1 = 32 ∨ q.1 = 33) ∧ q.2.1 = sn) → q ≠ (9, sn, 0) → q ≠ (34, sn, 0) → (s_nl live sn q ↔ live q) := fun q g1 g2 g3 => s_nl_e g1 g2 g3
  have hst := s_nO_St (O := O) (t := sn)
  have h9 := (s_nI_9 (J := J) (t := sn)).1
  generalize s_nI J sn = J' at *
  generalize s_nO O sn = O' at *
  generalize s_nl live sn = live' at *
  have eI := ctI_e (f := fS) (J := J) (J' := J') (fun q k hq => by obtain ⟨a, b⟩ := fS_s hq; exact e1 q k (by omega) (fun g => by rw [g] at b; simp at b) (fun g => by rw [g] at b; simp at b))
  have eO := ctO_e (f := fS) (J := O) (J' := O') (fun q k hq => by obtain ⟨a, b⟩ := fS_s hq; exact o1 q k (by omega) (fun g => by rw [g] at b; simp at b) (fun g => by rw [g] at b; simp at b) (fun g => by rw [g.1] at b; simp at b))
  have eL := ctL_e (f := fS) (l := live) (l' := live') (fun q hq => by obtain ⟨a, b⟩ := fS_s hq; exact l1 q (by omega) (fun g => by rw [g] at b; simp at b) (fun g => by rw [g] at b; simp at b))
  have hb : bk J' = bk J := by
    have w : bk (ctI fS J') = bk (ctI fS J) := by rw [eI]
    exact w
  have hv : jV J' = jV J := by
    have w : jV (ctI fS J') = jV (ctI fS J) := by rw [eI]
    exact w
  have eu : ∀ a u v k, u ≠ sn → J' (a, u, v) k = J (a, u, v) k := fun a u v k hu => e1 _ _ (fun g => hu g.2) (fun g => hu (congrArg (fun w : jc_L => w.2.1) g)) (fun g => hu (congrArg (fun w : jc_L => w.2.1) g))
  have ou : ∀ a u v k, u ≠ sn → a ≠ 35 → O' (a, u, v) k = O (a, u, v) k := fun a u v k hu ha => o1 _ _ (fun g => hu g.2) (fun g => hu (congrArg (fun w : jc_L => w.2.1) g)) (fun g => hu (congrArg (fun w : jc_L => w.2.1) g)) (fun g => ha (congrArg Prod.fst g.1))
  have lu : ∀ a u v, u ≠ sn → (live' (a, u, v) ↔ live (a, u, v)) := fun a u v hu => l1 _ (fun g => hu g.2) (fun g => hu (congrArg (fun w : jc_L => w.2.1) g)) (fun g => hu (congrArg (fun w : jc_L => w.2.1) g))
  refine ⟨?_, ?_, ?_, ?_, ?_, by rw [hb]; exact h.C, ?_, h.s0, ?_, by rw [hb]; exact h.rs, ?_, ?_, (e1 _ _ (by simp) (by simp) (by simp)).trans h.cs, h.c4, ?_, ?_, ?_, (e1 _ _ (by simp) (by simp) (by simp)).trans h.tc1, Nat.le_succ sn, hs, fun t ht => ?_, fun t ht => ?_, fun t ht => ?_⟩
  · have w : jw_J (ctO fS O) := h.jJ
    rw [← eO] at w; exact w
  · have w : jw_M (ctO fS O) := h.M
    rw [← eO] at w; exact w
  · have w : jw_G (ctO fS O) := h.G
    rw [← eO] at w; exact w
  · have w : jw_H (ctI fS J) (ctO fS O) := h.H
    rw [← eO, ← eI] at w; exact w
  · have w : jw_A (ctI fS J) (ctO fS O) := h.A
    rw [← eO, ← eI] at w; exact w
  · have w : HO (ctI fS J) S := h.ho
    rw [← eI] at w; exact w
  · have w : ThOK (ctO fS O) (ctL fS live) := h.th
    rw [← eO, ← eL] at w; exact w
  · have w : ∀ c i : Nat, c < cn → i < ((ctI fS J) (6, c, 0) 7).toNatClampNeg → (ctI fS J) (20, c, 0) i = 1 ∨ (ctI fS J) (20, c, 0) i = 2 := h.lk
    rw [← eI] at w; exact w
  · have w : ∀ c r : Nat, c < cn → r < ((ctI fS J) (6, c, 0) 9).toNatClampNeg → 0 ≤ (ctI fS J) (5, c, r) 2 := h.ra
    rw [← eI] at w; exact w
  · have w : ∀ c, cn ≤ c → ¬ (ctL fS live) (6, c, 0) ∧ ¬ (ctL fS live) (20, c, 0) ∧ ¬ (ctL fS live) (21, c, 0) ∧ ¬ (ctL fS live) (22, c, 0) ∧ ¬ (ctL fS live) (23, c, 0) := h.cf
    rw [← eL] at w; exact w
  · have w : ∀ c r k, cn ≤ c → (ctI fS J) (5, c, r) k = 0 ∧ ¬ (ctL fS live) (5, c, r) := h.rz
    rw [← eI, ← eL] at w; exact w
  · have w : ∀ c r, c < cn → ((ctI fS J) (6, c, 0) 9).toNatClampNeg ≤ r → ¬ (ctL fS live) (5, c, r) := h.rf
    rw [← eI, ← eL] at w; exact w
  · by_cases g : t = sn
    · subst g
      exact ⟨hst, h9.trans h.tc1⟩
    · obtain ⟨⟨a1, a2, a3⟩, a4⟩ := h.st t (by omega)
      refine ⟨⟨(o1 _ _ (by simp) (by simp) (by simp) (by simp [g])).trans a1, (ou _ _ _ _ g (by decide)).trans a2, fun j hj => ⟨(ou _ _ _ _ g (by decide)).trans (a3 j hj).1, ?_⟩⟩, (eu _ _ _ _ g).trans a4⟩
      have := (a3 j hj).2
      unfold jw_f at *
      rw [ou _ _ _ _ g (by decide), ou _ _ _ _ g (by decide)]
      exact this
  · have g : t ≠ sn := by omega
    obtain ⟨a1, a2, a3, a4⟩ := h.sf t (by omega)
    exact ⟨(o1 _ _ (by simp) (by simp) (by simp) (by simp [g])).trans a1, fun w => a2 ((lu _ _ _ g).mp w), fun w => a3 ((lu _ _ _ g).mp w), fun j => ⟨fun w => (a4 j).1 ((lu _ _ _ g).mp w), fun w => (a4 j).2.1 ((lu _ _ _ g).mp w), fun w => (a4 j).2.2 ((lu _ _ _ g).mp w)⟩⟩
  · have g : t ≠ sn := by omega
    obtain ⟨a1, a2, a3⟩ := h.ths t ht
    rw [eu _ _ _ _ g, eu _ _ _ _ g]
    refine ⟨a1.to hb (fun x hx => by rw [hv]; exact hx) (eu _ _ _ _ g) (fun q k hq hqt => ?_) (fun j => ou _ _ _ _ g (by decide)), a2, a3⟩
    obtain ⟨a, u, v⟩ := q
    dsimp only at hqt
    exact eu _ _ _ _ (by omega)
/-- one thread more -/
theorem GC.inc {J : jc_I} {O : jc_O} {live : jc_L → Prop} {S : Int} {tc sn cn : Nat} {D : Nat → Nat} (h : GC J O live S tc sn cn D) (ht : tc < sn) (hn : TH J O tc (D tc) ∧ ((J (9, tc, 0) 4 = 0 ∧ 0 < D tc) ∨ ((J (9, tc, 0) 4 = 1 ∨ J (9, tc, 0) 4 = 2) ∧ D tc = 0)) ∧ (J (9, tc, 0) 6 = 0 ∨ J (9, tc, 0) 6 = 1)) : GC (jc_up J (4, 0, 0) 4 (Int32.ofNat (tc + 1))) (jc_up O (1, 0, 0) 2 none) live S (tc + 1) sn cn D := by
  have v44 : jc_up J (4, 0, 0) 4 (Int32.ofNat (tc + 1)) (4, 0, 0) 4 = Int32.ofNat (tc + 1) := jc_up_s _ _ _ _
  have e1 : ∀ q k, q ≠ (4, 0, 0) → jc_up J (4, 0, 0) 4 (Int32.ofNat (tc + 1)) q k = J q k := fun q k g => jc_up_q _ _ _ _ _ _ g
  have o1 : ∀ q k, ¬ (q = (1, 0, 0) ∧ k = 2) → jc_up O (1, 0, 0) 2 none q k = O q k := fun q k g => if_neg g
  generalize jc_up J (4, 0, 0) 4 (Int32.ofNat (tc + 1)) = J' at *
  generalize jc_up O (1, 0, 0) 2 none = O' at *
  have eI := ctI_e (f := fun a => isC a && !(Nat.beq a 4)) (J := J) (J' := J') (fun q k hq => e1 q k (fun g => by rw [g] at hq; exact absurd hq (by decide)))
  have eO := ctO_e (f := fun a => isC a && !(Nat.beq a 1)) (J := O) (J' := O') (fun q k hq => o1 q k (fun g => by rw [g.1] at hq; exact absurd hq (by decide)))
  refine ⟨?_, ?_, ?_, ?_, ⟨(o1 _ _ (by simp)).trans h.A.1, ?_, ?_, ?_⟩, ?_, ?_, h.s0, ?_, ?_, ?_, ?_, (e1 _ _ (by simp)).trans h.cs, h.c4, h.cf, ?_, ?_, v44, ht, h.sn8, ?_, ?_, ?_⟩
  · have w : jw_J (ctO (fun a => isC a && !(Nat.beq a 1)) O) := h.jJ
    rw [← eO] at w; exact w
  · have w : jw_M (ctO (fun a => isC a && !(Nat.beq a 1)) O) := h.M
    rw [← eO] at w; exact w
  · have w : jw_G (ctO (fun a => isC a && !(Nat.beq a 1)) O) := h.G
    rw [← eO] at w; exact w
  · have w : jw_H (ctI (fun a => isC a && !(Nat.beq a 4)) J) (ctO (fun a => isC a && !(Nat.beq a 1)) O) := h.H
    rw [← eO, ← eI] at w; exact w
  · rw [e1 _ _ (by simp)]; exact h.A.2.1
  · rw [e1 _ _ (by simp)]; exact h.A.2.2.1
  · have w : ∀ k : Nat, (k : Int) < ((ctI (fun a => isC a && !(Nat.beq a 4)) J) (1, 0, 0) 1).toInt → (ctO (fun a => isC a && !(Nat.beq a 1)) O) (24, 0, 0) k = some (6, k, 0) ∧ jw_C (ctO (fun a => isC a && !(Nat.beq a 1)) O) k ∧ jw_n (ctI (fun a => isC a && !(Nat.beq a 4)) J) k ∧ jw_r (ctI (fun a => isC a && !(Nat.beq a 4)) J) (ctO (fun a => isC a && !(Nat.beq a 1)) O) k ∧ (ctI (fun a => isC a && !(Nat.beq a 4)) J) (6, k, 0) 0 = Int32.ofNat k ∧ 0 ≤ (ctI (fun a => isC a && !(Nat.beq a 4)) J) (6, k, 0) 1 ∧ (ctI (fun a => isC a && !(Nat.beq a 4)) J) (6, k, 0) 1 ≤ 8 := h.A.2.2.2
    rw [← eO, ← eI] at w; exact w
  · have w : CO (bk (ctI (fun a => isC a && !(Nat.beq a 4)) J)) := h.C
    rw [← eI] at w; exact w
  · have w : HO (ctI (fun a => isC a && !(Nat.beq a 4)) J) S := h.ho
    rw [← eI] at w; exact w
  · have w : ThOK (ctO (fun a => isC a && !(Nat.beq a 1)) O) live := h.th
    rw [← eO] at w; exact w
  · have w : ∀ c : Nat, (c : Int) < (bk (ctI (fun a => isC a && !(Nat.beq a 4)) J)).cn.toInt → 0 ≤ (bk (ctI (fun a => isC a && !(Nat.beq a 4)) J)).res c := h.rs
    rw [← eI] at w; exact w
  · have w : ∀ c i : Nat, c < cn → i < ((ctI (fun a => isC a && !(Nat.beq a 4)) J) (6, c, 0) 7).toNatClampNeg → (ctI (fun a => isC a && !(Nat.beq a 4)) J) (20, c, 0) i = 1 ∨ (ctI (fun a => isC a && !(Nat.beq a 4)) J) (20, c, 0) i = 2 := h.lk
    rw [← eI] at w; exact w
  · have w : ∀ c r : Nat, c < cn → r < ((ctI (fun a => isC a && !(Nat.beq a 4)) J) (6, c, 0) 9).toNatClampNeg → 0 ≤ (ctI (fun a => isC a && !(Nat.beq a 4)) J) (5, c, r) 2 := h.ra
    rw [← eI] at w; exact w
  · have w : ∀ c r k, cn ≤ c → (ctI (fun a => isC a && !(Nat.beq a 4)) J) (5, c, r) k = 0 ∧ ¬ live (5, c, r) := h.rz
    rw [← eI] at w; exact w
  · have w : ∀ c r, c < cn → ((ctI (fun a => isC a && !(Nat.beq a 4)) J) (6, c, 0) 9).toNatClampNeg ≤ r → ¬ live (5, c, r) := h.rf
    rw [← eI] at w; exact w
  · have w : ∀ t, t < sn → St (ctO (fun a => isC a && !(Nat.beq a 1)) O) t ∧ (ctI (fun a => isC a && !(Nat.beq a 4)) J) (9, t, 0) 0 = Int32.ofNat t := h.st
    rw [← eO, ← eI] at w; exact w
  · have w : ∀ t, sn ≤ t → (ctO (fun a => isC a && !(Nat.beq a 1)) O) (35, 0, 0) t = none ∧ ¬ live (9, t, 0) ∧ ¬ live (34, t, 0) ∧ ∀ j, ¬ live (8, t, j) ∧ ¬ live (32, t, j) ∧ ¬ live (33, t, j) := h.sf
    rw [← eO] at w; exact w
  · have w : ∀ t, t < tc + 1 → TH (ctI (fun a => isC a && !(Nat.beq a 4)) J) (ctO (fun a => isC a && !(Nat.beq a 1)) O) t (D t) ∧ (((ctI (fun a => isC a && !(Nat.beq a 4)) J) (9, t, 0) 4 = 0 ∧ 0 < D t) ∨ (((ctI (fun a => isC a && !(Nat.beq a 4)) J) (9, t, 0) 4 = 1 ∨ (ctI (fun a => isC a && !(Nat.beq a 4)) J) (9, t, 0) 4 = 2) ∧ D t = 0)) ∧ ((ctI (fun a => isC a && !(Nat.beq a 4)) J) (9, t, 0) 6 = 0 ∨ (ctI (fun a => isC a && !(Nat.beq a 4)) J) (9, t, 0) 6 = 1) := fun t ht9 => by
      by_cases g : t = tc
      · subst g; exact hn
      · exact h.ths t (by omega)
    rw [← eO, ← eI] at w; exact w
section
variable {J : jc_I} {t : Nat}
theorem s_bg_e {q : jc_L} {k : Nat} (h9 : ¬ (q = (9, t, 0) ∧ 2 ≤ k ∧ k ≤ 6)) (h8 : ¬ (q = (8, t, 0) ∧ (k = 3 ∨ k = 4))) (h33 : ¬ (q = (33, t, 0) ∧ k < 8)) : s_bg J t q k = J q k := by
  unfold s_bg f_bg
  have u9 : ∀ (Z : jc_I) (i : Nat) (v : Int32), 2 ≤ i ∧ i ≤ 6 → jc_up Z (9, t, 0) i v q k = Z q k := fun Z i v hi => if_neg (fun g => h9 ⟨g.1, by omega⟩)
  have u8 : ∀ (Z : jc_I) (i : Nat) (v : Int32), i = 3 ∨ i = 4 → jc_up Z (8, t, 0) i v q k = Z q k := fun Z i v hi => if_neg (fun g => h8 ⟨g.1, by omega⟩)
  have zr : ∀ Z : jc_I, jc_zr Z (33, t, 0) 8 0 q k = Z q k := fun Z => if_neg h33
  rw [u9 _ 2 _ (by decide), zr, u8 _ 4 _ (by decide), u8 _ 3 _ (by decide), u9 _ 6 _ (by decide), u9 _ 5 _ (by decide), u9 _ 4 _ (by decide), u9 _ 3 _ (by decide), u9 _ 2 _ (by decide)]
theorem s_bg_v : s_bg J t (9, t, 0) 2 = 1 ∧ s_bg J t (9, t, 0) 3 = 0 ∧ s_bg J t (9, t, 0) 4 = 0 ∧ s_bg J t (9, t, 0) 5 = 0 ∧ s_bg J t (9, t, 0) 6 = 0 ∧ s_bg J t (8, t, 0) 3 = 0 ∧ s_bg J t (8, t, 0) 4 = 0 ∧ ∀ k, s_bg J t (33, t, 0) k = if k < 8 then 0 else J (33, t, 0) k := by
  unfold s_bg f_bg jc_zr
  refine ⟨jc_up_s _ _ _ _, ?_, ?_, ?_, ?_, ?_, ?_, fun k => ?_⟩
  · rw [jc_up_k _ _ _ _ _ _ (by decide), if_neg (by simp), jc_up_t _ _ _ _ _ _ _ _ (by decide), jc_up_t _ _ _ _ _ _ _ _ (by decide), jc_up_k _ _ _ _ _ _ (by decide), jc_up_k _ _ _ _ _ _ (by decide), jc_up_k _ _ _ _ _ _ (by decide), jc_up_s]
  · rw [jc_up_k _ _ _ _ _ _ (by decide), if_neg (by simp), jc_up_t _ _ _ _ _ _ _ _ (by decide), jc_up_t _ _ _ _ _ _ _ _ (by decide), jc_up_k _ _ _ _ _ _ (by decide), jc_up_k _ _ _ _ _ _ (by decide), jc_up_s]
  · rw [jc_up_k _ _ _ _ _ _ (by decide), if_neg (by simp), jc_up_t _ _ _ _ _ _ _ _ (by decide), jc_up_t _ _ _ _ _ _ _ _ (by decide), jc_up_k _ _ _ _ _ _ (by decide), jc_up_s]
  · rw [jc_up_k _ _ _ _ _ _ (by decide), if_neg (by simp), jc_up_t _ _ _ _ _ _ _ _ (by decide), jc_up_t _ _ _ _ _ _ _ _ (by decide), jc_up_s]
  · rw [jc_up_t _ _ _ _ _ _ _ _ (by decide), if_neg (by simp), jc_up_k _ _ _ _ _ _ (by decide), jc_up_s]
  · rw [jc_up_t _ _ _ _ _ _ _ _ (by decide), if_neg (by simp), jc_up_s]
  · rw [jc_up_t _ _ _ _ _ _ _ _ (by decide)]
    by_cases hk : k < 8
    · rw [if_pos ⟨rfl, hk⟩, if_pos hk]
    · rw [if_neg (fun g => hk g.2), if_neg hk, jc_up_t _ _ _ _ _ _ _ _ (by decide), jc_up_t _ _ _ _ _ _ _ _ (by decide), jc_up_t _ _ _ _ _ _ _ _ (by decide), jc_up_t _ _ _ _ _ _ _ _ (by decide), jc_up_t _ _ _ _ _ _ _ _ (by decide), jc_up_t _ _ _ _ _ _ _ _ (by decide), jc_up_t _ _ _ _ _ _ _ _ (by decide)]
end
theorem GC.begin {J : jc_I} {O : jc_O} {live : jc_L → Prop} {S : Int} {tc sn cn c : Nat} {D : Nat → Nat} (h : GC J O live S tc sn cn D) (ht : tc < sn) (hc : c < cn) (hal : p_all (bk J) c) : GC (j_bg J tc) (jc_up (jc_up O (8, tc, 0) 2 (some (6, c, 0))) (1, 0, 0) 2 none) live S (tc + 1) sn cn (dU D tc 1) := by
  have hs8 := h.sn8
  obtain ⟨b2, b3, b4, b5, b6, b83, b84, b33⟩ := s_bg_v (J := J) (t := tc)
  have be : ∀ q k, q ≠ (9, tc, 0) → q ≠ (8, tc, 0) → q ≠ (33, tc, 0) → s_bg J tc q k = J q k := fun q k g1 g2 g3 => s_bg_e (fun g => g1 g.1) (fun g => g2 g.1) (fun g => g3 g.1)
  have b0 : s_bg J tc (9, tc, 0) 0 = J (9, tc, 0) 0 := s_bg_e (by simp) (by simp) (by simp)
  have e44 : j_bg J tc = jc_up (s_bg J tc) (4, 0, 0) 4 (Int32.ofNat (tc + 1)) := by
    unfold j_bg
    rw [be _ _ (by simp) (by simp) (by simp), h.tc1, jof1 (by omega)]
  rw [e44]
  have cf : CF tc J O live (s_bg J tc) (jc_up O (8, tc, 0) 2 (some (6, c, 0))) live := by
    refine ⟨fun q k g1 g2 g3 g4 g5 => be q k (fun g => g1 (by rw [g]; simp) (by rw [g])) (fun g => g1 (by rw [g]; simp) (by rw [g])) (fun g => g1 (by rw [g]; simp) (by rw [g])), fun x hx => ?_, fun q k g1 g2 g3 g4 => if_neg (fun w => g1 (by rw [w.1, w.2]; exact ⟨rfl, rfl, rfl⟩)), fun _ g => g, fun _ g => Or.inl g⟩
    unfold jV at *
    rw [be _ _ (by simp) (by simp) (by simp)]
    exact hx
  have hb : bk (s_bg J tc) = bk J := cf.o.bk
  have hv : jV (s_bg J tc) = jV J := by funext y; unfold jV; rw [be _ _ (by simp) (by simp) (by simp)]
  have hin := h.in' hc
  have hcd : cd (jc_up O (8, tc, 0) 2 (some (6, c, 0))) tc 0 = c := by unfold cd; rw [jc_up_s]; rfl
  have hTH : TH (s_bg J tc) (jc_up O (8, tc, 0) 2 (some (6, c, 0))) tc 1 := by
    refine ⟨b2, by decide, fun j hj => ?_, fun j hj => ?_, fun j hj => by omega⟩
    · have : j = 0 := by omega
      subst this
      rw [hcd, jc_up_s]
    · have : j = 0 := by omega
      subst this
      rw [hcd]
      obtain ⟨z1, z2⟩ := (hal c .self).zero
      refine ⟨0, [], b84, by rw [hb]; exact z2, by rw [hb]; exact z1, by rw [hb]; exact hal, by rw [hb]; exact hin, b83, by decide, trivial, fun k hk _ => ?_⟩
      have h8 : k < 8 := by
        have := (h.C.lc c hin).2
        rw [hb] at hk
        rw [jle, show (8 : Int32).toInt = 8 from by decide] at this
        omega
      rw [b33 k, if_pos h8, hv]
      exact jV.z h.ho.c0
  have cy : CY (s_bg J tc) (jc_up O (8, tc, 0) 2 (some (6, c, 0))) live S tc 1 := by
    refine ⟨h.M.to9 cf.oo, ?_, (cf.o.jk.A (by decide) (by decide) h.A).toO (fun q k hq => cf.oo q k (by omega) (by omega) (by omega) (by omega)), by rw [hb]; exact h.C, h.ho.to (fun q k hq => be q k (fun g => by rw [g] at hq; simp at hq) (fun g => by rw [g] at hq; simp at hq) (fun g => by rw [g] at hq; simp at hq)), h.s0, ?_, (h.st tc ht).1.to cf.oo, b0.trans (h.st tc ht).2, by omega, hTH, Or.inl ⟨b4, by decide⟩, Or.inl b6⟩
    · have g := h.H.to (be (3, 0, 0) 2 (by simp) (by simp) (by simp))
      unfold jw_H at g ⊢
      refine ⟨?_, ?_, g.2.2.1, g.2.2.2.1, fun k hk => ?_⟩
      · rw [jc_up_t _ _ _ _ _ _ _ _ (by decide)]; exact g.1
      · rw [jc_up_t _ _ _ _ _ _ _ _ (by decide)]; exact g.2.1
      · rw [jc_up_t _ _ _ _ _ _ _ _ (by decide), jc_up_t _ _ _ _ _ _ _ _ (by decide)]; exact g.2.2.2.2 k hk
    · have g := h.th
      unfold ThOK at g ⊢
      refine ⟨?_, fun k hk => ?_⟩
      · rw [jc_up_t _ _ _ _ _ _ _ _ (by decide)]; exact g.1
      · rw [jc_up_t _ _ _ _ _ _ _ _ (by decide), jc_up_t _ _ _ _ _ _ _ _ (by decide)]; exact g.2 k hk
  exact (h.run cf cy).inc ht ⟨by rw [dU_s]; exact cy.TH, by rw [dU_s]; exact cy.go, cy.b6⟩
