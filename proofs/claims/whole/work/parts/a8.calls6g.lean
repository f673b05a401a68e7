/-- a code that is new: the first side's cells -/
def cdI (X : jc_I) (c : Nat) (V p r : Int32) : jc_I := jc_up (jc_up (jc_up (jc_up (jc_cl (jc_cl (jc_cl (jc_cl (jc_cl X (6, c, 0) 0) (20, c, 0) 0) (21, c, 0) 0) (22, c, 0) 0) (23, c, 0) 0) (6, c, 0) 0 V) (6, c, 0) 1 p) (6, c, 0) 2 r) (1, 0, 0) 1 (V + 1)
def cdO (Y : jc_O) (c : Nat) : jc_O := jc_up (jc_up (jc_up (jc_cl (jc_up (jc_cl (jc_up (jc_cl (jc_up (jc_cl (jc_cl Y (6, c, 0) none) (20, c, 0) none) (6, c, 0) 3 (some (20, c, 0))) (21, c, 0) none) (6, c, 0) 4 (some (21, c, 0))) (22, c, 0) none) (6, c, 0) 5 (some (22, c, 0))) (23, c, 0) none) (6, c, 0) 6 (some (23, c, 0))) (1, 0, 0) 2 (some (6, c, 0))) (24, 0, 0) c (some (6, c, 0))
def cdL (L : jc_L → Prop) (c : Nat) : jc_L → Prop := jadd (23, c, 0) (jadd (22, c, 0) (jadd (21, c, 0) (jadd (20, c, 0) (jadd (6, c, 0) L))))
section
variable {X : jc_I} {Y : jc_O} {L : jc_L → Prop} {c : Nat} {V p r : Int32} {q : jc_L} {k : Nat}
theorem cdI_e (h1 : ¬ (q.2.1 = c ∧ (q.1 = 6 ∨ (20 ≤ q.1 ∧ q.1 ≤ 23)))) (h2 : ¬ (q = (1, 0, 0) ∧ k = 1)) : cdI X c V p r q k = X q k := by
  unfold cdI
  have e : ∀ Z : jc_I, jc_up Z (1, 0, 0) 1 (V + 1) q k = Z q k := fun Z => if_neg h2
  have g6 : q ≠ (6, c, 0) := fun g => h1 (by rw [g]; simp)
  rw [e, jc_up_q _ _ _ _ _ _ g6, jc_up_q _ _ _ _ _ _ g6, jc_up_q _ _ _ _ _ _ g6]
  unfold jc_cl
  rw [if_neg (fun g => h1 (by rw [g]; simp)), if_neg (fun g => h1 (by rw [g]; simp)), if_neg (fun g => h1 (by rw [g]; simp)), if_neg (fun g => h1 (by rw [g]; simp)), if_neg g6]
theorem cdI_2 (h : 20 ≤ k ∧ k ≤ 22) (i : Nat) : cdI X c V p r (k, c, 0) i = 0 := by
  unfold cdI
  rcases (show k = 20 ∨ k = 21 ∨ k = 22 by omega) with e | e | e <;> subst e
  · rw [jc_up_t _ _ _ _ _ _ _ _ (by decide), jc_up_t _ _ _ _ _ _ _ _ (by decide), jc_up_t _ _ _ _ _ _ _ _ (by decide), jc_up_t _ _ _ _ _ _ _ _ (by decide)]
    unfold jc_cl
    rw [if_neg (by simp), if_neg (by simp), if_neg (by simp), if_pos rfl]
  · rw [jc_up_t _ _ _ _ _ _ _ _ (by decide), jc_up_t _ _ _ _ _ _ _ _ (by decide), jc_up_t _ _ _ _ _ _ _ _ (by decide), jc_up_t _ _ _ _ _ _ _ _ (by decide)]
    unfold jc_cl
    rw [if_neg (by simp), if_neg (by simp), if_pos rfl]
  · rw [jc_up_t _ _ _ _ _ _ _ _ (by decide), jc_up_t _ _ _ _ _ _ _ _ (by decide), jc_up_t _ _ _ _ _ _ _ _ (by decide), jc_up_t _ _ _ _ _ _ _ _ (by decide)]
    unfold jc_cl
    rw [if_neg (by simp), if_pos rfl]
theorem cdI_6 : cdI X c V p r (6, c, 0) 0 = V ∧ cdI X c V p r (6, c, 0) 1 = p ∧ cdI X c V p r (6, c, 0) 2 = r ∧ ∀ i, 3 ≤ i → cdI X c V p r (6, c, 0) i = 0 := by
  unfold cdI
  refine ⟨?_, ?_, ?_, fun i hi => ?_⟩
  · rw [jc_up_t _ _ _ _ _ _ _ _ (by decide), jc_up_k _ _ _ _ _ _ (by decide), jc_up_k _ _ _ _ _ _ (by decide), jc_up_s]
  · rw [jc_up_t _ _ _ _ _ _ _ _ (by decide), jc_up_k _ _ _ _ _ _ (by decide), jc_up_s]
  · rw [jc_up_t _ _ _ _ _ _ _ _ (by decide), jc_up_s]
  · rw [jc_up_t _ _ _ _ _ _ _ _ (by decide), jc_up_k _ _ _ _ _ _ (by omega), jc_up_k _ _ _ _ _ _ (by omega), jc_up_k _ _ _ _ _ _ (by omega)]
    unfold jc_cl
    rw [if_neg (by simp), if_neg (by simp), if_neg (by simp), if_neg (by simp), if_pos rfl]
theorem cdO_e (h1 : ¬ (q.2.1 = c ∧ (q.1 = 6 ∨ (20 ≤ q.1 ∧ q.1 ≤ 23)))) (h2 : ¬ (q = (1, 0, 0) ∧ k = 2)) (h3 : ¬ (q = (24, 0, 0) ∧ k = c)) : cdO Y c q k = Y q k := by
  unfold cdO
  have e : ∀ Z : jc_O, jc_up Z (1, 0, 0) 2 (some (6, c, 0)) q k = Z q k := fun Z => if_neg h2
  have e3 : ∀ Z : jc_O, jc_up Z (24, 0, 0) c (some (6, c, 0)) q k = Z q k := fun Z => if_neg h3
  have g6 : q ≠ (6, c, 0) := fun g => h1 (by rw [g]; simp)
  have g20 : q ≠ (20, c, 0) := fun g => h1 (by rw [g]; simp)
  have g21 : q ≠ (21, c, 0) := fun g => h1 (by rw [g]; simp)
  have g22 : q ≠ (22, c, 0) := fun g => h1 (by rw [g]; simp)
  have g23 : q ≠ (23, c, 0) := fun g => h1 (by rw [g]; simp)
  have cl : ∀ (Z : jc_O) (q9 : jc_L), q ≠ q9 → jc_cl Z q9 none q k = Z q k := fun Z q9 h => if_neg h
  rw [e3, e, jc_up_q _ _ _ _ _ _ g6, cl _ _ g23, jc_up_q _ _ _ _ _ _ g6, cl _ _ g22, jc_up_q _ _ _ _ _ _ g6, cl _ _ g21, jc_up_q _ _ _ _ _ _ g6, cl _ _ g20, cl _ _ g6]
theorem cdO_6 : jw_C (cdO Y c) c ∧ cdO Y c (1, 0, 0) 2 = some (6, c, 0) ∧ cdO Y c (24, 0, 0) c = some (6, c, 0) := by
  unfold jw_C cdO
  refine ⟨⟨?_, ?_, ?_, ?_⟩, ?_, jc_up_s _ _ _ _⟩
  · rw [jc_up_t _ _ _ _ _ _ _ _ (by decide), jc_up_t _ _ _ _ _ _ _ _ (by decide), jc_up_k _ _ _ _ _ _ (by decide), jc_cl_t _ _ _ _ _ _ _ (by decide), jc_up_k _ _ _ _ _ _ (by decide), jc_cl_t _ _ _ _ _ _ _ (by decide), jc_up_k _ _ _ _ _ _ (by decide), jc_cl_t _ _ _ _ _ _ _ (by decide), jc_up_s]
  · rw [jc_up_t _ _ _ _ _ _ _ _ (by decide), jc_up_t _ _ _ _ _ _ _ _ (by decide), jc_up_k _ _ _ _ _ _ (by decide), jc_cl_t _ _ _ _ _ _ _ (by decide), jc_up_k _ _ _ _ _ _ (by decide), jc_cl_t _ _ _ _ _ _ _ (by decide), jc_up_s]
  · rw [jc_up_t _ _ _ _ _ _ _ _ (by decide), jc_up_t _ _ _ _ _ _ _ _ (by decide), jc_up_k _ _ _ _ _ _ (by decide), jc_cl_t _ _ _ _ _ _ _ (by decide), jc_up_s]
  · rw [jc_up_t _ _ _ _ _ _ _ _ (by decide), jc_up_t _ _ _ _ _ _ _ _ (by decide), jc_up_s]
  · rw [jc_up_t _ _ _ _ _ _ _ _ (by decide), jc_up_s]
theorem cdL_e (h1 : ¬ (q.2.1 = c ∧ (q.1 = 6 ∨ (20 ≤ q.1 ∧ q.1 ≤ 23)))) : cdL L c q ↔ L q := by
  refine ⟨fun g => ?_, fun g => Or.inr (Or.inr (Or.inr (Or.inr (Or.inr g))))⟩
  rcases g with g | g | g | g | g | g
  · exact absurd (by rw [g]; simp) h1
  · exact absurd (by rw [g]; simp) h1
  · exact absurd (by rw [g]; simp) h1
  · exact absurd (by rw [g]; simp) h1
  · exact absurd (by rw [g]; simp) h1
  · exact g
end
theorem GC.new {X : jc_I} {Y : jc_O} {L : jc_L → Prop} {S : Int} {sn cn : Nat} {D : Nat → Nat} {p r : Int32} (h : GC X Y L S 0 sn cn D) (hcn : cn < 40) (hp : 0 ≤ p ∧ p ≤ 8) (hr : 0 ≤ r ∧ r ≤ 2) : GC (cdI X cn (X (1, 0, 0) 1) p r) (cdO Y cn) (cdL L cn) S 0 sn (cn + 1) D := by
  have e4 : ∀ q k, ¬ (q.2.1 = cn ∧ (q.1 = 6 ∨ (20 ≤ q.1 ∧ q.1 ≤ 23))) → ¬ (q = (1, 0, 0) ∧ k = 1) → cdI X cn (X (1, 0, 0) 1) p r q k = X q k := fun q k g1 g2 => cdI_e g1 g2
  have o4 : ∀ q k, ¬ (q.2.1 = cn ∧ (q.1 = 6 ∨ (20 ≤ q.1 ∧ q.1 ≤ 23))) → ¬ (q = (1, 0, 0) ∧ k = 2) → ¬ (q = (24, 0, 0) ∧ k = cn) → cdO Y cn q k = Y q k := fun q k g1 g2 g3 => cdO_e g1 g2 g3
  have l4 : ∀ q, ¬ (q.2.1 = cn ∧ (q.1 = 6 ∨ (20 ≤ q.1 ∧ q.1 ≤ 23))) → (cdL L cn q ↔ L q) := fun q g1 => cdL_e g1
  have v6 := cdI_6 (X := X) (c := cn) (V := X (1, 0, 0) 1) (p := p) (r := r)
  have v2 := fun (a : Nat) (ha : 20 ≤ a ∧ a ≤ 22) (i : Nat) => cdI_2 (X := X) (c := cn) (V := X (1, 0, 0) 1) (p := p) (r := r) ha i
  have w6 := cdO_6 (Y := Y) (c := cn)
  have v1 : cdI X cn (X (1, 0, 0) 1) p r (1, 0, 0) 1 = Int32.ofNat (cn + 1) := by unfold cdI; rw [jc_up_s, h.cs, jof1 (by omega)]
  generalize cdI X cn (X (1, 0, 0) 1) p r = X1 at *
  generalize cdO Y cn = Y1 at *
  generalize cdL L cn = L1 at *
  have eI := ctI_e (f := fun a => isC a && !(Nat.beq a 1) && !(Nat.beq a 6) && !(Nat.ble 20 a && Nat.ble a 23)) (J := X) (J' := X1) (fun q k hq => by
    refine e4 q k (fun g => ?_) (fun g => by rw [g.1] at hq; exact absurd hq (by decide))
    obtain ⟨a, u, v⟩ := q
    rcases (show a = 6 ∨ a = 20 ∨ a = 21 ∨ a = 22 ∨ a = 23 by have := g.2; dsimp only at this; omega) with e | e | e | e | e <;> subst e <;> exact absurd (show false = true from hq) (by decide))
  have eO := ctO_e (f := fun a => isC a && !(Nat.beq a 1) && !(Nat.beq a 6) && !(Nat.ble 20 a && Nat.ble a 24)) (J := Y) (J' := Y1) (fun q k hq => by
    refine o4 q k (fun g => ?_) (fun g => by rw [g.1] at hq; exact absurd hq (by decide)) (fun g => by rw [g.1] at hq; exact absurd hq (by decide))
    obtain ⟨a, u, v⟩ := q
    rcases (show a = 6 ∨ a = 20 ∨ a = 21 ∨ a = 22 ∨ a = 23 by have := g.2; dsimp only at this; omega) with e | e | e | e | e <;> subst e <;> exact absurd (show false = true from hq) (by decide))
  have eL := ctL_e (f := fun a => isC a && !(Nat.beq a 1) && !(Nat.beq a 6) && !(Nat.ble 20 a && Nat.ble a 24)) (l := L) (l' := L1) (fun q hq => by
    refine l4 q (fun g => ?_)
    obtain ⟨a, u, v⟩ := q
    rcases (show a = 6 ∨ a = 20 ∨ a = 21 ∨ a = 22 ∨ a = 23 by have := g.2; dsimp only at this; omega) with e | e | e | e | e <;> subst e <;> exact absurd (show false = true from hq) (by decide))
  have e6 : ∀ a d v k, d ≠ cn → a ≠ 1 → X1 (a, d, v) k = X (a, d, v) k := fun a d v k hd ha => e4 _ _ (fun g => hd g.1) (fun g => ha (congrArg Prod.fst g.1))
  have o6 : ∀ a d v k, d ≠ cn → a ≠ 1 → a ≠ 24 → Y1 (a, d, v) k = Y (a, d, v) k := fun a d v k hd ha ha2 => o4 _ _ (fun g => hd g.1) (fun g => ha (congrArg Prod.fst g.1)) (fun g => ha2 (congrArg Prod.fst g.1))
  have i1 := jofI (n := cn + 1) (by omega)
  have hlt : ∀ k : Nat, (k : Int) < (X1 (1, 0, 0) 1).toInt → k ≠ cn → (k : Int) < (X (1, 0, 0) 1).toInt := fun k hk hne => by
    rw [v1, i1] at hk
    rw [h.cs, jofI (by omega)]
    omega
  have hn : ∀ k : Nat, (k : Int) < (X1 (1, 0, 0) 1).toInt → jw_n X1 k := fun k hk => by
    by_cases g : k = cn
    · subst g
      unfold jw_n
      rw [v6.2.2.2 7 (by decide), v6.2.2.2 8 (by decide), v6.2.2.2 9 (by decide)]
      decide
    · have := (h.A.2.2.2 k (hlt k hk g)).2.2.1
      unfold jw_n at *
      rw [e6 _ _ _ _ g (by decide), e6 _ _ _ _ g (by decide), e6 _ _ _ _ g (by decide)]
      exact this
  have hpar : ∀ k : Nat, (k : Int) < (X1 (1, 0, 0) 1).toInt → 0 ≤ X1 (6, k, 0) 1 ∧ X1 (6, k, 0) 1 ≤ 8 := fun k hk => by
    by_cases g : k = cn
    · subst g
      rw [v6.2.1]
      exact hp
    · rw [e6 _ _ _ _ g (by decide)]
      exact h.C.par k (hlt k hk g)
  refine ⟨?_, ?_, ?_, ?_, ⟨(o4 _ _ (by simp) (by simp) (by simp)).trans h.A.1, by rw [v1, jle, i1, j0I]; omega, by rw [v1, jle, i1, show (40 : Int32).toInt = 40 from by decide]; omega, fun k hk => ?_⟩, ⟨by show 0 ≤ X1 (1, 0, 0) 1; rw [v1, jle, i1, j0I]; omega, by show X1 (1, 0, 0) 1 ≤ 40; rw [v1, jle, i1, show (40 : Int32).toInt = 40 from by decide]; omega, fun k hk => ⟨(hn k hk).1, (hn k hk).2.1⟩, fun k hk => ⟨(hn k hk).2.2.1, (hn k hk).2.2.2.1⟩, fun k hk => ⟨(hn k hk).2.2.2.2.1, (hn k hk).2.2.2.2.2⟩, hpar, fun k i hk hi => ?_⟩, ?_, h.s0, ?_, fun k hk => ?_, fun k i hk hi => ?_, fun k i hk hi => ?_, v1, by omega, fun k hk => ?_, fun k i j hk => ?_, fun k i hk hi => ?_, (e4 _ _ (by simp) (by simp)).trans h.tc1, h.tcn, h.sn8, ?_, ?_, fun t ht => absurd ht (Nat.not_lt_zero t)⟩
  · have w : jw_J (ctO (fun a => isC a && !(Nat.beq a 1) && !(Nat.beq a 6) && !(Nat.ble 20 a && Nat.ble a 24)) Y) := h.jJ
    rw [← eO] at w; exact w
  · have w : jw_M (ctO (fun a => isC a && !(Nat.beq a 1) && !(Nat.beq a 6) && !(Nat.ble 20 a && Nat.ble a 24)) Y) := h.M
    rw [← eO] at w; exact w
  · have w : jw_G (ctO (fun a => isC a && !(Nat.beq a 1) && !(Nat.beq a 6) && !(Nat.ble 20 a && Nat.ble a 24)) Y) := h.G
    rw [← eO] at w; exact w
  · have w : jw_H (ctI (fun a => isC a && !(Nat.beq a 1) && !(Nat.beq a 6) && !(Nat.ble 20 a && Nat.ble a 23)) X) (ctO (fun a => isC a && !(Nat.beq a 1) && !(Nat.beq a 6) && !(Nat.ble 20 a && Nat.ble a 24)) Y) := h.H
    rw [← eO, ← eI] at w; exact w
  · by_cases g : k = cn
    · subst g
      refine ⟨w6.2.2, w6.1, hn k hk, fun i hi => ?_, by rw [v6.1]; exact h.cs, hpar k hk⟩
      rw [v6.2.2.2 9 (by decide), j0I] at hi
      omega
    · obtain ⟨b1, b2, b3, b4, b5, b6⟩ := h.A.2.2.2 k (hlt k hk g)
      refine ⟨(o4 _ _ (by simp) (by simp) (by simp [g])).trans b1, ?_, hn k hk, fun i hi => ?_, (e6 _ _ _ _ g (by decide)).trans b5, hpar k hk⟩
      · unfold jw_C at *
        rw [o6 _ _ _ _ g (by decide) (by decide), o6 _ _ _ _ g (by decide) (by decide), o6 _ _ _ _ g (by decide) (by decide), o6 _ _ _ _ g (by decide) (by decide)]
        exact b2
      · rw [e6 _ _ _ _ g (by decide)] at hi
        rw [o6 _ _ _ _ g (by decide) (by decide)]
        exact b4 i hi
  · by_cases g : k = cn
    · subst g
      have hi : i < (X1 (6, k, 0) 8).toNatClampNeg := hi
      rw [v6.2.2.2 8 (by decide)] at hi
      exact absurd hi (by simp)
    · have hi : i < (X1 (6, k, 0) 8).toNatClampNeg := hi
      show insOK (X1 (21, k, 0) i) (X1 (22, k, 0) i)
      rw [e6 _ _ _ _ g (by decide)] at hi
      rw [e6 _ _ _ _ g (by decide), e6 _ _ _ _ g (by decide)]
      exact h.C.ins k i (hlt k hk g) hi
  · have w : HO (ctI (fun a => isC a && !(Nat.beq a 1) && !(Nat.beq a 6) && !(Nat.ble 20 a && Nat.ble a 23)) X) S := h.ho
    rw [← eI] at w; exact w
  · have w : ThOK (ctO (fun a => isC a && !(Nat.beq a 1) && !(Nat.beq a 6) && !(Nat.ble 20 a && Nat.ble a 24)) Y) (ctL (fun a => isC a && !(Nat.beq a 1) && !(Nat.beq a 6) && !(Nat.ble 20 a && Nat.ble a 24)) L) := h.th
    rw [← eO, ← eL] at w; exact w
  · show 0 ≤ X1 (6, k, 0) 2
    by_cases g : k = cn
    · subst g
      rw [v6.2.2.1]
      exact hr.1
    · rw [e6 _ _ _ _ g (by decide)]
      exact h.rs k (hlt k hk g)
  · by_cases g : k = cn
    · subst g
      rw [v6.2.2.2 7 (by decide)] at hi
      exact absurd hi (by simp)
    · rw [e6 _ _ _ _ g (by decide)] at hi ⊢
      exact h.lk k i (by omega) hi
  · by_cases g : k = cn
    · subst g
      rw [v6.2.2.2 9 (by decide)] at hi
      exact absurd hi (by simp)
    · rw [e6 _ _ _ _ g (by decide)] at hi ⊢
      exact h.ra k i (by omega) hi
  · have g : k ≠ cn := by omega
    obtain ⟨g1, g2, g3, g4, g5⟩ := h.cf k (by omega)
    exact ⟨fun w => g1 ((l4 _ (by simp [g])).mp w), fun w => g2 ((l4 _ (by simp [g])).mp w), fun w => g3 ((l4 _ (by simp [g])).mp w), fun w => g4 ((l4 _ (by simp [g])).mp w), fun w => g5 ((l4 _ (by simp [g])).mp w)⟩
  · have g : k ≠ cn := by omega
    exact ⟨(e6 _ _ _ _ g (by decide)).trans (h.rz k i j (by omega)).1, fun w => (h.rz k i j (by omega)).2 ((l4 _ (by simp)).mp w)⟩
  · by_cases g : k = cn
    · subst g
      exact fun w => (h.rz k i 0 (Nat.le_refl _)).2 ((l4 _ (by simp)).mp w)
    · rw [e6 _ _ _ _ g (by decide)] at hi
      exact fun w => h.rf k i (by omega) hi ((l4 _ (by simp)).mp w)
  · have w : ∀ t, t < sn → St (ctO (fun a => isC a && !(Nat.beq a 1) && !(Nat.beq a 6) && !(Nat.ble 20 a && Nat.ble a 24)) Y) t ∧ (ctI (fun a => isC a && !(Nat.beq a 1) && !(Nat.beq a 6) && !(Nat.ble 20 a && Nat.ble a 23)) X) (9, t, 0) 0 = Int32.ofNat t := h.st
    rw [← eO, ← eI] at w; exact w
  · intro t ht
    obtain ⟨g1, g2, g3, g4⟩ := h.sf t ht
    exact ⟨(o4 _ _ (by simp) (by simp) (by simp)).trans g1, fun w => g2 ((l4 _ (by simp)).mp w), fun w => g3 ((l4 _ (by simp)).mp w), fun j => ⟨fun w => (g4 j).1 ((l4 _ (by simp)).mp w), fun w => (g4 j).2.1 ((l4 _ (by simp)).mp w), fun w => (g4 j).2.2 ((l4 _ (by simp)).mp w)⟩⟩
