def jc_B : Type := Int32 × (Nat → Int32) × (Nat → Int32) × (Nat → Int32) × (Nat → Int32) × (Nat → Int32) × (Nat → Nat → Int32) × (Nat → Nat → Int32) × (Nat → Nat → Int32) × (Nat → Nat → Int32) × (Nat → Nat → Int32) × (Nat → Nat → Int32) × (Nat → Nat → Int32)
def jc_B.cn (B : jc_B) : Int32 := B.1
def jc_B.par (B : jc_B) : Nat → Int32 := B.2.1
def jc_B.res (B : jc_B) : Nat → Int32 := B.2.2.1
def jc_B.lc (B : jc_B) : Nat → Int32 := B.2.2.2.1
def jc_B.sz (B : jc_B) : Nat → Int32 := B.2.2.2.2.1
def jc_B.rc (B : jc_B) : Nat → Int32 := B.2.2.2.2.2.1
def jc_B.lk (B : jc_B) : Nat → Nat → Int32 := B.2.2.2.2.2.2.1
def jc_B.op (B : jc_B) : Nat → Nat → Int32 := B.2.2.2.2.2.2.2.1
def jc_B.an (B : jc_B) : Nat → Nat → Int32 := B.2.2.2.2.2.2.2.2.1
def jc_B.fr (B : jc_B) : Nat → Nat → Int32 := B.2.2.2.2.2.2.2.2.2.1
def jc_B.to (B : jc_B) : Nat → Nat → Int32 := B.2.2.2.2.2.2.2.2.2.2.1
def jc_B.at_ (B : jc_B) : Nat → Nat → Int32 := B.2.2.2.2.2.2.2.2.2.2.2.1
def jc_B.kd (B : jc_B) : Nat → Nat → Int32 := B.2.2.2.2.2.2.2.2.2.2.2.2
def bk (J : jc_I) : jc_B := (J (1, 0, 0) 1, fun c => J (6, c, 0) 1, fun c => J (6, c, 0) 2, fun c => J (6, c, 0) 7, fun c => J (6, c, 0) 8, fun c => J (6, c, 0) 9, fun c => J (20, c, 0), fun c => J (21, c, 0), fun c => J (22, c, 0), fun c r => J (5, c, r) 0, fun c r => J (5, c, r) 1, fun c r => J (5, c, r) 2, fun c r => J (5, c, r) 3)
theorem bk_eq {J J' : jc_I} (h : ∀ q k, q.1 = 1 ∨ q.1 = 6 ∨ q.1 = 20 ∨ q.1 = 21 ∨ q.1 = 22 ∨ q.1 = 5 → J' q k = J q k) : bk J' = bk J := by
  unfold bk
  have e0 : J' (1, 0, 0) 1 = J (1, 0, 0) 1 := h _ _ (Or.inl rfl)
  have e1 : (fun c => J' (6, c, 0) 1) = (fun c => J (6, c, 0) 1) := funext fun c => h _ _ (by simp)
  have e2 : (fun c => J' (6, c, 0) 2) = (fun c => J (6, c, 0) 2) := funext fun c => h _ _ (by simp)
  have e3 : (fun c => J' (6, c, 0) 7) = (fun c => J (6, c, 0) 7) := funext fun c => h _ _ (by simp)
  have e4 : (fun c => J' (6, c, 0) 8) = (fun c => J (6, c, 0) 8) := funext fun c => h _ _ (by simp)
  have e5 : (fun c => J' (6, c, 0) 9) = (fun c => J (6, c, 0) 9) := funext fun c => h _ _ (by simp)
  have e6 : (fun c => J' (20, c, 0)) = (fun c => J (20, c, 0)) := funext fun c => funext fun k => h _ _ (by simp)
  have e7 : (fun c => J' (21, c, 0)) = (fun c => J (21, c, 0)) := funext fun c => funext fun k => h _ _ (by simp)
  have e8 : (fun c => J' (22, c, 0)) = (fun c => J (22, c, 0)) := funext fun c => funext fun k => h _ _ (by simp)
  have e9 : (fun c r => J' (5, c, r) 0) = (fun c r => J (5, c, r) 0) := funext fun c => funext fun r => h _ _ (by simp)
  have e10 : (fun c r => J' (5, c, r) 1) = (fun c r => J (5, c, r) 1) := funext fun c => funext fun r => h _ _ (by simp)
  have e11 : (fun c r => J' (5, c, r) 2) = (fun c r => J (5, c, r) 2) := funext fun c => funext fun r => h _ _ (by simp)
  have e12 : (fun c r => J' (5, c, r) 3) = (fun c r => J (5, c, r) 3) := funext fun c => funext fun r => h _ _ (by simp)
  rw [e0, e1, e2, e3, e4, e5, e6, e7, e8, e9, e10, e11, e12]
theorem jE.bk {J J' : jc_I} (h : jE J J') : bk J' = bk J := bk_eq (fun q k hq => h q k (by omega) (by omega))
def p_jmp (x : Int32) : Prop := x = 11 ∨ x = 12 ∨ x = 13
def p_lst (x : Int32) : Prop := x = 11 ∨ x = 19 ∨ x = 22
def p_lk (B : jc_B) (c : Nat) (i : Int32) : Int32 := if 0 ≤ i ∧ i < B.lc c then B.lk c i.toNatClampNeg else 0
def p_tkr (B : jc_B) (c : Nat) (p : Int32) : Prop := ∃ r : Nat, r < (B.rc c).toNatClampNeg ∧ B.at_ c r = p
def p_lbl (B : jc_B) (c : Nat) (p : Int32) : Prop := (∃ r : Nat, r < (B.rc c).toNatClampNeg ∧ (B.at_ c r = p ∨ B.fr c r = p ∨ B.to c r = p)) ∨ ∃ i : Nat, i < (B.sz c).toNatClampNeg ∧ p_jmp (B.op c i) ∧ B.an c i = p
def p_push (k : Int32) (K : List Int32) : Option (List Int32) := if k = 0 ∨ 12 ≤ K.length then none else some (k :: K)
def p_take (k : Int32) : List Int32 → Option (List Int32)
  | [] => none
  | x :: K => if k ≠ 0 ∧ x = k then some K else none
def p_pop : List Int32 → Option (List Int32)
  | [] => none
  | x :: K => if x ≠ 0 then some K else none
def p_dup : List Int32 → Option (List Int32)
  | [] => none
  | x :: K => p_push x (x :: K)
def p_par (B : jc_B) (d : Nat) : Nat → List Int32 → Option (List Int32)
  | 0, K => some K
  | m + 1, K => (p_take (p_lk B d (Int32.ofNat m)) K).bind (p_par B d m)
def p_res (B : jc_B) (d : Nat) (K : List Int32) : Option (List Int32) := if B.res d ≠ 0 then p_push (B.res d) K else some K
def p_place (B : jc_B) (c : Nat) (a : Int32) : Prop := 0 ≤ a ∧ a < B.sz c
noncomputable def p_leave (B : jc_B) (c : Nat) (a : Int32) (K : List Int32) : Option (List Int32) := @ite _ (K = [] ∧ ¬ p_tkr B c a) (Classical.propDecidable _) (some []) none
def p_end (K : List Int32) : Option (List Int32) := if K = [] then some [] else none
noncomputable def p_ins (B : jc_B) (c : Nat) (op a : Int32) (K : List Int32) : Option (List Int32) :=
  if op = 0 then p_push 1 K else if op = 1 ∨ op = 14 ∨ op = 25 then p_push 2 K else if op = 2 then p_pop K else if op = 3 then p_dup K
  else if op = 4 ∨ op = 5 ∨ op = 6 ∨ op = 7 ∨ op = 8 then ((p_take 1 K).bind (p_take 1)).bind (p_push 1) else if op = 9 then p_push (p_lk B c a) K else if op = 10 then p_take (p_lk B c a) K
  else if op = 11 then p_leave B c a K else if op = 12 then (p_take 1 K).bind (p_leave B c a) else if op = 13 then (p_take 2 K).bind (p_leave B c a)
  else if op = 15 ∨ op = 16 then (p_take 2 K).bind (p_push 1) else if op = 17 then (p_take 1 K).bind (p_take 2) else if op = 23 then (p_take 2 K).bind (p_push 2) else if op = 24 then (p_take 2 K).bind (p_take 2)
  else if op = 18 then (if 0 ≤ a ∧ a < B.cn then (p_par B a.toNatClampNeg (B.par a.toNatClampNeg).toNatClampNeg K).bind (p_res B a.toNatClampNeg) else none)
  else if op = 19 ∨ op = 20 ∨ op = 21 ∨ op = 26 then p_take 2 K
  else if op = 22 then (if B.res c ≠ 0 then (p_take (B.res c) K).bind p_end else p_end K) else none
def p_on (B : jc_B) (c i : Nat) : Prop := i = 0 ∨ ¬ p_lst (B.op c (i - 1))
noncomputable def p_arr (B : jc_B) (c i : Nat) (K : List Int32) : Option (List Int32) :=
  @ite _ (p_on B c i) (Classical.propDecidable _) (@ite _ (¬ p_lbl B c (Int32.ofNat i) ∨ (¬ p_tkr B c (Int32.ofNat i) ∧ K = [])) (Classical.propDecidable _) (some K) none)
    (@ite _ (p_lbl B c (Int32.ofNat i)) (Classical.propDecidable _) (@ite _ (p_tkr B c (Int32.ofNat i)) (Classical.propDecidable _) (some [2]) (some [])) none)
noncomputable def p_at (B : jc_B) (c : Nat) : Nat → Option (List Int32)
  | 0 => p_arr B c 0 []
  | i + 1 => ((p_at B c i).bind (p_ins B c (B.op c i) (B.an c i))).bind (p_arr B c (i + 1))
noncomputable def p_run (B : jc_B) (c : Nat) : Nat → Option (List Int32)
  | 0 => some []
  | i + 1 => ((p_run B c i).bind (p_arr B c i)).bind (p_ins B c (B.op c i) (B.an c i))
theorem p_at_run (B : jc_B) (c i : Nat) : p_at B c i = (p_run B c i).bind (p_arr B c i) := by
  induction i with
  | zero => rfl
  | succ i ih => rw [p_at, ih, p_run]
def p_rows (B : jc_B) (c : Nat) : Prop := ∀ r : Nat, r < (B.rc c).toNatClampNeg → B.fr c r < B.to c r ∧ B.to c r ≤ B.sz c ∧ p_place B c (B.at_ c r)
def p_jmps (B : jc_B) (c : Nat) : Prop := ∀ i : Nat, i < (B.sz c).toNatClampNeg → p_jmp (B.op c i) → p_place B c (B.an c i)
def p_good (B : jc_B) (c : Nat) : Prop := 0 < B.sz c ∧ p_lst (B.op c (B.sz c - 1).toNatClampNeg) ∧ B.par c ≤ B.lc c ∧ p_jmps B c ∧ p_rows B c ∧ (p_run B c (B.sz c).toNatClampNeg).isSome
def aK (a : Nat → Int32) : List Int32 → Prop
  | [] => True
  | k :: K => a K.length = k ∧ aK a K
theorem aK.to {a a' : Nat → Int32} : ∀ {K : List Int32}, aK a K → (∀ i, i < K.length → a' i = a i) → aK a' K
  | [], _, _ => trivial
  | k :: K, h, e => ⟨(e _ (by simp)).trans h.1, h.2.to (fun i hi => e i (by simp; omega))⟩
def jkK (J : jc_I) (K : List Int32) : Prop := J (2, 0, 0) 7 = 1 ∧ J (2, 0, 0) 6 = Int32.ofNat K.length ∧ K.length ≤ 12 ∧ aK (J (26, 0, 0)) K
def jkO (J : jc_I) (x : Option (List Int32)) : Prop := match x with
  | some K => jkK J K
  | none => J (2, 0, 0) 7 = 0
theorem jkO_dem0 {J : jc_I} : jkO (g_dem J 0) none := by
  unfold jkO g_dem
  rw [jc_up_s]
  simp
theorem jkO_dem {J : jc_I} {x : Option (List Int32)} {b : Int32} (h : jkO J x) : jkO (g_dem J b) (x.bind (fun K => if b ≠ 0 then some K else none)) := by
  cases x with
  | none =>
    unfold jkO g_dem at *
    dsimp only [Option.bind] at *
    rw [jc_up_s, if_neg (by rw [h]; simp)]
  | some K =>
    obtain ⟨h1, h2, h3, h4⟩ := h
    by_cases hb : b = 0
    · subst hb
      exact jkO_dem0
    · show jkO _ (if b ≠ 0 then some K else none)
      rw [if_pos hb]
      refine ⟨?_, ?_, h3, ?_⟩
      · unfold g_dem; rw [jc_up_s, if_pos ⟨by rw [h1]; decide, hb⟩]
      · unfold g_dem; rw [jc_up_k _ _ _ _ _ _ (by decide)]; exact h2
      · refine h4.to (fun i _ => ?_)
        unfold g_dem
        rw [jc_up_t _ _ _ _ _ _ _ _ (by decide)]
theorem jkO_give {J : jc_I} {x : Option (List Int32)} {k : Int32} (h : jkO J x) : jkO (g_give J k) (x.bind (p_push k)) := by
  cases x with
  | none =>
    have h : J (2, 0, 0) 7 = 0 := h
    show g_give J k (2, 0, 0) 7 = 0
    unfold g_give
    split
    · exact jkO_dem0
    · rw [jc_up_k _ _ _ _ _ _ (by decide), jc_up_t _ _ _ _ _ _ _ _ (by decide)]; exact h
  | some K =>
    obtain ⟨h1, h2, h3, h4⟩ := h
    show jkO _ (p_push k K)
    unfold p_push g_give
    have e1 := jofI (n := K.length) (by omega)
    have e2 : (12 : Int32).toInt = 12 := by decide
    by_cases hk : k = 0 ∨ 12 ≤ K.length
    · rw [if_pos hk, if_pos (by
        rcases hk with hk | hk
        · exact Or.inl hk
        · refine Or.inr (Or.inr ?_); rw [h2, jle, e1, e2]; omega)]
      exact jkO_dem0
    · rw [if_neg hk, if_neg (by
        rintro (g | g | g)
        · exact hk (Or.inl g)
        · rw [h2, jlt, e1, j0I] at g; omega
        · rw [h2, jle, e1, e2] at g; exact hk (Or.inr (by omega)))]
      have hl : K.length < 12 := by omega
      refine ⟨?_, ?_, by simp; omega, ?_, ?_⟩
      · rw [jc_up_k _ _ _ _ _ _ (by decide), jc_up_t _ _ _ _ _ _ _ _ (by decide)]; exact h1
      · rw [jc_up_s, h2, jof1 (by omega)]; rfl
      · rw [jc_up_t _ _ _ _ _ _ _ _ (by decide), h2, jofN (by omega), jc_up_s]
      · refine h4.to (fun i hi => ?_)
        rw [jc_up_t _ _ _ _ _ _ _ _ (by decide), h2, jofN (by omega), jc_up_k _ _ _ _ _ _ (by omega)]
theorem jkK.top {J : jc_I} {K : List Int32} (h : jkK J K) : g_top J = K.headD 0 := by
  obtain ⟨h1, h2, h3, h4⟩ := h
  unfold g_top
  cases K with
  | nil => rw [if_neg (by rw [h2]; decide)]; rfl
  | cons k K =>
    have hl : K.length + 1 ≤ 12 := h3
    have e1 := jofI (n := K.length + 1) (by omega)
    have e2 : (12 : Int32).toInt = 12 := by decide
    rw [if_pos (by rw [h2]; constructor; rw [jle, List.length_cons, e1, j1I]; omega; rw [jle, List.length_cons, e1, e2]; omega), h2, List.length_cons, jofs (by omega), jofN (by omega)]
    exact h4.1
theorem jkO_take {J : jc_I} {x : Option (List Int32)} {k : Int32} (h : jkO J x) : jkO (g_take J k) (x.bind (p_take k)) := by
  cases x with
  | none =>
    have h : J (2, 0, 0) 7 = 0 := h
    show g_take J k (2, 0, 0) 7 = 0
    unfold g_take
    split
    · exact jkO_dem0
    · rw [jc_up_k _ _ _ _ _ _ (by decide)]; exact h
  | some K =>
    have ht := jkK.top h
    obtain ⟨h1, h2, h3, h4⟩ := h
    show jkO _ (p_take k K)
    unfold g_take
    cases K with
    | nil =>
      rw [show g_top J = 0 from ht]
      rw [if_pos (by by_cases e : k = 0; exact Or.inl e; exact Or.inr (fun e2 => e e2.symm))]
      exact jkO_dem0
    | cons y K =>
      show jkO _ (if k ≠ 0 ∧ y = k then some K else none)
      rw [show g_top J = y from ht]
      by_cases e : k ≠ 0 ∧ y = k
      · rw [if_pos e, if_neg (by rintro (g | g); exact e.1 g; exact g e.2)]
        have hl : K.length + 1 ≤ 12 := h3
        refine ⟨?_, ?_, by omega, ?_⟩
        · rw [jc_up_k _ _ _ _ _ _ (by decide)]; exact h1
        · rw [jc_up_s, h2, List.length_cons, jofs (by omega)]
        · refine h4.2.to (fun i hi => ?_)
          rw [jc_up_t _ _ _ _ _ _ _ _ (by decide)]
      · rw [if_neg e, if_pos (by by_cases e1 : k = 0; exact Or.inl e1; exact Or.inr (fun e2 => e ⟨e1, e2⟩))]
        exact jkO_dem0
