theorem p_take_some {k : Int32} {K K' : List Int32} (h : p_take k K = some K') : K = k :: K' ∧ k ≠ 0 := by
  cases K with
  | nil => cases h
  | cons x K =>
    have h : (if k ≠ 0 ∧ x = k then some K else none) = some K' := h
    split at h
    · rename_i hc; rw [hc.2, Option.some.inj h]; exact ⟨rfl, hc.1⟩
    · cases h
theorem p_push_some {k : Int32} {K K' : List Int32} (h : p_push k K = some K') : K' = k :: K ∧ k ≠ 0 ∧ K.length < 12 := by
  unfold p_push at h
  split at h
  · cases h
  · rename_i hc
    exact ⟨(Option.some.inj h).symm, fun e => hc (Or.inl e), Nat.lt_of_not_le (fun e => hc (Or.inr e))⟩
theorem bind_some {α β : Type} {x : Option α} {f : α → Option β} {z : β} (h : x.bind f = some z) : ∃ y, x = some y ∧ f y = some z := by
  cases x with
  | none => cases h
  | some y => exact ⟨y, rfl, h⟩
def tyS (V : Int32 → Prop) (a : Nat → Int32) : List Int32 → Prop
  | [] => True
  | k :: K => (k = 2 → V (a K.length)) ∧ tyS V a K
theorem tyS.to {V V' : Int32 → Prop} {a a' : Nat → Int32} : ∀ {K : List Int32}, tyS V a K → (∀ i, i < K.length → a' i = a i) → (∀ x, V x → V' x) → tyS V' a' K
  | [], _, _, _ => trivial
  | k :: K, h, e, hv => ⟨fun h2 => by rw [e _ (by simp)]; exact hv _ (h.1 h2), h.2.to (fun i hi => e i (by simp; omega)) hv⟩
def tyL (B : jc_B) (V : Int32 → Prop) (c : Nat) (l : Nat → Int32) : Prop := ∀ k : Nat, (k : Int) < (B.lc c).toInt → B.lk c k = 2 → V (l k)
def jV (J : jc_I) (x : Int32) : Prop := 0 ≤ x ∧ x ≤ J (3, 0, 0) 2
def TF (B : jc_B) (V : Int32 → Prop) (c : Nat) (d : Int32) (vals locs : Nat → Int32) (K : List Int32) : Prop := (p_all B c) ∧ ((c : Int) < B.cn.toInt) ∧ (d = Int32.ofNat K.length) ∧ (K.length ≤ 12) ∧ (tyS V vals K) ∧ (tyL B V c locs)
theorem TF.al {B : jc_B} {V : Int32 → Prop} {c : Nat} {d : Int32} {vals locs : Nat → Int32} {K : List Int32} (h9 : TF B V c d vals locs K) : p_all B c := h9.1
theorem TF.cn {B : jc_B} {V : Int32 → Prop} {c : Nat} {d : Int32} {vals locs : Nat → Int32} {K : List Int32} (h9 : TF B V c d vals locs K) : (c : Int) < B.cn.toInt := h9.2.1
theorem TF.d {B : jc_B} {V : Int32 → Prop} {c : Nat} {d : Int32} {vals locs : Nat → Int32} {K : List Int32} (h9 : TF B V c d vals locs K) : d = Int32.ofNat K.length := h9.2.2.1
theorem TF.le {B : jc_B} {V : Int32 → Prop} {c : Nat} {d : Int32} {vals locs : Nat → Int32} {K : List Int32} (h9 : TF B V c d vals locs K) : K.length ≤ 12 := h9.2.2.2.1
theorem TF.ty {B : jc_B} {V : Int32 → Prop} {c : Nat} {d : Int32} {vals locs : Nat → Int32} {K : List Int32} (h9 : TF B V c d vals locs K) : tyS V vals K := h9.2.2.2.2.1
theorem TF.lo {B : jc_B} {V : Int32 → Prop} {c : Nat} {d : Int32} {vals locs : Nat → Int32} {K : List Int32} (h9 : TF B V c d vals locs K) : tyL B V c locs := h9.2.2.2.2.2
theorem TF.mono {B : jc_B} {V V' : Int32 → Prop} {c : Nat} {d : Int32} {vals locs : Nat → Int32} {K : List Int32} (h : TF B V c d vals locs K) (hv : ∀ x, V x → V' x) : TF B V' c d vals locs K :=
  ⟨h.al, h.cn, h.d, h.le, h.ty.to (fun _ _ => rfl) hv, fun k h1 h2 => hv _ (h.lo k h1 h2)⟩
def FT (B : jc_B) (V : Int32 → Prop) (c : Nat) (at_ d : Int32) (vals locs : Nat → Int32) : Prop := ∃ (i : Nat) (K : List Int32), at_ = Int32.ofNat i ∧ i < (B.sz c).toNatClampNeg ∧ p_at B c i = some K ∧ TF B V c d vals locs K
def FM (B : jc_B) (V : Int32 → Prop) (c e : Nat) (at_ d : Int32) (vals locs : Nat → Int32) : Prop := ∃ (i : Nat) (K K' : List Int32), at_ = Int32.ofNat i ∧ i < (B.sz c).toNatClampNeg ∧ p_at B c i = some K ∧ B.op c i = 18 ∧ (0 ≤ B.an c i ∧ B.an c i < B.cn) ∧ (B.an c i).toNatClampNeg = e ∧ p_par B e (B.par e).toNatClampNeg K = some K' ∧ TF B V c d vals locs K'
theorem FT.mono {B : jc_B} {V V' : Int32 → Prop} {c : Nat} {at_ d : Int32} {vals locs : Nat → Int32} (h : FT B V c at_ d vals locs) (hv : ∀ x, V x → V' x) : FT B V' c at_ d vals locs := by
  obtain ⟨i, K, a1, a2, a3, a4⟩ := h
  exact ⟨i, K, a1, a2, a3, a4.mono hv⟩
theorem FM.mono {B : jc_B} {V V' : Int32 → Prop} {c e : Nat} {at_ d : Int32} {vals locs : Nat → Int32} (h : FM B V c e at_ d vals locs) (hv : ∀ x, V x → V' x) : FM B V' c e at_ d vals locs := by
  obtain ⟨i, K, K', a1, a2, a3, a4, a5, a6, a7, a8⟩ := h
  exact ⟨i, K, K', a1, a2, a3, a4, a5, a6, a7, a8.mono hv⟩
abbrev TFJ (J : jc_I) (t j c : Nat) (K : List Int32) : Prop := TF (bk J) (jV J) c (J (8, t, j) 3) (J (32, t, j)) (J (33, t, j)) K
abbrev FTJ (J : jc_I) (t j c : Nat) : Prop := FT (bk J) (jV J) c (J (8, t, j) 4) (J (8, t, j) 3) (J (32, t, j)) (J (33, t, j))
abbrev FMJ (J : jc_I) (t j c e : Nat) : Prop := FM (bk J) (jV J) c e (J (8, t, j) 4) (J (8, t, j) 3) (J (32, t, j)) (J (33, t, j))
theorem jV.z {J : jc_I} (h : 0 ≤ J (3, 0, 0) 2) : jV J 0 := ⟨by decide, h⟩
section
variable {J : jc_I} {t j : Nat} {K : List Int32} {k x : Int32}
theorem n_psh (hd : J (8, t, j) 3 = Int32.ofNat K.length) (hl : K.length < 12) : f_psh J t j x = jc_up (jc_up J (32, t, j) K.length x) (8, t, j) 3 (Int32.ofNat (K.length + 1)) := by
  unfold f_psh
  have e1 := jofI (n := K.length) (by omega)
  have e2 : (12 : Int32).toInt = 12 := by decide
  rw [hd, if_pos (by rw [jle, jlt, e1, e2, j0I]; omega), jofN (by omega), jof1 (by omega)]
theorem n_pop (hd : J (8, t, j) 3 = Int32.ofNat (k :: K).length) (hl : (k :: K).length ≤ 12) : f_pop J t j = jc_up J (8, t, j) 3 (Int32.ofNat K.length) := by
  unfold f_pop
  have hl : K.length + 1 ≤ 12 := hl
  have e1 := jofI (n := K.length) (by omega)
  rw [hd, List.length_cons, jofs (by omega), if_neg (by rw [jlt, e1, j0I]; omega)]
theorem n_tp (hd : J (8, t, j) 3 = Int32.ofNat (k :: K).length) (hl : (k :: K).length ≤ 12) : f_tp J t j = J (32, t, j) K.length := by
  unfold f_tp
  have hl : K.length + 1 ≤ 12 := hl
  have e1 := jofI (n := K.length + 1) (by omega)
  rw [hd, List.length_cons, if_pos (by rw [jlt, e1, j0I]; omega), jofs (by omega), jofN (by omega)]
theorem n_pk (hd : J (8, t, j) 3 = Int32.ofNat (k :: K).length) (hl : (k :: K).length ≤ 12) : f_pk J t j 0 = J (32, t, j) K.length := by
  unfold f_pk
  have hl : K.length + 1 ≤ 12 := hl
  have e1 := jofI (n := K.length + 1) (by omega)
  rw [hd, List.length_cons, if_pos (by rw [jlt, e1, j0I]; exact ⟨by decide, by omega⟩), jofs (by omega), Int32.sub_zero, jofN (by omega)]
theorem n_pk1 {k2 : Int32} (hd : J (8, t, j) 3 = Int32.ofNat (k :: k2 :: K).length) (hl : (k :: k2 :: K).length ≤ 12) : f_pk J t j 1 = J (32, t, j) K.length := by
  unfold f_pk
  have hl : K.length + 1 + 1 ≤ 12 := hl
  have e1 := jofI (n := K.length + 1 + 1) (by omega)
  rw [hd, List.length_cons, List.length_cons, if_pos (by rw [jlt, e1, j1I]; exact ⟨by decide, by omega⟩), jofs (by omega), jofs (by omega), jofN (by omega)]
end
def fl (t j : Nat) (J J' : jc_I) : Prop := ∀ q k, q ≠ (8, t, j) → q ≠ (32, t, j) → q ≠ (33, t, j) → J' q k = J q k
theorem fl.rf {t j : Nat} {J : jc_I} : fl t j J J := fun _ _ _ _ _ => rfl
theorem fl.tr {t j : Nat} {I J K : jc_I} (h : fl t j I J) (h2 : fl t j J K) : fl t j I K := fun q k a b c => (h2 q k a b c).trans (h q k a b c)
theorem fl.u8 {t j : Nat} {J : jc_I} {k : Nat} {v : Int32} : fl t j J (jc_up J (8, t, j) k v) := fun _ _ a _ _ => jc_up_q _ _ _ _ _ _ a
theorem fl.u32 {t j : Nat} {J : jc_I} {k : Nat} {v : Int32} : fl t j J (jc_up J (32, t, j) k v) := fun _ _ _ a _ => jc_up_q _ _ _ _ _ _ a
theorem fl.u33 {t j : Nat} {J : jc_I} {k : Nat} {v : Int32} : fl t j J (jc_up J (33, t, j) k v) := fun _ _ _ _ a => jc_up_q _ _ _ _ _ _ a
theorem fl.ite {t j : Nat} {I J K : jc_I} {p : Prop} [Decidable p] (h1 : fl t j I J) (h2 : fl t j I K) : fl t j I (if p then J else K) := by split; exact h1; exact h2
theorem fl_psh {t j : Nat} {J : jc_I} {x : Int32} : fl t j J (f_psh J t j x) := fl.ite (fl.u32.tr fl.u8) fl.rf
theorem fl_pop {t j : Nat} {J : jc_I} : fl t j J (f_pop J t j) := fl.u8
theorem fl_on {t j : Nat} {J : jc_I} : fl t j J (f_on J t j) := fl.u8
theorem fl_sl {t j : Nat} {J : jc_I} {i x : Int32} : fl t j J (f_sl J t j i x) := fl.ite fl.u33 fl.rf
theorem fl.o {t j : Nat} {J J' : jc_I} (h : fl t j J J') {a : Nat} {u : Nat × Nat} {k : Nat} (h1 : a ≠ 8) (h2 : a ≠ 32) (h3 : a ≠ 33) : J' (a, u) k = J (a, u) k := h _ _ (fun e => h1 (congrArg Prod.fst e)) (fun e => h2 (congrArg Prod.fst e)) (fun e => h3 (congrArg Prod.fst e))
theorem fl.bk {t j : Nat} {J J' : jc_I} (h : fl t j J J') : bk J' = bk J := bk_eq (fun q k hq => h q k (fun e => by rw [e] at hq; simp at hq) (fun e => by rw [e] at hq; simp at hq) (fun e => by rw [e] at hq; simp at hq))
theorem fl.v {t j : Nat} {J J' : jc_I} (h : fl t j J J') : jV J' = jV J := by
  funext x
  unfold jV
  rw [h.o (by decide) (by decide) (by decide)]
section
variable {J : jc_I} {t j c : Nat} {K K' : List Int32} {k x : Int32}
theorem TF.psh (h : TFJ J t j c K) (hp : p_push k K = some K') (hx : k = 2 → jV J x) : TFJ (f_psh J t j x) t j c K' := by
  obtain ⟨e, hk, hl⟩ := p_push_some hp
  subst e
  have hf : fl t j J (f_psh J t j x) := fl_psh
  unfold TFJ
  rw [hf.bk, hf.v, n_psh h.d hl]
  refine ⟨h.al, h.cn, jc_up_s _ _ _ _, by simp; omega, ⟨fun h2 => ?_, ?_⟩, ?_⟩
  · rw [jc_up_t _ _ _ _ _ _ _ _ (by decide), jc_up_s]; exact hx h2
  · refine h.ty.to (fun i hi => ?_) (fun _ h => h)
    rw [jc_up_t _ _ _ _ _ _ _ _ (by decide), jc_up_k _ _ _ _ _ _ (by omega)]
  · intro k9 a b
    rw [jc_up_t _ _ _ _ _ _ _ _ (by decide), jc_up_t _ _ _ _ _ _ _ _ (by decide)]
    exact h.lo k9 a b
theorem TF.pop (h : TFJ J t j c (k :: K)) : TFJ (f_pop J t j) t j c K ∧ (k = 2 → jV J (f_tp J t j)) := by
  have hf : fl t j J (f_pop J t j) := fl_pop
  unfold TFJ
  rw [hf.bk, hf.v, n_pop h.d h.le, n_tp h.d h.le]
  refine ⟨⟨h.al, h.cn, jc_up_s _ _ _ _, by have := h.le; simp at this; omega, ?_, ?_⟩, h.ty.1⟩
  · refine h.ty.2.to (fun i hi => ?_) (fun _ h => h)
    rw [jc_up_t _ _ _ _ _ _ _ _ (by decide)]
  · intro k9 a b
    rw [jc_up_t _ _ _ _ _ _ _ _ (by decide)]
    exact h.lo k9 a b
theorem TF.at {v : Int32} (h : TFJ J t j c K) : TFJ (jc_up J (8, t, j) 4 v) t j c K := by
  have hf : fl t j J (jc_up J (8, t, j) 4 v) := fl.u8
  unfold TFJ
  rw [hf.bk, hf.v]
  refine ⟨h.al, h.cn, ?_, h.le, ?_, ?_⟩
  · rw [jc_up_k _ _ _ _ _ _ (by decide)]; exact h.d
  · refine h.ty.to (fun i hi => ?_) (fun _ h => h)
    rw [jc_up_t _ _ _ _ _ _ _ _ (by decide)]
  · intro k9 a b
    rw [jc_up_t _ _ _ _ _ _ _ _ (by decide)]
    exact h.lo k9 a b
theorem TF.sl {i : Nat} (h : TFJ J t j c K) (hi : i < 8) (hx : (bk J).lk c i = 2 → jV J x) : TFJ (f_sl J t j (Int32.ofNat i) x) t j c K := by
  have hf : fl t j J (f_sl J t j (Int32.ofNat i) x) := fl_sl
  have e1 := jofI (n := i) (by omega)
  have e2 : (8 : Int32).toInt = 8 := by decide
  have hn : f_sl J t j (Int32.ofNat i) x = jc_up J (33, t, j) i x := by
    unfold f_sl
    rw [if_pos (by rw [jle, jlt, e1, e2, j0I]; omega), jofN (by omega)]
  unfold TFJ
  rw [hf.bk, hf.v, hn]
  refine ⟨h.al, h.cn, ?_, h.le, ?_, ?_⟩
  · rw [jc_up_t _ _ _ _ _ _ _ _ (by decide)]; exact h.d
  · refine h.ty.to (fun i hi => ?_) (fun _ h => h)
    rw [jc_up_t _ _ _ _ _ _ _ _ (by decide)]
  · intro k9 a b
    by_cases e : k9 = i
    · subst e; rw [jc_up_s]; exact hx b
    · rw [jc_up_k _ _ _ _ _ _ e]; exact h.lo k9 a b
end
