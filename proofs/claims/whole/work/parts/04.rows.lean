section JCL
theorem jc_rz_cat (α : jc_L → Nat) (v : jc_V) : (jc_rz α v).category = 1 := by
  cases v with
  | inl x => rfl
  | inr o => cases o <;> rfl
theorem jc_lp_mem {α : jc_L → Nat} {l : List (Option jc_V)} {i : Nat} {w : Value} : (i, w) ∈ jc_lp α l ↔ ∃ v, l[i]? = some (some v) ∧ w = jc_rz α v := by
  constructor
  · intro h
    obtain ⟨j, -, hj⟩ := List.mem_filterMap.mp h
    cases hx : l[j]? with
    | none => rw [hx] at hj; simp at hj
    | some o =>
      cases o with
      | none => rw [hx] at hj; simp at hj
      | some v =>
        rw [hx] at hj
        simp at hj
        obtain ⟨rfl, rfl⟩ := hj
        exact ⟨v, hx, rfl⟩
  · rintro ⟨v, hv, rfl⟩
    refine List.mem_filterMap.mpr ⟨i, List.mem_range.mpr (List.getElem?_eq_some_iff.mp hv).1, ?_⟩
    rw [hv]; rfl
theorem jc_lget {α : jc_L → Nat} {la : Array Slot} {n : Nat} {l : List (Option jc_V)} (h : lv_has la n (jc_lp α l)) {i : Nat} {v : jc_V} (hv : l[i]? = some (some v)) : la[i]? = some (.val (jc_rz α v)) := h.2.2 (i, jc_rz α v) (jc_lp_mem.mpr ⟨v, hv, rfl⟩)
theorem jc_lset {α : jc_L → Nat} {la : Array Slot} {n i : Nat} {l : List (Option jc_V)} {v : jc_V} (hi : i < l.length) (h : lv_has la n ((i, jc_rz α v) :: (jc_lp α l).filter (fun q => !(q.1 == i) && !(q.1 + 1 == i && q.2.category == 2)))) : lv_has la n (jc_lp α (l.set i (some v))) := by
  refine ⟨h.1, h.2.1, fun q hq => ?_⟩
  obtain ⟨j, w⟩ := q
  obtain ⟨u, hu, rfl⟩ := jc_lp_mem.mp hq
  by_cases hj : j = i
  · subst hj
    rw [List.getElem?_set_self hi] at hu
    cases hu
    exact h.2.2 _ List.mem_cons_self
  · rw [List.getElem?_set_ne (Ne.symm hj)] at hu
    refine h.2.2 (j, jc_rz α u) (List.mem_cons_of_mem _ (List.mem_filter.mpr ⟨jc_lp_mem.mpr ⟨u, hu, rfl⟩, ?_⟩))
    simp [hj, jc_rz_cat]
theorem jc_okl_get {live : jc_L → Prop} {l : List (Option jc_V)} (h : jc_okl live l) {i : Nat} {v : jc_V} (hv : l[i]? = some (some v)) : jc_ok live v := h v (List.mem_of_getElem? hv)
theorem jc_okl_set {live : jc_L → Prop} {l : List (Option jc_V)} (h : jc_okl live l) {i : Nat} {v : jc_V} (hv : jc_ok live v) : jc_okl live (l.set i (some v)) := fun w hw => by
  rcases List.mem_or_eq_of_mem_set hw with h1 | h1
  · exact h w h1
  · cases h1; exact hv
theorem jc_ok_i {live : jc_L → Prop} {x : Int32} : jc_ok live (.inl x) := fun q h => by cases h
theorem jc_ok_n {live : jc_L → Prop} : jc_ok live (.inr none) := fun q h => by cases h
theorem jc_ok_r {live : jc_L → Prop} {q : jc_L} (h : live q) : jc_ok live (.inr (some q)) := fun q' h' => by cases h'; exact h
theorem jc_oks_cons {live : jc_L → Prop} {v : jc_V} {l : List jc_V} (h : jc_ok live v) (hl : jc_oks live l) : jc_oks live (v :: l) := fun w hw => by
  rcases List.mem_cons.mp hw with rfl | h1
  · exact h
  · exact hl w h1
theorem jc_oks_hd {live : jc_L → Prop} {v : jc_V} {l : List jc_V} (h : jc_oks live (v :: l)) : jc_ok live v := h v List.mem_cons_self
theorem jc_oks_tl {live : jc_L → Prop} {v : jc_V} {l : List jc_V} (h : jc_oks live (v :: l)) : jc_oks live l := fun w hw => h w (List.mem_cons_of_mem _ hw)
end JCL
section JCR
variable {y : jc_Y} {pc : Nat} {ls : List (Option jc_V)} {st : List jc_V} {I : jc_I} {O : jc_O} {live : jc_L → Prop} {nc ns : Nat} {Z : jc_Z}
/-- an instruction that changes stack and place alone -/
theorem jr_go {pc' : Nat} {st1 st2 : List jc_V} (ho : jc_oks live st1 → jc_okl live ls → jc_oks live st2)
    (hw : ∀ (p : Program) (l : Launch) (e : Env) (R : Room) (s : State) (m : MethodId) (args : Array Value) (below : List Frame) (meth : Method) (c : Code) (H : Heap) (locs : List Loc) (α : jc_L → Nat) (la : Array Slot) (Q : State → Prop), p.tables.exec = Jvm.exec → c.code = y.2.1 → lv_has la y.2.2.1 (jc_lp α ls) →
      W p l e R s m args below meth c H locs nc ns Q (F0 m pc' la (st2.map (jc_rz α))) → W p l e R s m args below meth c H locs nc ns Q (F0 m pc la (st1.map (jc_rz α))))
    (h : jc_R y pc' ls st2 I O live nc ns Z) : jc_R y pc ls st1 I O live nc ns Z := by
  intro s0 G p l e R s m args below meth c H locs α la Q hC hc hs hR hS hk hkl hl hn K
  exact hw p l e R s m args below meth c H locs α la Q hC.2.2.1 hC.2.2.2.1 hl (h s0 G p l e R s m args below meth c H locs α la Q hC hc hs hR hS (ho hk hkl) hkl hl hn K)
/-- a branch -/
theorem jr_br {a b : Nat} {P1 P2 : Prop} {st1 st2 : List jc_V} (ho : jc_oks live st1 → jc_oks live st2)
    (hw : ∀ (p : Program) (l : Launch) (e : Env) (R : Room) (s : State) (m : MethodId) (args : Array Value) (below : List Frame) (meth : Method) (c : Code) (H : Heap) (locs : List Loc) (α : jc_L → Nat) (la : Array Slot) (Q : State → Prop), p.tables.exec = Jvm.exec → c.code = y.2.1 →
      (P1 → W p l e R s m args below meth c H locs nc ns Q (F0 m a la (st2.map (jc_rz α)))) → (P2 → W p l e R s m args below meth c H locs nc ns Q (F0 m b la (st2.map (jc_rz α)))) → W p l e R s m args below meth c H locs nc ns Q (F0 m pc la (st1.map (jc_rz α))))
    (h1 : P1 → jc_R y a ls st2 I O live nc ns Z) (h2 : P2 → jc_R y b ls st2 I O live nc ns Z) : jc_R y pc ls st1 I O live nc ns Z := by
  intro s0 G p l e R s m args below meth c H locs α la Q hC hc hs hR hS hk hkl hl hn K
  exact hw p l e R s m args below meth c H locs α la Q hC.2.2.1 hC.2.2.2.1 (fun q => h1 q s0 G p l e R s m args below meth c H locs α la Q hC hc hs hR hS (ho hk) hkl hl hn K) (fun q => h2 q s0 G p l e R s m args below meth c H locs α la Q hC hc hs hR hS (ho hk) hkl hl hn K)
/-- a store into a local -/
theorem jr_sto {pc' i : Nat} {v : jc_V} (hi : i < ls.length)
    (hw : ∀ (p : Program) (l : Launch) (e : Env) (R : Room) (s : State) (m : MethodId) (args : Array Value) (below : List Frame) (meth : Method) (c : Code) (H : Heap) (locs : List Loc) (α : jc_L → Nat) (la : Array Slot) (Q : State → Prop), p.tables.exec = Jvm.exec → c.code = y.2.1 → i < y.2.2.1 → lv_has la y.2.2.1 (jc_lp α ls) →
      (∀ la' : Array Slot, lv_has la' y.2.2.1 ((i, jc_rz α v) :: (jc_lp α ls).filter (fun q => !(q.1 == i) && !(q.1 + 1 == i && q.2.category == 2))) → W p l e R s m args below meth c H locs nc ns Q (F0 m pc' la' (st.map (jc_rz α)))) → W p l e R s m args below meth c H locs nc ns Q (F0 m pc la ((v :: st).map (jc_rz α))))
    (h : jc_R y pc' (ls.set i (some v)) st I O live nc ns Z) : jc_R y pc ls (v :: st) I O live nc ns Z := by
  intro s0 G p l e R s m args below meth c H locs α la Q hC hc hs hR hS hk hkl hl hn K
  refine hw p l e R s m args below meth c H locs α la Q hC.2.2.1 hC.2.2.2.1 (hn ▸ hi) hl (fun la' hl' => ?_)
  exact h s0 G p l e R s m args below meth c H locs α la' Q hC hc hs hR hS (jc_oks_tl hk) (jc_okl_set hkl (jc_oks_hd hk)) (jc_lset hi hl') (by rw [List.length_set]; exact hn) K

theorem jr_iconst {n : Int} {v : Int32} (hd : decode y.2.1 pc = .ok (.iconst n, 1)) (hv : Int32.ofInt n = v) (h : jc_R y (pc + 1) ls (.inl v :: st) I O live nc ns Z) : jc_R y pc ls st I O live nc ns Z :=
  jr_go (fun h _ => jc_oks_cons jc_ok_i h) (fun p l e R s m args below meth c H locs α la Q hx hb hl k => lv_iconst hx hb hd hv k) h

theorem jr_bipush {n : Int} {v : Int32} (hd : decode y.2.1 pc = .ok (.bipush n, 2)) (hv : (Int8.ofInt n).toInt32 = v) (h : jc_R y (pc + 2) ls (.inl v :: st) I O live nc ns Z) : jc_R y pc ls st I O live nc ns Z :=
  jr_go (fun h _ => jc_oks_cons jc_ok_i h) (fun p l e R s m args below meth c H locs α la Q hx hb hl k => lv_bipush hx hb hd hv k) h

theorem jr_sipush {n : Int} {v : Int32} (hd : decode y.2.1 pc = .ok (.sipush n, 3)) (hv : (Int16.ofInt n).toInt32 = v) (h : jc_R y (pc + 3) ls (.inl v :: st) I O live nc ns Z) : jc_R y pc ls st I O live nc ns Z :=
  jr_go (fun h _ => jc_oks_cons jc_ok_i h) (fun p l e R s m args below meth c H locs α la Q hx hb hl k => lv_sipush hx hb hd hv k) h

theorem jr_null (hd : decode y.2.1 pc = .ok (.aconst_null, 1)) (h : jc_R y (pc + 1) ls (.inr none :: st) I O live nc ns Z) : jc_R y pc ls st I O live nc ns Z :=
  jr_go (fun h _ => jc_oks_cons jc_ok_n h) (fun p l e R s m args below meth c H locs α la Q hx hb hl k => lv_null hx hb hd k) h
theorem jr_iload_n {k : Fin 4} {i : Nat} {x : Int32} (hd : decode y.2.1 pc = .ok (.iload_n k, 1)) (hi : (k : Nat) = i) (hv : ls[i]? = some (some (.inl x))) (h : jc_R y (pc + 1) ls (.inl x :: st) I O live nc ns Z) : jc_R y pc ls st I O live nc ns Z :=
  jr_go (fun h _ => jc_oks_cons jc_ok_i h) (fun p l e R s m args below meth c H locs α la Q hx hb hl k => lv_iload_n hx hb hd hi (jc_lget hl hv) k) h
theorem jr_iload {i : Nat} {x : Int32} (hd : decode y.2.1 pc = .ok (.iload i, 2)) (hv : ls[i]? = some (some (.inl x))) (h : jc_R y (pc + 2) ls (.inl x :: st) I O live nc ns Z) : jc_R y pc ls st I O live nc ns Z :=
  jr_go (fun h _ => jc_oks_cons jc_ok_i h) (fun p l e R s m args below meth c H locs α la Q hx hb hl k => lv_iload hx hb hd (jc_lget hl hv) k) h
theorem jr_aload_n {k : Fin 4} {i : Nat} {o : Option jc_L} (hd : decode y.2.1 pc = .ok (.aload_n k, 1)) (hi : (k : Nat) = i) (hv : ls[i]? = some (some (.inr o))) (h : jc_R y (pc + 1) ls (.inr o :: st) I O live nc ns Z) : jc_R y pc ls st I O live nc ns Z :=
  jr_go (fun h hk => jc_oks_cons (jc_okl_get hk hv) h) (fun p l e R s m args below meth c H locs α la Q hx hb hl k => by
    cases o with
    | none => exact lv_aload_nN hx hb hd hi (jc_lget hl hv) k
    | some q => exact lv_aload_n hx hb hd hi (jc_lget hl hv) k) h
theorem jr_aload {i : Nat} {o : Option jc_L} (hd : decode y.2.1 pc = .ok (.aload i, 2)) (hv : ls[i]? = some (some (.inr o))) (h : jc_R y (pc + 2) ls (.inr o :: st) I O live nc ns Z) : jc_R y pc ls st I O live nc ns Z :=
  jr_go (fun h hk => jc_oks_cons (jc_okl_get hk hv) h) (fun p l e R s m args below meth c H locs α la Q hx hb hl k => by
    cases o with
    | none => exact lv_aloadN hx hb hd (jc_lget hl hv) k
    | some q => exact lv_aload hx hb hd (jc_lget hl hv) k) h
theorem jr_istore_n {k : Fin 4} {i : Nat} {x : Int32} (hd : decode y.2.1 pc = .ok (.istore_n k, 1)) (hi : (k : Nat) = i) (hn : i < ls.length) (h : jc_R y (pc + 1) (ls.set i (some (.inl x))) st I O live nc ns Z) : jc_R y pc ls (.inl x :: st) I O live nc ns Z :=
  jr_sto hn (fun p l e R s m args below meth c H locs α la Q hx hb hlt hl k => lv_istore_n hx hb hd hi hl hlt rfl k) h
theorem jr_istore {i : Nat} {x : Int32} (hd : decode y.2.1 pc = .ok (.istore i, 2)) (hn : i < ls.length) (h : jc_R y (pc + 2) (ls.set i (some (.inl x))) st I O live nc ns Z) : jc_R y pc ls (.inl x :: st) I O live nc ns Z :=
  jr_sto hn (fun p l e R s m args below meth c H locs α la Q hx hb hlt hl k => lv_istore hx hb hd hl hlt rfl k) h
theorem jr_astore_n {k : Fin 4} {i : Nat} {o : Option jc_L} (hd : decode y.2.1 pc = .ok (.astore_n k, 1)) (hi : (k : Nat) = i) (hn : i < ls.length) (h : jc_R y (pc + 1) (ls.set i (some (.inr o))) st I O live nc ns Z) : jc_R y pc ls (.inr o :: st) I O live nc ns Z :=
  jr_sto hn (fun p l e R s m args below meth c H locs α la Q hx hb hlt hl k => by
    cases o with
    | none => exact lv_astore_nN hx hb hd hi hl hlt rfl k
    | some q => exact lv_astore_n hx hb hd hi hl hlt rfl k) h
theorem jr_astore {i : Nat} {o : Option jc_L} (hd : decode y.2.1 pc = .ok (.astore i, 2)) (hn : i < ls.length) (h : jc_R y (pc + 2) (ls.set i (some (.inr o))) st I O live nc ns Z) : jc_R y pc ls (.inr o :: st) I O live nc ns Z :=
  jr_sto hn (fun p l e R s m args below meth c H locs α la Q hx hb hlt hl k => by
    cases o with
    | none => exact lv_astoreN hx hb hd hl hlt rfl k
    | some q => exact lv_astore hx hb hd hl hlt rfl k) h
theorem jr_iinc {i : Nat} {n : Int} {x v : Int32} (hd : decode y.2.1 pc = .ok (.iinc i n, 3)) (hx0 : ls[i]? = some (some (.inl x))) (hv : x + Int32.ofInt n = v) (h : jc_R y (pc + 3) (ls.set i (some (.inl v))) st I O live nc ns Z) : jc_R y pc ls st I O live nc ns Z := by
  intro s0 G p l e R s m args below meth c H locs α la Q hC hc hs hR hS hk hkl hl hn K
  have hi : i < ls.length := (List.getElem?_eq_some_iff.mp hx0).1
  obtain ⟨k, hk2⟩ := List.getElem?_of_mem (jc_lp_mem (α := α).mpr ⟨_, hx0, rfl⟩)
  refine lv_iinc (v := v) hC.2.2.1 hC.2.2.2.1 hd hl hk2 hv (hn ▸ hi) rfl (fun la' hl' => ?_)
  exact h s0 G p l e R s m args below meth c H locs α la' Q hC hc hs hR hS hk (jc_okl_set hkl jc_ok_i) (jc_lset (v := .inl v) hi hl') (by rw [List.length_set]; exact hn) K

theorem jr_iadd {x z : Int32} (hd : decode y.2.1 pc = .ok (.iadd, 1)) (h : jc_R y (pc + 1) ls (.inl (x + z) :: st) I O live nc ns Z) : jc_R y pc ls (.inl z :: .inl x :: st) I O live nc ns Z :=
  jr_go (fun h _ => jc_oks_cons jc_ok_i (jc_oks_tl (jc_oks_tl h))) (fun p l e R s m args below meth c H locs α la Q hx hb hl k => lv_iadd hx hb hd k) h

theorem jr_isub {x z : Int32} (hd : decode y.2.1 pc = .ok (.isub, 1)) (h : jc_R y (pc + 1) ls (.inl (x - z) :: st) I O live nc ns Z) : jc_R y pc ls (.inl z :: .inl x :: st) I O live nc ns Z :=
  jr_go (fun h _ => jc_oks_cons jc_ok_i (jc_oks_tl (jc_oks_tl h))) (fun p l e R s m args below meth c H locs α la Q hx hb hl k => lv_isub hx hb hd k) h

theorem jr_imul {x z : Int32} (hd : decode y.2.1 pc = .ok (.imul, 1)) (h : jc_R y (pc + 1) ls (.inl (x * z) :: st) I O live nc ns Z) : jc_R y pc ls (.inl z :: .inl x :: st) I O live nc ns Z :=
  jr_go (fun h _ => jc_oks_cons jc_ok_i (jc_oks_tl (jc_oks_tl h))) (fun p l e R s m args below meth c H locs α la Q hx hb hl k => lv_imul hx hb hd k) h

theorem jr_iand {x z : Int32} (hd : decode y.2.1 pc = .ok (.iand, 1)) (h : jc_R y (pc + 1) ls (.inl (x &&& z) :: st) I O live nc ns Z) : jc_R y pc ls (.inl z :: .inl x :: st) I O live nc ns Z :=
  jr_go (fun h _ => jc_oks_cons jc_ok_i (jc_oks_tl (jc_oks_tl h))) (fun p l e R s m args below meth c H locs α la Q hx hb hl k => lv_iand hx hb hd k) h

theorem jr_ior {x z : Int32} (hd : decode y.2.1 pc = .ok (.ior, 1)) (h : jc_R y (pc + 1) ls (.inl (x ||| z) :: st) I O live nc ns Z) : jc_R y pc ls (.inl z :: .inl x :: st) I O live nc ns Z :=
  jr_go (fun h _ => jc_oks_cons jc_ok_i (jc_oks_tl (jc_oks_tl h))) (fun p l e R s m args below meth c H locs α la Q hx hb hl k => lv_ior hx hb hd k) h

theorem jr_ixor {x z : Int32} (hd : decode y.2.1 pc = .ok (.ixor, 1)) (h : jc_R y (pc + 1) ls (.inl (x ^^^ z) :: st) I O live nc ns Z) : jc_R y pc ls (.inl z :: .inl x :: st) I O live nc ns Z :=
  jr_go (fun h _ => jc_oks_cons jc_ok_i (jc_oks_tl (jc_oks_tl h))) (fun p l e R s m args below meth c H locs α la Q hx hb hl k => lv_ixor hx hb hd k) h

theorem jr_idiv {x z : Int32} (hd : decode y.2.1 pc = .ok (.idiv, 1)) (hne : ¬ z = 0) (h : jc_R y (pc + 1) ls (.inl (x / z) :: st) I O live nc ns Z) : jc_R y pc ls (.inl z :: .inl x :: st) I O live nc ns Z :=
  jr_go (fun h _ => jc_oks_cons jc_ok_i (jc_oks_tl (jc_oks_tl h))) (fun p l e R s m args below meth c H locs α la Q hx hb hl k => lv_idiv hx hb hd hne k) h

theorem jr_ineg {x : Int32} (hd : decode y.2.1 pc = .ok (.ineg, 1)) (h : jc_R y (pc + 1) ls (.inl (-x) :: st) I O live nc ns Z) : jc_R y pc ls (.inl x :: st) I O live nc ns Z :=
  jr_go (fun h _ => jc_oks_cons jc_ok_i (jc_oks_tl h)) (fun p l e R s m args below meth c H locs α la Q hx hb hl k => lv_ineg hx hb hd k) h
theorem jr_dup {v : jc_V} (hd : decode y.2.1 pc = .ok (.dup, 1)) (h : jc_R y (pc + 1) ls (v :: v :: st) I O live nc ns Z) : jc_R y pc ls (v :: st) I O live nc ns Z :=
  jr_go (fun h _ => jc_oks_cons (jc_oks_hd h) h) (fun p l e R s m args below meth c H locs α la Q hx hb hl k => lv_dup hx hb hd (jc_rz_cat _ _) k) h
theorem jr_pop {v : jc_V} (hd : decode y.2.1 pc = .ok (.pop, 1)) (h : jc_R y (pc + 1) ls st I O live nc ns Z) : jc_R y pc ls (v :: st) I O live nc ns Z :=
  jr_go (fun h _ => jc_oks_tl h) (fun p l e R s m args below meth c H locs α la Q hx hb hl k => lv_pop hx hb hd (jc_rz_cat _ _) k) h
theorem jr_dup_x1 {v w : jc_V} (hd : decode y.2.1 pc = .ok (.dup_x1, 1)) (h : jc_R y (pc + 1) ls (v :: w :: v :: st) I O live nc ns Z) : jc_R y pc ls (v :: w :: st) I O live nc ns Z :=
  jr_go (fun h _ => jc_oks_cons (jc_oks_hd h) (jc_oks_cons (jc_oks_hd (jc_oks_tl h)) (jc_oks_cons (jc_oks_hd h) (jc_oks_tl (jc_oks_tl h))))) (fun p l e R s m args below meth c H locs α la Q hx hb hl k => lv_dup_x1 hx hb hd (jc_rz_cat _ _) (jc_rz_cat _ _) k) h
theorem jr_dup_x2 {v w u : jc_V} (hd : decode y.2.1 pc = .ok (.dup_x2, 1)) (h : jc_R y (pc + 1) ls (v :: w :: u :: v :: st) I O live nc ns Z) : jc_R y pc ls (v :: w :: u :: st) I O live nc ns Z :=
  jr_go (fun h _ => jc_oks_cons (jc_oks_hd h) (jc_oks_cons (jc_oks_hd (jc_oks_tl h)) (jc_oks_cons (jc_oks_hd (jc_oks_tl (jc_oks_tl h))) (jc_oks_cons (jc_oks_hd h) (jc_oks_tl (jc_oks_tl (jc_oks_tl h))))))) (fun p l e R s m args below meth c H locs α la Q hx hb hl k => lv_dup_x2 hx hb hd (jc_rz_cat _ _) (jc_rz_cat _ _) (jc_rz_cat _ _) k) h
theorem jr_dup2 {v w : jc_V} (hd : decode y.2.1 pc = .ok (.dup2, 1)) (h : jc_R y (pc + 1) ls (v :: w :: v :: w :: st) I O live nc ns Z) : jc_R y pc ls (v :: w :: st) I O live nc ns Z :=
  jr_go (fun h _ => jc_oks_cons (jc_oks_hd h) (jc_oks_cons (jc_oks_hd (jc_oks_tl h)) h)) (fun p l e R s m args below meth c H locs α la Q hx hb hl k => lv_dup2_11 hx hb hd (jc_rz_cat _ _) (jc_rz_cat _ _) k) h
theorem jr_goto {off : Int} {tgt : Nat} (hd : decode y.2.1 pc = .ok (.goto off, 3)) (ht : (pc : Int) + off = (tgt : Int)) (h : jc_R y tgt ls st I O live nc ns Z) : jc_R y pc ls st I O live nc ns Z :=
  jr_go (fun h _ => h) (fun p l e R s m args below meth c H locs α la Q hx hb hl k => lv_goto hx hb hd ht k) h

theorem jr_if_eq {x : Int32} {off : Int} {tgt : Nat} (hd : decode y.2.1 pc = .ok (.ifCond .eq off, 3)) (ht : (pc : Int) + off = (tgt : Int)) (h1 : x = 0 → jc_R y tgt ls st I O live nc ns Z) (h2 : ¬ x = 0 → jc_R y (pc + 3) ls st I O live nc ns Z) : jc_R y pc ls (.inl x :: st) I O live nc ns Z :=
  jr_br jc_oks_tl (fun p l e R s m args below meth c H locs α la Q hx hb k1 k2 => lv_if_eq hx hb hd ht k1 k2) h1 h2
theorem jr_icmp_eq {x z : Int32} {off : Int} {tgt : Nat} (hd : decode y.2.1 pc = .ok (.if_icmp .eq off, 3)) (ht : (pc : Int) + off = (tgt : Int)) (h1 : x = z → jc_R y tgt ls st I O live nc ns Z) (h2 : ¬ x = z → jc_R y (pc + 3) ls st I O live nc ns Z) : jc_R y pc ls (.inl z :: .inl x :: st) I O live nc ns Z :=
  jr_br (fun h => jc_oks_tl (jc_oks_tl h)) (fun p l e R s m args below meth c H locs α la Q hx hb k1 k2 => lv_icmp_eq hx hb hd ht k1 k2) h1 h2

theorem jr_if_ne {x : Int32} {off : Int} {tgt : Nat} (hd : decode y.2.1 pc = .ok (.ifCond .ne off, 3)) (ht : (pc : Int) + off = (tgt : Int)) (h1 : ¬ x = 0 → jc_R y tgt ls st I O live nc ns Z) (h2 : x = 0 → jc_R y (pc + 3) ls st I O live nc ns Z) : jc_R y pc ls (.inl x :: st) I O live nc ns Z :=
  jr_br jc_oks_tl (fun p l e R s m args below meth c H locs α la Q hx hb k1 k2 => lv_if_ne hx hb hd ht k1 k2) h1 h2
theorem jr_icmp_ne {x z : Int32} {off : Int} {tgt : Nat} (hd : decode y.2.1 pc = .ok (.if_icmp .ne off, 3)) (ht : (pc : Int) + off = (tgt : Int)) (h1 : ¬ x = z → jc_R y tgt ls st I O live nc ns Z) (h2 : x = z → jc_R y (pc + 3) ls st I O live nc ns Z) : jc_R y pc ls (.inl z :: .inl x :: st) I O live nc ns Z :=
  jr_br (fun h => jc_oks_tl (jc_oks_tl h)) (fun p l e R s m args below meth c H locs α la Q hx hb k1 k2 => lv_icmp_ne hx hb hd ht k1 k2) h1 h2

theorem jr_if_lt {x : Int32} {off : Int} {tgt : Nat} (hd : decode y.2.1 pc = .ok (.ifCond .lt off, 3)) (ht : (pc : Int) + off = (tgt : Int)) (h1 : x < 0 → jc_R y tgt ls st I O live nc ns Z) (h2 : ¬ x < 0 → jc_R y (pc + 3) ls st I O live nc ns Z) : jc_R y pc ls (.inl x :: st) I O live nc ns Z :=
  jr_br jc_oks_tl (fun p l e R s m args below meth c H locs α la Q hx hb k1 k2 => lv_if_lt hx hb hd ht k1 k2) h1 h2
theorem jr_icmp_lt {x z : Int32} {off : Int} {tgt : Nat} (hd : decode y.2.1 pc = .ok (.if_icmp .lt off, 3)) (ht : (pc : Int) + off = (tgt : Int)) (h1 : x < z → jc_R y tgt ls st I O live nc ns Z) (h2 : ¬ x < z → jc_R y (pc + 3) ls st I O live nc ns Z) : jc_R y pc ls (.inl z :: .inl x :: st) I O live nc ns Z :=
  jr_br (fun h => jc_oks_tl (jc_oks_tl h)) (fun p l e R s m args below meth c H locs α la Q hx hb k1 k2 => lv_icmp_lt hx hb hd ht k1 k2) h1 h2

theorem jr_if_ge {x : Int32} {off : Int} {tgt : Nat} (hd : decode y.2.1 pc = .ok (.ifCond .ge off, 3)) (ht : (pc : Int) + off = (tgt : Int)) (h1 : 0 ≤ x → jc_R y tgt ls st I O live nc ns Z) (h2 : ¬ 0 ≤ x → jc_R y (pc + 3) ls st I O live nc ns Z) : jc_R y pc ls (.inl x :: st) I O live nc ns Z :=
  jr_br jc_oks_tl (fun p l e R s m args below meth c H locs α la Q hx hb k1 k2 => lv_if_ge hx hb hd ht k1 k2) h1 h2
theorem jr_icmp_ge {x z : Int32} {off : Int} {tgt : Nat} (hd : decode y.2.1 pc = .ok (.if_icmp .ge off, 3)) (ht : (pc : Int) + off = (tgt : Int)) (h1 : z ≤ x → jc_R y tgt ls st I O live nc ns Z) (h2 : ¬ z ≤ x → jc_R y (pc + 3) ls st I O live nc ns Z) : jc_R y pc ls (.inl z :: .inl x :: st) I O live nc ns Z :=
  jr_br (fun h => jc_oks_tl (jc_oks_tl h)) (fun p l e R s m args below meth c H locs α la Q hx hb k1 k2 => lv_icmp_ge hx hb hd ht k1 k2) h1 h2

theorem jr_if_gt {x : Int32} {off : Int} {tgt : Nat} (hd : decode y.2.1 pc = .ok (.ifCond .gt off, 3)) (ht : (pc : Int) + off = (tgt : Int)) (h1 : 0 < x → jc_R y tgt ls st I O live nc ns Z) (h2 : ¬ 0 < x → jc_R y (pc + 3) ls st I O live nc ns Z) : jc_R y pc ls (.inl x :: st) I O live nc ns Z :=
  jr_br jc_oks_tl (fun p l e R s m args below meth c H locs α la Q hx hb k1 k2 => lv_if_gt hx hb hd ht k1 k2) h1 h2
theorem jr_icmp_gt {x z : Int32} {off : Int} {tgt : Nat} (hd : decode y.2.1 pc = .ok (.if_icmp .gt off, 3)) (ht : (pc : Int) + off = (tgt : Int)) (h1 : z < x → jc_R y tgt ls st I O live nc ns Z) (h2 : ¬ z < x → jc_R y (pc + 3) ls st I O live nc ns Z) : jc_R y pc ls (.inl z :: .inl x :: st) I O live nc ns Z :=
  jr_br (fun h => jc_oks_tl (jc_oks_tl h)) (fun p l e R s m args below meth c H locs α la Q hx hb k1 k2 => lv_icmp_gt hx hb hd ht k1 k2) h1 h2

theorem jr_if_le {x : Int32} {off : Int} {tgt : Nat} (hd : decode y.2.1 pc = .ok (.ifCond .le off, 3)) (ht : (pc : Int) + off = (tgt : Int)) (h1 : x ≤ 0 → jc_R y tgt ls st I O live nc ns Z) (h2 : ¬ x ≤ 0 → jc_R y (pc + 3) ls st I O live nc ns Z) : jc_R y pc ls (.inl x :: st) I O live nc ns Z :=
  jr_br jc_oks_tl (fun p l e R s m args below meth c H locs α la Q hx hb k1 k2 => lv_if_le hx hb hd ht k1 k2) h1 h2
theorem jr_icmp_le {x z : Int32} {off : Int} {tgt : Nat} (hd : decode y.2.1 pc = .ok (.if_icmp .le off, 3)) (ht : (pc : Int) + off = (tgt : Int)) (h1 : x ≤ z → jc_R y tgt ls st I O live nc ns Z) (h2 : ¬ x ≤ z → jc_R y (pc + 3) ls st I O live nc ns Z) : jc_R y pc ls (.inl z :: .inl x :: st) I O live nc ns Z :=
  jr_br (fun h => jc_oks_tl (jc_oks_tl h)) (fun p l e R s m args below meth c H locs α la Q hx hb k1 k2 => lv_icmp_le hx hb hd ht k1 k2) h1 h2

theorem jr_ifnull {o : Option jc_L} {off : Int} {tgt : Nat} (hd : decode y.2.1 pc = .ok (.ifnull off, 3)) (ht : (pc : Int) + off = (tgt : Int)) (h1 : o = none → jc_R y tgt ls st I O live nc ns Z) (h2 : ∀ q, o = some q → jc_R y (pc + 3) ls st I O live nc ns Z) : jc_R y pc ls (.inr o :: st) I O live nc ns Z := by
  cases o with
  | none => exact jr_go (fun h _ => jc_oks_tl h) (fun p l e R s m args below meth c H locs α la Q hx hb hl k => lv_ifnullN hx hb hd ht k) (h1 rfl)
  | some q => exact jr_go (fun h _ => jc_oks_tl h) (fun p l e R s m args below meth c H locs α la Q hx hb hl k => lv_ifnull hx hb hd k) (h2 q rfl)
theorem jr_ifnonnull {o : Option jc_L} {off : Int} {tgt : Nat} (hd : decode y.2.1 pc = .ok (.ifnonnull off, 3)) (ht : (pc : Int) + off = (tgt : Int)) (h1 : ∀ q, o = some q → jc_R y tgt ls st I O live nc ns Z) (h2 : o = none → jc_R y (pc + 3) ls st I O live nc ns Z) : jc_R y pc ls (.inr o :: st) I O live nc ns Z := by
  cases o with
  | none => exact jr_go (fun h _ => jc_oks_tl h) (fun p l e R s m args below meth c H locs α la Q hx hb hl k => lv_ifnonnullN hx hb hd k) (h2 rfl)
  | some q => exact jr_go (fun h _ => jc_oks_tl h) (fun p l e R s m args below meth c H locs α la Q hx hb hl k => lv_ifnonnull hx hb hd ht k) (h1 q rfl)
theorem jr_tableOut {dflt lo hi : Int} {offs : Array Int} {len : Nat} {x : Int32} {tgt : Nat} (hd : decode y.2.1 pc = .ok (.tableswitch dflt lo hi offs, len)) (hx0 : x.toInt < lo ∨ hi < x.toInt) (ht : (pc : Int) + dflt = (tgt : Int)) (h : jc_R y tgt ls st I O live nc ns Z) : jc_R y pc ls (.inl x :: st) I O live nc ns Z :=
  jr_go (fun h _ => jc_oks_tl h) (fun p l e R s m args below meth c H locs α la Q hx hb hl k => lv_tableOut hx hb hd hx0 ht k) h
theorem jr_tableIn {dflt lo hi : Int} {offs : Array Int} {len : Nat} {x : Int32} {off : Int} {tgt : Nat} (hd : decode y.2.1 pc = .ok (.tableswitch dflt lo hi offs, len)) (h1 : ¬ x.toInt < lo) (h2 : ¬ hi < x.toInt) (ho : offs[(x.toInt - lo).toNat]? = some off) (ht : (pc : Int) + off = (tgt : Int)) (h : jc_R y tgt ls st I O live nc ns Z) : jc_R y pc ls (.inl x :: st) I O live nc ns Z :=
  jr_go (fun h _ => jc_oks_tl h) (fun p l e R s m args below meth c H locs α la Q hx hb hl k => lv_tableIn hx hb hd h1 h2 ho ht k) h
theorem jr_lookup {dflt : Int} {ps : Array (Int × Int)} {len : Nat} {x : Int32} {off : Int} {tgt : Nat} (hd : decode y.2.1 pc = .ok (.lookupswitch dflt ps, len)) (hp : (ps.toList.zip (ps.toList.drop 1)).all (fun (a, next) => a.1 < next.1) = true) (ho : Op.lookupswitch.offset ps.toList dflt x.toInt = off) (ht : (pc : Int) + off = (tgt : Int)) (h : jc_R y tgt ls st I O live nc ns Z) : jc_R y pc ls (.inl x :: st) I O live nc ns Z :=
  jr_go (fun h _ => jc_oks_tl h) (fun p l e R s m args below meth c H locs α la Q hx hb hl k => lv_lookup hx hb hd hp ho ht k) h
theorem jr_ishr {x z : Int32} (hd : decode y.2.1 pc = .ok (.ishr, 1)) (h : jc_R y (pc + 1) ls (.inl (x >>> (z &&& 31)) :: st) I O live nc ns Z) : jc_R y pc ls (.inl z :: .inl x :: st) I O live nc ns Z :=
  jr_go (fun h _ => jc_oks_cons jc_ok_i (jc_oks_tl (jc_oks_tl h))) (fun p l e R s m args below meth c H locs α la Q hx hb hl k => lv_ishr hx hb hd k) h
/-- a return -/
theorem jr_ret {v : Option jc_V} {ls : List (Option jc_V)} {mc ms : Nat} (hd : decode y.2.1 pc = .ok (jc_rins v, 1)) (h1 : nc ≤ mc) (h2 : ns ≤ ms) (hz : Z = (v, I, O, live, mc, ms)) : jc_R y pc ls v.toList I O live nc ns Z := by
  subst hz
  intro s0 G p l e R s m args below meth c H locs α la Q hC hc hs hR hS hk hkl hl hn K
  refine W.widen h1 h2 ?_
  exact K α H locs la pc hR hS (fun _ _ => rfl) (fun w hw => hk w (by cases hw; exact List.mem_singleton.mpr rfl)) hd
end JCR
