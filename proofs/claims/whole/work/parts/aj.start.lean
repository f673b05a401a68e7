def R_law : String := "JudgedCodesLaw"
def lw_P (b : Addr) (xs : List Int32) (args : Array Value) (s : State) : Prop := args = #[.ref b] ∧ s.IntsAt b xs ∧ xs.length ≤ 2560 ∧ (Jvm.Cond.and given_1 narrow_1).before args s = true
def lw_Q (_ : Array Value) (s : State) (o : Outcome) (t : State) : Prop := o = .returned (some (.int 1)) ∧ Framed s o t [] 600000 7302250
def lw_Z (below : List Frame) (a : Array Value) (s : State) : State → Prop := fun t => ∃ o, t.status = .running ∧ Ended t below o ∧ lw_Q a s o t
/-- the law's own end, with 1 on the stack, nothing written that was there before, its room as the claim has it -/
theorem lw_ret {p : Program} {l : Launch} {e : Env} {s : State} {m : MethodId} {below : List Frame} {meth : Method} {c : Code} {b : Nat} (hx : p.tables.exec = Jvm.exec) (hb : c.code = code) (hr : meth.sig.returnType = ret) (hlocks : meth.locks = false) {pc : Nat} {H : Heap} {ls : Array Slot} (hdg : decode code pc = .ok (.ireturn, 1)) : W p l e room_1 s m #[Value.ref b] below meth c H [] 600000 7302250 (lw_Z below #[Value.ref b] s) (F0 m pc ls [.int 1]) := by
  intro T hT X
  obtain ⟨fs, hret, hrun, hended, hW, hframe⟩ := X.leave (v := some (.int 1)) (hlocks := hlocks) (fun h => by rw [hr] at h; cases h)
  have hmeth' : T.vm.method? m = some meth := X.method'
  refine ⟨T.setFrames fs, ?_, .returned (some (.int 1)), hrun, hended, rfl, ⟨_, rfl⟩, hW, hframe⟩
  jvm_step X.here [X.here.top, hx, hb, hdg, hmeth', hr, ret, narrow_b1]
  (try refine ⟨rfl, ?_⟩); (try refine ⟨rfl, ?_⟩)
  first | (intro acts; rw [hret _ acts rfl rfl rfl]) | rw [hret _ _ rfl rfl rfl]
  exact Steps.refl _
/-- what holds at the law's entry -/
def lw_At (p : Program) (s : State) (m : MethodId) (meth : Method) (c : Code) (b L : Nat) (xs : Nat → Int32) : Prop :=
  p.tables.exec = Jvm.exec ∧ c.code = code ∧ meth.sig.returnType = ret ∧ c.maxLocals = 4 ∧ s.vm.findClass R_law = some m.cls ∧ (∀ w ∈ lw_tbl, w.before #[Value.ref b] s = true) ∧ va_X b L xs s s.heap ∧ b < s.heap.size ∧ meth.locks = false ∧ (Jvm.Cond.and given_1 narrow_1).before #[Value.ref b] s = true
section
variable {s : State} {A : Array Value}
theorem sb_nw (hts : ∀ w ∈ lw_tbl, w.before A s = true) {own : String} {idx ci N : Nat} (h : jc_nw own idx ci N) {q : vw_C} (hq : classes[ci]? = some q) : ∃ D : ClassId × (Nat → Nat), u_Kn s q.1 q.2.1 q.2.2 D.1 D.2 := by
  obtain ⟨C, T, h1, -, h3, -, h5⟩ := h
  cases h1.symm.trans hq
  obtain ⟨cC, iS, hK⟩ := u_known hts h5.1 (hts _ h3)
  exact ⟨(cC, iS), hK⟩
theorem sb_cls (hts : ∀ w ∈ lw_tbl, w.before A s = true) : ∀ (c : Nat) (q : vw_C), classes[c]? = some q → ∃ D : ClassId × (Nat → Nat), u_Kn s q.1 q.2.1 q.2.2 D.1 D.2
  | 0, _, h => sb_nw hts n_L_7 h
  | 1, _, h => sb_nw hts n_J_7 h
  | 2, _, h => sb_nw hts n_J_16 h
  | 3, _, h => sb_nw hts n_J_25 h
  | 4, _, h => sb_nw hts n_J_32 h
  | 5, _, h => sb_nw hts n_C_21 h
  | 6, _, h => sb_nw hts n_Cs_9 h
  | 7, _, h => sb_nw hts n_H_9 h
  | 8, _, h => sb_nw hts n_S_9 h
  | 9, _, h => sb_nw hts n_M_9 h
  | 10, _, h => sb_nw hts n_L_10 h
  | 11, _, h => sb_nw hts n_m_37 h
  | 12, _, h => sb_nw hts n_mT_41 h
  | 13, _, h => sb_nw hts n_m_155 h
  | 14, _, h => sb_nw hts n_m_137 h
  | 15, _, h => sb_nw hts n_mT_9 h
  | _ + 16, _, h => by cases h
theorem sb_K (hts : ∀ w ∈ lw_tbl, w.before A s = true) : ∃ D : va_G, va_K D classes [] s := by
  have h : ∀ c : Nat, ∃ D : ClassId × (Nat → Nat), ∀ q : vw_C, classes[c]? = some q → u_Kn s q.1 q.2.1 q.2.2 D.1 D.2 := fun c => by
    cases hc : classes[c]? with
    | none => exact ⟨(0, fun _ => 0), fun q h => by cases h⟩
    | some r =>
      obtain ⟨D, hD⟩ := sb_cls hts c r hc
      exact ⟨D, fun q h => by cases h; exact hD⟩
  exact ⟨(fun c => (Classical.choose (h c)).1, fun c => (Classical.choose (h c)).2), fun c q hq => Classical.choose_spec (h c) q hq, fun k q hq => by cases hq⟩
theorem sb_ac (hts : ∀ w ∈ lw_tbl, w.before A s = true) {ty : FieldType} (h : Cond.arrayClass ty ∈ lw_tbl) (hi : ty = .int ∨ ty = .boolean) : ∃ cA, ArrOfT s cA ty ∧ va_RA s cA ty := by
  obtain ⟨cA, kA, comp, hf, hk, hkind⟩ := Cond.arrayClass_spec (hts _ h)
  refine ⟨cA, fun n z => ⟨(fun k h => by cases h), kA, hk, comp, hkind⟩, ?_⟩
  rcases hi with rfl | rfl <;> exact hf
theorem sb_ao (hts : ∀ w ∈ lw_tbl, w.before A s = true) {C : String} (h : Cond.arrayOver (.object C) ∈ lw_tbl) : ∃ cA, ArrOfT s cA (.object C) ∧ va_RA s cA (.object C) := by
  obtain ⟨comp, c, k, h1, h2, h3, h4, h5⟩ := Cond.arrayOver_spec (hts _ h)
  exact ⟨c, fun n z => ⟨(fun k h => by cases h), k, h3, comp, h4⟩, k, comp, h3, h4, h1, h5⟩
theorem sb_arr (hts : ∀ w ∈ lw_tbl, w.before A s = true) : ∀ (ti : Nat) (ty : FieldType), jc_tys[ti]? = some ty → ∃ cA, ArrOfT s cA ty ∧ va_RA s cA ty
  | 0, _, h => by cases h; exact sb_ac hts ac_int (Or.inl rfl)
  | 1, _, h => by cases h; exact sb_ac hts ac_boolean (Or.inr rfl)
  | 2, _, h => by cases h; exact sb_ao hts ao_R
  | 3, _, h => by cases h; exact sb_ao hts ao_C
  | 4, _, h => by cases h; exact sb_ao hts ao_T
  | 5, _, h => by cases h; exact sb_ao hts ao_F
  | 6, _, h => by cases h; exact sb_ao hts ao_S
  | 7, _, h => by cases h; exact sb_ao hts ao_oO
  | _ + 8, _, h => by cases h
theorem sb_A (hts : ∀ w ∈ lw_tbl, w.before A s = true) : ∃ F : Nat → ClassId, ∀ (ti : Nat) (ty : FieldType), jc_tys[ti]? = some ty → ArrOfT s (F ti) ty ∧ va_RA s (F ti) ty := by
  have h : ∀ ti : Nat, ∃ cA : ClassId, ∀ ty : FieldType, jc_tys[ti]? = some ty → ArrOfT s cA ty ∧ va_RA s cA ty := fun ti => by
    cases hc : jc_tys[ti]? with
    | none => exact ⟨0, fun q h => by cases h⟩
    | some r =>
      obtain ⟨D, hD⟩ := sb_arr hts ti r hc
      exact ⟨D, fun q h => by cases h; exact hD⟩
  exact ⟨fun ti => Classical.choose (h ti), fun ti ty hq => Classical.choose_spec (h ti) ty hq⟩
set_option maxRecDepth 4000 in
theorem sb_ls : Cond.laysStatic "java/util/ArrayList" "DEFAULTCAPACITY_EMPTY_ELEMENTDATA" "[Ljava/lang/Object;" ∈ lw_tbl := jt4 (i := 66) rfl
set_option maxRecDepth 4000 in
theorem sb_li : Cond.initialized "java/util/ArrayList" ∈ lw_tbl := jt1 (i := 9) rfl
end
theorem sb_len {args : Array Value} {s : State} {tm : Term} {t : Nat} {cell : Cell} {v : Value} (ht : tm.eval args s none [] s = some (.ref t)) (hat : s.arrayAt? t = some cell) (hlen : (Term.length tm).eval args s none [] s = some v) : cell.slots.size < 2 ^ 31 := by
  by_cases h : cell.slots.size < 2 ^ 31
  · exact h
  · simp only [Term.eval, ht, hat, Option.bind_eq_bind, Option.bind_some, if_neg h] at hlen
    cases hlen
theorem sb_all {s : State} {b L : Nat} {xs : Nat → Int32} (hts : ∀ w ∈ lw_tbl, w.before #[Value.ref b] s = true) (hX : va_X b L xs s s.heap) (hg : (Jvm.Cond.and given_1 narrow_1).before #[Value.ref b] s = true) : ∃ (G : jc_G) (α : jc_L → Nat), jc_Bs s G ∧ jc_Rep s G α (I0 xs) O0 (l0 L) s.heap ∧ α (96, L, 0) = b := by
  have hs := flat_of_before _ hg
  obtain ⟨D, hD⟩ := sb_K hts
  obtain ⟨F, hF⟩ := sb_A hts
  obtain ⟨mi, hmi⟩ := va_Mi.of (hs (Cond.isRef (.mirror "[Ljava/lang/Object;")) (by decide +kernel))
  have harr := hs (Cond.arrayOf (.static "java/util/ArrayList" "DEFAULTCAPACITY_EMPTY_ELEMENTDATA" "[Ljava/lang/Object;") (.object "java/lang/Object")) (by decide +kernel)
  have hlen := va_eqt (hs (Cond.eq (.length (.static "java/util/ArrayList" "DEFAULTCAPACITY_EMPTY_ELEMENTDATA" "[Ljava/lang/Object;")) (.int 0)) (by decide +kernel))
  obtain ⟨t, cell, ht, hat, hv⟩ := Term.length_spec hlen
  obtain ⟨hcell, hkn, -, -⟩ := State.arrayAt?_spec hat
  obtain ⟨hof, -⟩ := Cond.arrayOf_spec harr ht hcell
  have hsz : cell.slots.size = 0 := by
    have h := sb_len ht hat hlen
    injection hv with hv
    have h1 : (Int32.ofNat cell.slots.size).toInt = cell.slots.size := Int32.toInt_ofNat_of_lt h
    have h2 : Int32.ofNat cell.slots.size = 0 := hv.symm
    rw [h2, j0I] at h1
    omega
  have hZ : va_Z "java/util/ArrayList" "DEFAULTCAPACITY_EMPTY_ELEMENTDATA" "[Ljava/lang/Object;" (.ref t) (fun q => s.heap.size ≤ q) s s.heap := va_Zref (hts _ sb_ls) (hts _ sb_li) ht (fun a ha => by omega)
  obtain ⟨scr, x1, x2, x3, x4, x5⟩ := hX
  have hne : b ≠ t := fun e => by
    rw [e] at x1
    cases x1.symm.trans hcell
    obtain ⟨-, k1, g1, c1, e1⟩ := x2
    obtain ⟨-, k2, g2, c2, e2⟩ := hof
    cases g1.symm.trans g2
    have := e1.symm.trans e2
    cases this
  refine ⟨(D, F, mi, t), fun q => if q.1 = 96 then b else if q.1 = 97 then t else mi, ⟨⟨_, hts⟩, hD, hF, hmi, hZ⟩, ⟨fun q hq h8 => ?_, fun q q' hq hq' h8 h8' e => ?_, (fun q k q' _ h => by cases h), ⟨Or.inr (Or.inl rfl), rfl⟩, ⟨Or.inr (Or.inr rfl), rfl⟩, Nat.le_refl _, fun _ _ => rfl⟩, rfl⟩
  · rcases hq with rfl | rfl | rfl
    · exact ⟨⟨scr, x1, x2, x3, x4, x5⟩, (fun h => absurd h (Nat.lt_irrefl 96))⟩
    · exact ⟨⟨cell, hcell, hof, hsz⟩, fun h => absurd h (by decide)⟩
    · exact absurd rfl h8
  · rcases hq with rfl | rfl | rfl <;> rcases hq' with rfl | rfl | rfl
    · rfl
    · exact absurd e hne
    · exact absurd rfl h8'
    · exact absurd e.symm hne
    · rfl
    · exact absurd rfl h8'
    · exact absurd rfl h8
    · exact absurd rfl h8
    · exact absurd rfl h8
theorem whole_start {p : Program} {e : Env} {s : State} {m : MethodId} {below : List Frame} {meth : Method} {c : Code} (l : Launch) {b L : Nat} {xs : Nat → Int32} (hL : L ≤ 2560) (hnm : meth.name = "law") (C0 : lw_At p s m meth c b L xs) : W p l e room_1 s m #[Value.ref b] below meth c s.heap [] 0 0 (lw_Z below #[Value.ref b] s) (entryFrame m ([Value.ref b] : List Value).toArray 4) := by
  obtain ⟨hx, hb, hr, hml, hown, hts, hX, hbl, hlocks, hg⟩ := C0
  obtain ⟨G, α, hBs, hRep, hα⟩ := sb_all hts hX hg
  obtain ⟨Z, ⟨z1, z2, z3⟩, h⟩ := law_all (xs := xs) hL
  rw [lg_entry_eq]
  have hl := lv_entry [Value.ref b] (n := 4) (Nat.le_of_ble_eq_true rfl)
  generalize (lg_sl [Value.ref b] ++ List.replicate (4 - (lg_sl [Value.ref b]).length) Slot.unset).toArray = la at hl ⊢
  refine h s G p l e _ s m _ below meth c s.heap [] α la _ ⟨hBs, ?_, hx, hb, hml, hown, hnm, by decide, by decide, Nat.le_refl _, fun _ _ => rfl⟩ (by rw [z2]; decide) (by rw [z3]; decide) hRep va_S.rf (fun v hv => absurd hv List.not_mem_nil) ?_ ⟨hl.1, hl.2.1, fun q hq => ?_⟩ rfl ?_
  · exact State.WarmedH.refl _
  · intro v hv
    simp at hv
    subst hv
    exact jc_ok_r (Or.inl rfl)
  · obtain ⟨i, w⟩ := q
    obtain ⟨v, h1, rfl⟩ := jc_lp_mem.mp hq
    match i, h1 with
    | 0, h1 =>
      cases h1
      have := hl.2.2 (0, Value.ref b) List.mem_cons_self
      rw [← hα] at this
      exact this
    | 1, h1 => cases h1
    | 2, h1 => cases h1
    | 3, h1 => cases h1
    | _ + 4, h1 => cases h1
  · intro α' H' locs' la' pc' k1 k2 k3 k4 k5
    rw [z1] at k5
    rw [z1, z2, z3]
    exact va_forget (fun q hq => k2.2.2 q hq) (lw_ret hx hb hr hlocks k5)
