section JCH
def jc_ty (d : String) : FieldType := (parseFieldDescriptor d).getD .int
def jc_dok (d : String) : Bool := if d = "I" then decide (jc_ty d = .int) else if d = "Z" then decide (jc_ty d = .boolean) else match jc_ty d with
  | .object _ => true
  | .array _ => true
  | _ => false
def jc_ck (r : vw_C) : Prop := (∀ w ∈ u_ws r.1 r.2.1 r.2.2, w ∈ lw_tbl) ∧ (∀ k, k < r.2.2 → parseFieldDescriptor (r.2.1 k).2.2.1 = some (jc_ty (r.2.1 k).2.2.1)) ∧ (∀ a, a < r.2.2 → ∀ b, b < r.2.2 → a ≠ b → (r.2.1 a).2.1 ≠ (r.2.1 b).2.1) ∧ ∀ k, k < r.2.2 → jc_dok (r.2.1 k).2.2.1 = true
/-- a link of a class's constant pool to a field: number of its class, its place, its descriptor, whether it is final -/
def jc_fl (own : String) (idx ci k : Nat) (d : String) (fin : Bool) : Prop := ∃ (C : String) (T : u_T) (N : Nat) (ref : String), classes[ci]? = some (C, T, N) ∧ k < N ∧ Cond.fieldLink own idx ref (T k).2.1 (T k).2.2.1 ∈ lw_tbl ∧ (ref = (T k).1 ∨ Cond.sameField ref (T k).1 (T k).2.1 (T k).2.2.1 ∈ lw_tbl) ∧ (T k).2.2.1 = d ∧ (T k).2.2.2 = fin ∧ jc_ck (C, T, N)
def jc_fd (own : String) (ci k : Nat) : Prop := ∃ (C : String) (T : u_T) (N : Nat), classes[ci]? = some (C, T, N) ∧ (T k).1 = own
def jc_nw (own : String) (idx ci N : Nat) : Prop := ∃ (C : String) (T : u_T), classes[ci]? = some (C, T, N) ∧ Cond.classLink own idx C ∈ lw_tbl ∧ Cond.instantiable C N ∈ lw_tbl ∧ Cond.initialized C ∈ lw_tbl ∧ jc_ck (C, T, N)
theorem jc_w {s0 : State} {G : jc_G} {s : State} {args : Array Value} {w : Cond} (hB : jc_Bs s0 G) (hW : s0.WarmedH s.vm) (hw : w ∈ lw_tbl) (hg : (w.onTables && w.keeps) = true) : w.before args s = true := by
  obtain ⟨⟨a0, h⟩, -⟩ := hB
  exact word_at hW (Or.inl hg) (h w hw)
theorem jc_wA {s0 : State} {G : jc_G} {s : State} {args : Array Value} {ty : FieldType} (hB : jc_Bs s0 G) (hW : s0.WarmedH s.vm) (hw : Cond.arrayClass ty ∈ lw_tbl) : (Cond.arrayClass ty).before args s = true := by
  obtain ⟨⟨a0, h⟩, -⟩ := hB
  exact word_at hW (Or.inr ⟨ty, rfl⟩) (h _ hw)
theorem jc_wO {s0 : State} {G : jc_G} {s : State} {C : String} (hB : jc_Bs s0 G) (hW : s0.WarmedH s.vm) (hw : Cond.arrayOver (.object C) ∈ lw_tbl) : va_AO C s := by
  obtain ⟨⟨a0, h⟩, -⟩ := hB
  exact va_AO.moved hW.alike (va_AO.of (h _ hw))
theorem jc_wN {s0 : State} {G : jc_G} {s : State} {a : String} {i : Nat} {x : MethodName} {hh : String} (hB : jc_Bs s0 G) (hW : s0.WarmedH s.vm) (hw : Cond.methodLinkNest a i x hh ∈ lw_tbl) : va_Nw (.methodLinkNest a i x hh) s := by
  obtain ⟨⟨a0, h⟩, -⟩ := hB
  exact va_Nw.warmM hW (va_Nw.of rfl (h _ hw))
theorem jc_wC {s0 : State} {G : jc_G} {s : State} {C T : String} (hB : jc_Bs s0 G) (hW : s0.WarmedH s.vm) (hw : Cond.castable C T ∈ lw_tbl) : va_Nw (.castable C T) s := by
  obtain ⟨⟨a0, h⟩, -⟩ := hB
  exact va_Nw.warmC hW (va_Nw.of rfl (h _ hw))
theorem jc_K {s0 : State} {G : jc_G} {s : State} (hB : jc_Bs s0 G) (hW : s0.WarmedH s.vm) : va_K G.1 classes [] s := va_K.moved hW.alike hB.2.1
theorem jc_KE {s0 : State} {G : jc_G} {s : State} (hB : jc_Bs s0 G) (hW : s0.WarmedH s.vm) {ti : Nat} {ty : FieldType} (h : jc_tys[ti]? = some ty) : ArrOfT s (G.2.1 ti) ty ∧ va_RA s (G.2.1 ti) ty := ⟨arrOfT_moved hW.alike (hB.2.2.1 ti ty h).1, (hB.2.2.1 ti ty h).2.moved hW.alike⟩
theorem jc_ly {s0 : State} {G : jc_G} {s : State} {args : Array Value} {r : vw_C} (hB : jc_Bs s0 G) (hW : s0.WarmedH s.vm) (hk : jc_ck r) : ∀ w ∈ u_ws r.1 r.2.1 r.2.2, w.before args s = true := by
  intro w hw
  refine jc_w hB hW (hk.1 w hw) ?_
  obtain ⟨k, -, rfl⟩ := List.mem_map.mp hw
  unfold u_lay
  split <;> rfl
theorem jc_rz_eq {live : jc_L → Prop} {α α' : jc_L → Nat} {v : jc_V} (hv : jc_ok live v) (h : ∀ q, live q → α' q = α q) : jc_rz α' v = jc_rz α v := by
  cases v with
  | inl x => rfl
  | inr o =>
    cases o with
    | none => rfl
    | some q => show Value.ref (α' q) = Value.ref (α q); rw [h q (hv q rfl)]
theorem jc_rzs_eq {live : jc_L → Prop} {α α' : jc_L → Nat} {l : List jc_V} (hv : jc_oks live l) (h : ∀ q, live q → α' q = α q) : l.map (jc_rz α') = l.map (jc_rz α) := List.map_congr_left (fun v hm => jc_rz_eq (hv v hm) h)
theorem jc_lp_eq {live : jc_L → Prop} {α α' : jc_L → Nat} {l : List (Option jc_V)} (hv : jc_okl live l) (h : ∀ q, live q → α' q = α q) {la : Array Slot} {n : Nat} (hl : lv_has la n (jc_lp α l)) : lv_has la n (jc_lp α' l) := by
  refine ⟨hl.1, hl.2.1, fun q hq => ?_⟩
  obtain ⟨i, w⟩ := q
  obtain ⟨v, h1, rfl⟩ := jc_lp_mem.mp hq
  show la[i]? = some (.val (jc_rz α' v))
  rw [jc_rz_eq (jc_okl_get hv h1) h]
  exact jc_lget hl h1
theorem jc_at.lt {s0 : State} {G : jc_G} {α : jc_L → Nat} {I : jc_I} {O : jc_O} {q : jc_L} {H : Heap} (h : jc_at s0 G α I O q H) : α q < H.size := by
  unfold jc_at at h
  split at h
  · obtain ⟨r, -, cell, h1, -⟩ := h
    exact (Array.getElem?_eq_some_iff.mp h1).1
  · split at h
    · obtain ⟨cell, h1, -⟩ := h
      exact (Array.getElem?_eq_some_iff.mp h1).1
    · split at h
      · obtain ⟨cell, h1, -⟩ := h
        exact (Array.getElem?_eq_some_iff.mp h1).1
      · obtain ⟨ty, -, h1⟩ := h
        exact (Array.getElem?_eq_some_iff.mp h1).1
theorem jc_at.to {s0 : State} {G : jc_G} {α α2 : jc_L → Nat} {I I2 : jc_I} {O O2 : jc_O} {q : jc_L} {H H2 : Heap} (h : jc_at s0 G α I O q H) (hq : H2[α2 q]? = H[α q]?) (hI : ∀ k, I2 q k = I q k) (hO : ∀ k, (O2 q k).map α2 = (O q k).map α) : jc_at s0 G α2 I2 O2 q H2 := by
  have hf : ∀ b : Bool, ∀ k, jc_rz α2 (if b then .inr (O2 q k) else .inl (I2 q k)) = jc_rz α (if b then .inr (O q k) else .inl (I q k)) := by
    intro b k
    cases b with
    | false => show Value.int _ = Value.int _; rw [hI]
    | true => show va_rf _ = va_rf _; rw [hO]
  unfold jc_at at h ⊢
  split at h
  · rename_i ci hci
    obtain ⟨r, h1, cell, h2, h3, h4, h5⟩ := h
    exact ⟨r, h1, cell, by rw [hq]; exact h2, h3, h4, fun k hk => by rw [h5 k hk]; unfold jc_fv; rw [hf]⟩
  · rename_i tn htn
    split at h
    · rename_i e
      rw [if_pos e]
      obtain ⟨cell, h1, h2, h3, h4, h5⟩ := h
      exact ⟨cell, by rw [hq]; exact h1, h2, h3, h4, fun j hj => by rw [h5 j hj, hI]⟩
    · rename_i e
      rw [if_neg e]
      split at h
      · rename_i e2
        rw [if_pos e2]
        obtain ⟨cell, h1, h2⟩ := h
        exact ⟨cell, by rw [hq]; exact h1, h2⟩
      · rename_i e2
        rw [if_neg e2]
        obtain ⟨ty, h1, h2⟩ := h
        refine ⟨ty, h1, ?_⟩
        rw [hq, h2]
        have : jc_av ty I O α q = jc_av ty I2 O2 α2 q := by
          funext k
          unfold jc_av
          rw [hf]
        rw [this]
theorem jc_Rep.put {s0 : State} {G : jc_G} {α : jc_L → Nat} {I I2 : jc_I} {O O2 : jc_O} {live : jc_L → Prop} {H H1 : Heap} {q : jc_L} (hR : jc_Rep s0 G α I O live H) (hq : live q) (hq9 : q.1 < 96) (hat : jc_at s0 G α I2 O2 q H1) (hz : H1.size = H.size) (oq : ∀ a, a ≠ α q → H1[a]? = H[a]?) (hI : ∀ q' k, q' ≠ q → I2 q' k = I q' k) (hO : ∀ q' k, q' ≠ q → O2 q' k = O q' k) (hc : ∀ k q', O2 q k = some q' → live q') : jc_Rep s0 G α I2 O2 live H1 := by
  obtain ⟨h1, h2, h3, h4, h5, h6, h7⟩ := hR
  have hn : q.1 ≠ 98 := by omega
  refine ⟨fun q' hl h8 => ?_, h2, fun q' k q'' hl ho => ?_, h4, h5, by rw [hz]; exact h6, fun a ha => ?_⟩
  · by_cases e : q' = q
    · subst e
      exact ⟨hat, (h1 q' hl h8).2⟩
    · refine ⟨(h1 q' hl h8).1.to (oq _ (fun z => e (h2 q' q hl hq h8 hn z))) (fun k => hI q' k e) (fun k => by rw [hO q' k e]), (h1 q' hl h8).2⟩
  · by_cases e : q' = q
    · subst e
      exact hc k q'' ho
    · rw [hO q' k e] at ho
      exact h3 q' k q'' hl ho
  · have := (h1 q hq hn).2 hq9
    rw [oq a (by omega)]
    exact h7 a ha
theorem jc_Rep.new {s0 : State} {G : jc_G} {α : jc_L → Nat} {I : jc_I} {O : jc_O} {live : jc_L → Prop} {H H1 : Heap} {q : jc_L} (hR : jc_Rep s0 G α I O live H) (hq : ¬ live q) (hq9 : q.1 < 96) (hz : H1.size = H.size + 1) (oq : ∀ a, a < H.size → H1[a]? = H[a]?)
    (hat : jc_at s0 G (fun q' => if q' = q then H.size else α q') (jc_cl I q 0) (jc_cl O q none) q H1) : jc_Rep s0 G (fun q' => if q' = q then H.size else α q') (jc_cl I q 0) (jc_cl O q none) (fun q' => q' = q ∨ live q') H1 := by
  obtain ⟨h1, h2, h3, h4, h5, h6, h7⟩ := hR
  have ne : ∀ q', live q' → q' ≠ q := fun q' hl e => hq (e ▸ hl)
  refine ⟨fun q' hl h8 => ?_, fun q1 q2 hl1 hl2 h81 h82 he => ?_, fun q' k q'' hl ho => ?_, ⟨Or.inr h4.1, ?_⟩, ⟨Or.inr h5.1, ?_⟩, by omega, fun a ha => ?_⟩
  · rcases hl with rfl | hl
    · exact ⟨hat, fun _ => by simp only [if_pos]; exact h6⟩
    · have hn := ne q' hl
      have hlt := (h1 q' hl h8).1.lt
      refine ⟨(h1 q' hl h8).1.to (by simp only [if_neg hn]; exact oq _ hlt) (fun k => by simp only [jc_cl, if_neg hn]) (fun k => ?_), by simp only [if_neg hn]; exact (h1 q' hl h8).2⟩
      simp only [jc_cl, if_neg hn]
      cases ho : O q' k with
      | none => rfl
      | some q'' => simp only [Option.map_some, if_neg (ne q'' (h3 q' k q'' hl ho))]
  · rcases hl1 with rfl | hl1 <;> rcases hl2 with rfl | hl2
    · rfl
    · have := (h1 q2 hl2 h82).1.lt
      simp only [if_pos, if_neg (ne q2 hl2)] at he
      omega
    · have := (h1 q1 hl1 h81).1.lt
      simp only [if_pos, if_neg (ne q1 hl1)] at he
      omega
    · simp only [if_neg (ne q1 hl1), if_neg (ne q2 hl2)] at he
      exact h2 q1 q2 hl1 hl2 h81 h82 he
  · rcases hl with rfl | hl
    · simp [jc_cl] at ho
    · simp only [jc_cl, if_neg (ne q' hl)] at ho
      exact Or.inr (h3 q' k q'' hl ho)
  · simp only [if_neg (ne _ h4.1)]
    exact h4.2
  · simp only [if_neg (ne _ h5.1)]
    exact h5.2
  · rw [oq a (by omega)]
    exact h7 a ha
end JCH
section JCF
variable {y : jc_Y} {pc : Nat} {ls : List (Option jc_V)} {st : List jc_V} {I : jc_I} {O : jc_O} {live : jc_L → Prop} {nc ns : Nat} {Z : jc_Z}
theorem jc_tag {q : jc_L} {ci : Nat} (h : jc_cel q = .inl ci) : q.1 < 16 := by
  unfold jc_cel at h
  by_cases e : q.1 < 16
  · exact e
  · rw [if_neg e] at h
    split at h
    · cases h
    · split at h
      · cases h
      · split at h
        · cases h
        · split at h <;> cases h
theorem jr_getf {idx ci k : Nat} {d : String} {fin : Bool} {q : jc_L} (hd : decode y.2.1 pc = .ok (.getfield idx, 3)) (hf : jc_fl y.1.cls idx ci k d fin) (hc : jc_cel q = .inl ci) (h : jc_R y (pc + 3) ls ((if jc_isR d then .inr (O q k) else .inl (I q k)) :: st) I O live nc ns Z) : jc_R y pc ls (.inr (some q) :: st) I O live nc ns Z := by
  intro s0 G p l e R s m args below meth c H locs α la Q hC hcc hss hR hS hk hkl hl hn K
  have hlv : live q := jc_oks_hd hk q rfl
  obtain ⟨hat, -⟩ := hR.1 q hlv (by have := jc_tag hc; omega)
  unfold jc_at at hat
  rw [hc] at hat
  obtain ⟨r, hr, cell, q1, q2, q3, q4⟩ := hat
  obtain ⟨C, T, N, ref, hcl, hkN, hlk, hsm, rfl, -, hck⟩ := hf
  cases hr.symm.trans hcl
  obtain ⟨hBs, hW, hx, hb, hml, hown, hnm, -⟩ := id hC
  obtain ⟨hSl, hfc, kC, hkC, hkind⟩ := (jc_K hBs hW).1 ci _ hcl
  obtain ⟨cf, kf, fi, f, hi, hsl⟩ := hSl k hkN
  have hts := jc_ly (args := args) hBs hW hck
  have hi2 : s.fieldFound? ref (T k).2.1 (T k).2.2.1 = some (cf, kf, fi, f) := by
    rcases hsm with rfl | h9
    · exact hi
    · exact u_same (args := args) (jc_w hBs hW h9 rfl) _ hi
  have e := h s0 G p l e R s m args below meth c H locs α la Q hC hcc hss hR hS (jc_oks_cons (fun q' hq' => by
    split at hq'
    · exact hR.2.2.1 q k q' hlv (by injection hq')
    · cases hq') (jc_oks_tl hk)) hkl hl hn K
  refine W.getf hx hb hown (jc_w hBs hW hlk rfl) hi2 (u_facts hfc hkC (u_lays hts (fun _ h => h) hkN) hi).1 q1 (by rw [q3]; exact fun h => by cases h) (v := jc_fv T I O α q k) ?_ rfl rfl hd e
  rw [hsl, q4 k hkN]
theorem jr_geti {idx ci k : Nat} {fin : Bool} {q : jc_L} (hd : decode y.2.1 pc = .ok (.getfield idx, 3)) (hf : jc_fl y.1.cls idx ci k "I" fin) (hc : jc_cel q = .inl ci) (h : jc_R y (pc + 3) ls (.inl (I q k) :: st) I O live nc ns Z) : jc_R y pc ls (.inr (some q) :: st) I O live nc ns Z := jr_getf hd hf hc h
theorem jr_getz {idx ci k : Nat} {fin : Bool} {q : jc_L} (hd : decode y.2.1 pc = .ok (.getfield idx, 3)) (hf : jc_fl y.1.cls idx ci k "Z" fin) (hc : jc_cel q = .inl ci) (h : jc_R y (pc + 3) ls (.inl (I q k) :: st) I O live nc ns Z) : jc_R y pc ls (.inr (some q) :: st) I O live nc ns Z := jr_getf hd hf hc h
theorem jr_getr {idx ci k : Nat} {d : String} {fin : Bool} {q : jc_L} (hd : decode y.2.1 pc = .ok (.getfield idx, 3)) (hf : jc_fl y.1.cls idx ci k d fin) (hi : jc_isR d = true) (hc : jc_cel q = .inl ci) (h : jc_R y (pc + 3) ls (.inr (O q k) :: st) I O live nc ns Z) : jc_R y pc ls (.inr (some q) :: st) I O live nc ns Z := jr_getf hd hf hc (by rw [hi]; exact h)
theorem jr_putf {idx ci k : Nat} {d : String} {fin : Bool} {q : jc_L} {v : jc_V} {I2 : jc_I} {O2 : jc_O} (hd : decode y.2.1 pc = .ok (.putfield idx, 3)) (hf : jc_fl y.1.cls idx ci k d fin) (hfin : fin = false ∨ (y.1.name = "<init>" ∧ jc_fd y.1.cls ci k)) (hc : jc_cel q = .inl ci) (hv : ∀ α, narrow (jc_ty d) (jc_rz α v) = jc_rz α v ∧ fits (jc_ty d) (jc_rz α v) = true)
    (hI : ∀ q' k', ¬ (q' = q ∧ k' = k) → I2 q' k' = I q' k' ∧ O2 q' k' = O q' k') (h2 : (if jc_isR d then .inr (O2 q k) else .inl (I2 q k)) = v) (h3 : jc_isR d = false → O2 q k = O q k)
    (h : jc_R y (pc + 3) ls st I2 O2 live nc ns Z) : jc_R y pc ls (v :: .inr (some q) :: st) I O live nc ns Z := by
  intro s0 G p l e R s m args below meth c H locs α la Q hC hcc hss hR hS hk hkl hl hn K
  have hlv : live q := jc_oks_hd (jc_oks_tl hk) q rfl
  have htg := jc_tag hc
  obtain ⟨hat, hBq⟩ := hR.1 q hlv (by omega)
  have hBq := hBq (by omega)
  unfold jc_at at hat
  rw [hc] at hat
  obtain ⟨r, hr, cell, q1, q2, q3, q4⟩ := hat
  obtain ⟨C, T, N, ref, hcl, hkN, hlk, hsm, rfl, rfl, hck⟩ := hf
  cases hr.symm.trans hcl
  obtain ⟨hBs, hW, hx, hb, hml, hown, hnm, -⟩ := id hC
  have hKs := jc_K hBs hW
  obtain ⟨hSl, hfc, kC, hkC, hkind⟩ := hKs.1 ci _ hcl
  obtain ⟨cf, kf, fi, f, hi, hsl⟩ := hSl k hkN
  have hts := jc_ly (args := args) hBs hW hck
  have hi2 : s.fieldFound? ref (T k).2.1 (T k).2.2.1 = some (cf, kf, fi, f) := by
    rcases hsm with rfl | h9
    · exact hi
    · exact u_same (args := args) (jc_w hBs hW h9 rfl) _ hi
  have hin : ∀ w ∈ u_ws C T N, w ∈ u_ws C T N := fun _ h => h
  have hap := va_apart (own := y.1.cls) hts hin (fun k => jc_ty (T k).2.2.1) hck.2.1 hck.2.2.1 hKs hcl
  have hst := (u_facts hfc hkC (u_lays hts hin hkN) hi).1
  have go : ∀ H1 : Heap, H1[α q]? = some (cell.setSlot f.slot (jc_rz α v)) → H1.size = H.size → (∀ a, a ≠ α q → H1[a]? = H[a]?) → W p l e R s m args below meth c H1 (locs ++ [⟨α q, f.slot⟩]) nc ns Q (F0 m (pc + 3) la (st.map (jc_rz α))) := by
    intro H1 e1 e2 e3
    rw [hsl] at e1
    refine h s0 G p l e R s m args below meth c H1 _ α la Q hC hcc hss (hR.put hlv (by omega) ?_ e2 e3 (fun q' k' hne => (hI q' k' (fun z => hne z.1)).1) (fun q' k' hne => (hI q' k' (fun z => hne z.1)).2) ?_) (hS.put e2 e3 hBq) (jc_oks_tl (jc_oks_tl hk)) hkl hl hn K
    · unfold jc_at
      rw [hc]
      refine ⟨_, hcl, t_OB.to (V := updV (jc_fv T I O α q) k (jc_rz α v)) ⟨_, e1, q2, q3, t_set q4 hap hkN _⟩ (fun j hj => ?_)⟩
      unfold updV
      split
      · rename_i ej
        subst ej
        unfold jc_fv
        rw [h2]
      · rename_i ej
        unfold jc_fv
        rw [(hI q j (fun z => ej z.2)).1, (hI q j (fun z => ej z.2)).2]
    · intro j q' hj
      by_cases ej : j = k
      · subst ej
        cases hR2 : jc_isR (T j).2.2.1 with
        | true =>
          rw [hR2] at h2
          simp only [if_pos] at h2
          rw [hj] at h2
          exact jc_oks_hd hk q' h2.symm
        | false => rw [h3 hR2] at hj; exact hR.2.2.1 q j q' hlv hj
      · rw [(hI q j (fun z => ej z.2)).2] at hj
        exact hR.2.2.1 q j q' hlv hj
  cases hfi : (T k).2.2.2 with
  | false =>
    have hlay := hts _ (hin _ (u_in_lay hkN))
    unfold u_lay at hlay
    rw [if_neg (by rw [hfi]; decide)] at hlay
    have h6 := u_store hfc hkC hkind hlay hi (hck.2.1 k hkN) (hv α).1 (hv α).2
    exact W.putK hx hb (f := f) ⟨hown, jc_w hBs hW hlk rfl, ⟨_, _, _, hi2⟩, hst⟩ (by rw [q2]; exact h6) q1 q3 (by rw [hsl]; exact k2_hasslot (q4 k hkN)) rfl rfl hd go
  | true =>
    rcases hfin with h9 | ⟨hini, C9, T9, N9, hr9, hr8⟩
    · rw [hfi] at h9; cases h9
    · cases hr9.symm.trans hcl
      have hlay := hts _ (hin _ (u_in_lay hkN))
      unfold u_lay at hlay
      rw [if_pos hfi] at hlay
      have hcf : m.cls = cf := by
        obtain ⟨_, _, c', _, _, _, -, -, hf', -, -, -, hown2, -⟩ := Cond.laysFinal_spec hlay
        have e1 : c' = cf := by have := hi.symm.trans hf'; simp at this; exact this.1.symm
        rw [hr8] at hown2
        rw [← e1]; exact Option.some.inj (hown.symm.trans hown2)
      have h6 := u_fits hfc hkC hkind (Or.inr hlay) hi (hck.2.1 k hkN) (hv α).1 (hv α).2
      exact W.putFinK hx hb hown (jc_w hBs hW hlk rfl) hi2 hst hcf (hnm.trans hini) (by rw [q2]; exact h6) q1 q3 (by rw [hsl]; exact k2_hasslot (q4 k hkN)) rfl rfl hd go
theorem jr_puti {idx ci k : Nat} {fin : Bool} {q : jc_L} {x : Int32} (hd : decode y.2.1 pc = .ok (.putfield idx, 3)) (hf : jc_fl y.1.cls idx ci k "I" fin) (hfin : fin = false ∨ (y.1.name = "<init>" ∧ jc_fd y.1.cls ci k)) (hc : jc_cel q = .inl ci) (h : jc_R y (pc + 3) ls st (jc_up I q k x) O live nc ns Z) : jc_R y pc ls (.inl x :: .inr (some q) :: st) I O live nc ns Z := by
  have hty : jc_ty "I" = .int := by decide +kernel
  exact jr_putf hd hf hfin hc (fun α => by rw [hty]; exact ⟨rfl, rfl⟩) (fun q' k' hne => ⟨by simp only [jc_up, if_neg hne], rfl⟩) (by show Sum.inl _ = _; simp [jc_up]) (fun _ => rfl) h
theorem jr_putz {idx ci k : Nat} {fin : Bool} {q : jc_L} {x : Int32} (hd : decode y.2.1 pc = .ok (.putfield idx, 3)) (hf : jc_fl y.1.cls idx ci k "Z" fin) (hfin : fin = false ∨ (y.1.name = "<init>" ∧ jc_fd y.1.cls ci k)) (hc : jc_cel q = .inl ci) (hx : x = 0 ∨ x = 1) (h : jc_R y (pc + 3) ls st (jc_up I q k x) O live nc ns Z) : jc_R y pc ls (.inl x :: .inr (some q) :: st) I O live nc ns Z := by
  have hty : jc_ty "Z" = .boolean := by decide +kernel
  have hv : ∀ α, narrow (jc_ty "Z") (jc_rz α (.inl x)) = jc_rz α (.inl x) ∧ fits (jc_ty "Z") (jc_rz α (.inl x)) = true := by
    intro α
    rw [hty]
    rcases hx with rfl | rfl
    · exact ⟨(by decide +kernel : narrow .boolean (.int 0) = .int 0), (by decide +kernel : fits .boolean (.int 0) = true)⟩
    · exact ⟨(by decide +kernel : narrow .boolean (.int 1) = .int 1), (by decide +kernel : fits .boolean (.int 1) = true)⟩
  exact jr_putf hd hf hfin hc hv (fun q' k' hne => ⟨by simp only [jc_up, if_neg hne], rfl⟩) (by show Sum.inl _ = _; simp [jc_up]) (fun _ => rfl) h
theorem jc_rfits {ty : FieldType} (h : (∃ n, ty = .object n) ∨ ∃ t, ty = .array t) (α : jc_L → Nat) (o : Option jc_L) : narrow ty (jc_rz α (.inr o)) = jc_rz α (.inr o) ∧ fits ty (jc_rz α (.inr o)) = true := by
  rcases h with ⟨n, rfl⟩ | ⟨t, rfl⟩ <;> cases o <;> exact ⟨rfl, rfl⟩
theorem jr_putr {idx ci k : Nat} {d : String} {fin : Bool} {q : jc_L} {o : Option jc_L} (hd : decode y.2.1 pc = .ok (.putfield idx, 3)) (hf : jc_fl y.1.cls idx ci k d fin) (hfin : fin = false ∨ (y.1.name = "<init>" ∧ jc_fd y.1.cls ci k)) (hi : jc_isR d = true) (hc : jc_cel q = .inl ci) (h : jc_R y (pc + 3) ls st I (jc_up O q k o) live nc ns Z) : jc_R y pc ls (.inr o :: .inr (some q) :: st) I O live nc ns Z := by
  have hty : (∃ n, jc_ty d = .object n) ∨ ∃ t, jc_ty d = .array t := by
    obtain ⟨C, T, N, ref, hcl, hkN, hlk, hsm, rfl, -, hck⟩ := hf
    have h1 := hck.2.2.2 k hkN
    unfold jc_isR at hi
    unfold jc_dok at h1
    simp only [Bool.not_eq_true', Bool.or_eq_false_iff, beq_eq_false_iff_ne, ne_eq] at hi
    rw [if_neg hi.1, if_neg hi.2] at h1
    split at h1
    · rename_i n hn; exact Or.inl ⟨n, hn⟩
    · rename_i t ht; exact Or.inr ⟨t, ht⟩
    · cases h1
  refine jr_putf hd hf hfin hc (fun α => jc_rfits hty α o) (fun q' k' hne => ⟨rfl, by simp only [jc_up, if_neg hne]⟩) ?_ (fun h9 => by rw [hi] at h9; cases h9) h
  rw [hi]
  simp [jc_up]
end JCF
