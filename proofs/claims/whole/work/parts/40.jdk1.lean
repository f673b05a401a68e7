section JDK1
variable {y : jc_Y} {pc : Nat} {ls : List (Option jc_V)} {st : List jc_V} {I : jc_I} {O : jc_O} {live : jc_L → Prop} {nc ns : Nat} {Z : jc_Z}
/-- the same, of a class of which the machine has entries for others of its methods -/
theorem jc_Ct.ofF {as : List jc_V} (hpl : plainFor y.1 = true) (hret : jc_rok y.2.2.2.1 Z.1) (hlen : as.length ≤ y.2.2.1) (h : jc_R y 0 (as.map some ++ List.replicate (y.2.2.1 - as.length) none) [] I O live 0 0 Z) : jc_Ct y as I O live Z := by
  intro s0 G l α hBs hok
  refine va_MetF (cc := y.2.1) (maxL := y.2.2.1) (ret := y.2.2.2.1) hpl rfl ?_
  intro p e s m args below meth c s₁ B hml hv
  obtain ⟨rfl, hW, hRep⟩ := hv
  have hx := B.exec
  have hb := B.bytes
  have hr := B.returns
  have hown : s.vm.findClass y.1.cls = some m.cls := findClass_of_methodNamed B.named
  have hlocks := B.notSynchronized
  have hnm : meth.name = y.1.name := (name_of_methodNamed B.named B.method).1
  rw [lg_entry_eq]
  have hl := lv_entry (as.map (jc_rz α)) (n := y.2.2.1) (by rw [jc_lsl]; exact hlen)
  generalize (lg_sl (as.map (jc_rz α)) ++ List.replicate (y.2.2.1 - (lg_sl (as.map (jc_rz α))).length) Slot.unset).toArray = la at hl ⊢
  refine h s0 G p l e _ s m _ below meth c s.heap [] α la _ ⟨hBs, hW, hx, hb, hml, hown, hnm, Nat.le_refl _, Nat.le_refl _, hRep.2.2.2.2.2.1, hRep.2.2.2.2.2.2⟩ (Nat.le_refl _) (Nat.le_refl _) hRep va_S.rf (fun v hv => absurd hv List.not_mem_nil) ?_ ⟨hl.1, hl.2.1, fun q hq => ?_⟩ ?_ ?_
  · intro v hv
    rcases List.mem_append.mp hv with h9 | h9
    · obtain ⟨u, hu, e9⟩ := List.mem_map.mp h9
      cases e9
      exact hok _ hu
    · have := List.eq_of_mem_replicate h9
      cases this
  · obtain ⟨i, w⟩ := q
    have h9 := jc_args α as 0 _ i w hq
    rw [Nat.zero_add] at h9
    exact hl.2.2 (i, w) h9
  · simp only [List.length_append, List.length_map, List.length_replicate]; omega
  · intro α' H' locs' la' pc' k1 k2 k3 k4 k5
    obtain ⟨r, I', O', live', mc, ms⟩ := Z
    have hq : ∀ t : State, t.heap = H' → s.WarmedH t.vm → jc_Q s0 G α live (r, I', O', live', mc, ms) (as.map (jc_rz α)).toArray s (.returned (r.map (jc_rz α'))) t := fun t ht _ => ⟨α', k3, rfl, k4, by rw [ht]; exact k1, k2.F ht⟩
    cases r with
    | none =>
      have hret : y.2.2.2.1 = none := hret
      rw [hret] at hr
      exact W.vret hx hb hr hq k2.2.2 k5
    | some v =>
      cases v with
      | inl x =>
        have hret : y.2.2.2.1 = some .int ∨ (y.2.2.2.1 = some .boolean ∧ (x = 0 ∨ x = 1)) := hret
        rcases hret with hret | ⟨hret, hx01⟩
        · rw [hret] at hr
          exact W.iret hx hb hr hq k2.2.2 k5
        · rw [hret] at hr
          exact W.zret hx hb hr (by rcases hx01 with rfl | rfl <;> decide +kernel) hq k2.2.2 k5
      | inr o =>
        have hret : (∃ n, y.2.2.2.1 = some (.object n)) ∨ ∃ t, y.2.2.2.1 = some (.array t) := hret
        rcases hret with ⟨n, hret⟩ | ⟨t, hret⟩
        · rw [hret] at hr
          exact W.aret hx hb hr (Or.inl ⟨n, rfl⟩) (va_rf_or _) hq k2.2.2 k5
        · rw [hret] at hr
          exact W.aret hx hb hr (Or.inr ⟨t, rfl⟩) (va_rf_or _) hq k2.2.2 k5
/-- ArrayList's empty array -/
theorem jr_gets {idx : Nat} (hd : decode y.2.1 pc = .ok (.getstatic idx, 3)) (hlk : Cond.fieldLink y.1.cls idx "java/util/ArrayList" "DEFAULTCAPACITY_EMPTY_ELEMENTDATA" "[Ljava/lang/Object;" ∈ lw_tbl) (h : jc_R y (pc + 3) ls (.inr (some (97, 0, 0)) :: st) I O live nc ns Z) : jc_R y pc ls st I O live nc ns Z := by
  intro s0 G p l e R s m args below meth c H locs α la Q hC hcc hss hR hS hk hkl hl hn K
  obtain ⟨hBs, hW, hx, hb, hml, hown, hnm, g1, g2, g3, g4⟩ := id hC
  have hZ := (hBs.2.2.2.2.moved hW.alike).kept (H1 := s.heap) (fun a ha _ => g4 a ha)
  have e := h s0 G p l e R s m args below meth c H locs α la Q hC hcc hss hR hS (jc_oks_cons (jc_ok_r hR.2.2.2.1.1) hk) hkl hl hn K
  refine va_gets hx hb hZ hS hown (jc_w hBs hW hlk rfl) (fun _ h => h) hd ?_
  have e2 : jc_rz α (.inr (some (97, 0, 0))) = Value.ref G.2.2.2 := by show Value.ref (α (97, 0, 0)) = _; rw [hR.2.2.2.1.2]
  rw [List.map_cons, e2] at e
  exact e
theorem jc_inj {s0 : State} {G : jc_G} {α : jc_L → Nat} {H : Heap} (hR : jc_Rep s0 G α I O live H) {o1 o2 : Option jc_L} (h1 : ∀ q, o1 = some q → live q ∧ q.1 ≠ 98) (h2 : ∀ q, o2 = some q → live q ∧ q.1 ≠ 98) (h : o1.map α = o2.map α) : o1 = o2 := by
  cases o1 with
  | none => cases o2 with
    | none => rfl
    | some q => cases h
  | some q => cases o2 with
    | none => cases h
    | some q' =>
      have h3 : α q = α q' := Option.some.inj h
      rw [hR.2.1 q q' (h1 q rfl).1 (h2 q' rfl).1 (h1 q rfl).2 (h2 q' rfl).2 h3]
theorem jr_acmp_eq {o1 o2 : Option jc_L} {off : Int} {tgt : Nat} (hd : decode y.2.1 pc = .ok (.if_acmp .eq off, 3)) (ht : (pc : Int) + off = (tgt : Int)) (n1 : ∀ q, o1 = some q → q.1 ≠ 98) (n2 : ∀ q, o2 = some q → q.1 ≠ 98) (h1 : o1 = o2 → jc_R y tgt ls st I O live nc ns Z) (h2 : ¬ o1 = o2 → jc_R y (pc + 3) ls st I O live nc ns Z) : jc_R y pc ls (.inr o2 :: .inr o1 :: st) I O live nc ns Z := by
  intro s0 G p l e R s m args below meth c H locs α la Q hC hcc hss hR hS hk hkl hl hn K
  obtain ⟨hBs, hW, hx, hb, -⟩ := id hC
  have hk' := jc_oks_tl (jc_oks_tl hk)
  refine lv_acmp_eq (rx := o1.map α) (ry := o2.map α) hx hb hd ht (fun q => ?_) (fun q => ?_)
  · exact h1 (jc_inj hR (fun q9 e9 => ⟨jc_oks_hd (jc_oks_tl hk) q9 (by rw [e9]), n1 q9 e9⟩) (fun q9 e9 => ⟨jc_oks_hd hk q9 (by rw [e9]), n2 q9 e9⟩) q) s0 G p l e R s m args below meth c H locs α la Q hC hcc hss hR hS hk' hkl hl hn K
  · exact h2 (fun e9 => q (by rw [e9])) s0 G p l e R s m args below meth c H locs α la Q hC hcc hss hR hS hk' hkl hl hn K
/-- the same reference: no jump -/
theorem jr_acmp_same {o : Option jc_L} {off : Int} {tgt : Nat} (hd : decode y.2.1 pc = .ok (.if_acmp .ne off, 3)) (ht : (pc : Int) + off = (tgt : Int)) (h2 : jc_R y (pc + 3) ls st I O live nc ns Z) : jc_R y pc ls (.inr o :: .inr o :: st) I O live nc ns Z := by
  intro s0 G p l e R s m args below meth c H locs α la Q hC hcc hss hR hS hk hkl hl hn K
  obtain ⟨hBs, hW, hx, hb, -⟩ := id hC
  refine lv_acmp_ne (rx := o.map α) (ry := o.map α) hx hb hd ht (fun q => absurd rfl q) (fun _ => ?_)
  exact h2 s0 G p l e R s m args below meth c H locs α la Q hC hcc hss hR hS (jc_oks_tl (jc_oks_tl hk)) hkl hl hn K
/-- the class object of Object[] -/
theorem jr_ldcM {idx : Nat} (hd : decode y.2.1 pc = .ok (.ldc idx, 2)) (hlk : Cond.classLink y.1.cls idx "[Ljava/lang/Object;" ∈ lw_tbl) (h : jc_R y (pc + 2) ls (.inr (some (98, 0, 0)) :: st) I O live nc ns Z) : jc_R y pc ls st I O live nc ns Z := by
  intro s0 G p l e R s m args below meth c H locs α la Q hC hcc hss hR hS hk hkl hl hn K
  obtain ⟨hBs, hW, hx, hb, hml, hown, -⟩ := id hC
  have e := h s0 G p l e R s m args below meth c H locs α la Q hC hcc hss hR hS (jc_oks_cons (jc_ok_r hR.2.2.2.2.1.1) hk) hkl hl hn K
  refine va_ldcM (mi := G.2.2.1) hx hb hown (jc_w hBs hW hlk rfl) (va_Mi.moved hW.alike hBs.2.2.2.1) hd ?_
  have e2 : jc_rz α (.inr (some (98, 0, 0))) = Value.ref G.2.2.1 := by show Value.ref (α (98, 0, 0)) = _; rw [hR.2.2.2.2.1.2]
  rw [List.map_cons, e2] at e
  exact e
theorem jr_getC {idx n : Nat} {q : jc_L} (hd : decode y.2.1 pc = .ok (.invokevirtual idx, 3)) (hlk : Cond.methodLink y.1.cls idx ⟨"java/lang/Object", "getClass", "()Ljava/lang/Class;"⟩ ∈ lw_tbl) (hde : Cond.declares ⟨"java/lang/Object", "getClass", "()Ljava/lang/Class;"⟩ ∈ lw_tbl) (hse : Cond.selects "[Ljava/lang/Object;" ⟨"java/lang/Object", "getClass", "()Ljava/lang/Class;"⟩ ⟨"java/lang/Object", "getClass", "()Ljava/lang/Class;"⟩ ∈ lw_tbl) (hin : Cond.instanceMethod ⟨"java/lang/Object", "getClass", "()Ljava/lang/Class;"⟩ ∈ lw_tbl) (hna : Cond.native ⟨"java/lang/Object", "getClass", "()Ljava/lang/Class;"⟩ ∈ lw_tbl)
    (hc : jc_cel q = .inr (7, n)) (hq0 : Nat.blt q.1 96 = true) (hf : 1 ≤ y.2.2.2.2.1) (hlo : st.length + 14 ≤ y.2.2.2.2.2) (h : jc_R y (pc + 3) ls (.inr (some (98, 0, 0)) :: st) I O live nc ns Z) : jc_R y pc ls (.inr (some q) :: st) I O live nc ns Z := by
  intro s0 G p l e R s m args below meth c H locs α la Q hC hcc hss hR hS hk hkl hl hn K
  obtain ⟨hBs, hW, hx, hb, hml, hown, hnm, g1, g2, -⟩ := id hC
  have hq : q.1 < 96 := Nat.le_of_ble_eq_true hq0
  have hlv : live q := jc_oks_hd hk q rfl
  have hat := (jc_atA hc (show jc_tys[7]? = some (.object "java/lang/Object") from rfl)).mp (hR.1 q hlv (by omega)).1
  have e := h s0 G p l e R s m args below meth c H locs α la Q hC hcc hss hR hS (jc_oks_cons (jc_ok_r hR.2.2.2.2.1.1) (jc_oks_tl hk)) hkl hl hn K
  have hDc : va_Dc s := by
    obtain ⟨⟨a0, h0⟩, -⟩ := hBs
    exact va_Dc.moved hW.alike (va_Dc.of (h0 _ hde))
  refine va_getC (C := "[Ljava/lang/Object;") (mi := G.2.2.1) hx hb (by rw [hml]; exact hl.1.symm) hown (jc_w hBs hW hlk rfl) (va_Dc.use hDc) (jc_w hBs hW hse rfl) (jc_w hBs hW hin rfl) (jc_w hBs hW hna rfl) (va_Mi.moved hW.alike hBs.2.2.2.1) ⟨_, hat, rfl, va_nmO (jc_KE hBs hW (show jc_tys[7]? = some (.object "java/lang/Object") from rfl)).2 (by decide +kernel)⟩ (Nat.le_trans hf g1) (by rw [jc_sum]; omega) hd ?_
  have e2 : jc_rz α (.inr (some (98, 0, 0))) = Value.ref G.2.2.1 := by show Value.ref (α (98, 0, 0)) = _; rw [hR.2.2.2.2.1.2]
  rw [List.map_cons, e2] at e
  exact e
end JDK1
