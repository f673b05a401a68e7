section JCC
variable {y : jc_Y} {pc : Nat} {ls : List (Option jc_V)} {st : List jc_V} {I : jc_I} {O : jc_O} {live : jc_L → Prop} {nc ns : Nat} {Z : jc_Z}
/-- what the tables say of a method that is called -/
def jc_kn (z : jc_Y) (n : Nat) : Prop := Cond.code z.1 z.2.1 z.2.2.1 z.2.2.2.1 ∈ lw_tbl ∧ Cond.initialized z.1.cls ∈ lw_tbl ∧ (z.1.cls ≠ "java/lang/invoke/MethodHandle" ∧ z.1.cls ≠ "java/lang/invoke/VarHandle") ∧ (parseMethodDescriptor z.1.desc).map (fun d => d.parameters.length) = some n
def jc_kV (z : jc_Y) (n : Nat) : Prop := jc_kn z n ∧ Cond.instanceMethod z.1 ∈ lw_tbl ∧ Cond.selects z.1.cls z.1 z.1 ∈ lw_tbl
def jc_kS (z : jc_Y) (n : Nat) : Prop := jc_kn z n ∧ Cond.static z.1 ∈ lw_tbl
def jc_kI (z : jc_Y) (n : Nat) : Prop := jc_kn z n ∧ z.1.name = "<init>" ∧ z.2.2.2.1 = none ∧ Cond.instanceMethod z.1 ∈ lw_tbl
/-- the callee's frames and locals fit -/
def jc_fit (y z : jc_Y) : Prop := z.2.2.2.2.1 + 1 ≤ y.2.2.2.2.1 ∧ 19 + z.2.2.1 + z.2.2.2.2.2 ≤ y.2.2.2.2.2
theorem jc_sum (α : jc_L → Nat) (st : List jc_V) : ((st.map (jc_rz α)).map fun v => v.category).sum = st.length := by
  induction st with
  | nil => rfl
  | cons v t ih => simp only [List.map_cons, List.sum_cons, jc_rz_cat, ih, List.length_cons]; omega
abbrev jc_rm (z : jc_Y) (Z1 : jc_Z) : Room := { frames := z.2.2.2.2.1, cells := Z1.2.2.2.2.1, slots := Z1.2.2.2.2.2, locals := z.2.2.2.2.2 }
abbrev jc_Q (s0 : State) (G : jc_G) (α : jc_L → Nat) (live : jc_L → Prop) (Z1 : jc_Z) : Array Value → State → Outcome → State → Prop := fun _ st oc t => ∃ α' : jc_L → Nat, (∀ q, live q → α' q = α q) ∧ oc = .returned (Z1.1.map (jc_rz α')) ∧ (∀ v, Z1.1 = some v → jc_ok Z1.2.2.2.1 v) ∧ jc_Rep s0 G α' Z1.2.1 Z1.2.2.1 Z1.2.2.2.1 t.heap ∧ va_F (fun q => s0.heap.size ≤ q) st t
theorem jc_words {s0 : State} {G : jc_G} {s : State} {z : jc_Y} {n : Nat} (hB : jc_Bs s0 G) (hW : s0.WarmedH s.vm) (hk : jc_kn z n) : ∀ w ∈ [Cond.code z.1 z.2.1 z.2.2.1 z.2.2.2.1], ∀ (a' : Array Value) (U : State), s.WarmedH U.vm → w.before a' U = true := by
  intro w hw a' U hWU
  rw [List.mem_singleton.mp hw]
  exact jc_w hB (hW.trans hWU) hk.1 rfl
theorem jc_sig {z : jc_Y} {n : Nat} (hk : jc_kn z n) : ∀ sig, parseMethodDescriptor z.1.desc = some sig → n = sig.parameters.length := by
  intro sig h
  have h2 := hk.2.2.2
  rw [h] at h2
  exact (Option.some.inj h2).symm
theorem jc_cb {s0 : State} {G : jc_G} {p : Program} {R : Room} {s : State} {m : MethodId} {meth : Method} {c : Code} {args : Array Value} {z : jc_Y} {Z1 : jc_Z} {idx n : Nat} (hC : jc_Cx y s0 G p R s m meth c) (hl : Cond.methodLink y.1.cls idx z.1 ∈ lw_tbl) (hk : jc_kn z n) (hf : jc_fit y z) : CallB R s args y.1.cls idx z.1 z.2.1 z.2.2.1 z.2.2.2.1 [Cond.code z.1 z.2.1 z.2.2.1 z.2.2.2.1] (jc_rm z Z1) Z1.2.2.2.2.1 Z1.2.2.2.2.2 n := by
  obtain ⟨hBs, hW, hx, hb, hml, hown, hnm, h1, h2, -⟩ := hC
  exact ⟨rfl, rfl, Nat.le_trans hf.1 h1, Nat.le_trans (by have := hf.2; show 8 + (z.2.2.1 + 11) + z.2.2.2.2.2 ≤ _; omega) h2, jc_words hBs hW hk, List.mem_singleton.mpr rfl, jc_w hBs hW hk.1 rfl, jc_w hBs hW hk.2.1 rfl, hk.2.2.1, jc_sig hk, jc_w hBs hW hl rfl⟩
theorem jc_cn {s0 : State} {G : jc_G} {p : Program} {R : Room} {s : State} {m : MethodId} {meth : Method} {c : Code} {args : Array Value} {z : jc_Y} {Z1 : jc_Z} {idx n : Nat} {host : String} (hC : jc_Cx y s0 G p R s m meth c) (hl : Cond.methodLinkNest y.1.cls idx z.1 host ∈ lw_tbl) (hk : jc_kn z n) (hf : jc_fit y z) : va_CN R s args y.1.cls idx z.1 host z.2.1 z.2.2.1 z.2.2.2.1 [Cond.code z.1 z.2.1 z.2.2.1 z.2.2.2.1] (jc_rm z Z1) Z1.2.2.2.2.1 Z1.2.2.2.2.2 n := by
  obtain ⟨hBs, hW, hx, hb, hml, hown, hnm, h1, h2, -⟩ := hC
  exact ⟨⟨rfl, rfl, Nat.le_trans hf.1 h1, Nat.le_trans (by have := hf.2; show 8 + (z.2.2.1 + 11) + z.2.2.2.2.2 ≤ _; omega) h2, jc_words hBs hW hk, List.mem_singleton.mpr rfl⟩, jc_w hBs hW hk.1 rfl, jc_w hBs hW hk.2.1 rfl, hk.2.2.1, jc_sig hk, va_Nw.use rfl (jc_wN hBs hW hl)⟩
theorem jc_blind {s0 : State} {G : jc_G} {α : jc_L → Nat} {as : List Value} : FrameBlind (va_Pc as (fun U => s0.WarmedH U.vm ∧ jc_Rep s0 G α I O live U.heap)) := fun _ _ _ _ q => ⟨q.1, q.2.1, q.2.2⟩
theorem jc_back {s0 : State} {G : jc_G} {p : Program} {l : Launch} {e : Env} {R : Room} {s : State} {m : MethodId} {args : Array Value} {below : List Frame} {meth : Method} {c : Code} {H : Heap} {locs : List Loc} {α : jc_L → Nat} {la : Array Slot} {Q : State → Prop} {Z1 : jc_Z} {stv : List Value} {av : Array Value}
    (hrun : va_Run p l e R s m args below meth c H locs nc ns Z1.2.2.2.2.1 Z1.2.2.2.2.2 (F0 m pc la stv) (st.map (jc_rz α)) (jc_Q s0 G α live Z1 av) (fun q => s0.heap.size ≤ q))
    (hlv : ∀ q, live q → Z1.2.2.2.1 q) (h : jc_R y (pc + 3) ls (Z1.1.toList ++ st) Z1.2.1 Z1.2.2.1 Z1.2.2.2.1 (nc + Z1.2.2.2.2.1) (ns + Z1.2.2.2.2.2) Z)
    (hC : jc_Cx y s0 G p R s m meth c) (hcc : Z.2.2.2.2.1 ≤ R.cells) (hss : Z.2.2.2.2.2 ≤ R.slots) (hS : va_S (fun q => s0.heap.size ≤ q) s.heap H locs) (hk : jc_oks live st) (hkl : jc_okl live ls) (hl : lv_has la y.2.2.1 (jc_lp α ls)) (hn : ls.length = y.2.2.1)
    (K : ∀ (α' : jc_L → Nat) (H' : Heap) (locs' : List Loc) (la' : Array Slot) (pc' : Nat), jc_Rep s0 G α' Z.2.1 Z.2.2.1 Z.2.2.2.1 H' → va_S (fun q => s0.heap.size ≤ q) s.heap H' locs' → (∀ q, live q → α' q = α q) → (∀ v, Z.1 = some v → jc_ok Z.2.2.2.1 v) → decode y.2.1 pc' = .ok (jc_rins Z.1, 1) →
      W p l e R s m args below meth c H' locs' Z.2.2.2.2.1 Z.2.2.2.2.2 Q (F0 m pc' la' (Z.1.toList.map (jc_rz α')))) :
    W p l e R s m args below meth c H locs nc ns Q (F0 m pc la stv) := by
  intro T hT X
  obtain ⟨v, st₀, t, T', L, h0, X', hL, e1, e2, ⟨α', hα, hv, hok, hRep, hF⟩, stp⟩ := hrun T hT X
  injection hv with hv
  have hS' : va_S (fun q => s0.heap.size ≤ q) s.heap T'.heap (locs ++ L) := by
    rw [e1]
    have hz := hF.1
    have hk2 := hF.2
    rw [h0] at hz hk2
    refine ⟨Nat.le_trans hS.1 hz, fun q g1 g2 => (hk2 q (Nat.lt_of_lt_of_le g1 hS.1) g2).trans (hS.2.1 q g1 g2), fun q hq => ?_⟩
    rcases List.mem_append.mp hq with h9 | h9
    · exact hS.2.2 q h9
    · exact hL q h9
  have hW' := h s0 G p l e R s m args below meth c T'.heap (locs ++ L) α' la Q hC hcc hss (by rw [e1]; exact hRep) hS' (by
      intro v hv
      rcases List.mem_append.mp hv with h9 | h9
      · exact hok v (by cases hz : Z1.1 with
          | none => rw [hz] at h9; cases h9
          | some w => rw [hz] at h9; rw [List.mem_singleton.mp h9])
      · exact fun q hq => hlv q (hk v h9 q hq)) (fun v hv q hq => hlv q (hkl v hv q hq)) (jc_lp_eq hkl hα hl) hn (fun α2 H' locs' la' pc' k1 k2 k3 k4 k5 => K α2 H' locs' la' pc' k1 k2 (fun q hq => (k3 q (hlv q hq)).trans (hα q hq)) k4 k5)
  obtain ⟨t2, a1, b1⟩ := hW' T' rfl X'
  refine ⟨t2, stp t2 ?_, b1⟩
  have e9 : v.toList ++ st.map (jc_rz α) = (Z1.1.toList ++ st).map (jc_rz α') := by
    rw [hv, List.map_append, jc_rzs_eq hk hα]
    cases Z1.1 <;> rfl
  rw [e9]
  exact a1
theorem jc_stk (α : jc_L → Nat) (as : List jc_V) (q : jc_L) (st : List jc_V) : (as.reverse ++ .inr (some q) :: st).map (jc_rz α) = (as.map (jc_rz α)).reverse ++ Value.ref (α q) :: st.map (jc_rz α) := by
  rw [List.map_append, List.map_reverse]; rfl
theorem jc_stkS (α : jc_L → Nat) (as : List jc_V) (st : List jc_V) : (as.reverse ++ st).map (jc_rz α) = (as.map (jc_rz α)).reverse ++ st.map (jc_rz α) := by
  rw [List.map_append, List.map_reverse]
theorem jc_oks_app {a b : List jc_V} (h : jc_oks live (a ++ b)) : jc_oks live a ∧ jc_oks live b := ⟨fun v hv => h v (List.mem_append_left _ hv), fun v hv => h v (List.mem_append_right _ hv)⟩
theorem jc_oks_rev {a : List jc_V} (h : jc_oks live a.reverse) : jc_oks live a := fun v hv => h v (List.mem_reverse.mpr hv)
theorem jr_callV {idx n ci : Nat} {z : jc_Y} {q : jc_L} {as : List jc_V} {Z1 : jc_Z} (hd : decode y.2.1 pc = .ok (.invokevirtual idx, 3)) (hlk : Cond.methodLink y.1.cls idx z.1 ∈ lw_tbl) (hkn : jc_kV z n) (hf : jc_fit y z) (hc : jc_cel q = .inl ci) (hz : (classes[ci]?).map (fun r => r.1) = some z.1.cls) (hn0 : as.length = n) (hst : st.length ≤ 8)
    (hCt : jc_Ct z (.inr (some q) :: as) I O live Z1) (hlv : ∀ q, live q → Z1.2.2.2.1 q) (h1 : nc + Z1.2.2.2.2.1 ≤ Z.2.2.2.2.1) (h2 : ns + Z1.2.2.2.2.2 ≤ Z.2.2.2.2.2)
    (h : jc_R y (pc + 3) ls (Z1.1.toList ++ st) Z1.2.1 Z1.2.2.1 Z1.2.2.2.1 (nc + Z1.2.2.2.2.1) (ns + Z1.2.2.2.2.2) Z) : jc_R y pc ls (as.reverse ++ .inr (some q) :: st) I O live nc ns Z := by
  intro s0 G p l e R s m args below meth c H locs α la Q hC hcc hss hR hS hk hkl hl hn K
  obtain ⟨hka, hkb⟩ := jc_oks_app hk
  have hka := jc_oks_rev hka
  have hq := jc_oks_hd hkb q rfl
  obtain ⟨hBs, hW, hx, hb, hml, hown, -⟩ := id hC
  have htg := jc_tag hc
  have hat := (hR.1 q hq (by omega)).1
  unfold jc_at at hat
  rw [hc] at hat
  obtain ⟨r, hr, cellB, g1, g2, g3, -⟩ := hat
  have hrz : r.1 = z.1.cls := by rw [hr] at hz; exact Option.some.inj hz
  have hrecv : ∃ cellB : Cell, H[α q]? = some cellB ∧ cellB.vm.isStatics = false ∧ s.vm.findClass z.1.cls = some cellB.cls := ⟨cellB, g1, by rw [g3]; rfl, by rw [g2, ← hrz]; exact ((jc_K hBs hW).1 ci r hr).2.1⟩
  rw [jc_stk]
  refine jc_back (y := y) (stv := (as.map (jc_rz α)).reverse ++ Value.ref (α q) :: st.map (jc_rz α)) (va_runV (As := as.map (jc_rz α)) (rest := st.map (jc_rz α)) (Ts := []) ⟨hx, hb, hml, hown, fun _ h => absurd h List.not_mem_nil⟩ (hCt s0 G l α hBs (jc_oks_cons (jc_ok_r hq) hka)) ⟨jc_cb hC hlk hkn.1 hf, jc_w hBs hW hkn.2.1 rfl, jc_w hBs hW hkn.2.2 rfl⟩ ⟨jc_blind, hrecv, fun U hU hWU => ⟨rfl, hW.trans hWU, by rw [hU]; exact hR⟩⟩ rfl (by rw [List.length_map]; exact hn0) hl.1 rfl (lv_room (by rw [jc_sum]; exact hst)) hd ⟨Nat.le_trans h1 hcc, Nat.le_trans h2 hss⟩) hlv h hC hcc hss hS (jc_oks_tl hkb) hkl hl hn K
theorem jr_callS {idx n : Nat} {z : jc_Y} {as : List jc_V} {Z1 : jc_Z} (hd : decode y.2.1 pc = .ok (.invokestatic idx, 3)) (hlk : Cond.methodLink y.1.cls idx z.1 ∈ lw_tbl) (hkn : jc_kS z n) (hf : jc_fit y z) (hn0 : as.length = n) (hst : st.length ≤ 8)
    (hCt : jc_Ct z as I O live Z1) (hlv : ∀ q, live q → Z1.2.2.2.1 q) (h1 : nc + Z1.2.2.2.2.1 ≤ Z.2.2.2.2.1) (h2 : ns + Z1.2.2.2.2.2 ≤ Z.2.2.2.2.2)
    (h : jc_R y (pc + 3) ls (Z1.1.toList ++ st) Z1.2.1 Z1.2.2.1 Z1.2.2.2.1 (nc + Z1.2.2.2.2.1) (ns + Z1.2.2.2.2.2) Z) : jc_R y pc ls (as.reverse ++ st) I O live nc ns Z := by
  intro s0 G p l e R s m args below meth c H locs α la Q hC hcc hss hR hS hk hkl hl hn K
  obtain ⟨hka, hkb⟩ := jc_oks_app hk
  have hka := jc_oks_rev hka
  obtain ⟨hBs, hW, hx, hb, hml, hown, -⟩ := id hC
  rw [jc_stkS]
  refine jc_back (y := y) (va_runS (As := as.map (jc_rz α)) (rest := st.map (jc_rz α)) (Ts := []) ⟨hx, hb, hml, hown, fun _ h => absurd h List.not_mem_nil⟩ (hCt s0 G l α hBs hka) ⟨jc_cb hC hlk hkn.1 hf, jc_w hBs hW hkn.2 rfl⟩ ⟨jc_blind, fun U hU hWU => ⟨rfl, hW.trans hWU, by rw [hU]; exact hR⟩⟩ rfl (by rw [List.length_map]; exact hn0) hl.1 rfl (lv_room (by rw [jc_sum]; exact hst)) hd ⟨Nat.le_trans h1 hcc, Nat.le_trans h2 hss⟩) hlv h hC hcc hss hS hkb hkl hl hn K
theorem jr_callI {idx n : Nat} {z : jc_Y} {q : jc_L} {as : List jc_V} {Z1 : jc_Z} (hd : decode y.2.1 pc = .ok (.invokespecial idx, 3)) (hlk : Cond.methodLink y.1.cls idx z.1 ∈ lw_tbl) (hkn : jc_kI z n) (hf : jc_fit y z) (hn0 : as.length = n) (hst : st.length ≤ 8)
    (hCt : jc_Ct z (.inr (some q) :: as) I O live Z1) (hlv : ∀ q, live q → Z1.2.2.2.1 q) (h1 : nc + Z1.2.2.2.2.1 ≤ Z.2.2.2.2.1) (h2 : ns + Z1.2.2.2.2.2 ≤ Z.2.2.2.2.2)
    (h : jc_R y (pc + 3) ls (Z1.1.toList ++ st) Z1.2.1 Z1.2.2.1 Z1.2.2.2.1 (nc + Z1.2.2.2.2.1) (ns + Z1.2.2.2.2.2) Z) : jc_R y pc ls (as.reverse ++ .inr (some q) :: st) I O live nc ns Z := by
  intro s0 G p l e R s m args below meth c H locs α la Q hC hcc hss hR hS hk hkl hl hn K
  obtain ⟨hka, hkb⟩ := jc_oks_app hk
  have hka := jc_oks_rev hka
  have hq := jc_oks_hd hkb q rfl
  obtain ⟨hBs, hW, hx, hb, hml, hown, -⟩ := id hC
  rw [jc_stk]
  have hcb := jc_cb (args := args) (Z1 := Z1) hC hlk hkn.1 hf
  have hM := hCt s0 G l α hBs (jc_oks_cons (jc_ok_r hq) hka)
  rw [hkn.2.2.1] at hcb hM
  refine jc_back (y := y) (va_runI (As := as.map (jc_rz α)) (rest := st.map (jc_rz α)) (Ts := []) ⟨hx, hb, hml, hown, fun _ h => absurd h List.not_mem_nil⟩ hM ⟨hcb, hkn.2.1, jc_w hBs hW hkn.2.2.2 rfl⟩ ⟨jc_blind, fun U hU hWU => ⟨rfl, hW.trans hWU, by rw [hU]; exact hR⟩⟩ rfl (by rw [List.length_map]; exact hn0) hl.1 rfl (lv_room (by rw [jc_sum]; exact hst)) hd ⟨Nat.le_trans h1 hcc, Nat.le_trans h2 hss⟩) hlv h hC hcc hss hS (jc_oks_tl hkb) hkl hl hn K
theorem jr_callSN {idx n : Nat} {host : String} {z : jc_Y} {as : List jc_V} {Z1 : jc_Z} (hd : decode y.2.1 pc = .ok (.invokestatic idx, 3)) (hlk : Cond.methodLinkNest y.1.cls idx z.1 host ∈ lw_tbl) (hkn : jc_kS z n) (hf : jc_fit y z) (hn0 : as.length = n) (hst : st.length ≤ 8)
    (hCt : jc_Ct z as I O live Z1) (hlv : ∀ q, live q → Z1.2.2.2.1 q) (h1 : nc + Z1.2.2.2.2.1 ≤ Z.2.2.2.2.1) (h2 : ns + Z1.2.2.2.2.2 ≤ Z.2.2.2.2.2)
    (h : jc_R y (pc + 3) ls (Z1.1.toList ++ st) Z1.2.1 Z1.2.2.1 Z1.2.2.2.1 (nc + Z1.2.2.2.2.1) (ns + Z1.2.2.2.2.2) Z) : jc_R y pc ls (as.reverse ++ st) I O live nc ns Z := by
  intro s0 G p l e R s m args below meth c H locs α la Q hC hcc hss hR hS hk hkl hl hn K
  obtain ⟨hka, hkb⟩ := jc_oks_app hk
  have hka := jc_oks_rev hka
  obtain ⟨hBs, hW, hx, hb, hml, hown, -⟩ := id hC
  rw [jc_stkS]
  refine jc_back (y := y) (va_runSN (As := as.map (jc_rz α)) (rest := st.map (jc_rz α)) (Ts := []) ⟨hx, hb, hml, hown, fun _ h => absurd h List.not_mem_nil⟩ (hCt s0 G l α hBs hka) ⟨jc_cn hC hlk hkn.1 hf, jc_w hBs hW hkn.2 rfl, trivial⟩ ⟨jc_blind, fun U hU hWU => ⟨rfl, hW.trans hWU, by rw [hU]; exact hR⟩⟩ rfl (by rw [List.length_map]; exact hn0) hl.1 rfl (lv_room (by rw [jc_sum]; exact hst)) hd ⟨Nat.le_trans h1 hcc, Nat.le_trans h2 hss⟩) hlv h hC hcc hss hS hkb hkl hl hn K
theorem jr_callIN {idx n : Nat} {host : String} {z : jc_Y} {q : jc_L} {as : List jc_V} {Z1 : jc_Z} (hd : decode y.2.1 pc = .ok (.invokespecial idx, 3)) (hlk : Cond.methodLinkNest y.1.cls idx z.1 host ∈ lw_tbl) (hkn : jc_kI z n) (hf : jc_fit y z) (hn0 : as.length = n) (hst : st.length ≤ 8)
    (hCt : jc_Ct z (.inr (some q) :: as) I O live Z1) (hlv : ∀ q, live q → Z1.2.2.2.1 q) (h1 : nc + Z1.2.2.2.2.1 ≤ Z.2.2.2.2.1) (h2 : ns + Z1.2.2.2.2.2 ≤ Z.2.2.2.2.2)
    (h : jc_R y (pc + 3) ls (Z1.1.toList ++ st) Z1.2.1 Z1.2.2.1 Z1.2.2.2.1 (nc + Z1.2.2.2.2.1) (ns + Z1.2.2.2.2.2) Z) : jc_R y pc ls (as.reverse ++ .inr (some q) :: st) I O live nc ns Z := by
  intro s0 G p l e R s m args below meth c H locs α la Q hC hcc hss hR hS hk hkl hl hn K
  obtain ⟨hka, hkb⟩ := jc_oks_app hk
  have hka := jc_oks_rev hka
  have hq := jc_oks_hd hkb q rfl
  obtain ⟨hBs, hW, hx, hb, hml, hown, -⟩ := id hC
  rw [jc_stk]
  have hcb := jc_cn (args := args) (Z1 := Z1) hC hlk hkn.1 hf
  have hM := hCt s0 G l α hBs (jc_oks_cons (jc_ok_r hq) hka)
  rw [hkn.2.2.1] at hcb hM
  refine jc_back (y := y) (va_runIN (As := as.map (jc_rz α)) (rest := st.map (jc_rz α)) (Ts := []) ⟨hx, hb, hml, hown, fun _ h => absurd h List.not_mem_nil⟩ hM ⟨hcb, hkn.2.1, jc_w hBs hW hkn.2.2.2 rfl⟩ ⟨jc_blind, fun U hU hWU => ⟨rfl, hW.trans hWU, by rw [hU]; exact hR⟩⟩ rfl (by rw [List.length_map]; exact hn0) hl.1 rfl (lv_room (by rw [jc_sum]; exact hst)) hd ⟨Nat.le_trans h1 hcc, Nat.le_trans h2 hss⟩) hlv h hC hcc hss hS (jc_oks_tl hkb) hkl hl hn K
/-- Object's constructor -/
theorem jr_objInit {idx : Nat} {q : jc_L} (hd : decode y.2.1 pc = .ok (.invokespecial idx, 3)) (hlk : Cond.methodLink y.1.cls idx objectInit ∈ lw_tbl) (hin : Cond.instanceMethod objectInit ∈ lw_tbl) (hco : Cond.code objectInit ⟨#[0xb1]⟩ 1 none ∈ lw_tbl) (hf : 1 ≤ y.2.2.2.2.1) (hlo : st.length + 12 ≤ y.2.2.2.2.2) (h : jc_R y (pc + 3) ls st I O live nc ns Z) : jc_R y pc ls (.inr (some q) :: st) I O live nc ns Z := by
  intro s0 G p l e R s m args below meth c H locs α la Q hC hcc hss hR hS hk hkl hl hn K
  obtain ⟨hBs, hW, hx, hb, hml, hown, hnm, h1, h2, -⟩ := id hC
  refine W.objInit hx hb hown (jc_w hBs hW hlk rfl) (jc_w hBs hW hin rfl) (jc_w hBs hW hco rfl) rfl (by rw [hml]; exact hl.1) rfl hd (Nat.le_trans hf h1) (by show 2 * 0 + _ + 12 ≤ _; rw [jc_sum]; omega) ?_
  exact h s0 G p l e R s m args below meth c H locs α la Q hC hcc hss hR hS (jc_oks_tl hk) hkl hl hn K
theorem jr_cast {idx ci : Nat} {nm : String} {q : jc_L} (hd : decode y.2.1 pc = .ok (.checkcast idx, 3)) (hlk : Cond.classLink y.1.cls idx nm ∈ lw_tbl) (hc : jc_cel q = .inl ci) (hz : ∃ r, classes[ci]? = some r ∧ Cond.castable r.1 nm ∈ lw_tbl) (h : jc_R y (pc + 3) ls (.inr (some q) :: st) I O live nc ns Z) : jc_R y pc ls (.inr (some q) :: st) I O live nc ns Z := by
  intro s0 G p l e R s m args below meth c H locs α la Q hC hcc hss hR hS hk hkl hl hn K
  obtain ⟨hBs, hW, hx, hb, hml, hown, -⟩ := id hC
  have hq := jc_oks_hd hk q rfl
  have htg := jc_tag hc
  have hat := (hR.1 q hq (by omega)).1
  unfold jc_at at hat
  rw [hc] at hat
  obtain ⟨r, hr, cellB, g1, g2, g3, -⟩ := hat
  obtain ⟨r', hr', hca⟩ := hz
  cases hr.symm.trans hr'
  refine va_castY (C := r.1) hx hb hown (jc_w hBs hW hlk rfl) (jc_wC hBs hW hca) ⟨cellB, g1, by rw [g3]; rfl, by rw [g2]; exact ((jc_K hBs hW).1 ci r hr).2.1⟩ hd ?_
  exact h s0 G p l e R s m args below meth c H locs α la Q hC hcc hss hR hS hk hkl hl hn K
def jc_rok (ret : Option FieldType) (r : Option jc_V) : Prop := match r with
  | none => ret = none
  | some (.inl x) => ret = some .int ∨ (ret = some .boolean ∧ (x = 0 ∨ x = 1))
  | some (.inr _) => (∃ n, ret = some (.object n)) ∨ ∃ t, ret = some (.array t)
theorem jc_args (α : jc_L → Nat) (as : List jc_V) (k n : Nat) (i : Nat) (w : Value) (h : (i, w) ∈ jc_lp α (as.map some ++ List.replicate n none)) : (k + i, w) ∈ lv_args k (as.map (jc_rz α)) := by
  obtain ⟨v, hv, rfl⟩ := jc_lp_mem.mp h
  clear h
  induction as generalizing k i with
  | nil =>
    simp only [List.map_nil, List.nil_append] at hv
    rw [List.getElem?_replicate] at hv
    split at hv <;> cases hv
  | cons u t ih =>
    cases i with
    | zero =>
      simp only [List.map_cons, List.cons_append, List.getElem?_cons_zero, Option.some.injEq] at hv
      subst hv
      exact List.mem_cons_self
    | succ i =>
      simp only [List.map_cons, List.cons_append, List.getElem?_cons_succ] at hv
      have h2 := ih (k + 1) i hv
      rw [show k + (i + 1) = k + 1 + i by omega]
      show _ ∈ (k, jc_rz α u) :: lv_args (if (jc_rz α u).category = 2 then k + 2 else k + 1) (t.map (jc_rz α))
      rw [jc_rz_cat, if_neg (by decide)]
      exact List.mem_cons_of_mem _ h2
theorem jc_lsl (α : jc_L → Nat) (as : List jc_V) : (lg_sl (as.map (jc_rz α))).length = as.length := by
  unfold lg_sl
  induction as with
  | nil => rfl
  | cons u t ih => simp only [List.map_cons, List.flatMap_cons, List.length_append, jc_rz_cat, List.length_cons] at ih ⊢; rw [ih, if_neg (by decide)]; simp; omega
/-- a method's contract out of its walk -/
theorem jc_Ct.of {as : List jc_V} (hpl : plainName y.1.cls = true) (hret : jc_rok y.2.2.2.1 Z.1) (hlen : as.length ≤ y.2.2.1) (h : jc_R y 0 (as.map some ++ List.replicate (y.2.2.1 - as.length) none) [] I O live 0 0 Z) : jc_Ct y as I O live Z := by
  intro s0 G l α hBs hok
  refine Met.ofW (cc := y.2.1) (maxL := y.2.2.1) (ret := y.2.2.2.1) hpl rfl ?_
  intro p e s m args below meth c s₁ B hml hv
  obtain ⟨rfl, hW, hRep⟩ := hv
  have hx := B.exec
  have hb := B.bytes
  have hr := B.returns
  have hown : s.vm.findClass y.1.cls = some m.cls := findClass_of_methodNamed B.named
  have hlocks := B.notSynchronized
  have hnm : meth.name = y.1.name := (name_of_methodNamed B.named B.method).1
  rw [lg_entry_eq]
  have hl := lv_entry (as.map (jc_rz α)) (n := y.2.2.1) (by rw [jc_lsl]; exact hlen)
  generalize (lg_sl (as.map (jc_rz α)) ++ List.replicate (y.2.2.1 - (lg_sl (as.map (jc_rz α))).length) Slot.unset).toArray = la at hl ⊢
  refine h s0 G p l e _ s m _ below meth c s.heap [] α la _ ⟨hBs, hW, hx, hb, hml, hown, hnm, Nat.le_refl _, Nat.le_refl _, hRep.2.2.2.2.2.1, hRep.2.2.2.2.2.2⟩ (Nat.le_refl _) (Nat.le_refl _) hRep va_S.rf (fun v hv => absurd hv List.not_mem_nil) ?_ ⟨hl.1, hl.2.1, fun q hq => ?_⟩ ?_ ?_
  · intro v hv
    rcases List.mem_append.mp hv with h9 | h9
    · obtain ⟨u, hu, e9⟩ := List.mem_map.mp h9
      cases e9
      exact hok _ hu
    · have := List.eq_of_mem_replicate h9
      cases this
  · obtain ⟨i, w⟩ := q
    have h9 := jc_args α as 0 _ i w hq
    rw [Nat.zero_add] at h9
    exact hl.2.2 (i, w) h9
  · simp only [List.length_append, List.length_map, List.length_replicate]; omega
  · intro α' H' locs' la' pc' k1 k2 k3 k4 k5
    obtain ⟨r, I', O', live', mc, ms⟩ := Z
    have hq : ∀ t : State, t.heap = H' → s.WarmedH t.vm → jc_Q s0 G α live (r, I', O', live', mc, ms) (as.map (jc_rz α)).toArray s (.returned (r.map (jc_rz α'))) t := fun t ht _ => ⟨α', k3, rfl, k4, by rw [ht]; exact k1, k2.F ht⟩
    cases r with
    | none =>
      have hret : y.2.2.2.1 = none := hret
      rw [hret] at hr
      exact W.vret hx hb hr hq k2.2.2 k5
    | some v =>
      cases v with
      | inl x =>
        have hret : y.2.2.2.1 = some .int ∨ (y.2.2.2.1 = some .boolean ∧ (x = 0 ∨ x = 1)) := hret
        rcases hret with hret | ⟨hret, hx01⟩
        · rw [hret] at hr
          exact W.iret hx hb hr hq k2.2.2 k5
        · rw [hret] at hr
          exact W.zret hx hb hr (by rcases hx01 with rfl | rfl <;> decide +kernel) hq k2.2.2 k5
      | inr o =>
        have hret : (∃ n, y.2.2.2.1 = some (.object n)) ∨ ∃ t, y.2.2.2.1 = some (.array t) := hret
        rcases hret with ⟨n, hret⟩ | ⟨t, hret⟩
        · rw [hret] at hr
          exact W.aret hx hb hr (Or.inl ⟨n, rfl⟩) (va_rf_or _) hq k2.2.2 k5
        · rw [hret] at hr
          exact W.aret hx hb hr (Or.inr ⟨t, rfl⟩) (va_rf_or _) hq k2.2.2 k5
end JCC
