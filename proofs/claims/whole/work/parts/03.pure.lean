/-! THE PURE MACHINE: labels for cells, ints and references apart; jc_R says of a frame that it comes to its return with a given answer and a given heap; jc_Ct is a method's contract. -/
section JCD
abbrev jc_L : Type := Nat × Nat × Nat
abbrev jc_V : Type := Int32 ⊕ Option jc_L
abbrev jc_I : Type := jc_L → Nat → Int32
abbrev jc_O : Type := jc_L → Nat → Option jc_L
/-- name, code, locals, answer, frames and locals that its calls need -/
abbrev jc_Y : Type := MethodName × ByteArray × Nat × Option FieldType × Nat × Nat
abbrev jc_Z : Type := Option jc_V × jc_I × jc_O × (jc_L → Prop) × Nat × Nat
/-- classes and slots, array classes, the class object of Object[], ArrayList's empty array -/
abbrev jc_G : Type := va_G × (Nat → ClassId) × Nat × Nat
def jc_rz (α : jc_L → Nat) (v : jc_V) : Value := match v with
  | .inl x => .int x
  | .inr o => va_rf (o.map α)
def jc_up {β : Type} (f : jc_L → Nat → β) (q : jc_L) (k : Nat) (v : β) : jc_L → Nat → β := fun q' k' => if q' = q ∧ k' = k then v else f q' k'
def jc_cl {β : Type} (f : jc_L → Nat → β) (q : jc_L) (v : β) : jc_L → Nat → β := fun q' k' => if q' = q then v else f q' k'
def jc_isR (d : String) : Bool := !(d == "I" || d == "Z")
def jc_isA (ty : FieldType) : Bool := match ty with
  | .int => false
  | .boolean => false
  | _ => true
def jc_fv (T : u_T) (I : jc_I) (O : jc_O) (α : jc_L → Nat) (q : jc_L) (k : Nat) : Value := jc_rz α (if jc_isR (T k).2.2.1 then .inr (O q k) else .inl (I q k))
def jc_av (ty : FieldType) (I : jc_I) (O : jc_O) (α : jc_L → Nat) (q : jc_L) (k : Nat) : Value := jc_rz α (if jc_isA ty then .inr (O q k) else .inl (I q k))
/-- the cell of a label -/
def jc_at (s0 : State) (G : jc_G) (α : jc_L → Nat) (I : jc_I) (O : jc_O) (q : jc_L) (H : Heap) : Prop := match jc_cel q with
  | .inl ci => ∃ r : vw_C, classes[ci]? = some r ∧ t_OB (α q) (G.1.1 ci) r.2.2 (G.1.2 ci) H (jc_fv r.2.1 I O α q)
  | .inr tn => if tn.1 = 90 then ∃ cell : Cell, H[α q]? = some cell ∧ s0.isArrayOf cell .int ∧ cell.vm ≠ .unknown ∧ cell.slots.size = tn.2 ∧ ∀ j, j < tn.2 → cell.slots[j]? = some (.int (I q j))
    else if tn.1 = 91 then ∃ cell : Cell, H[α q]? = some cell ∧ s0.isArrayOf cell (.object "java/lang/Object") ∧ cell.slots.size = 0
    else ∃ ty : FieldType, jc_tys[tn.1]? = some ty ∧ H[α q]? = some (arrV (G.2.1 tn.1) tn.2 (jc_av ty I O α q))
def jc_Rep (s0 : State) (G : jc_G) (α : jc_L → Nat) (I : jc_I) (O : jc_O) (live : jc_L → Prop) (H : Heap) : Prop :=
  (∀ q, live q → q.1 ≠ 98 → jc_at s0 G α I O q H ∧ (q.1 < 96 → s0.heap.size ≤ α q)) ∧ (∀ q q', live q → live q' → q.1 ≠ 98 → q'.1 ≠ 98 → α q = α q' → q = q') ∧ (∀ q k q', live q → O q k = some q' → live q') ∧
  (live (97, 0, 0) ∧ α (97, 0, 0) = G.2.2.2) ∧ (live (98, 0, 0) ∧ α (98, 0, 0) = G.2.2.1) ∧ s0.heap.size ≤ H.size ∧ ∀ a, a < s0.heap.size → H[a]? = s0.heap[a]?
def jc_Bs (s0 : State) (G : jc_G) : Prop := (∃ a0 : Array Value, ∀ w ∈ lw_tbl, w.before a0 s0 = true) ∧ va_K G.1 classes [] s0 ∧ (∀ (ti : Nat) (ty : FieldType), jc_tys[ti]? = some ty → ArrOfT s0 (G.2.1 ti) ty ∧ va_RA s0 (G.2.1 ti) ty) ∧
  va_Mi "[Ljava/lang/Object;" G.2.2.1 s0 ∧ va_Z "java/util/ArrayList" "DEFAULTCAPACITY_EMPTY_ELEMENTDATA" "[Ljava/lang/Object;" (.ref G.2.2.2) (fun q => s0.heap.size ≤ q) s0 s0.heap
def jc_Cx (y : jc_Y) (s0 : State) (G : jc_G) (p : Program) (R : Room) (s : State) (m : MethodId) (meth : Method) (c : Code) : Prop :=
  jc_Bs s0 G ∧ s0.WarmedH s.vm ∧ p.tables.exec = Jvm.exec ∧ c.code = y.2.1 ∧ c.maxLocals = y.2.2.1 ∧ s.vm.findClass y.1.cls = some m.cls ∧ meth.name = y.1.name ∧ y.2.2.2.2.1 ≤ R.frames ∧ y.2.2.2.2.2 ≤ R.locals ∧ s0.heap.size ≤ s.heap.size ∧ ∀ a, a < s0.heap.size → s.heap[a]? = s0.heap[a]?
def jc_ok (live : jc_L → Prop) (v : jc_V) : Prop := ∀ q, v = .inr (some q) → live q
def jc_oks (live : jc_L → Prop) (l : List jc_V) : Prop := ∀ v ∈ l, jc_ok live v
def jc_okl (live : jc_L → Prop) (l : List (Option jc_V)) : Prop := ∀ v, some v ∈ l → jc_ok live v
def jc_lp (α : jc_L → Nat) (l : List (Option jc_V)) : List (Nat × Value) := (List.range l.length).filterMap (fun i => (l[i]?.join).map (fun v => (i, jc_rz α v)))
def jc_rins (r : Option jc_V) : Instr := match r with
  | none => .return_
  | some (.inl _) => .ireturn
  | some (.inr _) => .areturn
def jc_R (y : jc_Y) (pc : Nat) (ls : List (Option jc_V)) (st : List jc_V) (I : jc_I) (O : jc_O) (live : jc_L → Prop) (nc ns : Nat) (Z : jc_Z) : Prop :=
  ∀ (s0 : State) (G : jc_G) (p : Program) (l : Launch) (e : Env) (R : Room) (s : State) (m : MethodId) (args : Array Value) (below : List Frame) (meth : Method) (c : Code) (H : Heap) (locs : List Loc) (α : jc_L → Nat) (la : Array Slot) (Q : State → Prop),
    jc_Cx y s0 G p R s m meth c → Z.2.2.2.2.1 ≤ R.cells → Z.2.2.2.2.2 ≤ R.slots → jc_Rep s0 G α I O live H → va_S (fun q => s0.heap.size ≤ q) s.heap H locs → jc_oks live st → jc_okl live ls → lv_has la y.2.2.1 (jc_lp α ls) → ls.length = y.2.2.1 →
    (∀ (α' : jc_L → Nat) (H' : Heap) (locs' : List Loc) (la' : Array Slot) (pc' : Nat), jc_Rep s0 G α' Z.2.1 Z.2.2.1 Z.2.2.2.1 H' → va_S (fun q => s0.heap.size ≤ q) s.heap H' locs' → (∀ q, live q → α' q = α q) → (∀ v, Z.1 = some v → jc_ok Z.2.2.2.1 v) → decode y.2.1 pc' = .ok (jc_rins Z.1, 1) →
      W p l e R s m args below meth c H' locs' Z.2.2.2.2.1 Z.2.2.2.2.2 Q (F0 m pc' la' (Z.1.toList.map (jc_rz α')))) →
    W p l e R s m args below meth c H locs nc ns Q (F0 m pc la (st.map (jc_rz α)))
def jc_Ct (y : jc_Y) (as : List jc_V) (I : jc_I) (O : jc_O) (live : jc_L → Prop) (Z : jc_Z) : Prop :=
  ∀ (s0 : State) (G : jc_G) (l : Launch) (α : jc_L → Nat), jc_Bs s0 G → jc_oks live as →
    Met l y.1 [Cond.code y.1 y.2.1 y.2.2.1 y.2.2.2.1] { frames := y.2.2.2.2.1, cells := Z.2.2.2.2.1, slots := Z.2.2.2.2.2, locals := y.2.2.2.2.2 }
      (va_Pc (as.map (jc_rz α)) (fun U => s0.WarmedH U.vm ∧ jc_Rep s0 G α I O live U.heap))
      (fun _ st oc t => ∃ α' : jc_L → Nat, (∀ q, live q → α' q = α q) ∧ oc = .returned (Z.1.map (jc_rz α')) ∧ (∀ v, Z.1 = some v → jc_ok Z.2.2.2.1 v) ∧ jc_Rep s0 G α' Z.2.1 Z.2.2.1 Z.2.2.2.1 t.heap ∧ va_F (fun q => s0.heap.size ≤ q) st t)
      Z.2.2.2.2.1 Z.2.2.2.2.2 (fun q => s0.heap.size ≤ q)
end JCD
