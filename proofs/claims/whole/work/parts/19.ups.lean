theorem jc_up_s {β : Type} (f : jc_L → Nat → β) (q : jc_L) (k : Nat) (v : β) : jc_up f q k v q k = v := if_pos ⟨rfl, rfl⟩
theorem jc_up_k {β : Type} (f : jc_L → Nat → β) (q q' : jc_L) (k k' : Nat) (v : β) (h : k' ≠ k) : jc_up f q k v q' k' = f q' k' := if_neg (fun e => h e.2)
theorem jc_up_q {β : Type} (f : jc_L → Nat → β) (q q' : jc_L) (k k' : Nat) (v : β) (h : q' ≠ q) : jc_up f q k v q' k' = f q' k' := if_neg (fun e => h e.1)
theorem jc_up_t {β : Type} (f : jc_L → Nat → β) (t t' : Nat) (u u' : Nat × Nat) (k k' : Nat) (v : β) (h : t' ≠ t) : jc_up f (t, u) k v (t', u') k' = f (t', u') k' := if_neg (fun e => h (congrArg Prod.fst e.1))
theorem jc_cl_s {β : Type} (f : jc_L → Nat → β) (q : jc_L) (k : Nat) (v : β) : jc_cl f q v q k = v := if_pos rfl
theorem jc_cl_t {β : Type} (f : jc_L → Nat → β) (t t' : Nat) (u u' : Nat × Nat) (k' : Nat) (v : β) (h : t' ≠ t) : jc_cl f (t, u) v (t', u') k' = f (t', u') k' := if_neg (fun e => h (congrArg Prod.fst e))
