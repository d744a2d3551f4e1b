noncomputable def q_m0 : q_Mm := ([.inr (.inl (8, q_born 8))], q_up (fun _ _ => 0) 0 (fun _ => 0))
noncomputable def q_w1 : Option (Option Value × q_Mm) := q_exec 3000 none 86 (q_ent 86 [.ref 0]) q_m0
noncomputable def q_next (o : Option (Option Value × q_Mm)) : q_Mm := match o with
  | some w => (w.2.1 ++ [.inr (.inl (9, q_born 9))], q_up w.2.2 w.2.1.length (fun _ => 0))
  | none => ([], fun _ _ => 0)
noncomputable def q_m1 : q_Mm := q_next q_w1
noncomputable def q_w2 : Option (Option Value × q_Mm) := q_exec 1000 none 133 (q_ent 133 [.ref 83]) q_m1
def q_sheq (x y : q_Sh) : Bool := match x, y with
  | .inl a, .inl b => decide (a = b)
  | .inr (.inl a), .inr (.inl b) => decide (a = b)
  | .inr (.inr a), .inr (.inr b) => decide (a = b)
  | _, _ => false
theorem q_sheq_of {x y : q_Sh} (h : q_sheq x y = true) : x = y := by
  unfold q_sheq at h
  split at h
  · rw [of_decide_eq_true h]
  · rw [of_decide_eq_true h]
  · rw [of_decide_eq_true h]
  · cases h
def q_leq : List q_Sh → List q_Sh → Bool
  | [], [] => true
  | x :: xs, y :: ys => q_sheq x y && q_leq xs ys
  | _, _ => false
theorem q_leq_of : ∀ {x y : List q_Sh}, q_leq x y = true → x = y
  | [], [], _ => rfl
  | x :: xs, y :: ys, h => by
    simp only [q_leq, Bool.and_eq_true] at h
    rw [q_sheq_of h.1, q_leq_of h.2]
  | [], _ :: _, h => by cases h
  | _ :: _, [], h => by cases h
/-- the ints at the start -/
def q_iv (id j : Nat) : Int32 := if id = 1 ∨ id = 83 then (if id = 83 then (if j = 1 then 5 else if j = 2 then 3 else 0) else if j = 3 then 5 else if j = 4 then 3 else 0)
  else if id = 12 ∨ id = 71 ∨ id = 75 ∨ id = 79 then (if j = 3 then 1 else 0) else if id = 94 then (if j < 4 then 1 else 0) else 0
def q_Init (M : MM) : Prop := ∀ id, id < 107 → ∀ j, j < 30 → M id j = q_iv id j
set_option maxRecDepth 100000 in
theorem q_w1_len : (q_w1.map (fun w => (w.1, decide (w.2.1.length = 83)))) = some (none, true) := by decide +kernel
set_option maxRecDepth 100000 in
theorem q_w2_S : (q_w2.map (fun w => (w.1, q_leq w.2.1 q_S))) = some (none, true) := by decide +kernel
set_option maxRecDepth 100000 in
theorem q_w2_M : (q_w2.map (fun w => (List.range 107).all fun id => (List.range 30).all fun j => decide (w.2.2 id j = q_iv id j))) = some true := by decide +kernel
theorem q_w2_of : ∃ M, q_w2 = some (none, (q_S, M)) ∧ q_Init M := by
  have h1 := q_w2_S
  have h2 := q_w2_M
  cases hw : q_w2 with
  | none => rw [hw] at h1; cases h1
  | some w =>
    obtain ⟨v, sh, M⟩ := w
    rw [hw] at h1 h2
    simp only [Option.map_some, Option.some.injEq, Prod.mk.injEq] at h1 h2
    obtain ⟨rfl, h1⟩ := h1
    obtain rfl := q_leq_of h1
    refine ⟨M, rfl, fun id hi j hj => ?_⟩
    have := List.all_eq_true.mp (List.all_eq_true.mp h2 id (List.mem_range.mpr hi)) j (List.mem_range.mpr hj)
    exact of_decide_eq_true this
theorem q_w1_of : ∃ sh M, q_w1 = some (none, (sh, M)) ∧ sh.length = 83 ∧ q_m1 = (sh ++ [.inr (.inl (9, q_born 9))], q_up M 83 (fun _ => 0)) := by
  have h1 := q_w1_len
  cases hw : q_w1 with
  | none => rw [hw] at h1; cases h1
  | some w =>
    obtain ⟨v, sh, M⟩ := w
    rw [hw] at h1
    simp only [Option.map_some, Option.some.injEq, Prod.mk.injEq, decide_eq_true_eq] at h1
    obtain ⟨rfl, h1⟩ := h1
    refine ⟨sh, M, rfl, h1, ?_⟩
    unfold q_m1
    rw [hw]
    simp only [q_next, h1]
set_option maxRecDepth 100000 in
theorem q_law_nums : Nat.ble (0 + 1) (q_mc 205) = true ∧ Nat.ble (0 + (q_born 8).length) (q_ms 205) = true ∧ (q_born 8).length = 10 ∧ (q_born 9).length = 29 ∧ q_mc 205 = 600000 ∧ q_ms 205 = 7302250 ∧ q_mc 86 = 82 ∧ q_ms 86 = 1454 ∧ q_mc 133 = 23 ∧ q_ms 133 = 643 := by decide +kernel
theorem q_law_start (X : q_X) (Q : Option Value → q_Mm → Prop) (h : ∀ M, q_Init M → q_Wp X 205 (10, [some (.retAddr 0), some (.ref 0), some (.ref 83), some (.int (nI 0))], [], 107, 2136) (q_S, M) Q) : q_Wp X 205 (q_ent 205 [.retAddr 0]) ([], fun _ _ => 0) Q := by
  obtain ⟨n1, n2, n3, n4, n5, n6, n7, n8, n9, n10⟩ := q_law_nums
  have hk : q_cd 205 = kd_L_law := rfl
  obtain ⟨sh1, M1, e1, l1, e2⟩ := q_w1_of
  obtain ⟨M2, e3, i3⟩ := q_w2_of
  show q_Wp X 205 (0, [some (.retAddr 0), none, none, none], [], 0, 0) ([], fun _ _ => 0) Q
  refine q_Wp.step (fr' := (1, [some (.retAddr 0), none, none, none], [.ref 0], 1, 10)) (mm' := q_m0) ?_ ?_
  · have h0 : (q_cd 205)[0]? = some (0, 3, .new 7, 8, 0, 69, 0) := rfl
    simp only [q_step, h0, q_ins, q_mk, n1, n2, Bool.and_self, cond_true, n3]
    rfl
  refine q_Wp.step (q_sim_ok hk rfl rfl) ?_
  refine q_Wp.call (k' := 86) (as := [.ref 0]) (fr' := (3, [some (.retAddr 0), none, none, none], [.ref 0], 83, 1464)) ?_ ?_
  · have h0 : (q_cd 205)[2]? = some (4, 3, .invokespecial 9, 86, 1, 2, 71) := rfl
    show q_step X 205 (2, [some (.retAddr 0), none, none, none], [.ref 0, .ref 0], 1, 10) q_m0 = _
    simp only [q_step, h0, q_ins, show Nat.beq 2 6 = false from rfl, show Nat.beq 2 2 = true from rfl, cond_false, cond_true, Bool.true_or, q_inv, n5, n6, n7, n8]
    rfl
  refine ⟨3000, none, (sh1, M1), e1, ?_⟩
  show q_Wp X 205 (3, [some (.retAddr 0), none, none, none], [.ref 0], 83, 1464) (sh1, M1) Q
  refine q_Wp.step (q_sim_ok hk rfl rfl) ?_
  refine q_Wp.step (fr' := (5, [some (.retAddr 0), some (.ref 0), none, none], [.ref 83], 84, 1493)) (mm' := q_m1) ?_ ?_
  · have h0 : (q_cd 205)[4]? = some (8, 3, .new 10, 9, 0, 799, 0) := rfl
    show q_step X 205 (4, [some (.retAddr 0), some (.ref 0), none, none], [], 83, 1464) (sh1, M1) = _
    simp only [q_step, h0, q_ins, q_mk, n4, n5, n6, l1, e2, show (Nat.ble (83 + 1) 600000 && Nat.ble (1464 + 29) 7302250) = true from rfl, cond_true]
    rfl
  refine q_Wp.step (q_sim_ok hk rfl rfl) ?_
  refine q_Wp.call (k' := 133) (as := [.ref 83]) (fr' := (7, [some (.retAddr 0), some (.ref 0), none, none], [.ref 83], 107, 2136)) ?_ ?_
  · have h0 : (q_cd 205)[6]? = some (12, 3, .invokespecial 12, 133, 1, 2, 801) := rfl
    show q_step X 205 (6, [some (.retAddr 0), some (.ref 0), none, none], [.ref 83, .ref 83], 84, 1493) q_m1 = _
    simp only [q_step, h0, q_ins, show Nat.beq 2 6 = false from rfl, show Nat.beq 2 2 = true from rfl, cond_false, cond_true, Bool.true_or, q_inv, n5, n6, n9, n10]
    rfl
  refine ⟨1000, none, (q_S, M2), e3, ?_⟩
  show q_Wp X 205 (7, [some (.retAddr 0), some (.ref 0), none, none], [.ref 83], 107, 2136) (q_S, M2) Q
  refine q_Wp.step (q_sim_ok hk rfl rfl) ?_
  refine q_Wp.step (q_sim_ok hk rfl rfl) ?_
  refine q_Wp.step (q_sim_ok hk rfl rfl) ?_
  exact h M2 i3
