/-! what there is behind the two constructors; the calculus over it -/
def q_S : List q_Sh := [
  .inr (.inl (8, [some (some 1), some (some 5), some (some 9), some (some 11), some (some 12), some (some 16), some (some 20), some (some 24), some (some 35), some (some 69)])),
  .inr (.inl (0, [some (some 2), some (some 3), some (some 4), none, none, none])),
  .inl (false, 28),
  .inl (false, 7),
  .inl (false, 4),
  .inr (.inl (0, [some (some 6), some (some 7), some (some 8), none, none, none])),
  .inl (false, 28),
  .inl (false, 7),
  .inl (false, 4),
  .inr (.inl (7, [some (some 10), none])),
  .inl (false, 16),
  .inr (.inr (5, [some 71, some 75, some 79])),
  .inr (.inl (5, [some (some 13), some (some 14), some (some 15), none, none])),
  .inl (false, 3),
  .inl (false, 3),
  .inl (false, 21),
  .inr (.inl (6, [some (some 17), some (some 19), none, none])),
  .inr (.inl (4, [some (some 18)])),
  .inl (false, 7),
  .inl (false, 12),
  .inr (.inl (6, [some (some 21), some (some 23), none, none])),
  .inr (.inl (4, [some (some 22)])),
  .inl (false, 7),
  .inl (false, 12),
  .inr (.inl (3, [some (some 25), some (some 27), some (some 31), some (some 32), some (some 33), some (some 34), none, none])),
  .inr (.inl (4, [some (some 26)])),
  .inl (false, 7),
  .inr (.inl (0, [some (some 28), some (some 29), some (some 30), none, none, none])),
  .inl (false, 28),
  .inl (false, 7),
  .inl (false, 4),
  .inl (false, 72),
  .inl (false, 144),
  .inl (true, 3),
  .inl (false, 4),
  .inr (.inl (2, [some (some 36), none])),
  .inr (.inr (0, [some 37, some 41, some 45, some 49, some 53, some 57, some 61, some 65])),
  .inr (.inl (0, [some (some 38), some (some 39), some (some 40), none, none, none])),
  .inl (false, 28),
  .inl (false, 7),
  .inl (false, 4),
  .inr (.inl (0, [some (some 42), some (some 43), some (some 44), none, none, none])),
  .inl (false, 28),
  .inl (false, 7),
  .inl (false, 4),
  .inr (.inl (0, [some (some 46), some (some 47), some (some 48), none, none, none])),
  .inl (false, 28),
  .inl (false, 7),
  .inl (false, 4),
  .inr (.inl (0, [some (some 50), some (some 51), some (some 52), none, none, none])),
  .inl (false, 28),
  .inl (false, 7),
  .inl (false, 4),
  .inr (.inl (0, [some (some 54), some (some 55), some (some 56), none, none, none])),
  .inl (false, 28),
  .inl (false, 7),
  .inl (false, 4),
  .inr (.inl (0, [some (some 58), some (some 59), some (some 60), none, none, none])),
  .inl (false, 28),
  .inl (false, 7),
  .inl (false, 4),
  .inr (.inl (0, [some (some 62), some (some 63), some (some 64), none, none, none])),
  .inl (false, 28),
  .inl (false, 7),
  .inl (false, 4),
  .inr (.inl (0, [some (some 66), some (some 67), some (some 68), none, none, none])),
  .inl (false, 28),
  .inl (false, 7),
  .inl (false, 4),
  .inr (.inl (1, [some (some 70)])),
  .inl (false, 512),
  .inr (.inl (5, [some (some 72), some (some 73), some (some 74), none, none])),
  .inl (false, 3),
  .inl (false, 3),
  .inl (false, 21),
  .inr (.inl (5, [some (some 76), some (some 77), some (some 78), none, none])),
  .inl (false, 3),
  .inl (false, 3),
  .inl (false, 21),
  .inr (.inl (5, [some (some 80), some (some 81), some (some 82), none, none])),
  .inl (false, 3),
  .inl (false, 3),
  .inl (false, 21),
  .inr (.inl (9, [none, none, none, some (some 84), some (some 85), some (some 86), some (some 87), some (some 88), some (some 89), some (some 90), none, none, some (some 91), some (some 92), some (some 93), some (some 94), some (some 95), some (some 96), some (some 97), some (some 98), some (some 99), some (some 100), none, some (some 101), some (some 102), some (some 103), some (some 104), some (some 105), some (some 106)])),
  .inl (false, 7),
  .inl (false, 4),
  .inl (false, 28),
  .inl (true, 7),
  .inl (false, 28),
  .inl (true, 7),
  .inl (false, 16),
  .inl (false, 3),
  .inl (false, 3),
  .inl (false, 21),
  .inl (false, 4),
  .inl (false, 12),
  .inl (false, 12),
  .inl (false, 84),
  .inl (false, 12),
  .inl (false, 7),
  .inl (false, 4),
  .inl (false, 8),
  .inl (false, 8),
  .inl (false, 56),
  .inl (false, 32),
  .inl (false, 224),
  .inl (true, 56)]
theorem q_exec_mono : ∀ (n d : Nat) (X : q_X) (k : Nat) (fr : q_Fr) (m : q_Mm) (w : Option Value × q_Mm), q_exec n X k fr m = some w → q_exec (n + d) X k fr m = some w := by
  intro n
  induction n with
  | zero => intro d X k fr m w h; cases h
  | succ n ih =>
    intro d X k fr m w h
    rw [show n + 1 + d = (n + d) + 1 by omega]
    simp only [q_exec] at h ⊢
    cases hs : q_step X k fr m with
    | none => rw [hs] at h; cases h
    | some o =>
      rw [hs] at h
      match o, h with
      | .inl (fr', m'), h => exact ih d X k fr' m' w h
      | .inr (.inl v), h => exact h
      | .inr (.inr (k', as, fr')), h =>
        simp only at h ⊢
        cases hc : q_exec n none k' (q_ent k' as) m with
        | none => rw [hc] at h; cases h
        | some z =>
          obtain ⟨v, m'⟩ := z
          rw [hc] at h
          rw [ih d none k' _ m _ hc]
          exact ih d X k _ m' w h
def q_Wp (X : q_X) (k : Nat) (fr : q_Fr) (mm : q_Mm) (Q : Option Value → q_Mm → Prop) : Prop := ∃ n r mm', q_exec n X k fr mm = some (r, mm') ∧ Q r mm'
theorem q_Wp.step {X : q_X} {k : Nat} {fr fr' : q_Fr} {mm mm' : q_Mm} {Q : Option Value → q_Mm → Prop} (h : q_step X k fr mm = some (.inl (fr', mm'))) (kk : q_Wp X k fr' mm' Q) : q_Wp X k fr mm Q := by
  obtain ⟨n, r, m2, h1, h2⟩ := kk
  exact ⟨n + 1, r, m2, by simp only [q_exec, h]; exact h1, h2⟩
theorem q_Wp.ret {X : q_X} {k : Nat} {fr : q_Fr} {mm : q_Mm} {v : Option Value} {Q : Option Value → q_Mm → Prop} (h : q_step X k fr mm = some (.inr (.inl v))) (kk : Q v mm) : q_Wp X k fr mm Q :=
  ⟨1, v, mm, by simp only [q_exec, h], kk⟩
theorem q_Wp.call {X : q_X} {k k' : Nat} {fr fr' : q_Fr} {mm : q_Mm} {as : List Value} {Q : Option Value → q_Mm → Prop} (h : q_step X k fr mm = some (.inr (.inr (k', as, fr')))) (kk : q_Wp none k' (q_ent k' as) mm (fun v m' => q_Wp X k (q_ret v fr') m' Q)) : q_Wp X k fr mm Q := by
  obtain ⟨n1, v, m1, h1, n2, r, m2, h2, h3⟩ := kk
  refine ⟨n1 + n2 + 1, r, m2, ?_, h3⟩
  simp only [q_exec, h]
  rw [q_exec_mono n1 n2 _ _ _ _ _ h1]
  simp only
  rw [show n1 + n2 = n2 + n1 by omega]
  exact q_exec_mono n2 n1 _ _ _ _ _ h2
theorem q_Wp.mono {X : q_X} {k : Nat} {fr : q_Fr} {mm : q_Mm} {Q Q' : Option Value → q_Mm → Prop} (h : q_Wp X k fr mm Q) (hq : ∀ r m', Q r m' → Q' r m') : q_Wp X k fr mm Q' := by
  obtain ⟨n, r, m2, h1, h2⟩ := h
  exact ⟨n, r, m2, h1, hq _ _ h2⟩
/-- the ints of all things -/
abbrev MM : Type := Nat → Nat → Int32
/-- where nothing is made: method k at place i -/
def WPg (X : q_X) (cu su k i : Nat) (al : List (Option Value)) (st : List Value) (M : MM) (Q : Option Value → MM → Prop) : Prop := q_Wp X k (i, al, st, cu, su) (q_S, M) (fun r mm' => mm'.1 = q_S ∧ Q r mm'.2)
abbrev WP (k i : Nat) (al : List (Option Value)) (st : List Value) (M : MM) (Q : Option Value → MM → Prop) : Prop := WPg none 0 0 k i al st M Q
/-- a whole call -/
noncomputable def Ca (k : Nat) (as : List Value) (M : MM) (Q : Option Value → MM → Prop) : Prop := WP k 0 (q_ent k as).2.1 [] M Q
theorem WP.mono {k i : Nat} {al : List (Option Value)} {st : List Value} {M : MM} {Q Q' : Option Value → MM → Prop} (h : WP k i al st M Q) (hq : ∀ r M', Q r M' → Q' r M') : WP k i al st M Q' := q_Wp.mono h fun r m' h => ⟨h.1, hq _ _ h.2⟩
theorem Ca.mono {k : Nat} {as : List Value} {M : MM} {Q Q' : Option Value → MM → Prop} (h : Ca k as M Q) (hq : ∀ r M', Q r M' → Q' r M') : Ca k as M Q' := WP.mono h hq
/-! numbers -/
def q_int (n : Int) : Int32 := match n with
  | .ofNat k => nI k
  | .negSucc k => Int32.ofInt (.negSucc k)
theorem q_int_eq (n : Int) : q_int n = Int32.ofInt n := by
  cases n with
  | ofNat k => rfl
  | negSucc k => rfl
theorem q_b8 : ∀ k : Nat, k < 128 → (Int8.ofInt (Int.ofNat k)).toInt32 = nI k := by decide +kernel
theorem q_s16 : ∀ k : Nat, k < 600 → (Int16.ofInt (Int.ofNat k)).toInt32 = nI k := by decide +kernel
theorem q_b8n : ∀ k : Nat, k < 128 → (Int8.ofInt (Int.negSucc k)).toInt32 = Int32.ofInt (.negSucc k) := by decide +kernel
def q_set (al : List (Option Value)) (n : Nat) (v : Value) (st : List Value) : Option (List (Option Value) × List Value) := bif q_okst al n && Nat.blt n al.length then some (al.set n (some v), st) else none
/-- a simple instruction: what lies in the locals, on the stack behind it -/
def q_sim (ins : Instr) (a : Nat) (al : List (Option Value)) (st : List Value) : Option (List (Option Value) × List Value) := match ins with
  | .iload_n n => match al[n.val]? with
    | some (some (.int x)) => some (al, .int x :: st)
    | _ => none
  | .iload n => match al[n]? with
    | some (some (.int x)) => some (al, .int x :: st)
    | _ => none
  | .lload_n n => match al[n.val]? with
    | some (some (.long x)) => some (al, .long x :: st)
    | _ => none
  | .lload n => match al[n]? with
    | some (some (.long x)) => some (al, .long x :: st)
    | _ => none
  | .aload_n n => match al[n.val]? with
    | some (some (.ref x)) => some (al, .ref x :: st)
    | some (some (.retAddr x)) => some (al, .retAddr x :: st)
    | _ => none
  | .istore_n n => match st with
    | .int x :: r => q_set al n.val (.int x) r
    | _ => none
  | .istore n => match st with
    | .int x :: r => q_set al n (.int x) r
    | _ => none
  | .astore_n n => match st with
    | .ref x :: r => q_set al n.val (.ref x) r
    | _ => none
  | .iinc n d => match al[n]? with
    | some (some (.int x)) => match d with
      | .ofNat e => q_set al n (.int (x + nI e)) st
      | .negSucc e => q_set al n (.int (x + Int32.ofInt (.negSucc e))) st
    | _ => none
  | .iconst n => match n with
    | .ofNat e => some (al, .int (nI e) :: st)
    | .negSucc e => some (al, .int (Int32.ofInt (.negSucc e)) :: st)
  | .bipush n => match n with
    | .ofNat k => bif Nat.blt k 128 then some (al, .int (nI k) :: st) else none
    | .negSucc k => bif Nat.blt k 128 then some (al, .int (Int32.ofInt (.negSucc k)) :: st) else none
  | .sipush n => match n with
    | .ofNat k => bif Nat.blt k 600 then some (al, .int (nI k) :: st) else none
    | _ => none
  | .lconst n => some (al, .long (Int64.ofNat n.val) :: st)
  | .ldc_w _ => some (al, .int (Int32.ofNat a) :: st)
  | .ldc2_w _ => some (al, .long (Int64.ofNat a) :: st)
  | .iadd => match st with
    | .int y :: .int x :: r => some (al, .int (x + y) :: r)
    | _ => none
  | .isub => match st with
    | .int y :: .int x :: r => some (al, .int (x - y) :: r)
    | _ => none
  | .imul => match st with
    | .int y :: .int x :: r => some (al, .int (x * y) :: r)
    | _ => none
  | .iand => match st with
    | .int y :: .int x :: r => some (al, .int (x &&& y) :: r)
    | _ => none
  | .ior => match st with
    | .int y :: .int x :: r => some (al, .int (x ||| y) :: r)
    | _ => none
  | .ixor => match st with
    | .int y :: .int x :: r => some (al, .int (x ^^^ y) :: r)
    | _ => none
  | .ishl => match st with
    | .int y :: .int x :: r => some (al, .int (x <<< (y &&& 31)) :: r)
    | _ => none
  | .ishr => match st with
    | .int y :: .int x :: r => some (al, .int (x >>> (y &&& 31)) :: r)
    | _ => none
  | .iushr => match st with
    | .int y :: .int x :: r => some (al, .int ((x.toUInt32 >>> (y.toUInt32 &&& Int32.toUInt32 31)).toInt32) :: r)
    | _ => none
  | .land => match st with
    | .long y :: .long x :: r => some (al, .long (x &&& y) :: r)
    | _ => none
  | .lor => match st with
    | .long y :: .long x :: r => some (al, .long (x ||| y) :: r)
    | _ => none
  | .lshl => match st with
    | .int y :: .long x :: r => some (al, .long (x <<< (y.toInt64 &&& 63)) :: r)
    | _ => none
  | .lshr => match st with
    | .int y :: .long x :: r => some (al, .long (x >>> (y.toInt64 &&& 63)) :: r)
    | _ => none
  | .lushr => match st with
    | .int y :: .long x :: r => some (al, .long ((x.toUInt64 >>> (y.toInt64.toUInt64 &&& Int64.toUInt64 63)).toInt64) :: r)
    | _ => none
  | .lcmp => match st with
    | .long y :: .long x :: r => some (al, .int (lg_cmp x y) :: r)
    | _ => none
  | .i2l => match st with
    | .int x :: r => some (al, .long x.toInt64 :: r)
    | _ => none
  | .l2i => match st with
    | .long x :: r => some (al, .int x.toInt32 :: r)
    | _ => none
  | .dup => match st with
    | .int x :: r => some (al, .int x :: .int x :: r)
    | .ref x :: r => some (al, .ref x :: .ref x :: r)
    | _ => none
  | .dup2 => match st with
    | .int x :: .ref y :: r => some (al, .int x :: .ref y :: .int x :: .ref y :: r)
    | _ => none
  | .pop => match st with
    | .int _ :: r => some (al, r)
    | .ref _ :: r => some (al, r)
    | _ => none
  | _ => none
section WPS
variable {k i pc len a b c d : Nat} {cd : List q_Ent} {al al' : List (Option Value)} {st st' : List Value} {M : MM} {Q : Option Value → MM → Prop}
theorem q_set_of {n : Nat} {v : Value} {st2 : List Value} {o : List (Option Value) × List Value} (h : q_set al n v st2 = some o) : (q_okst al n && Nat.blt n al.length) = true ∧ o = (al.set n (some v), st2) := by
  unfold q_set at h
  obtain ⟨h1, h2⟩ := q_bif h
  cases h2
  exact ⟨h1, rfl⟩
theorem q_sim_ok {X : q_X} {cu su : Nat} {mm : q_Mm} {ins : Instr} (hk : q_cd k = cd) (h : cd[i]? = some (pc, len, ins, a, b, c, d)) (hs : q_sim ins a al st = some (al', st')) : q_step X k (i, al, st, cu, su) mm = some (.inl ((i + 1, al', st', cu, su), mm)) := by
  subst hk
  simp only [q_step, h]
  unfold q_sim at hs
  split at hs
  all_goals try (split at hs)
  all_goals try (split at hs)
  all_goals first
    | (cases hs; done)
    | (obtain ⟨h1, h2⟩ := q_set_of hs; cases h2; simp only [q_ins, q_sto, q_inc, q_ty, *, q_int_eq, show Nat.beq 0 0 = true from rfl, show Nat.beq 2 2 = true from rfl, Bool.true_and, cond_true]; rfl)
    | (cases hs; simp only [q_ins, q_ld, q_ty, *, show Nat.beq 0 0 = true from rfl, show Nat.beq 1 1 = true from rfl, show Nat.beq 2 2 = true from rfl, cond_true]; rfl)
    | (cases hs; simp only [q_ins, q_sop, q_bin, q_binL, q_shL]; rfl)
    | (obtain ⟨h1, h2⟩ := q_bif hs; cases h2; simp only [q_ins, q_sop]; rw [q_b8 _ (Nat.blt_eq.mp h1)]; rfl)
    | (obtain ⟨h1, h2⟩ := q_bif hs; cases h2; simp only [q_ins, q_sop]; rw [q_b8n _ (Nat.blt_eq.mp h1)]; rfl)
    | (obtain ⟨h1, h2⟩ := q_bif hs; cases h2; simp only [q_ins, q_sop]; rw [q_s16 _ (Nat.blt_eq.mp h1)]; rfl)
end WPS
