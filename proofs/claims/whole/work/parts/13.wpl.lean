theorem q_nadd (a b : Nat) : nI a + nI b = nI (a + b) := by simp [nI]
theorem q_nmul (a b : Nat) : nI a * nI b = nI (a * b) := by simp [nI]
theorem q_nsub {a b : Nat} (h : b ≤ a) : nI a - nI b = nI (a - b) := by
  have h1 : nI a = nI (a - b) + nI b := by rw [q_nadd, Nat.sub_add_cancel h]
  rw [h1, Int32.add_sub_cancel]
theorem q_nint (a : Nat) : q_int (Int.ofNat a) = nI a := rfl
theorem q_ninj {a b : Nat} (ha : a < 2 ^ 31) (hb : b < 2 ^ 31) : nI a = nI b ↔ a = b := by
  constructor
  · intro h
    have h1 := nI_clamp ha
    rw [h, nI_clamp hb] at h1
    exact h1.symm
  · intro h; rw [h]
theorem q_nle {a b : Nat} (ha : a < 2 ^ 31) (hb : b < 2 ^ 31) : nI a ≤ nI b ↔ a ≤ b := by
  constructor
  · intro h
    rcases Nat.lt_or_ge b a with g | g
    · exact absurd h (nI_ge g ha)
    · exact g
  · intro h; exact nI_le h hb
theorem q_nlt {a b : Nat} (ha : a < 2 ^ 31) (hb : b < 2 ^ 31) : nI a < nI b ↔ a < b := by
  constructor
  · intro h
    rcases Nat.lt_or_ge a b with g | g
    · exact g
    · exact absurd h (nI_nlt g ha)
  · intro h; exact nI_lt h hb
theorem q_in_n {n j : Nat} (hl : j < n) (hn : n < 1000) : q_in (nI j) n = true ∧ (nI j).toNatClampNeg = j := by
  have h1 : (nI j).toNatClampNeg = j := nI_clamp (by omega)
  refine ⟨?_, h1⟩
  simp only [q_in, h1, Bool.and_eq_true, Bool.not_eq_true', decide_eq_false_iff_not, Nat.blt_eq]
  exact ⟨nI_pos (by omega), hl⟩
theorem q_S_small : ∀ (id : Nat) (bo : Bool) (n : Nat), q_S[id]? = some (.inl (bo, n)) → n < 1000 := by
  have h : q_S.all (fun sh => match sh with | .inl (_, n) => Nat.blt n 1000 | _ => true) = true := by decide +kernel
  intro id bo n hs
  have := List.all_eq_true.mp h _ (List.mem_of_getElem? hs)
  simpa using this
section WPL
variable {X : q_X} {cu su k i pc len a b c d : Nat} {cd : List q_Ent} {al al' : List (Option Value)} {st st' : List Value} {M : MM} {Q : Option Value → MM → Prop}
theorem wp_s {ins : Instr} (hk : q_cd k = cd) (h : cd[i]? = some (pc, len, ins, a, b, c, d)) (hs : q_sim ins a al st = some (al', st')) (kk : WPg X cu su k (i + 1) al' st' M Q) : WPg X cu su k i al st M Q := q_Wp.step (q_sim_ok hk h hs) kk
theorem wp_goto {off : Int} (hk : q_cd k = cd) (h : cd[i]? = some (pc, len, .goto off, a, b, c, d)) (kk : WPg X cu su k a al st M Q) : WPg X cu su k i al st M Q := q_Wp.step (by subst hk; simp only [q_step, h]; rfl) kk
theorem wp_geti {id idx ci : Nat} {fs : List (Option (Option Nat))} (hk : q_cd k = cd) (h : cd[i]? = some (pc, len, .getfield idx, a, b, c, d)) (hS : q_S[id]? = some (.inr (.inl (ci, fs)))) (hc : Nat.beq a ci = true) (hf : fs[b]? = some none) (kk : WPg X cu su k (i + 1) al (.int (M id b) :: st) M Q) : WPg X cu su k i al (.ref id :: st) M Q :=
  q_Wp.step (by subst hk; simp only [q_step, h, q_ins, q_get, hS, hc, hf, cond_true]; rfl) kk
theorem wp_getr {id idx ci q : Nat} {fs : List (Option (Option Nat))} (hk : q_cd k = cd) (h : cd[i]? = some (pc, len, .getfield idx, a, b, c, d)) (hS : q_S[id]? = some (.inr (.inl (ci, fs)))) (hc : Nat.beq a ci = true) (hf : fs[b]? = some (some (some q))) (kk : WPg X cu su k (i + 1) al (.ref q :: st) M Q) : WPg X cu su k i al (.ref id :: st) M Q :=
  q_Wp.step (by subst hk; simp only [q_step, h, q_ins, q_get, hS, hc, hf, cond_true]; rfl) kk
theorem wp_put {id idx ci : Nat} {x : Int32} {fs : List (Option (Option Nat))} (hk : q_cd k = cd) (h : cd[i]? = some (pc, len, .putfield idx, a, b, c, d)) (hS : q_S[id]? = some (.inr (.inl (ci, fs)))) (hc : Nat.beq a ci = true) (hf : fs[b]? = some none) (hd : Nat.beq d 0 = true) (kk : WPg X cu su k (i + 1) al st (q_up M id (upd (M id) b x)) Q) : WPg X cu su k i al (.int x :: .ref id :: st) M Q :=
  q_Wp.step (by subst hk; simp only [q_step, h, q_ins, q_put, hS, hc, hf, hd, cond_true]; rfl) kk
theorem wp_ald {id n jx : Nat} {x : Int32} (hk : q_cd k = cd) (h : cd[i]? = some (pc, len, .iaload, a, b, c, d)) (hS : q_S[id]? = some (.inl (false, n))) (hx : x = nI jx) (hl : jx < n) (kk : WPg X cu su k (i + 1) al (.int (M id jx) :: st) M Q) : WPg X cu su k i al (.int x :: .ref id :: st) M Q := by
  subst hx
  obtain ⟨h1, h2⟩ := q_in_n hl (q_S_small _ _ _ hS)
  exact q_Wp.step (by subst hk; simp only [q_step, h, q_ins, q_ald, hS, h1, h2, cond_true, beq_self_eq_true, Bool.and_self]; rfl) kk
theorem wp_bld {id n jx : Nat} {x : Int32} (hk : q_cd k = cd) (h : cd[i]? = some (pc, len, .baload, a, b, c, d)) (hS : q_S[id]? = some (.inl (true, n))) (hx : x = nI jx) (hl : jx < n) (kk : WPg X cu su k (i + 1) al (.int (M id jx) :: st) M Q) : WPg X cu su k i al (.int x :: .ref id :: st) M Q := by
  subst hx
  obtain ⟨h1, h2⟩ := q_in_n hl (q_S_small _ _ _ hS)
  exact q_Wp.step (by subst hk; simp only [q_step, h, q_ins, q_ald, hS, h1, h2, cond_true, beq_self_eq_true, Bool.and_self]; rfl) kk
theorem wp_ast {id n jx : Nat} {x v : Int32} (hk : q_cd k = cd) (h : cd[i]? = some (pc, len, .iastore, a, b, c, d)) (hS : q_S[id]? = some (.inl (false, n))) (hx : x = nI jx) (hl : jx < n) (kk : WPg X cu su k (i + 1) al st (q_up M id (upd (M id) jx v)) Q) : WPg X cu su k i al (.int v :: .int x :: .ref id :: st) M Q := by
  subst hx
  obtain ⟨h1, h2⟩ := q_in_n hl (q_S_small _ _ _ hS)
  exact q_Wp.step (by subst hk; simp only [q_step, h, q_ins, q_ast, hS, h1, h2, cond_true, cond_false, beq_self_eq_true, Bool.and_self]; rfl) kk
theorem wp_bst {id n jx : Nat} {x v : Int32} (hk : q_cd k = cd) (h : cd[i]? = some (pc, len, .bastore, a, b, c, d)) (hS : q_S[id]? = some (.inl (true, n))) (hx : x = nI jx) (hl : jx < n) (hv : v = 0 ∨ v = 1) (kk : WPg X cu su k (i + 1) al st (q_up M id (upd (M id) jx v)) Q) : WPg X cu su k i al (.int v :: .int x :: .ref id :: st) M Q := by
  subst hx
  obtain ⟨h1, h2⟩ := q_in_n hl (q_S_small _ _ _ hS)
  have h3 : vp_nar .boolean v = v := by rcases hv with rfl | rfl <;> rfl
  exact q_Wp.step (by subst hk; simp only [q_step, h, q_ins, q_ast, hS, h1, h2, h3, cond_true, beq_self_eq_true, Bool.and_self]; rfl) kk
theorem wp_qld {id ci jx q : Nat} {rs : List (Option Nat)} {x : Int32} (hk : q_cd k = cd) (h : cd[i]? = some (pc, len, .aaload, a, b, c, d)) (hS : q_S[id]? = some (.inr (.inr (ci, rs)))) (hci : (Nat.beq ci 0 || Nat.beq ci 5) = true) (hx : x = nI jx) (hq : rs[jx]? = some (some q)) (hn : rs.length < 1000) (kk : WPg X cu su k (i + 1) al (.ref q :: st) M Q) : WPg X cu su k i al (.int x :: .ref id :: st) M Q := by
  subst hx
  have hl : jx < rs.length := (List.getElem?_eq_some_iff.mp hq).1
  obtain ⟨h1, h2⟩ := q_in_n hl hn
  have h3 : rs.getD jx none = some q := by rw [List.getD_eq_getElem?_getD, hq]; rfl
  exact q_Wp.step (by subst hk; simp only [q_step, h, q_ins, q_qld, hS, h1, h2, h3, hci, cond_true, Bool.and_self]; rfl) kk
theorem wp_len {id n : Nat} {bo : Bool} (hk : q_cd k = cd) (h : cd[i]? = some (pc, len, .arraylength, a, b, c, d)) (hS : q_S[id]? = some (.inl (bo, n))) (kk : WPg X cu su k (i + 1) al (.int (nI n) :: st) M Q) : WPg X cu su k i al (.ref id :: st) M Q :=
  q_Wp.step (by subst hk; simp only [q_step, h, q_ins, q_len, hS]; rfl) kk
theorem wp_div {x y : Int32} (hk : q_cd k = cd) (h : cd[i]? = some (pc, len, .idiv, a, b, c, d)) (hy : ¬ y = 0) (kk : WPg X cu su k (i + 1) al (.int (x / y) :: st) M Q) : WPg X cu su k i al (.int y :: .int x :: st) M Q :=
  q_Wp.step (by subst hk; simp only [q_step, h, q_ins, q_sop, hy, decide_false, Bool.not_false]; rfl) kk
theorem wp_rem {x y : Int32} (hk : q_cd k = cd) (h : cd[i]? = some (pc, len, .irem, a, b, c, d)) (hy : ¬ y = 0) (kk : WPg X cu su k (i + 1) al (.int (x - x / y * y) :: st) M Q) : WPg X cu su k i al (.int y :: .int x :: st) M Q :=
  q_Wp.step (by subst hk; simp only [q_step, h, q_ins, q_sop, hy, decide_false, Bool.not_false]; rfl) kk
theorem wp_iceq {x y : Int32} {off : Int} (hk : q_cd k = cd) (h : cd[i]? = some (pc, len, .if_icmp .eq off, a, b, c, d)) (kt : x = y → WPg X cu su k a al st M Q) (kf : ¬ (x = y) → WPg X cu su k (i + 1) al st M Q) : WPg X cu su k i al (.int y :: .int x :: st) M Q := by
  by_cases hc : x = y
  · exact q_Wp.step (by subst hk; simp only [q_step, h, q_ins, q_cmp, hc, decide_true, decide_false, Bool.not_false, cond_true, not_false_eq_true]; rfl) (kt hc)
  · exact q_Wp.step (by subst hk; (try simp only [Classical.not_not] at hc); simp only [q_step, h, q_ins, q_cmp, hc, decide_true, decide_false, Bool.not_true, cond_false]; rfl) (kf hc)
theorem wp_ifeq {x : Int32} {off : Int} (hk : q_cd k = cd) (h : cd[i]? = some (pc, len, .ifCond .eq off, a, b, c, d)) (kt : x = 0 → WPg X cu su k a al st M Q) (kf : ¬ (x = 0) → WPg X cu su k (i + 1) al st M Q) : WPg X cu su k i al (.int x :: st) M Q := by
  by_cases hc : x = 0
  · exact q_Wp.step (by subst hk; simp only [q_step, h, q_ins, q_cmp, hc, decide_true, decide_false, Bool.not_false, cond_true, not_false_eq_true]; rfl) (kt hc)
  · exact q_Wp.step (by subst hk; (try simp only [Classical.not_not] at hc); simp only [q_step, h, q_ins, q_cmp, hc, decide_true, decide_false, Bool.not_true, cond_false]; rfl) (kf hc)
theorem wp_iceqN {x y : Int32} {u v : Nat} {off : Int} (hk : q_cd k = cd) (h : cd[i]? = some (pc, len, .if_icmp .eq off, a, b, c, d)) (hx : x = nI u) (hy : y = nI v) (hu : u < 2 ^ 31) (hv : v < 2 ^ 31) (kt : u = v → WPg X cu su k a al st M Q) (kf : ¬ (u = v) → WPg X cu su k (i + 1) al st M Q) : WPg X cu su k i al (.int y :: .int x :: st) M Q := by
  subst hx; subst hy
  exact wp_iceq hk h (fun q => kt ((q_ninj hu hv).mp q)) (fun q => kf (fun z => q ((q_ninj hu hv).mpr z)))
theorem wp_icne {x y : Int32} {off : Int} (hk : q_cd k = cd) (h : cd[i]? = some (pc, len, .if_icmp .ne off, a, b, c, d)) (kt : ¬ x = y → WPg X cu su k a al st M Q) (kf : ¬ (¬ x = y) → WPg X cu su k (i + 1) al st M Q) : WPg X cu su k i al (.int y :: .int x :: st) M Q := by
  by_cases hc : ¬ x = y
  · exact q_Wp.step (by subst hk; simp only [q_step, h, q_ins, q_cmp, hc, decide_true, decide_false, Bool.not_false, cond_true, not_false_eq_true]; rfl) (kt hc)
  · exact q_Wp.step (by subst hk; (try simp only [Classical.not_not] at hc); simp only [q_step, h, q_ins, q_cmp, hc, decide_true, decide_false, Bool.not_true, cond_false]; rfl) (kf hc)
theorem wp_ifne {x : Int32} {off : Int} (hk : q_cd k = cd) (h : cd[i]? = some (pc, len, .ifCond .ne off, a, b, c, d)) (kt : ¬ x = 0 → WPg X cu su k a al st M Q) (kf : ¬ (¬ x = 0) → WPg X cu su k (i + 1) al st M Q) : WPg X cu su k i al (.int x :: st) M Q := by
  by_cases hc : ¬ x = 0
  · exact q_Wp.step (by subst hk; simp only [q_step, h, q_ins, q_cmp, hc, decide_true, decide_false, Bool.not_false, cond_true, not_false_eq_true]; rfl) (kt hc)
  · exact q_Wp.step (by subst hk; (try simp only [Classical.not_not] at hc); simp only [q_step, h, q_ins, q_cmp, hc, decide_true, decide_false, Bool.not_true, cond_false]; rfl) (kf hc)
theorem wp_icneN {x y : Int32} {u v : Nat} {off : Int} (hk : q_cd k = cd) (h : cd[i]? = some (pc, len, .if_icmp .ne off, a, b, c, d)) (hx : x = nI u) (hy : y = nI v) (hu : u < 2 ^ 31) (hv : v < 2 ^ 31) (kt : ¬ u = v → WPg X cu su k a al st M Q) (kf : ¬ (¬ u = v) → WPg X cu su k (i + 1) al st M Q) : WPg X cu su k i al (.int y :: .int x :: st) M Q := by
  subst hx; subst hy
  exact wp_icne hk h (fun q => kt ((not_congr (q_ninj hu hv)).mp q)) (fun q => kf (fun z => q ((not_congr (q_ninj hu hv)).mpr z)))
theorem wp_iclt {x y : Int32} {off : Int} (hk : q_cd k = cd) (h : cd[i]? = some (pc, len, .if_icmp .lt off, a, b, c, d)) (kt : x < y → WPg X cu su k a al st M Q) (kf : ¬ (x < y) → WPg X cu su k (i + 1) al st M Q) : WPg X cu su k i al (.int y :: .int x :: st) M Q := by
  by_cases hc : x < y
  · exact q_Wp.step (by subst hk; simp only [q_step, h, q_ins, q_cmp, hc, decide_true, decide_false, Bool.not_false, cond_true, not_false_eq_true]; rfl) (kt hc)
  · exact q_Wp.step (by subst hk; (try simp only [Classical.not_not] at hc); simp only [q_step, h, q_ins, q_cmp, hc, decide_true, decide_false, Bool.not_true, cond_false]; rfl) (kf hc)
theorem wp_iflt {x : Int32} {off : Int} (hk : q_cd k = cd) (h : cd[i]? = some (pc, len, .ifCond .lt off, a, b, c, d)) (kt : x < 0 → WPg X cu su k a al st M Q) (kf : ¬ (x < 0) → WPg X cu su k (i + 1) al st M Q) : WPg X cu su k i al (.int x :: st) M Q := by
  by_cases hc : x < 0
  · exact q_Wp.step (by subst hk; simp only [q_step, h, q_ins, q_cmp, hc, decide_true, decide_false, Bool.not_false, cond_true, not_false_eq_true]; rfl) (kt hc)
  · exact q_Wp.step (by subst hk; (try simp only [Classical.not_not] at hc); simp only [q_step, h, q_ins, q_cmp, hc, decide_true, decide_false, Bool.not_true, cond_false]; rfl) (kf hc)
theorem wp_icltN {x y : Int32} {u v : Nat} {off : Int} (hk : q_cd k = cd) (h : cd[i]? = some (pc, len, .if_icmp .lt off, a, b, c, d)) (hx : x = nI u) (hy : y = nI v) (hu : u < 2 ^ 31) (hv : v < 2 ^ 31) (kt : u < v → WPg X cu su k a al st M Q) (kf : ¬ (u < v) → WPg X cu su k (i + 1) al st M Q) : WPg X cu su k i al (.int y :: .int x :: st) M Q := by
  subst hx; subst hy
  exact wp_iclt hk h (fun q => kt ((q_nlt hu hv).mp q)) (fun q => kf (fun z => q ((q_nlt hu hv).mpr z)))
theorem wp_icge {x y : Int32} {off : Int} (hk : q_cd k = cd) (h : cd[i]? = some (pc, len, .if_icmp .ge off, a, b, c, d)) (kt : y ≤ x → WPg X cu su k a al st M Q) (kf : ¬ (y ≤ x) → WPg X cu su k (i + 1) al st M Q) : WPg X cu su k i al (.int y :: .int x :: st) M Q := by
  by_cases hc : y ≤ x
  · exact q_Wp.step (by subst hk; simp only [q_step, h, q_ins, q_cmp, hc, decide_true, decide_false, Bool.not_false, cond_true, not_false_eq_true]; rfl) (kt hc)
  · exact q_Wp.step (by subst hk; (try simp only [Classical.not_not] at hc); simp only [q_step, h, q_ins, q_cmp, hc, decide_true, decide_false, Bool.not_true, cond_false]; rfl) (kf hc)
theorem wp_ifge {x : Int32} {off : Int} (hk : q_cd k = cd) (h : cd[i]? = some (pc, len, .ifCond .ge off, a, b, c, d)) (kt : 0 ≤ x → WPg X cu su k a al st M Q) (kf : ¬ (0 ≤ x) → WPg X cu su k (i + 1) al st M Q) : WPg X cu su k i al (.int x :: st) M Q := by
  by_cases hc : 0 ≤ x
  · exact q_Wp.step (by subst hk; simp only [q_step, h, q_ins, q_cmp, hc, decide_true, decide_false, Bool.not_false, cond_true, not_false_eq_true]; rfl) (kt hc)
  · exact q_Wp.step (by subst hk; (try simp only [Classical.not_not] at hc); simp only [q_step, h, q_ins, q_cmp, hc, decide_true, decide_false, Bool.not_true, cond_false]; rfl) (kf hc)
theorem wp_icgeN {x y : Int32} {u v : Nat} {off : Int} (hk : q_cd k = cd) (h : cd[i]? = some (pc, len, .if_icmp .ge off, a, b, c, d)) (hx : x = nI u) (hy : y = nI v) (hu : u < 2 ^ 31) (hv : v < 2 ^ 31) (kt : v ≤ u → WPg X cu su k a al st M Q) (kf : ¬ (v ≤ u) → WPg X cu su k (i + 1) al st M Q) : WPg X cu su k i al (.int y :: .int x :: st) M Q := by
  subst hx; subst hy
  exact wp_icge hk h (fun q => kt ((q_nle hv hu).mp q)) (fun q => kf (fun z => q ((q_nle hv hu).mpr z)))
theorem wp_icgt {x y : Int32} {off : Int} (hk : q_cd k = cd) (h : cd[i]? = some (pc, len, .if_icmp .gt off, a, b, c, d)) (kt : y < x → WPg X cu su k a al st M Q) (kf : ¬ (y < x) → WPg X cu su k (i + 1) al st M Q) : WPg X cu su k i al (.int y :: .int x :: st) M Q := by
  by_cases hc : y < x
  · exact q_Wp.step (by subst hk; simp only [q_step, h, q_ins, q_cmp, hc, decide_true, decide_false, Bool.not_false, cond_true, not_false_eq_true]; rfl) (kt hc)
  · exact q_Wp.step (by subst hk; (try simp only [Classical.not_not] at hc); simp only [q_step, h, q_ins, q_cmp, hc, decide_true, decide_false, Bool.not_true, cond_false]; rfl) (kf hc)
theorem wp_ifgt {x : Int32} {off : Int} (hk : q_cd k = cd) (h : cd[i]? = some (pc, len, .ifCond .gt off, a, b, c, d)) (kt : 0 < x → WPg X cu su k a al st M Q) (kf : ¬ (0 < x) → WPg X cu su k (i + 1) al st M Q) : WPg X cu su k i al (.int x :: st) M Q := by
  by_cases hc : 0 < x
  · exact q_Wp.step (by subst hk; simp only [q_step, h, q_ins, q_cmp, hc, decide_true, decide_false, Bool.not_false, cond_true, not_false_eq_true]; rfl) (kt hc)
  · exact q_Wp.step (by subst hk; (try simp only [Classical.not_not] at hc); simp only [q_step, h, q_ins, q_cmp, hc, decide_true, decide_false, Bool.not_true, cond_false]; rfl) (kf hc)
theorem wp_icgtN {x y : Int32} {u v : Nat} {off : Int} (hk : q_cd k = cd) (h : cd[i]? = some (pc, len, .if_icmp .gt off, a, b, c, d)) (hx : x = nI u) (hy : y = nI v) (hu : u < 2 ^ 31) (hv : v < 2 ^ 31) (kt : v < u → WPg X cu su k a al st M Q) (kf : ¬ (v < u) → WPg X cu su k (i + 1) al st M Q) : WPg X cu su k i al (.int y :: .int x :: st) M Q := by
  subst hx; subst hy
  exact wp_icgt hk h (fun q => kt ((q_nlt hv hu).mp q)) (fun q => kf (fun z => q ((q_nlt hv hu).mpr z)))
theorem wp_icle {x y : Int32} {off : Int} (hk : q_cd k = cd) (h : cd[i]? = some (pc, len, .if_icmp .le off, a, b, c, d)) (kt : x ≤ y → WPg X cu su k a al st M Q) (kf : ¬ (x ≤ y) → WPg X cu su k (i + 1) al st M Q) : WPg X cu su k i al (.int y :: .int x :: st) M Q := by
  by_cases hc : x ≤ y
  · exact q_Wp.step (by subst hk; simp only [q_step, h, q_ins, q_cmp, hc, decide_true, decide_false, Bool.not_false, cond_true, not_false_eq_true]; rfl) (kt hc)
  · exact q_Wp.step (by subst hk; (try simp only [Classical.not_not] at hc); simp only [q_step, h, q_ins, q_cmp, hc, decide_true, decide_false, Bool.not_true, cond_false]; rfl) (kf hc)
theorem wp_ifle {x : Int32} {off : Int} (hk : q_cd k = cd) (h : cd[i]? = some (pc, len, .ifCond .le off, a, b, c, d)) (kt : x ≤ 0 → WPg X cu su k a al st M Q) (kf : ¬ (x ≤ 0) → WPg X cu su k (i + 1) al st M Q) : WPg X cu su k i al (.int x :: st) M Q := by
  by_cases hc : x ≤ 0
  · exact q_Wp.step (by subst hk; simp only [q_step, h, q_ins, q_cmp, hc, decide_true, decide_false, Bool.not_false, cond_true, not_false_eq_true]; rfl) (kt hc)
  · exact q_Wp.step (by subst hk; (try simp only [Classical.not_not] at hc); simp only [q_step, h, q_ins, q_cmp, hc, decide_true, decide_false, Bool.not_true, cond_false]; rfl) (kf hc)
theorem wp_icleN {x y : Int32} {u v : Nat} {off : Int} (hk : q_cd k = cd) (h : cd[i]? = some (pc, len, .if_icmp .le off, a, b, c, d)) (hx : x = nI u) (hy : y = nI v) (hu : u < 2 ^ 31) (hv : v < 2 ^ 31) (kt : u ≤ v → WPg X cu su k a al st M Q) (kf : ¬ (u ≤ v) → WPg X cu su k (i + 1) al st M Q) : WPg X cu su k i al (.int y :: .int x :: st) M Q := by
  subst hx; subst hy
  exact wp_icle hk h (fun q => kt ((q_nle hu hv).mp q)) (fun q => kf (fun z => q ((q_nle hu hv).mpr z)))
def q_cal (b : Nat) (st : List Value) : Option (List Value × List Value) := match b, st with
  | 0, r => some ([], r)
  | 1, v1 :: r => some ([v1], r)
  | 2, v2 :: v1 :: r => some ([v1, v2], r)
  | 3, v3 :: v2 :: v1 :: r => some ([v1, v2, v3], r)
  | 4, v4 :: v3 :: v2 :: v1 :: r => some ([v1, v2, v3, v4], r)
  | 5, v5 :: v4 :: v3 :: v2 :: v1 :: r => some ([v1, v2, v3, v4, v5], r)
  | _, _ => none
theorem q_cal_of {b : Nat} {st as r : List Value} (h : q_cal b st = some (as, r)) : Nat.ble b st.length = true ∧ (st.take b).reverse = as ∧ st.drop b = r := by
  unfold q_cal at h
  split at h <;> first | (cases h; done) | (cases h; exact ⟨by simp, rfl, rfl⟩)
noncomputable def q_chk (k a : Nat) (as r : List Value) : Bool := Nat.ble (q_cs r) 8 && (Nat.ble (q_lay as).length (q_mi a).2.2.1 && (Nat.beq (q_mc a) 0 && Nat.beq (q_ms a) 0))
theorem q_call_in {as r : List Value} (hs : q_cal b st = some (as, r)) (hch : q_chk k a as r = true) (hp : q_pre c (q_nu a 1) as (q_S, M) = true) (kk : Ca a as M (fun v M' => WPg X cu su k (i + 1) al (v.toList ++ r) M' Q))
    (hcu : Nat.ble cu (q_mc k) = true) (hsu : Nat.ble su (q_ms k) = true) (hst : q_step X k (i, al, st, cu, su) (q_S, M) = q_inv k a b c (i, al, st, cu, su) (q_S, M)) : WPg X cu su k i al st M Q := by
  obtain ⟨h1, h2, h3⟩ := q_cal_of hs
  simp only [q_chk, Bool.and_eq_true, Nat.beq_eq] at hch
  obtain ⟨g1, g2, g3, g4⟩ := hch
  have hin : q_inv k a b c (i, al, st, cu, su) (q_S, M) = some (.inr (.inr (a, as, (i + 1, al, r, cu, su)))) := by
    simp only [q_inv, h1, h2, h3, g1, g2, g3, g4, hp, Nat.add_zero, Bool.true_and, Bool.and_self, hcu, hsu, cond_true]
  refine q_Wp.call (hst.trans hin) (q_Wp.mono kk (fun v m' h => ?_))
  obtain ⟨e, h⟩ := h
  obtain ⟨s1, M1⟩ := m'
  simp only at e
  subst e
  exact h
theorem wp_callVg {id idx ci : Nat} {fs : List (Option (Option Nat))} {as r : List Value} (hk : q_cd k = cd) (h : cd[i]? = some (pc, len, .invokevirtual idx, a, b, c, d)) (hc : Nat.beq c 0 = true) (hs : q_cal b st = some (.ref id :: as, r)) (hch : q_chk k a (.ref id :: as) r = true) (hS : q_S[id]? = some (.inr (.inl (ci, fs)))) (hci : Nat.beq (q_nu a 1) ci = true) (hcu : Nat.ble cu (q_mc k) = true) (hsu : Nat.ble su (q_ms k) = true) (kk : Ca a (.ref id :: as) M (fun v M' => WPg X cu su k (i + 1) al (v.toList ++ r) M' Q)) : WPg X cu su k i al st M Q := by
  refine q_call_in (c := c) hs hch (by simp only [q_pre, hc, cond_true, q_rcv, hS, hci]) kk hcu hsu ?_
  subst hk; simp only [q_step, h, q_ins, hc, cond_true]
theorem q_b0 (n : Nat) : Nat.ble 0 n = true := Nat.ble_eq.mpr (Nat.zero_le _)
theorem wp_callV {id idx ci : Nat} {fs : List (Option (Option Nat))} {as r : List Value} (hk : q_cd k = cd) (h : cd[i]? = some (pc, len, .invokevirtual idx, a, b, c, d)) (hc : Nat.beq c 0 = true) (hs : q_cal b st = some (.ref id :: as, r)) (hch : q_chk k a (.ref id :: as) r = true) (hS : q_S[id]? = some (.inr (.inl (ci, fs)))) (hci : Nat.beq (q_nu a 1) ci = true) (kk : Ca a (.ref id :: as) M (fun v M' => WP k (i + 1) al (v.toList ++ r) M' Q)) : WP k i al st M Q := wp_callVg hk h hc hs hch hS hci (q_b0 _) (q_b0 _) kk
theorem wp_callS {idx : Nat} {as r : List Value} (hk : q_cd k = cd) (h : cd[i]? = some (pc, len, .invokestatic idx, a, b, c, d)) (hc : (Nat.beq c 1 || Nat.beq c 4) = true) (hs : q_cal b st = some (as, r)) (hch : q_chk k a as r = true) (kk : Ca a as M (fun v M' => WP k (i + 1) al (v.toList ++ r) M' Q)) : WP k i al st M Q := by
  have hc' : c = 1 ∨ c = 4 := by simpa only [Bool.or_eq_true, Nat.beq_eq] using hc
  refine q_call_in (c := c) hs hch ?_ kk (q_b0 _) (q_b0 _) ?_
  · rcases hc' with rfl | rfl <;> rfl
  · subst hk
    rcases hc' with rfl | rfl <;> simp only [q_step, h, q_ins] <;> rfl
theorem wp_min {idx : Nat} {x y : Int32} (hk : q_cd k = cd) (h : cd[i]? = some (pc, len, .invokestatic idx, a, b, c, d)) (hc : Nat.beq c 8 = true) (hr : Nat.ble (q_cs st) 8 = true) (kk : WP k (i + 1) al (.int (if y < x then y else x) :: st) M Q) : WP k i al (.int y :: .int x :: st) M Q := by
  have hc' : c = 8 := Nat.eq_of_beq_eq_true hc
  subst hc'
  refine q_Wp.step (fr' := (i + 1, al, .int (if y < x then y else x) :: st, 0, 0)) ?_ kk
  subst hk
  simp only [q_step, h, q_ins, q_min, show Nat.beq 8 7 = false from rfl, show Nat.beq 8 8 = true from rfl, hr, cond_true, cond_false, Bool.true_and, show Nat.ble 0 (q_mc k) = true from Nat.ble_eq.mpr (Nat.zero_le _), show Nat.ble 0 (q_ms k) = true from Nat.ble_eq.mpr (Nat.zero_le _), Bool.and_self]
  rfl
theorem wp_copy {idx sr ds ns nd n : Nat} (hk : q_cd k = cd) (h : cd[i]? = some (pc, len, .invokestatic idx, a, b, c, d)) (hc : Nat.beq c 7 = true) (hr : Nat.ble (q_cs st) 8 = true) (h0 : q_S[sr]? = some (.inl (false, ns))) (h1 : q_S[ds]? = some (.inl (false, nd))) (hn : n ≤ ns) (hn2 : n ≤ nd)
    (kk : WP k (i + 1) al st (q_up M ds (va_cpy (M sr) (M ds) 0 0 n)) Q) : WP k i al (.int (nI n) :: .int (nI 0) :: .ref ds :: .int (nI 0) :: .ref sr :: st) M Q := by
  have hc' : c = 7 := Nat.eq_of_beq_eq_true hc
  subst hc'
  have hb := q_S_small _ _ _ h0
  have e1 : (nI n).toNatClampNeg = n := nI_clamp (by omega)
  have e0 : (nI 0).toNatClampNeg = 0 := nI_clamp (by omega)
  have p0 : ¬ nI 0 < 0 := nI_pos (by omega)
  have p1 : ¬ nI n < 0 := nI_pos (by omega)
  refine q_Wp.step (fr' := (i + 1, al, st, 0, 0)) ?_ kk
  subst hk
  simp only [q_step, h, q_ins, q_copy, show Nat.beq 7 7 = true from rfl, h0, h1, e1, e0, p0, p1, hr, decide_false, Bool.not_false, Bool.and_self, Nat.zero_add, Nat.ble_eq.mpr hn, Nat.ble_eq.mpr hn2, cond_true]
  rfl
theorem wp_irg {x : Int32} (hk : q_cd k = cd) (h : cd[i]? = some (pc, len, .ireturn, a, b, c, d)) (hr : q_rok (q_mi k).2.2.2 x = true) (hcu : Nat.ble cu (q_mc k) = true) (hsu : Nat.ble su (q_ms k) = true) (kk : Q (some (.int x)) M) : WPg X cu su k i al [.int x] M Q :=
  q_Wp.ret (by subst hk; simp only [q_step, h, q_ins, hr, hcu, hsu, Bool.and_self, cond_true]) ⟨rfl, kk⟩
theorem wp_sld {n jx : Nat} {xs : Nat → Int32} {x : Int32} {z : Nat} (hk : q_cd k = cd) (h : cd[i]? = some (pc, len, .iaload, a, b, c, d)) (hx : x = nI jx) (hl : jx < n) (hn : n < 2 ^ 31) (kk : WPg (some (n, xs)) cu su k (i + 1) al (.int (xs jx) :: st) M Q) : WPg (some (n, xs)) cu su k i al (.int x :: .retAddr z :: st) M Q := by
  subst hx
  have h2 : (nI jx).toNatClampNeg = jx := nI_clamp (by omega)
  have h1 : q_in (nI jx) n = true := by
    simp only [q_in, h2, Bool.and_eq_true, Bool.not_eq_true', decide_eq_false_iff_not, Nat.blt_eq]
    exact ⟨nI_pos (by omega), hl⟩
  exact q_Wp.step (by subst hk; simp only [q_step, h, q_ins, q_ald, h1, h2, cond_true, beq_self_eq_true, Bool.and_self]; rfl) kk
theorem wp_slen {n z : Nat} {xs : Nat → Int32} (hk : q_cd k = cd) (h : cd[i]? = some (pc, len, .arraylength, a, b, c, d)) (kk : WPg (some (n, xs)) cu su k (i + 1) al (.int (nI n) :: st) M Q) : WPg (some (n, xs)) cu su k i al (.retAddr z :: st) M Q :=
  q_Wp.step (by subst hk; simp only [q_step, h, q_ins, q_len]; rfl) kk
theorem wp_tab {x : Int32} {dd lo hi : Int} {offs : Array Int} {off : Int} {t : Nat} (hk : q_cd k = cd) (h : cd[i]? = some (pc, len, .tableswitch dd lo hi offs, a, b, c, d)) (ho : q_swo lo hi dd offs x = some off) (ht : q_at cd ((pc : Int) + off) = some t) (kk : WPg X cu su k t al st M Q) : WPg X cu su k i al (.int x :: st) M Q :=
  q_Wp.step (by subst hk; simp only [q_step, h, q_ins, q_sw, ho, ht]; rfl) kk
theorem wp_lok {x : Int32} {dd : Int} {ps : Array (Int × Int)} {t : Nat} (hk : q_cd k = cd) (h : cd[i]? = some (pc, len, .lookupswitch dd ps, a, b, c, d)) (ht : q_at cd ((pc : Int) + Op.lookupswitch.offset ps.toList dd x.toInt) = some t) (kk : WPg X cu su k t al st M Q) : WPg X cu su k i al (.int x :: st) M Q :=
  q_Wp.step (by subst hk; simp only [q_step, h, q_ins, q_sw, ht]; rfl) kk
theorem wp_ir {x : Int32} (hk : q_cd k = cd) (h : cd[i]? = some (pc, len, .ireturn, a, b, c, d)) (hr : q_rok (q_mi k).2.2.2 x = true) (kk : Q (some (.int x)) M) : WP k i al [.int x] M Q :=
  q_Wp.ret (by subst hk; simp only [q_step, h, q_ins, hr, show Nat.ble 0 (q_mc k) = true from Nat.ble_eq.mpr (Nat.zero_le _), show Nat.ble 0 (q_ms k) = true from Nat.ble_eq.mpr (Nat.zero_le _), Bool.and_self, cond_true]) ⟨rfl, kk⟩
theorem wp_ar {q : Nat} (hk : q_cd k = cd) (h : cd[i]? = some (pc, len, .areturn, a, b, c, d)) (kk : Q (some (.ref q)) M) : WP k i al [.ref q] M Q :=
  q_Wp.ret (by subst hk; simp only [q_step, h, q_ins, show Nat.ble 0 (q_mc k) = true from Nat.ble_eq.mpr (Nat.zero_le _), show Nat.ble 0 (q_ms k) = true from Nat.ble_eq.mpr (Nat.zero_le _), Bool.and_self, cond_true]) ⟨rfl, kk⟩
theorem wp_vr (hk : q_cd k = cd) (h : cd[i]? = some (pc, len, .return_, a, b, c, d)) (kk : Q none M) : WP k i al [] M Q :=
  q_Wp.ret (by subst hk; simp only [q_step, h, q_ins, show Nat.ble 0 (q_mc k) = true from Nat.ble_eq.mpr (Nat.zero_le _), show Nat.ble 0 (q_ms k) = true from Nat.ble_eq.mpr (Nat.zero_le _), Bool.and_self, cond_true]) ⟨rfl, kk⟩
end WPL
