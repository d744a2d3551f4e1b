/-! the class reads a rule -/
def belZ (z : Nat) (M M' : MM) (p : Nat) : Prop := (∀ x, x < p → M' (z + 1) x = M (z + 1) x ∧ M' (z + 2) x = M (z + 2) x) ∧ ∀ x, x < 7 * p → M' (z + 3) x = M (z + 3) x
theorem belZ.rf (z : Nat) (M : MM) (p : Nat) : belZ z M M p := ⟨fun _ _ => ⟨rfl, rfl⟩, fun _ _ => rfl⟩
theorem belZ.tr {z p : Nat} {M M1 M2 : MM} (h1 : belZ z M M1 p) (h2 : belZ z M1 M2 p) : belZ z M M2 p := ⟨fun x hx => ⟨(h2.1 x hx).1.trans (h1.1 x hx).1, (h2.1 x hx).2.trans (h1.1 x hx).2⟩, fun x hx => (h2.2 x hx).trans (h1.2 x hx)⟩
theorem belZ.u0 {z p : Nat} {M M' : MM} {f : Nat → Int32} (h : belZ z M M' p) : belZ z M (q_up M' z f) p := ⟨fun y hy => ⟨by rw [q_up_ne _ _ (by omega)]; exact (h.1 y hy).1, by rw [q_up_ne _ _ (by omega)]; exact (h.1 y hy).2⟩, fun y hy => by rw [q_up_ne _ _ (by omega)]; exact h.2 y hy⟩
theorem belZ.u1 {z p x : Nat} {M M' : MM} {v : Int32} (h : belZ z M M' p) (hx : p ≤ x) : belZ z M (q_up M' (z + 1) (upd (M' (z + 1)) x v)) p := ⟨fun y hy => ⟨by rw [q_up_at, upd_ne _ _ (by omega)]; exact (h.1 y hy).1, by rw [q_up_ne _ _ (by omega)]; exact (h.1 y hy).2⟩, fun y hy => by rw [q_up_ne _ _ (by omega)]; exact h.2 y hy⟩
theorem belZ.u2 {z p x : Nat} {M M' : MM} {v : Int32} (h : belZ z M M' p) (hx : p ≤ x) : belZ z M (q_up M' (z + 2) (upd (M' (z + 2)) x v)) p := ⟨fun y hy => ⟨by rw [q_up_ne _ _ (by omega)]; exact (h.1 y hy).1, by rw [q_up_at, upd_ne _ _ (by omega)]; exact (h.1 y hy).2⟩, fun y hy => by rw [q_up_ne _ _ (by omega)]; exact h.2 y hy⟩
theorem belZ.u3 {z p x : Nat} {M M' : MM} {v : Int32} (h : belZ z M M' p) (hx : 7 * p ≤ x) : belZ z M (q_up M' (z + 3) (upd (M' (z + 3)) x v)) p := ⟨fun y hy => ⟨by rw [q_up_ne _ _ (by omega)]; exact (h.1 y hy).1, by rw [q_up_ne _ _ (by omega)]; exact (h.1 y hy).2⟩, fun y hy => by rw [q_up_at, upd_ne _ _ (by omega)]; exact h.2 y hy⟩
theorem TextIs.kp {M M' : MM} {T : Nat × (Nat → Nat)} {ids : List Nat} (H : TextIs M T) (h : Kp M M' ids) (h0 : 9 ∉ ids) (h1 : 10 ∉ ids) : TextIs M' T := by
  unfold TextIs
  rw [h 9 h0, h 10 h1]
  exact H
section READ
variable {M : MM} {z : Nat} {T : Nat × (Nat → Nat)} {Q : Option Value → MM → Prop}
theorem z_readStrike {p i : Nat} (hz : ZSh z) (hz9 : 10 < z) (H : TextIs M T) (hT : T.1 ≤ 16) (hB : ∀ i, i < T.1 → T.2 i < 256) (hp : p < 3) (hi : i < 100) (h3 : M z 3 = nI p) (h4 : M z 4 = nI i)
    (kk : ∀ M', Kp M M' [z, z + 1, z + 2, z + 3] → belZ z M M' p → M' z 3 = nI p → M' (z + 1) = M (z + 1) → M' z 4 = nI (if fgOk T i 3 = true then i + 1 else i) → (fgOk T i 3 = true → M' (z + 2) p = nI (T.2 i - 48)) → Q (some (.int (nI (b2n (fgOk T i 3))))) M') : Ca 75 [.ref z, .ref 9] M Q := by
  obtain ⟨hS, hA, hB', hC⟩ := hz
  have hk : q_cd 75 = kd_X5_readStrike := rfl
  show WP 75 0 [some (.ref z), some (.ref 9), none] [] M Q
  repeat (first | refine wp_s hk rfl rfl ?_ | refine wp_goto hk rfl ?_ | refine wp_geti hk rfl rfl rfl rfl ?_ | refine wp_getr hk rfl rfl rfl rfl ?_ | refine wp_geti hk rfl hS rfl rfl ?_ | refine wp_getr hk rfl hS rfl rfl ?_)
  rw [h4]
  refine wp_callV hk rfl rfl rfl rfl rfl rfl ?_
  refine x_byteAt H hT (by omega) ?_
  have no : fgOk T i 3 = false → ∀ x, WP 75 12 [some (.ref z), some (.ref 9), x] [] M Q := by
    intro g x
    repeat (first | refine wp_s hk rfl rfl ?_ | refine wp_goto hk rfl ?_ | refine wp_geti hk rfl rfl rfl rfl ?_ | refine wp_getr hk rfl rfl rfl rfl ?_ | refine wp_geti hk rfl hS rfl rfl ?_ | refine wp_getr hk rfl hS rfl rfl ?_)
    refine wp_ir hk rfl rfl ?_
    have := kk M (Kp.rf _ _) (belZ.rf _ _ _) h3 rfl (by rw [if_neg (by rw [g]; exact Bool.false_ne_true)]; exact h4) (fun y => by rw [g] at y; cases y)
    rw [g] at this
    exact this
  by_cases hlt : i < T.1
  · have hb := hB i hlt
    rw [if_pos hlt]
    repeat (first | refine wp_s hk rfl rfl ?_ | refine wp_goto hk rfl ?_ | refine wp_geti hk rfl rfl rfl rfl ?_ | refine wp_getr hk rfl rfl rfl rfl ?_ | refine wp_geti hk rfl hS rfl rfl ?_ | refine wp_getr hk rfl hS rfl rfl ?_)
    refine wp_ifltD (u := T.2 i) (v := 48) hk rfl rfl (by omega) (by omega) (fun g => ?_) (fun g => ?_)
    · exact no (by unfold fgOk; rw [decide_eq_false (p := 48 ≤ T.2 i) (by omega), Bool.false_and, Bool.and_false]) _
    · rw [q_nsub (show 48 ≤ T.2 i by omega)]
      repeat (first | refine wp_s hk rfl rfl ?_ | refine wp_goto hk rfl ?_ | refine wp_geti hk rfl rfl rfl rfl ?_ | refine wp_getr hk rfl rfl rfl rfl ?_ | refine wp_geti hk rfl hS rfl rfl ?_ | refine wp_getr hk rfl hS rfl rfl ?_)
      refine wp_icltN (u := T.2 i - 48) (v := 4) hk rfl rfl rfl (by omega) (by omega) (fun f => ?_) (fun f => ?_)
      · have hok : fgOk T i 3 = true := by
          unfold fgOk
          rw [decide_eq_true hlt, decide_eq_true (p := 48 ≤ T.2 i) (by omega), decide_eq_true (p := T.2 i ≤ 48 + 3) (by omega)]
          rfl
        rw [hok] at kk
        repeat (first | refine wp_s hk rfl rfl ?_ | refine wp_goto hk rfl ?_ | refine wp_geti hk rfl rfl rfl rfl ?_ | refine wp_getr hk rfl rfl rfl rfl ?_ | refine wp_geti hk rfl hS rfl rfl ?_ | refine wp_getr hk rfl hS rfl rfl ?_)
        rw [h3]
        refine wp_ast (jx := p) hk rfl hB' rfl (by omega) ?_
        repeat (first | refine wp_s hk rfl rfl ?_ | refine wp_goto hk rfl ?_ | refine wp_geti hk rfl rfl rfl rfl ?_ | refine wp_getr hk rfl rfl rfl rfl ?_ | refine wp_geti hk rfl hS rfl rfl ?_ | refine wp_getr hk rfl hS rfl rfl ?_)
        rw [q_up_ne _ _ (show z ≠ z + 2 by omega), h4, q_nadd]
        refine wp_put hk rfl hS rfl rfl rfl ?_
        repeat (first | refine wp_s hk rfl rfl ?_ | refine wp_goto hk rfl ?_ | refine wp_geti hk rfl rfl rfl rfl ?_ | refine wp_getr hk rfl rfl rfl rfl ?_ | refine wp_geti hk rfl hS rfl rfl ?_ | refine wp_getr hk rfl hS rfl rfl ?_)
        refine wp_ir hk rfl rfl (kk _ (((Kp.rf _ _).up (by simp)).up (by simp)) (((belZ.rf _ _ _).u2 (Nat.le_refl _)).u0) ?_ ?_ ?_ (fun _ => ?_))
        · rw [q_up_at, upd_ne _ _ (by decide), q_up_ne _ _ (by omega)]; exact h3
        · rw [q_up_ne _ _ (by omega), q_up_ne _ _ (by omega)]
        · rw [q_up_at, upd_at]; rfl
        · rw [q_up_ne _ _ (by omega), q_up_at, upd_at]
      · exact no (by unfold fgOk; rw [decide_eq_false (p := T.2 i ≤ 48 + 3) (by omega), Bool.and_false, Bool.and_false]) _
  · rw [if_neg hlt]
    repeat (first | refine wp_s hk rfl rfl ?_ | refine wp_goto hk rfl ?_ | refine wp_geti hk rfl rfl rfl rfl ?_ | refine wp_getr hk rfl rfl rfl rfl ?_ | refine wp_geti hk rfl hS rfl rfl ?_ | refine wp_getr hk rfl hS rfl rfl ?_)
    refine wp_iflt hk rfl (fun _ => ?_) (fun y => absurd (show NON - nI 48 < 0 by decide) y)
    exact no (by unfold fgOk; rw [decide_eq_false hlt, Bool.false_and]) _
theorem z_readFigures {p i n : Nat} (hz : ZSh z) (hz9 : 10 < z) (H : TextIs M T) (hT : T.1 ≤ 16) (hB : ∀ i, i < T.1 → T.2 i < 256) (hp : p < 3) (hi : i < 100) (hn : n ≤ 7) (h3 : M z 3 = nI p) (h4 : M z 4 = nI i)
    (kk : ∀ M', Kp M M' [z, z + 1, z + 2, z + 3] → belZ z M M' p → M' z 3 = nI p → M' (z + 1) = M (z + 1) → M' z 4 = nI (i + fgN T i n) → (fgN T i n = n → ∀ j, j < 7 → M' (z + 3) (7 * p + j) = nI (if j < n then T.2 (i + j) - 48 else 0)) → Q (some (.int (nI (b2n (decide (fgN T i n = n)))))) M') : Ca 76 [.ref z, .ref 9, .int (nI n)] M Q := by
  obtain ⟨hS, hA, hB', hC⟩ := hz
  have hk : q_cd 76 = kd_X5_readFigures := rfl
  show WP 76 0 [some (.ref z), some (.ref 9), some (.int (nI n)), none, none] [] M Q
  have loop := q_dn (n := n) (P := fun j => ∀ M1 x4, Kp M M1 [z, z + 1, z + 2, z + 3] → belZ z M M1 p → M1 z 3 = nI p → M1 (z + 1) = M (z + 1) → M1 z 4 = nI (i + j) → fgN T i j = j → (∀ j', j' < 7 → M1 (z + 3) (7 * p + j') = nI (if j' < j then T.2 (i + j') - 48 else 0)) → WP 76 21 [some (.ref z), some (.ref 9), some (.int (nI n)), some (.int (nI j)), x4] [.int (nI n), .int (nI j)] M1 Q) (by
    intro M1 x4 K1 b1 e3 e1 e4 hf hd
    refine wp_icgeN (u := n) (v := n) hk rfl rfl rfl (by omega) (by omega) (fun _ => ?_) (fun y => absurd y (by omega))
    have := kk M1 K1 b1 e3 e1 (by rw [hf]; exact e4) (fun _ => hd)
    rw [decide_eq_true hf] at this
    repeat (first | refine wp_s hk rfl rfl ?_ | refine wp_goto hk rfl ?_ | refine wp_geti hk rfl rfl rfl rfl ?_ | refine wp_getr hk rfl rfl rfl rfl ?_)
    exact wp_ir hk rfl rfl this) (by
    intro j hj ih M1 x4 K1 b1 e3 e1 e4 hf hd
    refine wp_icgeN (u := j) (v := n) hk rfl rfl rfl (by omega) (by omega) (fun y => absurd y (by omega)) (fun _ => ?_)
    have H1 := H.kp K1 (by simp; omega) (by simp; omega)
    have no : fgOk T (i + j) 9 = false → ∀ x, WP 76 34 [some (.ref z), some (.ref 9), some (.int (nI n)), some (.int (nI j)), x] [] M1 Q := by
      intro g x
      have hs := fgN_stop hf g hj
      have := kk M1 K1 b1 e3 e1 (by rw [hs]; exact e4) (fun y => absurd y (by omega))
      rw [decide_eq_false (by omega)] at this
      repeat (first | refine wp_s hk rfl rfl ?_ | refine wp_goto hk rfl ?_ | refine wp_geti hk rfl rfl rfl rfl ?_ | refine wp_getr hk rfl rfl rfl rfl ?_)
      exact wp_ir hk rfl rfl this
    repeat (first | refine wp_s hk rfl rfl ?_ | refine wp_goto hk rfl ?_ | refine wp_geti hk rfl rfl rfl rfl ?_ | refine wp_getr hk rfl rfl rfl rfl ?_ | refine wp_geti hk rfl hS rfl rfl ?_ | refine wp_getr hk rfl hS rfl rfl ?_)
    rw [e4]
    refine wp_callV hk rfl rfl rfl rfl rfl rfl ?_
    refine x_byteAt H1 hT (by omega) ?_
    by_cases hlt : i + j < T.1
    · have hb := hB (i + j) hlt
      rw [if_pos hlt]
      repeat (first | refine wp_s hk rfl rfl ?_ | refine wp_goto hk rfl ?_ | refine wp_geti hk rfl rfl rfl rfl ?_ | refine wp_getr hk rfl rfl rfl rfl ?_ | refine wp_geti hk rfl hS rfl rfl ?_ | refine wp_getr hk rfl hS rfl rfl ?_)
      refine wp_ifltD (u := T.2 (i + j)) (v := 48) hk rfl rfl (by omega) (by omega) (fun g => ?_) (fun g => ?_)
      · exact no (by unfold fgOk; rw [decide_eq_false (p := 48 ≤ T.2 (i + j)) (by omega), Bool.false_and, Bool.and_false]) _
      · rw [q_nsub (show 48 ≤ T.2 (i + j) by omega)]
        repeat (first | refine wp_s hk rfl rfl ?_ | refine wp_goto hk rfl ?_ | refine wp_geti hk rfl rfl rfl rfl ?_ | refine wp_getr hk rfl rfl rfl rfl ?_ | refine wp_geti hk rfl hS rfl rfl ?_ | refine wp_getr hk rfl hS rfl rfl ?_)
        refine wp_icleN (u := T.2 (i + j) - 48) (v := 9) hk rfl rfl rfl (by omega) (by omega) (fun f => ?_) (fun f => ?_)
        · have hok : fgOk T (i + j) 9 = true := by
            unfold fgOk
            rw [decide_eq_true hlt, decide_eq_true (p := 48 ≤ T.2 (i + j)) (by omega), decide_eq_true (p := T.2 (i + j) ≤ 48 + 9) (by omega)]
            rfl
          repeat (first | refine wp_s hk rfl rfl ?_ | refine wp_goto hk rfl ?_ | refine wp_geti hk rfl rfl rfl rfl ?_ | refine wp_getr hk rfl rfl rfl rfl ?_ | refine wp_geti hk rfl hS rfl rfl ?_ | refine wp_getr hk rfl hS rfl rfl ?_)
          rw [e3]
          refine wp_ast (jx := 7 * p + j) hk rfl hC (by simp only [q_nadd, q_nmul, Nat.mul_comm]) (by omega) ?_
          repeat (first | refine wp_s hk rfl rfl ?_ | refine wp_goto hk rfl ?_ | refine wp_geti hk rfl rfl rfl rfl ?_ | refine wp_getr hk rfl rfl rfl rfl ?_ | refine wp_geti hk rfl hS rfl rfl ?_ | refine wp_getr hk rfl hS rfl rfl ?_)
          rw [q_up_ne _ _ (show z ≠ z + 3 by omega), e4, q_nadd]
          refine wp_put hk rfl hS rfl rfl rfl ?_
          repeat (first | refine wp_s hk rfl rfl ?_ | refine wp_goto hk rfl ?_ | refine wp_geti hk rfl rfl rfl rfl ?_ | refine wp_getr hk rfl rfl rfl rfl ?_ | refine wp_geti hk rfl hS rfl rfl ?_ | refine wp_getr hk rfl hS rfl rfl ?_)
          rw [q_nadd j 1]
          refine ih _ _ ((K1.up (by simp)).up (by simp)) ((b1.u3 (by omega)).u0) ?_ ?_ ?_ (by simp only [fgN]; rw [if_pos ⟨hf, hok⟩]) (fun j' hj' => ?_)
          · rw [q_up_at, upd_ne _ _ (by decide), q_up_ne _ _ (by omega)]; exact e3
          · rw [q_up_ne _ _ (by omega), q_up_ne _ _ (by omega)]; exact e1
          · rw [q_up_at, upd_at]; rfl
          · rw [q_up_ne _ _ (by omega), q_up_at]
            by_cases e : j' = j
            · subst e
              rw [upd_at, if_pos (by omega)]
            · rw [upd_ne _ _ (by omega), hd j' hj']
              by_cases e2 : j' < j
              · rw [if_pos e2, if_pos (by omega)]
              · rw [if_neg e2, if_neg (by omega)]
        · exact no (by unfold fgOk; rw [decide_eq_false (p := T.2 (i + j) ≤ 48 + 9) (by omega), Bool.and_false, Bool.and_false]) _
    · rw [if_neg hlt]
      repeat (first | refine wp_s hk rfl rfl ?_ | refine wp_goto hk rfl ?_ | refine wp_geti hk rfl rfl rfl rfl ?_ | refine wp_getr hk rfl rfl rfl rfl ?_ | refine wp_geti hk rfl hS rfl rfl ?_ | refine wp_getr hk rfl hS rfl rfl ?_)
      refine wp_iflt hk rfl (fun _ => ?_) (fun y => absurd (show NON - nI 48 < 0 by decide) y)
      exact no (by unfold fgOk; rw [decide_eq_false hlt, Bool.false_and]) _)
  have clear := q_dn (n := 7) (P := fun j => ∀ M1, Kp M M1 [z, z + 1, z + 2, z + 3] → belZ z M M1 p → M1 z = M z → M1 (z + 1) = M (z + 1) → (∀ j', j' < j → M1 (z + 3) (7 * p + j') = nI 0) → WP 76 4 [some (.ref z), some (.ref 9), some (.int (nI n)), some (.int (nI j)), none] [.int (nI 7), .int (nI j)] M1 Q) (by
    intro M1 K1 b1 e0 e1 hd
    refine wp_icgeN (u := 7) (v := 7) hk rfl rfl rfl (by omega) (by omega) (fun _ => ?_) (fun y => absurd y (by omega))
    repeat (first | refine wp_s hk rfl rfl ?_ | refine wp_goto hk rfl ?_ | refine wp_geti hk rfl rfl rfl rfl ?_ | refine wp_getr hk rfl rfl rfl rfl ?_)
    exact loop 0 (Nat.zero_le _) M1 _ K1 b1 (by rw [e0]; exact h3) e1 (by rw [e0]; exact h4) rfl (fun j' hj' => by rw [if_neg (Nat.not_lt_zero _)]; exact hd j' hj')) (by
    intro j hj ih M1 K1 b1 e0 e1 hd
    refine wp_icgeN (u := j) (v := 7) hk rfl rfl rfl (by omega) (by omega) (fun y => absurd y (by omega)) (fun _ => ?_)
    repeat (first | refine wp_s hk rfl rfl ?_ | refine wp_goto hk rfl ?_ | refine wp_geti hk rfl rfl rfl rfl ?_ | refine wp_getr hk rfl rfl rfl rfl ?_ | refine wp_geti hk rfl hS rfl rfl ?_ | refine wp_getr hk rfl hS rfl rfl ?_)
    rw [show M1 z 3 = nI p by rw [e0]; exact h3]
    refine wp_ast (jx := 7 * p + j) hk rfl hC (by simp only [q_nadd, q_nmul, Nat.mul_comm]) (by omega) ?_
    repeat (first | refine wp_s hk rfl rfl ?_ | refine wp_goto hk rfl ?_ | refine wp_geti hk rfl rfl rfl rfl ?_ | refine wp_getr hk rfl rfl rfl rfl ?_ | refine wp_geti hk rfl hS rfl rfl ?_ | refine wp_getr hk rfl hS rfl rfl ?_)
    rw [q_nadd j 1]
    refine ih _ (K1.up (by simp)) (b1.u3 (by omega)) (by rw [q_up_ne _ _ (by omega)]; exact e0) (by rw [q_up_ne _ _ (by omega)]; exact e1) (fun j' hj' => ?_)
    rw [q_up_at]
    by_cases e : j' = j
    · subst e; rw [upd_at]
    · rw [upd_ne _ _ (by omega)]; exact hd j' (by omega))
  repeat (first | refine wp_s hk rfl rfl ?_ | refine wp_goto hk rfl ?_ | refine wp_geti hk rfl rfl rfl rfl ?_ | refine wp_getr hk rfl rfl rfl rfl ?_)
  exact clear 0 (Nat.zero_le _) M (Kp.rf _ _) (belZ.rf _ _ _) rfl rfl (fun j' hj' => absurd hj' (Nat.not_lt_zero _))
end READ
