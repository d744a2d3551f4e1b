theorem qput (M : MM) (c j : Nat) (x : Int32) (k : Nat) : (q_up M c (upd (M c) j x)) c k = if k = j then x else M c k := by
  rw [q_up_at]
  by_cases e : k = j
  · subst e; rw [upd_at, if_pos rfl]
  · rw [upd_ne _ _ e, if_neg e]
theorem c_begin {M : MM} {c n m : Nat} {Q : Option Value → MM → Prop} (hc : CSh c) (kk : ∀ M', Kp M M' [c, c + 1, c + 2, c + 3] → CardIs M' c (vwP n m) → Q none M') : Ca 1 [.ref c, .int (nI n), .int (nI m)] M Q := by
  obtain ⟨hS, hA, hB, hC⟩ := hc
  have hk : q_cd 1 = kd_X0_begin := rfl
  show WP 1 0 [some (.ref c), some (.int (nI n)), some (.int (nI m)), none] [] M Q
  repeat (first | refine wp_s hk rfl rfl ?_ | refine wp_goto hk rfl ?_ | refine wp_geti hk rfl rfl rfl rfl ?_ | refine wp_getr hk rfl rfl rfl rfl ?_ | refine wp_geti hk rfl hS rfl rfl ?_ | refine wp_getr hk rfl hS rfl rfl ?_)
  refine wp_put hk rfl hS rfl rfl rfl ?_
  repeat (first | refine wp_s hk rfl rfl ?_ | refine wp_goto hk rfl ?_ | refine wp_geti hk rfl rfl rfl rfl ?_ | refine wp_getr hk rfl rfl rfl rfl ?_ | refine wp_geti hk rfl hS rfl rfl ?_ | refine wp_getr hk rfl hS rfl rfl ?_)
  refine wp_put hk rfl hS rfl rfl rfl ?_
  repeat (first | refine wp_s hk rfl rfl ?_ | refine wp_goto hk rfl ?_ | refine wp_geti hk rfl rfl rfl rfl ?_ | refine wp_getr hk rfl rfl rfl rfl ?_ | refine wp_geti hk rfl hS rfl rfl ?_ | refine wp_getr hk rfl hS rfl rfl ?_)
  refine wp_put hk rfl hS rfl rfl rfl ?_
  obtain ⟨M2, hM2⟩ : ∃ M2, M2 = q_up (q_up (q_up M c (upd (M c) 3 (nI n))) c (upd ((q_up M c (upd (M c) 3 (nI n))) c) 4 (nI m))) c (upd ((q_up (q_up M c (upd (M c) 3 (nI n))) c (upd ((q_up M c (upd (M c) 3 (nI n))) c) 4 (nI m))) c) 5 (nI 0)) := ⟨_, rfl⟩
  have e3 : M2 c 3 = nI n := by rw [hM2, qput, if_neg (by decide), qput, if_neg (by decide), qput, if_pos rfl]
  have e4 : M2 c 4 = nI m := by rw [hM2, qput, if_neg (by decide), qput, if_pos rfl]
  have e5 : M2 c 5 = nI 0 := by rw [hM2, qput, if_pos rfl]
  have K2 : Kp M M2 [c, c + 1, c + 2, c + 3] := by rw [hM2]; exact (((Kp.rf _ _).up (by simp)).up (by simp)).up (by simp)
  change WP 1 _ _ _ (q_up (q_up (q_up M c (upd (M c) 3 (nI n))) c (upd ((q_up M c (upd (M c) 3 (nI n))) c) 4 (nI m))) c (upd ((q_up (q_up M c (upd (M c) 3 (nI n))) c (upd ((q_up M c (upd (M c) 3 (nI n))) c) 4 (nI m))) c) 5 (nI 0))) _
  rw [← hM2]
  clear hM2
  have l3 : ∀ M1, Kp M2 M1 [c + 1, c + 2, c + 3] → zr M1 (c + 1) 28 → zr M1 (c + 2) 7 → zr M1 (c + 3) 0 → WP 1 39 [some (.ref c), some (.int (nI n)), some (.int (nI m)), some (.int (nI 0))] [] M1 Q := by
    refine q_dn (n := 4) (P := fun j => ∀ M1, Kp M2 M1 [c + 1, c + 2, c + 3] → zr M1 (c + 1) 28 → zr M1 (c + 2) 7 → zr M1 (c + 3) j → WP 1 39 [some (.ref c), some (.int (nI n)), some (.int (nI m)), some (.int (nI j))] [] M1 Q) (fun M1 K1 Z1 Z2 Z3 => ?_) (fun j hj ih M1 K1 Z1 Z2 Z3 => ?_) 0 (Nat.zero_le _)
    · repeat (first | refine wp_s hk rfl rfl ?_ | refine wp_goto hk rfl ?_ | refine wp_geti hk rfl rfl rfl rfl ?_ | refine wp_getr hk rfl rfl rfl rfl ?_ | refine wp_geti hk rfl hS rfl rfl ?_ | refine wp_getr hk rfl hS rfl rfl ?_)
      refine wp_len hk rfl hC ?_
      refine wp_icgeN (u := 4) (v := 4) hk rfl rfl rfl (by omega) (by omega) (fun _ => ?_) (fun z => absurd z (by omega))
      have ec : M1 c = M2 c := K1 c (by simp)
      refine wp_vr hk rfl (kk M1 (K2.tr (K1.mono (by simp))) ⟨by rw [ec]; exact e3, by rw [ec]; exact e4, by rw [ec]; exact e5, fun j hj s hs => Z1 _ (by omega), fun j hj => Z2 j hj, fun s hs => Z3 s hs⟩)
    · repeat (first | refine wp_s hk rfl rfl ?_ | refine wp_goto hk rfl ?_ | refine wp_geti hk rfl rfl rfl rfl ?_ | refine wp_getr hk rfl rfl rfl rfl ?_ | refine wp_geti hk rfl hS rfl rfl ?_ | refine wp_getr hk rfl hS rfl rfl ?_)
      refine wp_len hk rfl hC ?_
      refine wp_icgeN (u := j) (v := 4) hk rfl rfl rfl (by omega) (by omega) (fun z => absurd z (by omega)) (fun _ => ?_)
      repeat (first | refine wp_s hk rfl rfl ?_ | refine wp_goto hk rfl ?_ | refine wp_geti hk rfl rfl rfl rfl ?_ | refine wp_getr hk rfl rfl rfl rfl ?_ | refine wp_geti hk rfl hS rfl rfl ?_ | refine wp_getr hk rfl hS rfl rfl ?_)
      refine wp_ast (jx := j) hk rfl hC rfl (by omega) ?_
      refine wp_s hk rfl rfl ?_
      refine wp_goto hk rfl ?_
      rw [q_nadd j 1]
      exact ih _ (K1.up (by simp)) (Z1.ne (by omega)) (Z2.ne (by omega)) Z3.up
  have l2 : ∀ M1, Kp M2 M1 [c + 1, c + 2, c + 3] → zr M1 (c + 1) 28 → zr M1 (c + 2) 0 → WP 1 25 [some (.ref c), some (.int (nI n)), some (.int (nI m)), some (.int (nI 0))] [] M1 Q := by
    refine q_dn (n := 7) (P := fun j => ∀ M1, Kp M2 M1 [c + 1, c + 2, c + 3] → zr M1 (c + 1) 28 → zr M1 (c + 2) j → WP 1 25 [some (.ref c), some (.int (nI n)), some (.int (nI m)), some (.int (nI j))] [] M1 Q) (fun M1 K1 Z1 Z2 => ?_) (fun j hj ih M1 K1 Z1 Z2 => ?_) 0 (Nat.zero_le _)
    · repeat (first | refine wp_s hk rfl rfl ?_ | refine wp_goto hk rfl ?_ | refine wp_geti hk rfl rfl rfl rfl ?_ | refine wp_getr hk rfl rfl rfl rfl ?_ | refine wp_geti hk rfl hS rfl rfl ?_ | refine wp_getr hk rfl hS rfl rfl ?_)
      refine wp_len hk rfl hB ?_
      refine wp_icgeN (u := 7) (v := 7) hk rfl rfl rfl (by omega) (by omega) (fun _ => ?_) (fun z => absurd z (by omega))
      refine wp_s hk rfl rfl ?_
      refine wp_s hk rfl rfl ?_
      exact l3 M1 K1 Z1 Z2 (fun i hi => absurd hi (Nat.not_lt_zero _))
    · repeat (first | refine wp_s hk rfl rfl ?_ | refine wp_goto hk rfl ?_ | refine wp_geti hk rfl rfl rfl rfl ?_ | refine wp_getr hk rfl rfl rfl rfl ?_ | refine wp_geti hk rfl hS rfl rfl ?_ | refine wp_getr hk rfl hS rfl rfl ?_)
      refine wp_len hk rfl hB ?_
      refine wp_icgeN (u := j) (v := 7) hk rfl rfl rfl (by omega) (by omega) (fun z => absurd z (by omega)) (fun _ => ?_)
      repeat (first | refine wp_s hk rfl rfl ?_ | refine wp_goto hk rfl ?_ | refine wp_geti hk rfl rfl rfl rfl ?_ | refine wp_getr hk rfl rfl rfl rfl ?_ | refine wp_geti hk rfl hS rfl rfl ?_ | refine wp_getr hk rfl hS rfl rfl ?_)
      refine wp_ast (jx := j) hk rfl hB rfl (by omega) ?_
      refine wp_s hk rfl rfl ?_
      refine wp_goto hk rfl ?_
      rw [q_nadd j 1]
      exact ih _ (K1.up (by simp)) (Z1.ne (by omega)) Z2.up
  have l1 := q_dn (n := 28) (P := fun j => ∀ M1, Kp M2 M1 [c + 1, c + 2, c + 3] → zr M1 (c + 1) j → WP 1 11 [some (.ref c), some (.int (nI n)), some (.int (nI m)), some (.int (nI j))] [] M1 Q) (fun M1 K1 Z1 => by
    repeat (first | refine wp_s hk rfl rfl ?_ | refine wp_goto hk rfl ?_ | refine wp_geti hk rfl rfl rfl rfl ?_ | refine wp_getr hk rfl rfl rfl rfl ?_ | refine wp_geti hk rfl hS rfl rfl ?_ | refine wp_getr hk rfl hS rfl rfl ?_)
    refine wp_len hk rfl hA ?_
    refine wp_icgeN (u := 28) (v := 28) hk rfl rfl rfl (by omega) (by omega) (fun _ => ?_) (fun z => absurd z (by omega))
    refine wp_s hk rfl rfl ?_
    refine wp_s hk rfl rfl ?_
    exact l2 M1 K1 Z1 (fun i hi => absurd hi (Nat.not_lt_zero _))) (fun j hj ih M1 K1 Z1 => by
    repeat (first | refine wp_s hk rfl rfl ?_ | refine wp_goto hk rfl ?_ | refine wp_geti hk rfl rfl rfl rfl ?_ | refine wp_getr hk rfl rfl rfl rfl ?_ | refine wp_geti hk rfl hS rfl rfl ?_ | refine wp_getr hk rfl hS rfl rfl ?_)
    refine wp_len hk rfl hA ?_
    refine wp_icgeN (u := j) (v := 28) hk rfl rfl rfl (by omega) (by omega) (fun z => absurd z (by omega)) (fun _ => ?_)
    repeat (first | refine wp_s hk rfl rfl ?_ | refine wp_goto hk rfl ?_ | refine wp_geti hk rfl rfl rfl rfl ?_ | refine wp_getr hk rfl rfl rfl rfl ?_ | refine wp_geti hk rfl hS rfl rfl ?_ | refine wp_getr hk rfl hS rfl rfl ?_)
    refine wp_ast (jx := j) hk rfl hA rfl (by omega) ?_
    refine wp_s hk rfl rfl ?_
    refine wp_goto hk rfl ?_
    rw [q_nadd j 1]
    exact ih _ (K1.up (by simp)) Z1.up)
  refine wp_s hk rfl rfl ?_
  refine wp_s hk rfl rfl ?_
  exact l1 0 (Nat.zero_le _) M2 (Kp.rf _ _) (fun i hi => absurd hi (Nat.not_lt_zero _))
theorem va_cp0 (f g : Nat → Int32) {n x : Nat} (h : x < n) : va_cpy f g 0 0 n x = f x := by
  unfold va_cpy
  rw [if_pos (by omega), Nat.sub_zero, Nat.zero_add]
theorem c_copyFrom {M : MM} {c d : Nat} {V : Vw} {Q : Option Value → MM → Prop} (hc : CSh c) (hd : CSh d) (hcd : c + 3 < d ∨ d + 3 < c) (H : CardIs M d V) (kk : ∀ M', Kp M M' [c, c + 1, c + 2, c + 3] → CardIs M' c V → Q none M') : Ca 2 [.ref c, .ref d] M Q := by
  obtain ⟨hS, hA, hB, hC⟩ := hc
  obtain ⟨gS, gA, gB, gC⟩ := hd
  obtain ⟨c1, c2, c3, c4, c5, c6⟩ := H
  have hk : q_cd 2 = kd_X0_copyFrom := rfl
  show WP 2 0 [some (.ref c), some (.ref d)] [] M Q
  repeat (first | refine wp_s hk rfl rfl ?_ | refine wp_goto hk rfl ?_ | refine wp_geti hk rfl rfl rfl rfl ?_ | refine wp_getr hk rfl rfl rfl rfl ?_ | refine wp_geti hk rfl hS rfl rfl ?_ | refine wp_getr hk rfl hS rfl rfl ?_ | refine wp_geti hk rfl gS rfl rfl ?_ | refine wp_getr hk rfl gS rfl rfl ?_)
  refine wp_put hk rfl hS rfl rfl rfl ?_
  repeat (first | refine wp_s hk rfl rfl ?_ | refine wp_goto hk rfl ?_ | refine wp_geti hk rfl rfl rfl rfl ?_ | refine wp_getr hk rfl rfl rfl rfl ?_ | refine wp_geti hk rfl hS rfl rfl ?_ | refine wp_getr hk rfl hS rfl rfl ?_ | refine wp_geti hk rfl gS rfl rfl ?_ | refine wp_getr hk rfl gS rfl rfl ?_)
  refine wp_put hk rfl hS rfl rfl rfl ?_
  repeat (first | refine wp_s hk rfl rfl ?_ | refine wp_goto hk rfl ?_ | refine wp_geti hk rfl rfl rfl rfl ?_ | refine wp_getr hk rfl rfl rfl rfl ?_ | refine wp_geti hk rfl hS rfl rfl ?_ | refine wp_getr hk rfl hS rfl rfl ?_ | refine wp_geti hk rfl gS rfl rfl ?_ | refine wp_getr hk rfl gS rfl rfl ?_)
  refine wp_put hk rfl hS rfl rfl rfl ?_
  rw [q_up_ne _ _ (show d ≠ c by omega), q_up_ne _ _ (show d ≠ c by omega), q_up_ne _ _ (show d ≠ c by omega), c1, c2, c3]
  obtain ⟨M2, hM2⟩ : ∃ M2, M2 = q_up (q_up (q_up M c (upd (M c) 3 (nI (vn V)))) c (upd ((q_up M c (upd (M c) 3 (nI (vn V)))) c) 4 (nI (vm V)))) c (upd ((q_up (q_up M c (upd (M c) 3 (nI (vn V)))) c (upd ((q_up M c (upd (M c) 3 (nI (vn V)))) c) 4 (nI (vm V)))) c) 5 (nI (vL V))) := ⟨_, rfl⟩
  have e3 : M2 c 3 = nI (vn V) := by rw [hM2, qput, if_neg (by decide), qput, if_neg (by decide), qput, if_pos rfl]
  have e4 : M2 c 4 = nI (vm V) := by rw [hM2, qput, if_neg (by decide), qput, if_pos rfl]
  have e5 : M2 c 5 = nI (vL V) := by rw [hM2, qput, if_pos rfl]
  have K2 : Kp M M2 [c, c + 1, c + 2, c + 3] := by rw [hM2]; exact (((Kp.rf _ _).up (by simp)).up (by simp)).up (by simp)
  rw [← hM2]
  clear hM2
  have g1 : M2 (d + 1) = M (d + 1) := K2 _ (by simp; omega)
  have g2 : M2 (d + 2) = M (d + 2) := K2 _ (by simp; omega)
  have g3 : M2 (d + 3) = M (d + 3) := K2 _ (by simp; omega)
  repeat (first | refine wp_s hk rfl rfl ?_ | refine wp_goto hk rfl ?_ | refine wp_geti hk rfl rfl rfl rfl ?_ | refine wp_getr hk rfl rfl rfl rfl ?_ | refine wp_geti hk rfl hS rfl rfl ?_ | refine wp_getr hk rfl hS rfl rfl ?_ | refine wp_geti hk rfl gS rfl rfl ?_ | refine wp_getr hk rfl gS rfl rfl ?_)
  refine wp_len hk rfl hA ?_
  refine wp_copy hk rfl rfl rfl gA hA (by omega) (by omega) ?_
  repeat (first | refine wp_s hk rfl rfl ?_ | refine wp_goto hk rfl ?_ | refine wp_geti hk rfl rfl rfl rfl ?_ | refine wp_getr hk rfl rfl rfl rfl ?_ | refine wp_geti hk rfl hS rfl rfl ?_ | refine wp_getr hk rfl hS rfl rfl ?_ | refine wp_geti hk rfl gS rfl rfl ?_ | refine wp_getr hk rfl gS rfl rfl ?_)
  refine wp_len hk rfl hB ?_
  refine wp_copy hk rfl rfl rfl gB hB (by omega) (by omega) ?_
  repeat (first | refine wp_s hk rfl rfl ?_ | refine wp_goto hk rfl ?_ | refine wp_geti hk rfl rfl rfl rfl ?_ | refine wp_getr hk rfl rfl rfl rfl ?_ | refine wp_geti hk rfl hS rfl rfl ?_ | refine wp_getr hk rfl hS rfl rfl ?_ | refine wp_geti hk rfl gS rfl rfl ?_ | refine wp_getr hk rfl gS rfl rfl ?_)
  refine wp_len hk rfl hC ?_
  refine wp_copy hk rfl rfl rfl gC hC (by omega) (by omega) ?_
  refine wp_vr hk rfl (kk _ ((((K2.up (by simp)).up (by simp)).up (by simp))) ⟨?_, ?_, ?_, fun j hj s hs => ?_, fun j hj => ?_, fun s hs => ?_⟩)
  · rw [q_up_ne _ _ (by omega), q_up_ne _ _ (by omega), q_up_ne _ _ (by omega)]; exact e3
  · rw [q_up_ne _ _ (by omega), q_up_ne _ _ (by omega), q_up_ne _ _ (by omega)]; exact e4
  · rw [q_up_ne _ _ (by omega), q_up_ne _ _ (by omega), q_up_ne _ _ (by omega)]; exact e5
  · rw [q_up_ne _ _ (by omega), q_up_ne _ _ (by omega), q_up_at, va_cp0 _ _ (by omega), g1]; exact c4 j hj s hs
  · rw [q_up_ne _ _ (by omega), q_up_at, va_cp0 _ _ (by omega), q_up_ne _ _ (by omega), g2]; exact c5 j hj
  · rw [q_up_at, va_cp0 _ _ (by omega), q_up_ne _ _ (by omega), q_up_ne _ _ (by omega), g3]; exact c6 s hs
/-! the class's past -/
def PastIs (M : MM) (N : Nat) (P : Nat → Vw) : Prop := M 35 1 = nI N ∧ ∀ i, i < N → CardIs M (37 + 4 * i) (P i)
def pcs : List (Option Nat) := [some 37, some 41, some 45, some 49, some 53, some 57, some 61, some 65]
theorem pcs_at : ∀ i, i < 8 → pcs[i]? = some (some (37 + 4 * i))
  | 0, _ => rfl
  | 1, _ => rfl
  | 2, _ => rfl
  | 3, _ => rfl
  | 4, _ => rfl
  | 5, _ => rfl
  | 6, _ => rfl
  | 7, _ => rfl
  | n + 8, h => absurd h (by omega)
section PAST
variable {M : MM} {N : Nat} {P : Nat → Vw} {S : St} {Q : Option Value → MM → Prop}
theorem p_size (H : PastIs M N P) (kk : Q (some (.int (nI N))) M) : Ca 36 [.ref 35] M Q := by
  have hk : q_cd 36 = kd_X2_size := rfl
  show WP 36 0 [some (.ref 35)] [] M Q
  repeat (first | refine wp_s hk rfl rfl ?_ | refine wp_goto hk rfl ?_ | refine wp_geti hk rfl rfl rfl rfl ?_ | refine wp_getr hk rfl rfl rfl rfl ?_)
  rw [H.1]
  exact wp_ir hk rfl rfl kk
theorem p_hasRoom (H : PastIs M N P) (h8 : N ≤ 8) (kk : Q (some (.int (nI (b2n (decide (N < 8)))))) M) : Ca 37 [.ref 35] M Q := by
  have hk : q_cd 37 = kd_X2_hasRoom := rfl
  show WP 37 0 [some (.ref 35)] [] M Q
  repeat (first | refine wp_s hk rfl rfl ?_ | refine wp_goto hk rfl ?_ | refine wp_geti hk rfl rfl rfl rfl ?_ | refine wp_getr hk rfl rfl rfl rfl ?_)
  refine wp_icgeN (u := N) (v := 8) hk rfl H.1 rfl (by omega) (by omega) (fun g => ?_) (fun g => ?_)
  · rw [decide_eq_false (by omega)] at kk
    repeat (first | refine wp_s hk rfl rfl ?_ | refine wp_goto hk rfl ?_ | refine wp_geti hk rfl rfl rfl rfl ?_ | refine wp_getr hk rfl rfl rfl rfl ?_)
    exact wp_ir hk rfl rfl kk
  · rw [decide_eq_true (by omega)] at kk
    repeat (first | refine wp_s hk rfl rfl ?_ | refine wp_goto hk rfl ?_ | refine wp_geti hk rfl rfl rfl rfl ?_ | refine wp_getr hk rfl rfl rfl rfl ?_)
    exact wp_ir hk rfl rfl kk
theorem p_empty (H : PastIs M N P) (kk : Q (some (.int (nI N))) (q_up M 35 (upd (M 35) 1 (nI 0)))) : Ca 39 [.ref 35] M Q := by
  have hk : q_cd 39 = kd_X2_empty := rfl
  show WP 39 0 [some (.ref 35), none] [] M Q
  repeat (first | refine wp_s hk rfl rfl ?_ | refine wp_goto hk rfl ?_ | refine wp_geti hk rfl rfl rfl rfl ?_ | refine wp_getr hk rfl rfl rfl rfl ?_)
  refine wp_put hk rfl rfl rfl rfl rfl ?_
  repeat (first | refine wp_s hk rfl rfl ?_ | refine wp_goto hk rfl ?_ | refine wp_geti hk rfl rfl rfl rfl ?_ | refine wp_getr hk rfl rfl rfl rfl ?_)
  rw [H.1]
  exact wp_ir hk rfl rfl kk
theorem p_cardAt {i : Nat} (hi : i < 8) (kk : Q (some (.ref (37 + 4 * i))) M) : Ca 40 [.ref 35, .int (nI i)] M Q := by
  have hk : q_cd 40 = kd_X2_cardAt := rfl
  show WP 40 0 [some (.ref 35), some (.int (nI i))] [] M Q
  repeat (first | refine wp_s hk rfl rfl ?_ | refine wp_goto hk rfl ?_ | refine wp_geti hk rfl rfl rfl rfl ?_ | refine wp_getr hk rfl rfl rfl rfl ?_)
  refine wp_qld (jx := i) hk rfl rfl rfl rfl (pcs_at i hi) (by decide) ?_
  exact wp_ar hk rfl kk
theorem p_add {V : Vw} (H : PastIs M N P) (hN : N < 8) (C : CardIs M 1 V) (kk : ∀ M', Kp M M' [35, 37 + 4 * N, 37 + 4 * N + 1, 37 + 4 * N + 2, 37 + 4 * N + 3] → PastIs M' (N + 1) (fun i => if i = N then V else P i) → Q (some (.int (nI (N + 1)))) M') : Ca 38 [.ref 35, .ref 1] M Q := by
  have hk : q_cd 38 = kd_X2_add := rfl
  show WP 38 0 [some (.ref 35), some (.ref 1)] [] M Q
  have hsh := CShP N hN
  have hq1 := hsh.1
  repeat (first | refine wp_s hk rfl rfl ?_ | refine wp_goto hk rfl ?_ | refine wp_geti hk rfl rfl rfl rfl ?_ | refine wp_getr hk rfl rfl rfl rfl ?_)
  refine wp_qld (jx := N) hk rfl rfl rfl H.1 (pcs_at N hN) (by decide) ?_
  repeat (first | refine wp_s hk rfl rfl ?_ | refine wp_goto hk rfl ?_ | refine wp_geti hk rfl rfl rfl rfl ?_ | refine wp_getr hk rfl rfl rfl rfl ?_)
  refine wp_callV hk rfl rfl rfl rfl hq1 rfl ?_
  refine c_copyFrom hsh CSh1 (Or.inr (by omega)) C (fun M1 K1 C1 => ?_)
  have e1 : M1 35 1 = nI N := by rw [K1 35 (by simp; omega)]; exact H.1
  repeat (first | refine wp_s hk rfl rfl ?_ | refine wp_goto hk rfl ?_ | refine wp_geti hk rfl rfl rfl rfl ?_ | refine wp_getr hk rfl rfl rfl rfl ?_)
  rw [e1, q_nadd]
  refine wp_put hk rfl rfl rfl rfl rfl ?_
  repeat (first | refine wp_s hk rfl rfl ?_ | refine wp_goto hk rfl ?_ | refine wp_geti hk rfl rfl rfl rfl ?_ | refine wp_getr hk rfl rfl rfl rfl ?_)
  rw [qput, if_pos rfl]
  refine wp_ir hk rfl rfl (kk _ ((K1.mono (by simp)).up (by simp)) ⟨by rw [qput, if_pos rfl], fun i hi => ?_⟩)
  have Kx : ∀ V', CardIs M1 (37 + 4 * i) V' → CardIs (q_up M1 35 (upd (M1 35) 1 (nI (N + 1)))) (37 + 4 * i) V' := fun V' C' => C'.kp ((Kp.rf M1 [35]).up (by simp)) (by simp; omega) (by simp; omega) (by simp; omega) (by simp; omega)
  show CardIs _ _ (if i = N then V else P i)
  by_cases e : i = N
  · subst e
    rw [if_pos rfl]
    exact Kx _ C1
  · rw [if_neg e]
    exact Kx _ ((H.2 i (by omega)).kp K1 (by simp; omega) (by simp; omega) (by simp; omega) (by simp; omega))
theorem p_leanOf {j : Nat} (H : PastIs M (sN S) (sP S)) (O : StOK S) (hj : j < 7) (kk : Q (some (.int (leanA S j))) M) : Ca 41 [.ref 35, .int (nI j)] M Q := by
  have ho8 := O.2.2.2.1
  have hk : q_cd 41 = kd_X2_leanOf := rfl
  show WP 41 0 [some (.ref 35), some (.int (nI j)), none, none] [] M Q
  unfold leanA at kk
  have loop := q_dn (n := sN S) (P := fun i => WP 41 7 [some (.ref 35), some (.int (nI j)), some (.int (sumI (fun i => leanV (sP S i) j (vj (sP S i) j)) i)), some (.int (nI i))] [.int (M 35 1), .int (nI i)] M Q) (by
    refine wp_icgeN (u := sN S) (v := sN S) hk rfl rfl H.1 (by omega) (by omega) (fun _ => ?_) (fun g => absurd g (by omega))
    repeat (first | refine wp_s hk rfl rfl ?_ | refine wp_goto hk rfl ?_ | refine wp_geti hk rfl rfl rfl rfl ?_ | refine wp_getr hk rfl rfl rfl rfl ?_)
    exact wp_ir hk rfl rfl kk) (by
    intro i hi ih
    simp only [sumI] at ih
    have C := H.2 i hi
    have OP := O.2.2.2.2 i hi
    have hsh := CShP i (by omega)
    have hq1 := hsh.1
    refine wp_icgeN (u := i) (v := sN S) hk rfl rfl H.1 (by omega) (by omega) (fun g => absurd g (by omega)) (fun _ => ?_)
    repeat (first | refine wp_s hk rfl rfl ?_ | refine wp_goto hk rfl ?_ | refine wp_geti hk rfl rfl rfl rfl ?_ | refine wp_getr hk rfl rfl rfl rfl ?_)
    refine wp_qld (jx := i) hk rfl rfl rfl rfl (pcs_at i (by omega)) (by decide) ?_
    repeat (first | refine wp_s hk rfl rfl ?_ | refine wp_goto hk rfl ?_ | refine wp_geti hk rfl rfl rfl rfl ?_ | refine wp_getr hk rfl rfl rfl rfl ?_)
    refine wp_callV hk rfl rfl rfl rfl hq1 rfl ?_
    refine c_counts hsh C OP.2.2.2.2.1 OP.2.1 (by omega) ?_
    refine wp_ifeqB hk rfl rfl (fun z => ?_) (fun z => ?_)
    · rw [show leanV (sP S i) j (vj (sP S i) j) = nI 0 by unfold leanV; rw [if_neg (by rw [z]; exact Bool.false_ne_true)], show nI 0 = 0 by decide, Int32.add_zero] at ih
      repeat (first | refine wp_s hk rfl rfl ?_ | refine wp_goto hk rfl ?_ | refine wp_geti hk rfl rfl rfl rfl ?_ | refine wp_getr hk rfl rfl rfl rfl ?_)
      rw [q_nadd i 1]
      exact ih
    · repeat (first | refine wp_s hk rfl rfl ?_ | refine wp_goto hk rfl ?_ | refine wp_geti hk rfl rfl rfl rfl ?_ | refine wp_getr hk rfl rfl rfl rfl ?_)
      refine wp_qld (jx := i) hk rfl rfl rfl rfl (pcs_at i (by omega)) (by decide) ?_
      repeat (first | refine wp_s hk rfl rfl ?_ | refine wp_goto hk rfl ?_ | refine wp_geti hk rfl rfl rfl rfl ?_ | refine wp_getr hk rfl rfl rfl rfl ?_)
      refine wp_qld (jx := i) hk rfl rfl rfl rfl (pcs_at i (by omega)) (by decide) ?_
      repeat (first | refine wp_s hk rfl rfl ?_ | refine wp_goto hk rfl ?_ | refine wp_geti hk rfl rfl rfl rfl ?_ | refine wp_getr hk rfl rfl rfl rfl ?_)
      refine wp_callV hk rfl rfl rfl rfl hq1 rfl ?_
      refine c_judgeLand hsh C hj ?_
      refine wp_callV hk rfl rfl rfl rfl hq1 rfl ?_
      refine c_leanFor hsh C OP z (OP.2.2.2.2.2.2.1 j hj) ?_
      repeat (first | refine wp_s hk rfl rfl ?_ | refine wp_goto hk rfl ?_ | refine wp_geti hk rfl rfl rfl rfl ?_ | refine wp_getr hk rfl rfl rfl rfl ?_)
      rw [q_nadd i 1]
      exact ih)
  repeat (first | refine wp_s hk rfl rfl ?_ | refine wp_goto hk rfl ?_ | refine wp_geti hk rfl rfl rfl rfl ?_ | refine wp_getr hk rfl rfl rfl rfl ?_)
  exact loop 0 (Nat.zero_le _)
theorem p_beside {j k : Nat} (H : PastIs M (sN S) (sP S)) (O : StOK S) (hj : j < 7) (hk7 : k < 7) (kk : Q (some (.int (nI (b2n (anyN (bsG S j k) (sN S)))))) M) : Ca 42 [.ref 35, .int (nI j), .int (nI k)] M Q := by
  have ho8 := O.2.2.2.1
  have hk : q_cd 42 = kd_X2_standsBeside := rfl
  show WP 42 0 [some (.ref 35), some (.int (nI j)), some (.int (nI k)), none] [] M Q
  have loop := q_dn (n := sN S) (P := fun i => anyN (bsG S j k) i = false → WP 42 5 [some (.ref 35), some (.int (nI j)), some (.int (nI k)), some (.int (nI i))] [.int (M 35 1), .int (nI i)] M Q) (by
    intro hf
    rw [hf] at kk
    refine wp_icgeN (u := sN S) (v := sN S) hk rfl rfl H.1 (by omega) (by omega) (fun _ => ?_) (fun g => absurd g (by omega))
    repeat (first | refine wp_s hk rfl rfl ?_ | refine wp_goto hk rfl ?_ | refine wp_geti hk rfl rfl rfl rfl ?_ | refine wp_getr hk rfl rfl rfl rfl ?_)
    exact wp_ir hk rfl rfl kk) (by
    intro i hi ih hf
    simp only [anyN] at ih
    rw [hf, Bool.false_or] at ih
    have C := H.2 i hi
    have OP := O.2.2.2.2 i hi
    have hsh := CShP i (by omega)
    have hq1 := hsh.1
    have no : bsG S j k i = false → WP 42 22 [some (.ref 35), some (.int (nI j)), some (.int (nI k)), some (.int (nI i))] [] M Q := by
      intro z
      repeat (first | refine wp_s hk rfl rfl ?_ | refine wp_goto hk rfl ?_ | refine wp_geti hk rfl rfl rfl rfl ?_ | refine wp_getr hk rfl rfl rfl rfl ?_)
      rw [q_nadd i 1]
      exact ih z
    unfold bsG at no
    refine wp_icgeN (u := i) (v := sN S) hk rfl rfl H.1 (by omega) (by omega) (fun g => absurd g (by omega)) (fun _ => ?_)
    repeat (first | refine wp_s hk rfl rfl ?_ | refine wp_goto hk rfl ?_ | refine wp_geti hk rfl rfl rfl rfl ?_ | refine wp_getr hk rfl rfl rfl rfl ?_)
    refine wp_qld (jx := i) hk rfl rfl rfl rfl (pcs_at i (by omega)) (by decide) ?_
    repeat (first | refine wp_s hk rfl rfl ?_ | refine wp_goto hk rfl ?_ | refine wp_geti hk rfl rfl rfl rfl ?_ | refine wp_getr hk rfl rfl rfl rfl ?_)
    refine wp_callV hk rfl rfl rfl rfl hq1 rfl ?_
    refine c_counts hsh C OP.2.2.2.2.1 OP.2.1 (by omega) ?_
    refine wp_ifeqB hk rfl rfl (fun z => no (by rw [z]; rfl)) (fun z => ?_)
    repeat (first | refine wp_s hk rfl rfl ?_ | refine wp_goto hk rfl ?_ | refine wp_geti hk rfl rfl rfl rfl ?_ | refine wp_getr hk rfl rfl rfl rfl ?_)
    refine wp_qld (jx := i) hk rfl rfl rfl rfl (pcs_at i (by omega)) (by decide) ?_
    repeat (first | refine wp_s hk rfl rfl ?_ | refine wp_goto hk rfl ?_ | refine wp_geti hk rfl rfl rfl rfl ?_ | refine wp_getr hk rfl rfl rfl rfl ?_)
    refine wp_callV hk rfl rfl rfl rfl hq1 rfl ?_
    refine c_counts hsh C OP.2.2.2.2.1 OP.2.1 (by omega) ?_
    refine wp_ifeqB hk rfl rfl (fun y => no (by rw [y, Bool.and_false])) (fun y => ?_)
    have ht : anyN (bsG S j k) (sN S) = true := by
      refine anyN_mono (a := i + 1) ?_ (by omega)
      simp only [anyN]
      rw [hf]
      unfold bsG
      rw [z, y]
      rfl
    rw [ht] at kk
    repeat (first | refine wp_s hk rfl rfl ?_ | refine wp_goto hk rfl ?_ | refine wp_geti hk rfl rfl rfl rfl ?_ | refine wp_getr hk rfl rfl rfl rfl ?_)
    exact wp_ir hk rfl rfl kk)
  repeat (first | refine wp_s hk rfl rfl ?_ | refine wp_goto hk rfl ?_ | refine wp_geti hk rfl rfl rfl rfl ?_ | refine wp_getr hk rfl rfl rfl rfl ?_)
  exact loop 0 (Nat.zero_le _) rfl
theorem p_inPlace {j k : Nat} (H : PastIs M (sN S) (sP S)) (O : StOK S) (hj : j < 7) (hk7 : k < 7) (kk : Q (some (.int (sumI (asG S j k) (sN S)))) M) : Ca 43 [.ref 35, .int (nI j), .int (nI k)] M Q := by
  have ho8 := O.2.2.2.1
  have hk : q_cd 43 = kd_X2_leanInPlaceOf := rfl
  show WP 43 0 [some (.ref 35), some (.int (nI j)), some (.int (nI k)), none, none] [] M Q
  have loop := q_dn (n := sN S) (P := fun i => WP 43 7 [some (.ref 35), some (.int (nI j)), some (.int (nI k)), some (.int (sumI (asG S j k) i)), some (.int (nI i))] [.int (M 35 1), .int (nI i)] M Q) (by
    refine wp_icgeN (u := sN S) (v := sN S) hk rfl rfl H.1 (by omega) (by omega) (fun _ => ?_) (fun g => absurd g (by omega))
    repeat (first | refine wp_s hk rfl rfl ?_ | refine wp_goto hk rfl ?_ | refine wp_geti hk rfl rfl rfl rfl ?_ | refine wp_getr hk rfl rfl rfl rfl ?_)
    exact wp_ir hk rfl rfl kk) (by
    intro i hi ih
    simp only [sumI] at ih
    have C := H.2 i hi
    have OP := O.2.2.2.2 i hi
    have hsh := CShP i (by omega)
    have hq1 := hsh.1
    have no : ¬ (vc (sP S i) j = true ∧ vc (sP S i) k = true) → WP 43 37 [some (.ref 35), some (.int (nI j)), some (.int (nI k)), some (.int (sumI (asG S j k) i)), some (.int (nI i))] [] M Q := by
      intro z
      have e : asG S j k i = nI 0 := by
        unfold asG
        by_cases h1 : vc (sP S i) j = true
        · rw [if_pos h1]
          unfold leanV
          rw [if_neg (fun y => z ⟨h1, y⟩)]
        · rw [if_neg h1]
      rw [e, show nI 0 = 0 by decide, Int32.add_zero] at ih
      repeat (first | refine wp_s hk rfl rfl ?_ | refine wp_goto hk rfl ?_ | refine wp_geti hk rfl rfl rfl rfl ?_ | refine wp_getr hk rfl rfl rfl rfl ?_)
      rw [q_nadd i 1]
      exact ih
    refine wp_icgeN (u := i) (v := sN S) hk rfl rfl H.1 (by omega) (by omega) (fun g => absurd g (by omega)) (fun _ => ?_)
    repeat (first | refine wp_s hk rfl rfl ?_ | refine wp_goto hk rfl ?_ | refine wp_geti hk rfl rfl rfl rfl ?_ | refine wp_getr hk rfl rfl rfl rfl ?_)
    refine wp_qld (jx := i) hk rfl rfl rfl rfl (pcs_at i (by omega)) (by decide) ?_
    repeat (first | refine wp_s hk rfl rfl ?_ | refine wp_goto hk rfl ?_ | refine wp_geti hk rfl rfl rfl rfl ?_ | refine wp_getr hk rfl rfl rfl rfl ?_)
    refine wp_callV hk rfl rfl rfl rfl hq1 rfl ?_
    refine c_counts hsh C OP.2.2.2.2.1 OP.2.1 (by omega) ?_
    refine wp_ifeqB hk rfl rfl (fun z => no (fun y => by rw [z] at y; cases y.1)) (fun z => ?_)
    repeat (first | refine wp_s hk rfl rfl ?_ | refine wp_goto hk rfl ?_ | refine wp_geti hk rfl rfl rfl rfl ?_ | refine wp_getr hk rfl rfl rfl rfl ?_)
    refine wp_qld (jx := i) hk rfl rfl rfl rfl (pcs_at i (by omega)) (by decide) ?_
    repeat (first | refine wp_s hk rfl rfl ?_ | refine wp_goto hk rfl ?_ | refine wp_geti hk rfl rfl rfl rfl ?_ | refine wp_getr hk rfl rfl rfl rfl ?_)
    refine wp_callV hk rfl rfl rfl rfl hq1 rfl ?_
    refine c_counts hsh C OP.2.2.2.2.1 OP.2.1 (by omega) ?_
    refine wp_ifeqB hk rfl rfl (fun w => no (fun y => by rw [w] at y; cases y.2)) (fun w => ?_)
    rw [show asG S j k i = leanV (sP S i) k (vj (sP S i) j) by unfold asG; rw [if_pos z]] at ih
    repeat (first | refine wp_s hk rfl rfl ?_ | refine wp_goto hk rfl ?_ | refine wp_geti hk rfl rfl rfl rfl ?_ | refine wp_getr hk rfl rfl rfl rfl ?_)
    refine wp_qld (jx := i) hk rfl rfl rfl rfl (pcs_at i (by omega)) (by decide) ?_
    repeat (first | refine wp_s hk rfl rfl ?_ | refine wp_goto hk rfl ?_ | refine wp_geti hk rfl rfl rfl rfl ?_ | refine wp_getr hk rfl rfl rfl rfl ?_)
    refine wp_qld (jx := i) hk rfl rfl rfl rfl (pcs_at i (by omega)) (by decide) ?_
    repeat (first | refine wp_s hk rfl rfl ?_ | refine wp_goto hk rfl ?_ | refine wp_geti hk rfl rfl rfl rfl ?_ | refine wp_getr hk rfl rfl rfl rfl ?_)
    refine wp_callV hk rfl rfl rfl rfl hq1 rfl ?_
    refine c_judgeLand hsh C hj ?_
    refine wp_callV hk rfl rfl rfl rfl hq1 rfl ?_
    refine c_leanFor hsh C OP w (OP.2.2.2.2.2.2.1 j hj) ?_
    repeat (first | refine wp_s hk rfl rfl ?_ | refine wp_goto hk rfl ?_ | refine wp_geti hk rfl rfl rfl rfl ?_ | refine wp_getr hk rfl rfl rfl rfl ?_)
    rw [q_nadd i 1]
    exact ih)
  repeat (first | refine wp_s hk rfl rfl ?_ | refine wp_goto hk rfl ?_ | refine wp_geti hk rfl rfl rfl rfl ?_ | refine wp_getr hk rfl rfl rfl rfl ?_)
  exact loop 0 (Nat.zero_le _)
theorem p_asMuch {j : Nat} (H : PastIs M (sN S) (sP S)) (O : StOK S) (hj : j < 7) (kk : Q (some (.int (nI (sdW S j)))) M) : Ca 44 [.ref 35, .int (nI j)] M Q := by
  have hk : q_cd 44 = kd_X2_asMuch := rfl
  show WP 44 0 [some (.ref 35), some (.int (nI j)), none, none, none] [] M Q
  unfold sdW at kk
  repeat (first | refine wp_s hk rfl rfl ?_ | refine wp_goto hk rfl ?_ | refine wp_geti hk rfl rfl rfl rfl ?_ | refine wp_getr hk rfl rfl rfl rfl ?_)
  refine wp_callV hk rfl rfl rfl rfl rfl rfl ?_
  refine p_leanOf H O hj ?_
  have loop := q_dn (n := 7) (P := fun k => WP 44 10 [some (.ref 35), some (.int (nI j)), some (.int (leanA S j)), some (.int (nI (sumN (fun k => if sdG S j k = true then 1 else 0) k))), some (.int (nI k))] [.int (nI 7), .int (nI k)] M Q) (by
    refine wp_icgeN (u := 7) (v := 7) hk rfl rfl rfl (by omega) (by omega) (fun _ => ?_) (fun g => absurd g (by omega))
    repeat (first | refine wp_s hk rfl rfl ?_ | refine wp_goto hk rfl ?_ | refine wp_geti hk rfl rfl rfl rfl ?_ | refine wp_getr hk rfl rfl rfl rfl ?_)
    exact wp_ir hk rfl rfl kk) (by
    intro k hk7 ih
    rw [show sumN (fun k => if sdG S j k = true then 1 else 0) (k + 1) = sumN (fun k => if sdG S j k = true then 1 else 0) k + (if sdG S j k = true then 1 else 0) from rfl] at ih
    have no : sdG S j k = false → WP 44 23 [some (.ref 35), some (.int (nI j)), some (.int (leanA S j)), some (.int (nI (sumN (fun k => if sdG S j k = true then 1 else 0) k))), some (.int (nI k))] [] M Q := by
      intro z
      rw [if_neg (by rw [z]; exact Bool.false_ne_true), Nat.add_zero] at ih
      repeat (first | refine wp_s hk rfl rfl ?_ | refine wp_goto hk rfl ?_ | refine wp_geti hk rfl rfl rfl rfl ?_ | refine wp_getr hk rfl rfl rfl rfl ?_)
      rw [q_nadd k 1]
      exact ih
    refine wp_icgeN (u := k) (v := 7) hk rfl rfl rfl (by omega) (by omega) (fun g => absurd g (by omega)) (fun _ => ?_)
    repeat (first | refine wp_s hk rfl rfl ?_ | refine wp_goto hk rfl ?_ | refine wp_geti hk rfl rfl rfl rfl ?_ | refine wp_getr hk rfl rfl rfl rfl ?_)
    refine wp_callV hk rfl rfl rfl rfl rfl rfl ?_
    refine p_beside H O hj hk7 ?_
    refine wp_ifeqB hk rfl rfl (fun z => no (by unfold sdG; rw [z]; rfl)) (fun z => ?_)
    repeat (first | refine wp_s hk rfl rfl ?_ | refine wp_goto hk rfl ?_ | refine wp_geti hk rfl rfl rfl rfl ?_ | refine wp_getr hk rfl rfl rfl rfl ?_)
    refine wp_callV hk rfl rfl rfl rfl rfl rfl ?_
    refine p_inPlace H O hj hk7 ?_
    repeat (first | refine wp_s hk rfl rfl ?_ | refine wp_goto hk rfl ?_ | refine wp_geti hk rfl rfl rfl rfl ?_ | refine wp_getr hk rfl rfl rfl rfl ?_)
    refine wp_iclt hk rfl (fun y => no (by unfold sdG; rw [z, decide_eq_false (Int32.not_le.mpr y)]; rfl)) (fun y => ?_)
    rw [if_pos (show sdG S j k = true by unfold sdG; rw [z, decide_eq_true (Int32.not_lt.mp y)]; rfl)] at ih
    repeat (first | refine wp_s hk rfl rfl ?_ | refine wp_goto hk rfl ?_ | refine wp_geti hk rfl rfl rfl rfl ?_ | refine wp_getr hk rfl rfl rfl rfl ?_)
    rw [q_nadd k 1, q_nadd]
    exact ih)
  repeat (first | refine wp_s hk rfl rfl ?_ | refine wp_goto hk rfl ?_ | refine wp_geti hk rfl rfl rfl rfl ?_ | refine wp_getr hk rfl rfl rfl rfl ?_)
  exact loop 0 (Nat.zero_le _)
end PAST
