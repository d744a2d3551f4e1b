section MINDS2
variable {M : MM} {V : Vw} {R : Ru} {Q : Option Value → MM → Prop}
/-- what the minds' table holds of a set -/
def mdL (V : Vw) (R : Ru) (set f : Nat) : Nat := lsC V (plL V R set) f (vm V)
theorem y_would {set j : Nat} {L : Nat → Nat → Nat} {f : Nat} (hset : set < 128) (hj : j < 7) (hf : f < 4) (hL : L (set ^^^ 2 ^ j) f ≤ 100 ∧ L set f ≤ 100) (h1 : M 70 (4 * (set ^^^ 2 ^ j) + f) = nI (L (set ^^^ 2 ^ j) f)) (h2 : M 70 (4 * set + f) = nI (L set f))
    (kk : Q (some (.int (nI (b2n (decide (L (set ^^^ 2 ^ j) f < L set f)))))) M) : Ca 33 [.ref 69, .int (nI set), .int (nI (2 ^ j)), .int (nI f)] M Q := by
  have hx := xor_lt hset hj
  have hk : q_cd 33 = kd_X1_wouldChange := rfl
  show WP 33 0 [some (.ref 69), some (.int (nI set)), some (.int (nI (2 ^ j))), some (.int (nI f))] [] M Q
  repeat (first | refine wp_s hk rfl rfl ?_ | refine wp_goto hk rfl ?_ | refine wp_geti hk rfl rfl rfl rfl ?_ | refine wp_getr hk rfl rfl rfl rfl ?_)
  rw [q_nxor]
  refine wp_ald (jx := 4 * (set ^^^ 2 ^ j) + f) hk rfl rfl (by simp only [q_nadd, q_nmul, Nat.mul_comm]) (by omega) ?_
  rw [h1]
  repeat (first | refine wp_s hk rfl rfl ?_ | refine wp_goto hk rfl ?_ | refine wp_geti hk rfl rfl rfl rfl ?_ | refine wp_getr hk rfl rfl rfl rfl ?_)
  refine wp_ald (jx := 4 * set + f) hk rfl rfl (by simp only [q_nadd, q_nmul, Nat.mul_comm]) (by omega) ?_
  rw [h2]
  refine wp_icgeN (u := L (set ^^^ 2 ^ j) f) (v := L set f) hk rfl rfl rfl (by omega) (by omega) (fun y => ?_) (fun y => ?_)
  · rw [decide_eq_false (by omega)] at kk
    repeat (first | refine wp_s hk rfl rfl ?_ | refine wp_goto hk rfl ?_ | refine wp_geti hk rfl rfl rfl rfl ?_ | refine wp_getr hk rfl rfl rfl rfl ?_)
    exact wp_ir hk rfl rfl kk
  · rw [decide_eq_true (by omega)] at kk
    repeat (first | refine wp_s hk rfl rfl ?_ | refine wp_goto hk rfl ?_ | refine wp_geti hk rfl rfl rfl rfl ?_ | refine wp_getr hk rfl rfl rfl rfl ?_)
    exact wp_ir hk rfl rfl kk
end MINDS2
