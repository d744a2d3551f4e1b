section MINDS2
variable {M : MM} {V : Vw} {R : Ru} {Q : Option Value → MM → Prop}
/-- what the minds' table holds of a set -/
def mdL (V : Vw) (R : Ru) (set f : Nat) : Nat := lsC V (plL V R set) f (vm V)
theorem y_would {set j : Nat} {L : Nat → Nat → Nat} {f : Nat} (hset : set < 128) (hj : j < 7) (hf : f < 4) (hL : L (set ^^^ 2 ^ j) f ≤ 100 ∧ L set f ≤ 100) (h1 : M 70 (4 * (set ^^^ 2 ^ j) + f) = nI (L (set ^^^ 2 ^ j) f)) (h2 : M 70 (4 * set + f) = nI (L set f))
    (kk : Q (some (.int (nI (b2n (decide (L (set ^^^ 2 ^ j) f < L set f)))))) M) : Ca 33 [.ref 69, .int (nI set), .int (nI (2 ^ j)), .int (nI f)] M Q := by
  have hx := xor_lt hset hj
  have hk : q_cd 33 = kd_X1_wouldChange := rfl
  show WP 33 0 [some (.ref 69), some (.int (nI set)), some (.int (nI (2 ^ j))), some (.int (nI f))] [] M Q
  repeat (first | refine wp_s hk rfl rfl ?_ | refine wp_goto hk rfl ?_ | refine wp_geti hk rfl rfl rfl rfl ?_ | refine wp_getr hk rfl rfl rfl rfl ?_)
  rw [q_nxor]
  refine wp_ald (jx := 4 * (set ^^^ 2 ^ j) + f) hk rfl rfl (by simp only [q_nadd, q_nmul, Nat.mul_comm]) (by omega) ?_
  rw [h1]
  repeat (first | refine wp_s hk rfl rfl ?_ | refine wp_goto hk rfl ?_ | refine wp_geti hk rfl rfl rfl rfl ?_ | refine wp_getr hk rfl rfl rfl rfl ?_)
  refine wp_ald (jx := 4 * set + f) hk rfl rfl (by simp only [q_nadd, q_nmul, Nat.mul_comm]) (by omega) ?_
  rw [h2]
  refine wp_icgeN (u := L (set ^^^ 2 ^ j) f) (v := L set f) hk rfl rfl rfl (by omega) (by omega) (fun y => ?_) (fun y => ?_)
  · rw [decide_eq_false (by omega)] at kk
    repeat (first | refine wp_s hk rfl rfl ?_ | refine wp_goto hk rfl ?_ | refine wp_geti hk rfl rfl rfl rfl ?_ | refine wp_getr hk rfl rfl rfl rfl ?_)
    exact wp_ir hk rfl rfl kk
  · rw [decide_eq_true (by omega)] at kk
    repeat (first | refine wp_s hk rfl rfl ?_ | refine wp_goto hk rfl ?_ | refine wp_geti hk rfl rfl rfl rfl ?_ | refine wp_getr hk rfl rfl rfl rfl ?_)
    exact wp_ir hk rfl rfl kk
theorem md_lt {set set' f : Nat} (O : VOK V) : (mdL V R set f < mdL V R set' f) ↔ (lst V R set f < lst V R set' f) := by
  have hm := O.2.2.2.1
  have hb : ∀ x t, 1 ≤ plL V R x t ∧ plL V R x t ≤ 8 := fun x t => by
    have h1 : plL V R x t ≤ 1 + vm V := placeW_le
    have h2 : 1 ≤ plL V R x t := by unfold plL placeW; omega
    omega
  exact lsC_lt (fun t _ => hb set t) (fun t _ => hb set' t)
theorem md_le {set f : Nat} (O : VOK V) : mdL V R set f ≤ 100 := by
  have hm := O.2.2.2.1
  have h : ∀ t, lsC V (plL V R set) f t ≤ 8 := by
    intro t
    induction t with
    | zero => exact Nat.zero_le _
    | succ t ih =>
      have h1 : plL V R set t ≤ 1 + vm V := placeW_le
      simp only [lsC]
      repeat' split
      all_goals omega
  have := h (vm V)
  unfold mdL
  omega
theorem y_atRest {set : Nat} (H : CardIs M 1 V) (O : VOK V) (hset : set < 128) (h1 : ∀ f, f < 4 → M 70 (4 * set + f) = nI (mdL V R set f)) (h2 : ∀ j, j < vn V → ∀ f, f < 4 → M 70 (4 * (set ^^^ 2 ^ j) + f) = nI (mdL V R (set ^^^ 2 ^ j) f))
    (kk : Q (some (.int (nI (b2n (atR V R set))))) M) : Ca 34 [.ref 69, .ref 1, .int (nI set)] M Q := by
  have h7 := O.2.1
  have hL := O.2.2.2.2.1
  have hk : q_cd 34 = kd_X1_atRest := rfl
  show WP 34 0 [some (.ref 69), some (.ref 1), some (.int (nI set)), none] [] M Q
  have loop := q_dn (n := vn V) (P := fun j => anyN (unR V R set) j = false → WP 34 2 [some (.ref 69), some (.ref 1), some (.int (nI set)), some (.int (nI j))] [] M Q) (by
    intro hf
    have hr : atR V R set = true := by unfold atR; rw [hf]; rfl
    rw [hr] at kk
    repeat (first | refine wp_s hk rfl rfl ?_ | refine wp_goto hk rfl ?_ | refine wp_geti hk rfl rfl rfl rfl ?_ | refine wp_getr hk rfl rfl rfl rfl ?_)
    refine wp_callV hk rfl rfl rfl rfl rfl rfl ?_
    refine c_judges CSh1 H ?_
    refine wp_icgeN (u := vn V) (v := vn V) hk rfl rfl rfl (by omega) (by omega) (fun _ => ?_) (fun y => absurd y (by omega))
    repeat (first | refine wp_s hk rfl rfl ?_ | refine wp_goto hk rfl ?_ | refine wp_geti hk rfl rfl rfl rfl ?_ | refine wp_getr hk rfl rfl rfl rfl ?_)
    exact wp_ir hk rfl rfl kk) (by
    intro j hj ih hf
    simp only [anyN] at ih
    rw [hf, Bool.false_or] at ih
    have l1 := O.2.2.2.2.2.2.1 j (by omega)
    have no : unR V R set j = false → WP 34 22 [some (.ref 69), some (.ref 1), some (.int (nI set)), some (.int (nI j))] [] M Q := by
      intro y
      refine wp_s hk rfl rfl ?_
      refine wp_goto hk rfl ?_
      rw [q_nadd j 1]
      exact ih y
    repeat (first | refine wp_s hk rfl rfl ?_ | refine wp_goto hk rfl ?_ | refine wp_geti hk rfl rfl rfl rfl ?_ | refine wp_getr hk rfl rfl rfl rfl ?_)
    refine wp_callV hk rfl rfl rfl rfl rfl rfl ?_
    refine c_judges CSh1 H ?_
    refine wp_icgeN (u := j) (v := vn V) hk rfl rfl rfl (by omega) (by omega) (fun y => absurd y (by omega)) (fun _ => ?_)
    repeat (first | refine wp_s hk rfl rfl ?_ | refine wp_goto hk rfl ?_ | refine wp_geti hk rfl rfl rfl rfl ?_ | refine wp_getr hk rfl rfl rfl rfl ?_)
    refine wp_callV hk rfl rfl rfl rfl rfl rfl ?_
    refine c_counts CSh1 H hL h7 (by omega) ?_
    have hv := vc_b2n (V := V) hj
    refine wp_ifeqB hk rfl rfl (fun y => no ?_) (fun y => ?_)
    · rw [hv] at y
      unfold unR
      rw [y]
      rfl
    · repeat (first | refine wp_s hk rfl rfl ?_ | refine wp_goto hk rfl ?_ | refine wp_geti hk rfl rfl rfl rfl ?_ | refine wp_getr hk rfl rfl rfl rfl ?_)
      rw [q_shl1 j (by omega)]
      refine wp_callV hk rfl rfl rfl rfl rfl rfl ?_
      refine c_judgeLand CSh1 H (by omega) ?_
      refine wp_callV hk rfl rfl rfl rfl rfl rfl ?_
      refine y_would (L := mdL V R) hset (by omega) (by omega) ⟨md_le O, md_le O⟩ (h2 j hj _ (by omega)) (h1 _ (by omega)) ?_
      have hu : unR V R set j = decide (mdL V R (set ^^^ 2 ^ j) (vj V j) < mdL V R set (vj V j)) := by
        rw [hv] at y
        unfold unR
        rw [y, Bool.true_and, decide_eq_decide]
        exact (md_lt O).symm
      rw [← hu]
      refine wp_ifeqB hk rfl rfl (fun w => no w) (fun w => ?_)
      have hr : atR V R set = false := by
        unfold atR
        have : anyN (unR V R set) (vn V) = true := by
          refine anyN_mono (a := j + 1) ?_ (by omega)
          simp only [anyN]
          rw [w, Bool.or_true]
        rw [this]
        rfl
      rw [hr] at kk
      repeat (first | refine wp_s hk rfl rfl ?_ | refine wp_goto hk rfl ?_ | refine wp_geti hk rfl rfl rfl rfl ?_ | refine wp_getr hk rfl rfl rfl rfl ?_)
      exact wp_ir hk rfl rfl kk)
  refine wp_s hk rfl rfl ?_
  refine wp_s hk rfl rfl ?_
  exact loop 0 (Nat.zero_le _) rfl
end MINDS2
