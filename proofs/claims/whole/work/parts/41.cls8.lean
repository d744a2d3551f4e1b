/-! the class's text -/
theorem by_sh {x : Int64} {s : Nat} {a b : Int64} {c : UInt64} (hs : s < 57) (ha : a.toBitVec.smod 64 = BitVec.ofNat 64 s) (hc : c.toBitVec % 64 = BitVec.ofNat 64 s) (hb : b.toBitVec = 255#64) : ((x.toUInt64 >>> c).toInt64 &&& b).toInt32 = (x >>> a).toInt32 &&& nI 255 := by
  apply Int32.toBitVec_inj.mp
  have e1 : (nI 255).toBitVec = 255#32 := by decide
  rw [Int32.toBitVec_and, e1, Int64.toBitVec_toInt32, Int64.toBitVec_toInt32, Int64.toBitVec_and, hb, Int64.toBitVec_shiftRight, ha]
  show ((x.toUInt64 >>> c).toBitVec &&& 255#64).signExtend 32 = _
  rw [UInt64.toBitVec_shiftRight, hc]
  show ((x.toBitVec >>> (BitVec.ofNat 64 s)) &&& 255#64).signExtend 32 = ((x.toBitVec.sshiftRight' (BitVec.ofNat 64 s)).signExtend 32 &&& 255#32)
  generalize x.toBitVec = y
  apply BitVec.eq_of_getLsbD_eq
  intro i hi
  have hs64 : s % 2 ^ 64 = s := Nat.mod_eq_of_lt (by omega)
  have hm : ∀ w : Nat, (255#w).getLsbD i = (decide (i < w) && decide (i < 8)) := by
    intro w
    rw [BitVec.getLsbD_ofNat, show (255 : Nat) = 2 ^ 8 - 1 by rfl, Nat.testBit_two_pow_sub_one]
  have h64 : i < 64 := by omega
  have e2 : y.sshiftRight' (BitVec.ofNat 64 s) = y.sshiftRight s := by show y.sshiftRight (BitVec.ofNat 64 s).toNat = _; rw [BitVec.toNat_ofNat, hs64]
  rw [e2]
  simp only [BitVec.getLsbD_signExtend, BitVec.getLsbD_and, hm, BitVec.ushiftRight_eq', BitVec.getLsbD_ushiftRight, BitVec.toNat_ofNat, BitVec.getLsbD_sshiftRight, hs64, h64, if_true]
  by_cases h8 : i < 8
  · simp [h8, hi, h64, show s + i < 64 by omega]
  · simp [h8]
theorem by_u {x : Int64} : ∀ k, k < 8 → ((x.toUInt64 >>> ((nI (8 * k)).toInt64.toUInt64 &&& Int64.toUInt64 63)).toInt64 &&& Int64.ofNat 255).toInt32 = nI (byN x k)
  | k, hk => by
    unfold byN
    rw [← and255]
    have hc : k = 0 ∨ k = 1 ∨ k = 2 ∨ k = 3 ∨ k = 4 ∨ k = 5 ∨ k = 6 ∨ k = 7 := by omega
    rcases hc with rfl | rfl | rfl | rfl | rfl | rfl | rfl | rfl
    · exact by_sh (s := 0) (by omega) (by decide) (by decide) (by decide)
    · exact by_sh (s := 8) (by omega) (by decide) (by decide) (by decide)
    · exact by_sh (s := 16) (by omega) (by decide) (by decide) (by decide)
    · exact by_sh (s := 24) (by omega) (by decide) (by decide) (by decide)
    · exact by_sh (s := 32) (by omega) (by decide) (by decide) (by decide)
    · exact by_sh (s := 40) (by omega) (by decide) (by decide) (by decide)
    · exact by_sh (s := 48) (by omega) (by decide) (by decide) (by decide)
    · exact by_sh (s := 56) (by omega) (by decide) (by decide) (by decide)
def TextIs (M : MM) (T : Nat × (Nat → Nat)) : Prop := M 9 1 = nI T.1 ∧ ∀ i, i < T.1 → M 10 i = nI (T.2 i)
section TEXT
variable {M : MM} {T : Nat × (Nat → Nat)} {Q : Option Value → MM → Prop}
theorem x_length (H : TextIs M T) (kk : Q (some (.int (nI T.1))) M) : Ca 78 [.ref 9] M Q := by
  have hk : q_cd 78 = kd_X7_length := rfl
  show WP 78 0 [some (.ref 9)] [] M Q
  repeat (first | refine wp_s hk rfl rfl ?_ | refine wp_goto hk rfl ?_ | refine wp_geti hk rfl rfl rfl rfl ?_ | refine wp_getr hk rfl rfl rfl rfl ?_)
  rw [H.1]
  exact wp_ir hk rfl rfl kk
theorem x_empty (H : TextIs M T) (kk : Q (some (.int (nI T.1))) (q_up M 9 (upd (M 9) 1 (nI 0)))) : Ca 84 [.ref 9] M Q := by
  have hk : q_cd 84 = kd_X7_empty := rfl
  show WP 84 0 [some (.ref 9), none] [] M Q
  repeat (first | refine wp_s hk rfl rfl ?_ | refine wp_goto hk rfl ?_ | refine wp_geti hk rfl rfl rfl rfl ?_ | refine wp_getr hk rfl rfl rfl rfl ?_)
  refine wp_put hk rfl rfl rfl rfl rfl ?_
  repeat (first | refine wp_s hk rfl rfl ?_ | refine wp_goto hk rfl ?_ | refine wp_geti hk rfl rfl rfl rfl ?_ | refine wp_getr hk rfl rfl rfl rfl ?_)
  rw [H.1]
  exact wp_ir hk rfl rfl kk
theorem x_byteAt {i : Nat} (H : TextIs M T) (hT : T.1 ≤ 16) (hi : i < 1000) (kk : Q (some (.int (if i < T.1 then nI (T.2 i) else NON))) M) : Ca 73 [.ref 9, .int (nI i)] M Q := by
  have hk : q_cd 73 = kd_X7_byteAt := rfl
  show WP 73 0 [some (.ref 9), some (.int (nI i))] [] M Q
  repeat (first | refine wp_s hk rfl rfl ?_ | refine wp_goto hk rfl ?_ | refine wp_geti hk rfl rfl rfl rfl ?_ | refine wp_getr hk rfl rfl rfl rfl ?_)
  refine wp_iflt hk rfl (fun g => absurd g (q_z_lt (by omega))) (fun _ => ?_)
  repeat (first | refine wp_s hk rfl rfl ?_ | refine wp_goto hk rfl ?_ | refine wp_geti hk rfl rfl rfl rfl ?_ | refine wp_getr hk rfl rfl rfl rfl ?_)
  refine wp_icgeN (u := i) (v := T.1) hk rfl rfl H.1 (by omega) (by omega) (fun g => ?_) (fun g => ?_)
  · rw [if_neg (by omega)] at kk
    repeat (first | refine wp_s hk rfl rfl ?_ | refine wp_goto hk rfl ?_ | refine wp_geti hk rfl rfl rfl rfl ?_ | refine wp_getr hk rfl rfl rfl rfl ?_)
    exact wp_ir hk rfl rfl kk
  · have g' : i < T.1 := by omega
    rw [if_pos g'] at kk
    repeat (first | refine wp_s hk rfl rfl ?_ | refine wp_goto hk rfl ?_ | refine wp_geti hk rfl rfl rfl rfl ?_ | refine wp_getr hk rfl rfl rfl rfl ?_)
    refine wp_ald (jx := i) hk rfl rfl rfl (by omega) ?_
    rw [H.2 i g']
    repeat (first | refine wp_s hk rfl rfl ?_ | refine wp_goto hk rfl ?_ | refine wp_geti hk rfl rfl rfl rfl ?_ | refine wp_getr hk rfl rfl rfl rfl ?_)
    exact wp_ir hk rfl rfl kk
theorem x_append {n : Nat} {x : Int64} (H : TextIs M T) (hn : n ≤ 8) (hT : T.1 + n ≤ 16) (kk : ∀ M', Kp M M' [9, 10] → TextIs M' (T.1 + n, wrT T n x) → Q (some (.int (nI (T.1 + n)))) M') : Ca 85 [.ref 9, .int (nI n), .long x] M Q := by
  have hk : q_cd 85 = kd_X7_append := rfl
  show WP 85 0 [some (.ref 9), some (.int (nI n)), some (.long x), none, none] [] M Q
  have loop : ∀ t, t ≤ n → ∀ M1, Kp M M1 [9, 10] → M1 9 1 = nI (T.1 + (n - t)) → (∀ i, i < T.1 + (n - t) → M1 10 i = nI (wrT T n x i)) → WP 85 5 [some (.ref 9), some (.int (nI n)), some (.long x), none, some (.int (nI t - nI 1))] [.int (nI t - nI 1)] M1 Q := by
    intro t
    induction t with
    | zero =>
      intro ht M1 K1 h3 h4
      refine wp_ifltD (u := 0) (v := 1) hk rfl rfl (by omega) (by omega) (fun _ => ?_) (fun h => absurd h (by omega))
      rw [Nat.sub_zero] at h3 h4
      repeat (first | refine wp_s hk rfl rfl ?_ | refine wp_goto hk rfl ?_ | refine wp_geti hk rfl rfl rfl rfl ?_ | refine wp_getr hk rfl rfl rfl rfl ?_)
      rw [h3]
      exact wp_ir hk rfl rfl (kk _ K1 ⟨h3, h4⟩)
    | succ t ih =>
      intro ht M1 K1 h3 h4
      refine wp_ifltD (u := t + 1) (v := 1) hk rfl rfl (by omega) (by omega) (fun h => absurd h (by omega)) (fun _ => ?_)
      rw [q_nsub (Nat.le_add_left 1 t), Nat.add_sub_cancel]
      repeat (first | refine wp_s hk rfl rfl ?_ | refine wp_goto hk rfl ?_ | refine wp_geti hk rfl rfl rfl rfl ?_ | refine wp_getr hk rfl rfl rfl rfl ?_)
      refine wp_icgeN (u := T.1 + (n - (t + 1))) (v := 16) hk rfl h3 rfl (by omega) (by omega) (fun h => absurd h (by omega)) (fun _ => ?_)
      repeat (first | refine wp_s hk rfl rfl ?_ | refine wp_goto hk rfl ?_ | refine wp_geti hk rfl rfl rfl rfl ?_ | refine wp_getr hk rfl rfl rfl rfl ?_)
      rw [h3, q_nmul]
      refine wp_ast (jx := T.1 + (n - (t + 1))) hk rfl rfl rfl (by omega) ?_
      repeat (first | refine wp_s hk rfl rfl ?_ | refine wp_goto hk rfl ?_ | refine wp_geti hk rfl rfl rfl rfl ?_ | refine wp_getr hk rfl rfl rfl rfl ?_)
      rw [q_up_ne _ _ (show 9 ≠ 10 by decide), h3, q_nadd]
      refine wp_put hk rfl rfl rfl rfl rfl ?_
      repeat (first | refine wp_s hk rfl rfl ?_ | refine wp_goto hk rfl ?_ | refine wp_geti hk rfl rfl rfl rfl ?_ | refine wp_getr hk rfl rfl rfl rfl ?_)
      rw [q_dec2]
      refine ih (by omega) _ ((K1.up (by decide)).up (by decide)) ?_ (fun i hi => ?_)
      · rw [q_up_at, upd_at]; show nI (T.1 + (n - (t + 1)) + 1) = _; exact congrArg nI (by omega)
      · rw [q_up_ne _ _ (by decide), q_up_at]
        by_cases e : i = T.1 + (n - (t + 1))
        · rw [e, upd_at]
          unfold wrT
          rw [if_neg (by omega), show n - 1 - (T.1 + (n - (t + 1)) - T.1) = t by omega]
          exact by_u t (by omega)
        · rw [upd_ne _ _ e]; exact h4 i (by omega)
  repeat (first | refine wp_s hk rfl rfl ?_ | refine wp_goto hk rfl ?_ | refine wp_geti hk rfl rfl rfl rfl ?_ | refine wp_getr hk rfl rfl rfl rfl ?_)
  exact loop n (Nat.le_refl _) M (Kp.rf _ _) (by rw [Nat.sub_self]; exact H.1) (fun i hi => by
    rw [Nat.sub_self, Nat.add_zero] at hi
    unfold wrT
    rw [if_pos hi]
    exact H.2 i hi)
end TEXT
