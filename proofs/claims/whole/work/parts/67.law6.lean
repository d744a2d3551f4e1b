/-! the law's loop -/
theorem and63 (z : Int32) : z &&& nI 63 = nI (z.toBitVec.toNat % 64) := by
  apply Int32.toBitVec_inj.mp
  apply BitVec.eq_of_toNat_eq
  rw [Int32.toBitVec_and, BitVec.toNat_and]
  show z.toBitVec.toNat &&& 63 = (z.toBitVec.toNat % 64) % 2 ^ 32
  rw [show (63 : Nat) = 2 ^ 6 - 1 by rfl, Nat.and_two_pow_sub_one_eq_mod]
  omega
def lw_offs : Array Int := #[168, 201, 260, 303, 336, 385, 418, 481, 494, 507, 530, 563, 606, 639, 672, 695, 728, 771, 814, 847, 870, 883, 936, 979, 1022, 1065, 1088, 1141, 1164, 1177, 1190, 1213, 1236, 1249, 1272, 1315, 1348, 1397]
theorem lw_swo : ∀ n, n < 38 → q_swo 0 37 1420 lw_offs (nI n) = lw_offs[n]? := by decide +kernel
set_option maxRecDepth 100000 in
theorem lw_at : ∀ n, n < 38 → (lw_offs[n]?).bind (fun off => q_at kd_L_law ((32 : Int) + off)) = ([22, 49, 94, 131, 158, 193, 220, 271, 278, 285, 302, 329, 366, 393, 420, 437, 464, 501, 538, 565, 582, 589, 636, 673, 710, 747, 764, 811, 828, 835, 842, 859, 876, 883, 900, 937, 964, 999] : List Nat)[n]? := by decide +kernel
set_option maxRecDepth 100000 in
theorem lw_at0 : q_at kd_L_law ((32 : Int) + 1420) = some 1016 := by decide +kernel
section LAW
variable {L i : Nat} {xs : Nat → Int32} {M : MM} {S : St} {Q : Option Value → MM → Prop}
set_option maxRecDepth 100000 in
theorem lw_to {n t : Nat} {off : Int} (hn : n < 38) (ho : lw_offs[n]? = some off) (ht : ([22, 49, 94, 131, 158, 193, 220, 271, 278, 285, 302, 329, 366, 393, 420, 437, 464, 501, 538, 565, 582, 589, 636, 673, 710, 747, 764, 811, 828, 835, 842, 859, 876, 883, 900, 937, 964, 999] : List Nat)[n]? = some t) (kk : WPg (some (L, xs)) 107 2136 205 t [some (.retAddr 0), some (.ref 0), some (.ref 83), some (.int (nI i))] [] M Q) : WPg (some (L, xs)) 107 2136 205 21 [some (.retAddr 0), some (.ref 0), some (.ref 83), some (.int (nI i))] [.int (nI n)] M Q := by
  have h1 := lw_swo n hn
  have h2 := lw_at n hn
  rw [ho] at h1 h2
  rw [ht] at h2
  exact wp_tab (cd := kd_L_law) rfl rfl h1 h2 kk
set_option maxRecDepth 100000 in
theorem lw_case {n : Nat} (hn : n < 64) (hL : L ≤ 2560) (hi : i + 5 ≤ L) (C : ClsInv M S) (R : RefInv M S) (O : StOK S) (kk : LwC L xs Q i) : WPg (some (L, xs)) 107 2136 205 21 [some (.retAddr 0), some (.ref 0), some (.ref 83), some (.int (nI i))] [.int (nI n)] M Q := by
  by_cases h : n < 38
  · match n, h with
    | 0, h => exact lw_to h rfl rfl (lw_c0 hL hi C R O kk)
    | 1, h => exact lw_to h rfl rfl (lw_c1 hL hi C R O kk)
    | 2, h => exact lw_to h rfl rfl (lw_c2 hL hi C R O kk)
    | 3, h => exact lw_to h rfl rfl (lw_c3 hL hi C R O kk)
    | 4, h => exact lw_to h rfl rfl (lw_c4 hL hi C R O kk)
    | 5, h => exact lw_to h rfl rfl (lw_c5 hL hi C R O kk)
    | 6, h => exact lw_to h rfl rfl (lw_c6 hL hi C R O kk)
    | 7, h => exact lw_to h rfl rfl (lw_c7 hL hi C R O kk)
    | 8, h => exact lw_to h rfl rfl (lw_c8 hL hi C R O kk)
    | 9, h => exact lw_to h rfl rfl (lw_c9 hL hi C R O kk)
    | 10, h => exact lw_to h rfl rfl (lw_c10 hL hi C R O kk)
    | 11, h => exact lw_to h rfl rfl (lw_c11 hL hi C R O kk)
    | 12, h => exact lw_to h rfl rfl (lw_c12 hL hi C R O kk)
    | 13, h => exact lw_to h rfl rfl (lw_c13 hL hi C R O kk)
    | 14, h => exact lw_to h rfl rfl (lw_c14 hL hi C R O kk)
    | 15, h => exact lw_to h rfl rfl (lw_c15 hL hi C R O kk)
    | 16, h => exact lw_to h rfl rfl (lw_c16 hL hi C R O kk)
    | 17, h => exact lw_to h rfl rfl (lw_c17 hL hi C R O kk)
    | 18, h => exact lw_to h rfl rfl (lw_c18 hL hi C R O kk)
    | 19, h => exact lw_to h rfl rfl (lw_c19 hL hi C R O kk)
    | 20, h => exact lw_to h rfl rfl (lw_c20 hL hi C R O kk)
    | 21, h => exact lw_to h rfl rfl (lw_c21 hL hi C R O kk)
    | 22, h => exact lw_to h rfl rfl (lw_c22 hL hi C R O kk)
    | 23, h => exact lw_to h rfl rfl (lw_c23 hL hi C R O kk)
    | 24, h => exact lw_to h rfl rfl (lw_c24 hL hi C R O kk)
    | 25, h => exact lw_to h rfl rfl (lw_c25 hL hi C R O kk)
    | 26, h => exact lw_to h rfl rfl (lw_c26 hL hi C R O kk)
    | 27, h => exact lw_to h rfl rfl (lw_c27 hL hi C R O kk)
    | 28, h => exact lw_to h rfl rfl (lw_c28 hL hi C R O kk)
    | 29, h => exact lw_to h rfl rfl (lw_c29 hL hi C R O kk)
    | 30, h => exact lw_to h rfl rfl (lw_c30 hL hi C R O kk)
    | 31, h => exact lw_to h rfl rfl (lw_c31 hL hi C R O kk)
    | 32, h => exact lw_to h rfl rfl (lw_c32 hL hi C R O kk)
    | 33, h => exact lw_to h rfl rfl (lw_c33 hL hi C R O kk)
    | 34, h => exact lw_to h rfl rfl (lw_c34 hL hi C R O kk)
    | 35, h => exact lw_to h rfl rfl (lw_c35 hL hi C R O kk)
    | 36, h => exact lw_to h rfl rfl (lw_c36 hL hi C R O kk)
    | 37, h => exact lw_to h rfl rfl (lw_c37 hL hi C R O kk)
    | k + 38, h => exact absurd h (by omega)
  · exact wp_tab (cd := kd_L_law) rfl rfl (q_swo_hi (hi := 37) (by omega) (by omega)) lw_at0 (kk M S C R O)
set_option maxRecDepth 100000 in
theorem lw_loop (hL : L ≤ 2560) (kq : ∀ M', Q (some (.int (nI 1))) M') : ∀ n i M S, L ≤ i + n → i ≤ 3000 → ClsInv M S → RefInv M S → StOK S → WPg (some (L, xs)) 107 2136 205 15 [some (.retAddr 0), some (.ref 0), some (.ref 83), some (.int (nI i))] [.int (nI L - nI 5), .int (nI i)] M Q := by
  have hk : q_cd 205 = kd_L_law := rfl
  obtain ⟨n1, n2⟩ := lw_n
  have fin : ∀ i M, i ≤ 3000 → L < i + 5 → WPg (some (L, xs)) 107 2136 205 15 [some (.retAddr 0), some (.ref 0), some (.ref 83), some (.int (nI i))] [.int (nI L - nI 5), .int (nI i)] M Q := by
    intro i M h3 h
    refine wp_icgt hk rfl (fun _ => ?_) (fun g => absurd ?_ g)
    · refine wp_s hk rfl rfl ?_
      exact wp_irg hk rfl rfl n1 n2 (kq M)
    · rw [Int32.lt_iff_toInt_lt, q_dInt (by omega) (by omega), q_toInt (by omega)]
      omega
  intro n
  induction n with
  | zero => intro i M S h h3 C R O; exact fin i M h3 (by omega)
  | succ n ih =>
    intro i M S h h3 C R O
    by_cases hi : i + 5 ≤ L
    · refine wp_icgt hk rfl (fun g => absurd g ?_) (fun _ => ?_)
      · rw [Int32.lt_iff_toInt_lt, q_dInt (by omega) (by omega), q_toInt (by omega)]
        omega
      · refine wp_s hk rfl rfl ?_
        refine wp_s hk rfl rfl ?_
        refine wp_sld (jx := i) hk rfl rfl (by omega) (by omega) ?_
        refine wp_s hk rfl rfl ?_
        refine wp_s hk rfl rfl ?_
        rw [and63]
        refine lw_case (Nat.mod_lt _ (by omega)) hL hi C R O (fun M' S' C' R' O' => ?_)
        refine wp_s hk rfl rfl ?_
        refine wp_goto hk rfl ?_
        refine wp_s hk rfl rfl ?_
        refine wp_s hk rfl rfl ?_
        refine wp_slen hk rfl ?_
        refine wp_s hk rfl rfl ?_
        refine wp_s hk rfl rfl ?_
        rw [q_nadd i 5]
        exact ih (i + 5) M' S' (by omega) (by omega) C' R' O'
    · exact fin i M h3 (by omega)
end LAW
set_option maxRecDepth 100000 in
theorem q_law (L : Nat) (hL : L ≤ 2560) (xs : Nat → Int32) : ∃ n mm', q_exec n (some (L, xs)) 205 (q_ent 205 [.retAddr 0]) ([], fun _ _ => 0) = some (some (.int 1), mm') := by
  have hw : q_Wp (some (L, xs)) 205 (q_ent 205 [.retAddr 0]) ([], fun _ _ => 0) (fun r _ => r = some (.int 1)) := by
    refine q_law_start _ _ (fun M hI => ?_)
    have hk : q_cd 205 = kd_L_law := rfl
    have h : WPg (some (L, xs)) 107 2136 205 10 [some (.retAddr 0), some (.ref 0), some (.ref 83), some (.int (nI 0))] [] M (fun r _ => r = some (.int 1)) := by
      refine wp_s hk rfl rfl ?_
      refine wp_s hk rfl rfl ?_
      refine wp_slen hk rfl ?_
      refine wp_s hk rfl rfl ?_
      refine wp_s hk rfl rfl ?_
      exact lw_loop hL (fun _ => rfl) L 0 M stS (by omega) (by omega) (cls_start hI) (ref_start hI) ok_start
    exact q_Wp.mono h (fun r m' hr => hr.2)
  obtain ⟨n, r, mm', h1, h2⟩ := hw
  subst h2
  exact ⟨n, mm', h1⟩
