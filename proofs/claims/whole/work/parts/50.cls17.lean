/-! the class's reach: a paired part is laid -/
def laA (M : MM) (V : Vw) (R : Ru) (j p S D : Nat) : Prop := ∀ s d, d < 6 → (s < S ∨ (s = S ∧ d < D)) → M 31 (24 * p + 6 * s + d) = nI (rA V R j p s d)
def laB (M : MM) (V : Vw) (R : Ru) (j p S O X : Nat) : Prop := ∀ s o x, o < vm V → x < 3 → (s < S ∨ (s = S ∧ (o < O ∨ (o = O ∧ x < X)))) → M 32 (48 * p + 12 * s + 3 * o + x) = nI (rB V R j p s o x)
theorem laA.up {M : MM} {V : Vw} {R : Ru} {j p S D : Nat} {v : Int32} (h : laA M V R j p S D) (hD : D < 6) (hv : v = nI (rA V R j p S D)) : laA (q_up M 31 (upd (M 31) (24 * p + 6 * S + D) v)) V R j p S (D + 1) := fun s d hd hsd => by
  rw [q_up_at]
  by_cases e : s = S ∧ d = D
  · obtain ⟨rfl, rfl⟩ := e
    rw [upd_at, hv]
  · rw [upd_ne _ _ (by omega)]
    exact h s d hd (by omega)
theorem laA.ne {M : MM} {V : Vw} {R : Ru} {j p S D i : Nat} {f : Nat → Int32} (h : laA M V R j p S D) (hi : 31 ≠ i) : laA (q_up M i f) V R j p S D := fun s d hd hsd => by
  rw [q_up_ne _ _ hi]; exact h s d hd hsd
theorem laA.nx {M : MM} {V : Vw} {R : Ru} {j p S : Nat} (h : laA M V R j p S 6) : laA M V R j p (S + 1) 0 := fun s d hd hsd => h s d hd (by omega)
theorem laB.up {M : MM} {V : Vw} {R : Ru} {j p S O X : Nat} {v : Int32} (hm : vm V ≤ 4) (h : laB M V R j p S O X) (hX : X < 3) (hO : O < vm V) (hv : v = nI (rB V R j p S O X)) : laB (q_up M 32 (upd (M 32) (48 * p + 12 * S + 3 * O + X) v)) V R j p S O (X + 1) := fun s o x ho hx hsd => by
  rw [q_up_at]
  by_cases e : s = S ∧ o = O ∧ x = X
  · obtain ⟨rfl, rfl, rfl⟩ := e
    rw [upd_at, hv]
  · rw [upd_ne _ _ (by omega)]
    exact h s o x ho hx (by omega)
theorem laB.ne {M : MM} {V : Vw} {R : Ru} {j p S O X i : Nat} {f : Nat → Int32} (h : laB M V R j p S O X) (hi : 32 ≠ i) : laB (q_up M i f) V R j p S O X := fun s o x ho hx hsd => by
  rw [q_up_ne _ _ hi]; exact h s o x ho hx hsd
theorem laB.nx {M : MM} {V : Vw} {R : Ru} {j p S O : Nat} (h : laB M V R j p S O 3) : laB M V R j p S (O + 1) 0 := fun s o x ho hx hsd => h s o x ho hx (by omega)
theorem laB.ny {M : MM} {V : Vw} {R : Ru} {j p S : Nat} (h : laB M V R j p S (vm V) 0) : laB M V R j p (S + 1) 0 0 := fun s o x ho hx hsd => h s o x ho hx (by omega)
/-- below an index nothing changes -/
def loS (M M' : MM) (id n : Nat) : Prop := ∀ x, x < n → M' id x = M id x
theorem loS.rf (M : MM) (id n : Nat) : loS M M id n := fun _ _ => rfl
theorem loS.up {M M' : MM} {id n k : Nat} {v : Int32} (h : loS M M' id n) (hk : n ≤ k) : loS M (q_up M' id (upd (M' id) k v)) id n := fun x hx => by rw [q_up_at, upd_ne _ _ (by omega)]; exact h x hx
theorem loS.ne {M M' : MM} {id n i : Nat} {f : Nat → Int32} (h : loS M M' id n) (hi : id ≠ i) : loS M (q_up M' i f) id n := fun x hx => by rw [q_up_ne _ _ hi]; exact h x hx
theorem lead_x {A B x : Nat} (h : x < 3) : nI A - nI B + nI x - nI 1 = nI (A + xa x) - nI (B + xb x) := by
  have := x_sub h
  rw [← q_nadd, ← q_nadd]
  generalize nI A = a at *
  generalize nI B = b at *
  generalize nI (xa x) = c at *
  generalize nI (xb x) = d at *
  generalize nI x = y at *
  generalize nI 1 = u at *
  grind
section LAYB
variable {M : MM} {V : Vw} {R : Ru} {j : Nat} {Q : Option Value → MM → Prop}
theorem r_layBeside {W : Vw} {p : Nat} (C : CardIs M 27 W) (OW : VOK W) (hn : vn W = vn V) (hm : vm W = vm V) (hcnt : ∀ i, i < vn V → vc W i = cntM (vc V) j false i) (hmk : ∀ i, i < vn V → ¬ i = j → ∀ s, s < 4 → vk W i s = vk V i s) (h7 : M 24 7 = nI (vm V)) (hp : p < 3) (hkd : R.2.1 p = 2 ∨ R.2.1 p = 3)
    (kk : ∀ M', Kp M M' [31, 32] → loS M M' 31 (24 * p) → loS M M' 32 (48 * p) → laA M' V R j p (vm V) 0 → laB M' V R j p (vm V) 0 0 → Q none M') : Ca 54 [.ref 24, .int (nI p), .int (nI (b2n (decide (R.2.1 p = 2))))] M Q := by
  have hm4 : vm V ≤ 4 := by rw [← hm]; exact OW.2.2.2.1
  have hn7 : vn V ≤ 7 := by rw [← hn]; exact OW.2.1
  have cnt0 : cntM (vc V) j false j = false := by unfold cntM; rw [if_pos rfl]
  have hmk' : ∀ i, i < vn V → vc W i = true → ∀ s, s < vm V → vk W i s = vk V i s := fun i hi hc s hs => hmk i hi (fun e => by rw [hcnt i hi, e, cnt0] at hc; cases hc) s (by omega)
  have eR : ∀ s, s < vm V → wRanks (vn W) (vm W) (vc W) (vk W) s = wRanks (vn V) (vm V) (cntM (vc V) j false) (vk V) s := fun s hs => by
    rw [hn, hm]; exact wRanks_congr hs hcnt hmk'
  have eM : ∀ a b, a < vm V → b < vm V → wMore (vn W) (vc W) (vk W) a b = wMore (vn V) (cntM (vc V) j false) (vk V) a b := fun a b ha hb => by
    rw [hn]; exact wMore_congr hcnt (fun i hi hc => ⟨hmk' i hi hc a ha, hmk' i hi hc b hb⟩)
  have lM : ∀ a b, wMore (vn V) (cntM (vc V) j false) (vk V) a b ≤ 7 := fun a b => by
    have : wMore (vn V) (cntM (vc V) j false) (vk V) a b ≤ vn V * 1 := sumN_le (fun j hj => by split <;> omega)
    omega
  have hk : q_cd 54 = kd_X3_layBeside := rfl
  show WP 54 0 [some (.ref 24), some (.int (nI p)), some (.int (nI (b2n (decide (R.2.1 p = 2))))), none, none, none, none, none] [] M Q
  have outer := q_dn (n := vm V) (P := fun s => ∀ M1 x4 x5 x6 x7, Kp M M1 [31, 32] → loS M M1 31 (24 * p) → loS M M1 32 (48 * p) → laA M1 V R j p s 0 → laB M1 V R j p s 0 0 → WP 54 5 [some (.ref 24), some (.int (nI p)), some (.int (nI (b2n (decide (R.2.1 p = 2))))), some (.int (nI s)), x4, x5, x6, x7] [.int (M1 24 7), .int (nI s)] M1 Q) (by
    intro M1 x4 x5 x6 x7 K1 A1 B1 L1 L2
    have g7 : M1 24 7 = nI (vm V) := by rw [K1 24 (by decide)]; exact h7
    refine wp_icgeN (u := vm V) (v := vm V) hk rfl rfl g7 (by omega) (by omega) (fun _ => ?_) (fun h => absurd h (by omega))
    exact wp_vr hk rfl (kk M1 K1 A1 B1 L1 L2)) (by
    intro s hs ih M1 x4 x5 x6 x7 K1 A1 B1 L1 L2
    have g7 : M1 24 7 = nI (vm V) := by rw [K1 24 (by decide)]; exact h7
    refine wp_icgeN (u := s) (v := vm V) hk rfl rfl g7 (by omega) (by omega) (fun h => absurd h (by omega)) (fun _ => ?_)
    have lB := q_dn (n := vm V) (P := fun o => ∀ M3 (y4 : Int32) x6 x7, Kp M M3 [31, 32] → loS M M3 31 (24 * p) → loS M M3 32 (48 * p) → laA M3 V R j p s 6 → laB M3 V R j p s o 0 → WP 54 37 [some (.ref 24), some (.int (nI p)), some (.int (nI (b2n (decide (R.2.1 p = 2))))), some (.int (nI s)), some (.int y4), some (.int (nI o)), x6, x7] [.int (M3 24 7), .int (nI o)] M3 Q) (by
      intro M3 y4 x6 x7 K3 A3 B3 L3 L4
      have g7 : M3 24 7 = nI (vm V) := by rw [K3 24 (by decide)]; exact h7
      refine wp_icgeN (u := vm V) (v := vm V) hk rfl rfl g7 (by omega) (by omega) (fun _ => ?_) (fun h => absurd h (by omega))
      repeat (first | refine wp_s hk rfl rfl ?_ | refine wp_goto hk rfl ?_ | refine wp_geti hk rfl rfl rfl rfl ?_ | refine wp_getr hk rfl rfl rfl rfl ?_)
      rw [q_nadd s 1]
      exact ih M3 _ _ _ _ K3 A3 B3 L3.nx L4.ny) (by
      intro o ho iho M3 y4 x6 x7 K3 A3 B3 L3 L4
      have g7 : M3 24 7 = nI (vm V) := by rw [K3 24 (by decide)]; exact h7
      refine wp_icgeN (u := o) (v := vm V) hk rfl rfl g7 (by omega) (by omega) (fun h => absurd h (by omega)) (fun _ => ?_)
      have C3 : CardIs M3 27 W := C.kp K3 (by decide) (by decide) (by decide) (by decide)
      have fin : ∀ A B : Nat, A ≤ 7 → B ≤ 7 → (∀ x, rB V R j p s o x = pt (A + xa x) (B + xb x)) → WP 54 49 [some (.ref 24), some (.int (nI p)), some (.int (nI (b2n (decide (R.2.1 p = 2))))), some (.int (nI s)), some (.int y4), some (.int (nI o)), x6, x7] [.int (nI A - nI B)] M3 Q := by
        intro A B hA hB hrB
        have lX := q_dn (n := 3) (P := fun x => ∀ M5, Kp M M5 [31, 32] → loS M M5 31 (24 * p) → loS M M5 32 (48 * p) → laA M5 V R j p s 6 → laB M5 V R j p s o x → WP 54 54 [some (.ref 24), some (.int (nI p)), some (.int (nI (b2n (decide (R.2.1 p = 2))))), some (.int (nI s)), some (.int y4), some (.int (nI o)), some (.int (nI A - nI B)), some (.int (nI x))] [.int (nI 3), .int (nI x)] M5 Q) (by
          intro M5 K5 A5 B5 L5 L6
          refine wp_icgeN (u := 3) (v := 3) hk rfl rfl rfl (by omega) (by omega) (fun _ => ?_) (fun h => absurd h (by omega))
          repeat (first | refine wp_s hk rfl rfl ?_ | refine wp_goto hk rfl ?_ | refine wp_geti hk rfl rfl rfl rfl ?_ | refine wp_getr hk rfl rfl rfl rfl ?_)
          rw [q_nadd o 1]
          exact iho M5 _ _ _ K5 A5 B5 L5 L6.nx) (by
          intro x hx ihx M5 K5 A5 B5 L5 L6
          have hxa : xa x ≤ 1 := by unfold xa; split <;> omega
          have hxb : xb x ≤ 1 := by unfold xb; split <;> omega
          refine wp_icgeN (u := x) (v := 3) hk rfl rfl rfl (by omega) (by omega) (fun h => absurd h (by omega)) (fun _ => ?_)
          repeat (first | refine wp_s hk rfl rfl ?_ | refine wp_goto hk rfl ?_ | refine wp_geti hk rfl rfl rfl rfl ?_ | refine wp_getr hk rfl rfl rfl rfl ?_)
          refine wp_callS hk rfl rfl rfl rfl ?_
          refine r_besideAt ?_
          repeat (first | refine wp_s hk rfl rfl ?_ | refine wp_goto hk rfl ?_ | refine wp_geti hk rfl rfl rfl rfl ?_ | refine wp_getr hk rfl rfl rfl rfl ?_)
          rw [lead_x hx]
          refine wp_callS hk rfl rfl rfl rfl ?_
          refine c_points (by omega) (by omega) ?_
          refine wp_ast (jx := 48 * p + 12 * s + 3 * o + x) hk rfl rfl rfl (by omega) ?_
          repeat (first | refine wp_s hk rfl rfl ?_ | refine wp_goto hk rfl ?_ | refine wp_geti hk rfl rfl rfl rfl ?_ | refine wp_getr hk rfl rfl rfl rfl ?_)
          rw [q_nadd x 1]
          exact ihx _ (K5.up (by decide)) (A5.ne (by decide)) (B5.up (by omega)) (L5.ne (by decide)) (L6.up hm4 hx ho (by rw [hrB])))
        repeat (first | refine wp_s hk rfl rfl ?_ | refine wp_goto hk rfl ?_ | refine wp_geti hk rfl rfl rfl rfl ?_ | refine wp_getr hk rfl rfl rfl rfl ?_)
        exact lX 0 (Nat.zero_le _) M3 K3 A3 B3 L3 L4
      rcases hkd with hkd | hkd
      · refine wp_s hk rfl rfl ?_
        refine wp_ifeqB hk rfl rfl (fun z => by rw [decide_eq_true hkd] at z; cases z) (fun _ => ?_)
        refine wp_s hk rfl rfl ?_
        refine wp_goto hk rfl ?_
        rw [show nI 0 = nI 0 - nI 0 by decide]
        exact fin 0 0 (by omega) (by omega) (fun x => by unfold rB; rw [if_neg (by omega), if_neg (by omega)])
      · refine wp_s hk rfl rfl ?_
        refine wp_ifeqB hk rfl rfl (fun _ => ?_) (fun z => by rw [decide_eq_false (by omega)] at z; cases z)
        repeat (first | refine wp_s hk rfl rfl ?_ | refine wp_goto hk rfl ?_ | refine wp_geti hk rfl rfl rfl rfl ?_ | refine wp_getr hk rfl rfl rfl rfl ?_)
        refine wp_callV hk rfl rfl rfl rfl rfl rfl ?_
        refine g_leadOf CSh27 SSh25 C3 OW (by omega) (by omega) ?_
        rw [eM s o hs ho, eM o s ho hs]
        exact fin _ _ (lM _ _) (lM _ _) (fun x => by unfold rB; rw [if_pos hkd, if_pos hkd]))
    have lA : ∀ A : Nat, (∀ d, rA V R j p s d = A) → WP 54 16 [some (.ref 24), some (.int (nI p)), some (.int (nI (b2n (decide (R.2.1 p = 2))))), some (.int (nI s)), x4, x5, x6, x7] [.int (nI A)] M1 Q := by
      intro A hA
      have lD := q_dn (n := 6) (P := fun d => ∀ M5, Kp M M5 [31, 32] → loS M M5 31 (24 * p) → loS M M5 32 (48 * p) → laA M5 V R j p s d → laB M5 V R j p s 0 0 → WP 54 21 [some (.ref 24), some (.int (nI p)), some (.int (nI (b2n (decide (R.2.1 p = 2))))), some (.int (nI s)), some (.int (nI A)), some (.int (nI d)), x6, x7] [.int (nI 6), .int (nI d)] M5 Q) (by
        intro M5 K5 A5 B5 L5 L6
        refine wp_icgeN (u := 6) (v := 6) hk rfl rfl rfl (by omega) (by omega) (fun _ => ?_) (fun h => absurd h (by omega))
        repeat (first | refine wp_s hk rfl rfl ?_ | refine wp_goto hk rfl ?_ | refine wp_geti hk rfl rfl rfl rfl ?_ | refine wp_getr hk rfl rfl rfl rfl ?_)
        exact lB 0 (Nat.zero_le _) M5 _ _ _ K5 A5 B5 L5 L6) (by
        intro d hd ihd M5 K5 A5 B5 L5 L6
        refine wp_icgeN (u := d) (v := 6) hk rfl rfl rfl (by omega) (by omega) (fun h => absurd h (by omega)) (fun _ => ?_)
        repeat (first | refine wp_s hk rfl rfl ?_ | refine wp_goto hk rfl ?_ | refine wp_geti hk rfl rfl rfl rfl ?_ | refine wp_getr hk rfl rfl rfl rfl ?_)
        refine wp_callS hk rfl rfl rfl rfl ?_
        refine r_aloneAt ?_
        repeat (first | refine wp_s hk rfl rfl ?_ | refine wp_goto hk rfl ?_ | refine wp_geti hk rfl rfl rfl rfl ?_ | refine wp_getr hk rfl rfl rfl rfl ?_)
        refine wp_ast (jx := 24 * p + 6 * s + d) hk rfl rfl rfl (by omega) ?_
        repeat (first | refine wp_s hk rfl rfl ?_ | refine wp_goto hk rfl ?_ | refine wp_geti hk rfl rfl rfl rfl ?_ | refine wp_getr hk rfl rfl rfl rfl ?_)
        rw [q_nadd d 1]
        exact ihd _ (K5.up (by decide)) (A5.up (by omega)) (B5.ne (by decide)) (L5.up hd (by rw [hA])) (L6.ne (by decide)))
      repeat (first | refine wp_s hk rfl rfl ?_ | refine wp_goto hk rfl ?_ | refine wp_geti hk rfl rfl rfl rfl ?_ | refine wp_getr hk rfl rfl rfl rfl ?_)
      exact lD 0 (Nat.zero_le _) M1 K1 A1 B1 L1 L2
    have C1 : CardIs M1 27 W := C.kp K1 (by decide) (by decide) (by decide) (by decide)
    rcases hkd with hkd | hkd
    · refine wp_s hk rfl rfl ?_
      refine wp_ifeqB hk rfl rfl (fun z => by rw [decide_eq_true hkd] at z; cases z) (fun _ => ?_)
      repeat (first | refine wp_s hk rfl rfl ?_ | refine wp_goto hk rfl ?_ | refine wp_geti hk rfl rfl rfl rfl ?_ | refine wp_getr hk rfl rfl rfl rfl ?_)
      refine wp_callV hk rfl rfl rfl rfl rfl rfl ?_
      refine g_ranks CSh27 SSh25 C1 OW (by omega) ?_
      rw [eR s hs]
      refine wp_goto hk rfl ?_
      exact lA _ (fun d => by unfold rA; rw [if_pos hkd])
    · refine wp_s hk rfl rfl ?_
      refine wp_ifeqB hk rfl rfl (fun _ => ?_) (fun z => by rw [decide_eq_false (by omega)] at z; cases z)
      refine wp_s hk rfl rfl ?_
      exact lA 0 (fun d => by unfold rA; rw [if_neg (by omega), if_pos hkd]))
  repeat (first | refine wp_s hk rfl rfl ?_ | refine wp_goto hk rfl ?_ | refine wp_geti hk rfl rfl rfl rfl ?_ | refine wp_getr hk rfl rfl rfl rfl ?_)
  exact outer 0 (Nat.zero_le _) M _ _ _ _ (Kp.rf _ _) (loS.rf _ _ _) (loS.rf _ _ _) (fun s d hd hsd => absurd hsd (by omega)) (fun s o x ho hx hsd => absurd hsd (by omega))
end LAYB
