theorem q_in0' {x : Int32} {n : Nat} (h2 : n < 2 ^ 30) : (decide (Int64.ofNat 0 ≤ x.toInt64) && decide (x.toInt64 ≤ (nI n - nI 1).toInt64)) = isN x n := by
  have e1 : (Int64.ofNat 0).toInt = 0 := Int64.toInt_ofNat_of_lt (by omega)
  have e3 : x.toInt64.toInt = x.toInt := Int32.toInt_toInt64 x
  have e4 : (nI n - nI 1).toInt64.toInt = (n : Int) - 1 := by rw [Int32.toInt_toInt64, q_dInt (by omega) (by omega)]; rfl
  unfold isN
  congr 1
  · rw [decide_eq_decide, Int64.le_iff_toInt_le, Int32.le_iff_toInt_le, e1, e3]; simp
  · rw [decide_eq_decide, Int64.le_iff_toInt_le, Int32.lt_iff_toInt_lt, e4, e3, q_toInt (by omega)]; omega
def cntC (V : Vw) : Nat := sumN (fun j => if vc V j = true then 1 else 0) (vn V)
def spCount (S : St) (a : Int32) : Int32 := if isN a 5 then (match i2n a with
  | 0 => nI (vn (sV S))
  | 1 => nI (vm (sV S))
  | 2 => nI (cntC (sV S))
  | 3 => nI (sT S).1
  | _ => nI (sN S)) else BAD
theorem q_swo_no {x : Int32} {dd : Int} {offs : Array Int} (h : isN x 5 = false) : q_swo 0 4 dd offs x = some dd := by
  unfold q_swo
  have : (decide (x.toInt < 0) || decide (4 < x.toInt)) = true := by
    simp only [isN, Bool.and_eq_false_iff, decide_eq_false_iff_not] at h
    simp only [Bool.or_eq_true, decide_eq_true_eq]
    rcases h with h | h
    · left
      have := Int32.not_le.mp h
      have := Int32.lt_iff_toInt_lt.mp this
      simpa using this
    · right
      have := Int32.not_lt.mp h
      have := Int32.le_iff_toInt_le.mp this
      rw [q_toInt (by omega)] at this
      omega
  rw [this]
  rfl
theorem m_count {M : MM} {S : St} {a : Int32} {Q : Option Value → MM → Prop} (I : RefInv M S) (O : StOK S) (kk : ∀ M', RFr M M' → Q (some (.int (spCount S a))) M') : Ca 204 [.ref 83, .int a] M Q := by
  have ho7 := O.1.2.1
  have hk : q_cd 204 = kd_X9_count := rfl
  show WP 204 0 [some (.ref 83), some (.int a), none, none] [] M Q
  repeat (first | refine wp_s hk rfl rfl ?_ | refine wp_goto hk rfl ?_ | refine wp_geti hk rfl rfl rfl rfl ?_ | refine wp_getr hk rfl rfl rfl rfl ?_)
  refine wp_th hk rfl (fun M0 F0 => ?_)
  have I0 := I.fr O F0
  have hkk := kk M0 F0
  unfold spCount at hkk
  obtain ⟨⟨c1, c2, c3, c4, c5, c6⟩, ⟨b1, b2⟩, hr, d1, e1⟩ := I0
  have loop := q_dn (n := vn (sV S)) (P := fun j => WP 204 10 [some (.ref 83), some (.int a), some (.int (nI (sumN (fun j => if vc (sV S) j = true then 1 else 0) j))), some (.int (nI j))] [.int (M0 83 1), .int (nI j)] M0 Q) (by
    refine wp_icgeN (u := vn (sV S)) (v := vn (sV S)) hk rfl rfl c1 (by omega) (by omega) (fun _ => ?_) (fun z => absurd z (by omega))
    repeat (first | refine wp_s hk rfl rfl ?_ | refine wp_goto hk rfl ?_ | refine wp_geti hk rfl rfl rfl rfl ?_ | refine wp_getr hk rfl rfl rfl rfl ?_)
    cases h : isN a 5 with
    | false =>
      rw [if_neg (by rw [h]; exact Bool.false_ne_true)] at hkk
      refine wp_tab hk rfl (q_swo_no h) rfl ?_
      repeat (first | refine wp_s hk rfl rfl ?_ | refine wp_goto hk rfl ?_ | refine wp_geti hk rfl rfl rfl rfl ?_ | refine wp_getr hk rfl rfl rfl rfl ?_)
      exact wp_ir hk rfl rfl hkk
    | true =>
      rw [if_pos h] at hkk
      obtain ⟨ha, ea⟩ := i2n_of (by omega) h
      rw [ea]
      generalize i2n a = k at ha hkk ⊢
      have : k = 0 ∨ k = 1 ∨ k = 2 ∨ k = 3 ∨ k = 4 := by omega
      rcases this with rfl | rfl | rfl | rfl | rfl
      · refine wp_tab hk rfl (off := 35) (by rfl) rfl ?_
        repeat (first | refine wp_s hk rfl rfl ?_ | refine wp_goto hk rfl ?_ | refine wp_geti hk rfl rfl rfl rfl ?_ | refine wp_getr hk rfl rfl rfl rfl ?_)
        rw [c1]
        exact wp_ir hk rfl rfl hkk
      · refine wp_tab hk rfl (off := 40) (by rfl) rfl ?_
        repeat (first | refine wp_s hk rfl rfl ?_ | refine wp_goto hk rfl ?_ | refine wp_geti hk rfl rfl rfl rfl ?_ | refine wp_getr hk rfl rfl rfl rfl ?_)
        rw [c2]
        exact wp_ir hk rfl rfl hkk
      · refine wp_tab hk rfl (off := 45) (by rfl) rfl ?_
        repeat (first | refine wp_s hk rfl rfl ?_ | refine wp_goto hk rfl ?_ | refine wp_geti hk rfl rfl rfl rfl ?_ | refine wp_getr hk rfl rfl rfl rfl ?_)
        exact wp_ir hk rfl rfl hkk
      · refine wp_tab hk rfl (off := 47) (by rfl) rfl ?_
        repeat (first | refine wp_s hk rfl rfl ?_ | refine wp_goto hk rfl ?_ | refine wp_geti hk rfl rfl rfl rfl ?_ | refine wp_getr hk rfl rfl rfl rfl ?_)
        rw [b1]
        exact wp_ir hk rfl rfl hkk
      · refine wp_tab hk rfl (off := 52) (by rfl) rfl ?_
        repeat (first | refine wp_s hk rfl rfl ?_ | refine wp_goto hk rfl ?_ | refine wp_geti hk rfl rfl rfl rfl ?_ | refine wp_getr hk rfl rfl rfl rfl ?_)
        rw [d1]
        exact wp_ir hk rfl rfl hkk) (by
    intro j hj ih
    simp only [sumN] at ih
    refine wp_icgeN (u := j) (v := vn (sV S)) hk rfl rfl c1 (by omega) (by omega) (fun z => absurd z (by omega)) (fun _ => ?_)
    repeat (first | refine wp_s hk rfl rfl ?_ | refine wp_goto hk rfl ?_ | refine wp_geti hk rfl rfl rfl rfl ?_ | refine wp_getr hk rfl rfl rfl rfl ?_)
    refine wp_bld (jx := j) hk rfl rfl rfl (by omega) ?_
    have e := vc_b2n (V := sV S) hj
    refine wp_ifeqB hk rfl (c3 j (by omega)) (fun y => ?_) (fun y => ?_) <;> rw [y] at e <;> rw [e] at ih
    · repeat (first | refine wp_s hk rfl rfl ?_ | refine wp_goto hk rfl ?_ | refine wp_geti hk rfl rfl rfl rfl ?_ | refine wp_getr hk rfl rfl rfl rfl ?_)
      rw [q_nadd j 1, q_nadd]
      exact ih
    · repeat (first | refine wp_s hk rfl rfl ?_ | refine wp_goto hk rfl ?_ | refine wp_geti hk rfl rfl rfl rfl ?_ | refine wp_getr hk rfl rfl rfl rfl ?_)
      rw [q_nadd j 1, q_nadd]
      exact ih)
  repeat (first | refine wp_s hk rfl rfl ?_ | refine wp_goto hk rfl ?_ | refine wp_geti hk rfl rfl rfl rfl ?_ | refine wp_getr hk rfl rfl rfl rfl ?_)
  exact loop 0 (Nat.zero_le _)
def spPart (S : St) (a b : Int32) : Int32 := if isN a 3 then (if isN b (sR S (i2n a)).1 then nI ((sR S (i2n a)).2.1 (i2n b)) else NON) else UNK
theorem m_part {M : MM} {S : St} {a b : Int32} {Q : Option Value → MM → Prop} (I : RefInv M S) (O : StOK S) (kk : ∀ M', RFr M M' → Q (some (.int (spPart S a b))) M') : Ca 152 [.ref 83, .int a, .int b] M Q := by
  have hk : q_cd 152 = kd_X9_part := rfl
  show WP 152 0 [some (.ref 83), some (.int a), some (.int b)] [] M Q
  repeat (first | refine wp_s hk rfl rfl ?_ | refine wp_goto hk rfl ?_ | refine wp_geti hk rfl rfl rfl rfl ?_ | refine wp_getr hk rfl rfl rfl rfl ?_)
  refine wp_th hk rfl (fun M0 F0 => ?_)
  have I0 := I.fr O F0
  repeat (first | refine wp_s hk rfl rfl ?_ | refine wp_goto hk rfl ?_ | refine wp_geti hk rfl rfl rfl rfl ?_ | refine wp_getr hk rfl rfl rfl rfl ?_)
  refine wp_callS hk rfl rfl rfl rfl ?_
  refine m_noRule ?_
  refine wp_ifeqB (u := !isN a 3) hk rfl rfl (fun h => ?_) (fun h => ?_)
  · have h' : isN a 3 = true := by simpa using h
    obtain ⟨hr, ea⟩ := i2n_of (by omega) h'
    have R := I0.2.2.1.1 _ hr
    have RO := O.2.2.1 _ hr
    have r3 := RO.2.1
    rw [ea]
    repeat (first | refine wp_s hk rfl rfl ?_ | refine wp_goto hk rfl ?_ | refine wp_geti hk rfl rfl rfl rfl ?_ | refine wp_getr hk rfl rfl rfl rfl ?_)
    refine wp_ald (jx := i2n a) hk rfl rfl rfl (by omega) ?_
    rw [R.1]
    repeat (first | refine wp_s hk rfl rfl ?_ | refine wp_goto hk rfl ?_ | refine wp_geti hk rfl rfl rfl rfl ?_ | refine wp_getr hk rfl rfl rfl rfl ?_)
    refine wp_callS hk rfl rfl rfl rfl ?_
    refine m_in ?_
    refine wp_ifeqB (u := isN b (sR S (i2n a)).1) hk rfl (congrArg (fun z => nI (b2n z)) (q_in0' (by omega))) (fun g => ?_) (fun g => ?_)
    · repeat (first | refine wp_s hk rfl rfl ?_ | refine wp_goto hk rfl ?_ | refine wp_geti hk rfl rfl rfl rfl ?_ | refine wp_getr hk rfl rfl rfl rfl ?_)
      refine wp_ir hk rfl rfl ?_
      have hkk := kk M0 F0
      simp only [spPart, h', g, Bool.and_self, Bool.true_and, Bool.and_true, Bool.false_and, Bool.and_false, if_true, Bool.false_eq_true, if_false, Bool.not_true, Bool.not_false] at hkk
      exact hkk
    · obtain ⟨hb, eb⟩ := i2n_of (by omega) g
      rw [eb]
      repeat (first | refine wp_s hk rfl rfl ?_ | refine wp_goto hk rfl ?_ | refine wp_geti hk rfl rfl rfl rfl ?_ | refine wp_getr hk rfl rfl rfl rfl ?_)
      refine wp_ald (jx := 3 * i2n a + i2n b) hk rfl rfl (by simp only [q_nadd, q_nmul]) (by omega) ?_
      rw [R.2.1 _ hb]
      repeat (first | refine wp_s hk rfl rfl ?_ | refine wp_goto hk rfl ?_ | refine wp_geti hk rfl rfl rfl rfl ?_ | refine wp_getr hk rfl rfl rfl rfl ?_)
      refine wp_ir hk rfl rfl ?_
      have hkk := kk M0 F0
      simp only [spPart, h', g, Bool.and_self, Bool.true_and, Bool.and_true, Bool.false_and, Bool.and_false, if_true, Bool.false_eq_true, if_false, Bool.not_true, Bool.not_false] at hkk
      exact hkk
  · have h' : isN a 3 = false := by simpa using h
    repeat (first | refine wp_s hk rfl rfl ?_ | refine wp_goto hk rfl ?_ | refine wp_geti hk rfl rfl rfl rfl ?_ | refine wp_getr hk rfl rfl rfl rfl ?_)
    refine wp_ir hk rfl rfl ?_
    have hkk := kk M0 F0
    simp only [spPart, h', Bool.and_self, Bool.true_and, Bool.and_true, Bool.false_and, Bool.and_false, if_true, Bool.false_eq_true, if_false, Bool.not_true, Bool.not_false] at hkk
    exact hkk
/-- copied from place to place, the others left -/
def cpd (M0 M : MM) (d lo s slo j : Nat) : Prop := (∀ i, i < j → M d (lo + i) = M0 s (slo + i)) ∧ ∀ i, i < lo → M d i = M0 d i
theorem cpd.up {M0 M : MM} {d lo s slo j : Nat} {v : Int32} (h : cpd M0 M d lo s slo j) (hv : v = M0 s (slo + j)) : cpd M0 (q_up M d (upd (M d) (lo + j) v)) d lo s slo (j + 1) := by
  refine ⟨fun i hi => ?_, fun i hi => ?_⟩
  · rw [q_up_at]
    by_cases e : i = j
    · subst e; rw [upd_at, hv]
    · rw [upd_ne _ _ (by omega)]; exact h.1 i (by omega)
  · rw [q_up_at, upd_ne _ _ (by omega)]; exact h.2 i hi
theorem cpd.ne {M0 M : MM} {d lo s slo j i : Nat} {f : Nat → Int32} (h : cpd M0 M d lo s slo j) (hi : d ≠ i) : cpd M0 (q_up M i f) d lo s slo j := ⟨fun k hk => by rw [q_up_ne _ _ hi]; exact h.1 k hk, fun k hk => by rw [q_up_ne _ _ hi]; exact h.2 k hk⟩
def opAgain (S : St) (a : Int32) : Int32 × St := if isN a (sN S) then (nI (vn (sP S (i2n a)) * vm (sP S (i2n a))), stV S (sP S (i2n a))) else (UNK, S)
theorem m_again {M : MM} {S : St} {a : Int32} {Q : Option Value → MM → Prop} (I : RefInv M S) (O : StOK S) (kk : ∀ M', RefInv M' (opAgain S a).2 → Hi M M' → Q (some (.int (opAgain S a).1)) M') : Ca 197 [.ref 83, .int a] M Q := by
  have ho8 := O.2.2.2.1
  have hk : q_cd 197 = kd_X9_again := rfl
  show WP 197 0 [some (.ref 83), some (.int a), none] [] M Q
  repeat (first | refine wp_s hk rfl rfl ?_ | refine wp_goto hk rfl ?_ | refine wp_geti hk rfl rfl rfl rfl ?_ | refine wp_getr hk rfl rfl rfl rfl ?_)
  refine wp_th hk rfl (fun M0 F0 => ?_)
  have I0 := I.fr O F0
  have H0 := Hi.fr F0
  unfold opAgain at kk
  repeat (first | refine wp_s hk rfl rfl ?_ | refine wp_goto hk rfl ?_ | refine wp_geti hk rfl rfl rfl rfl ?_ | refine wp_getr hk rfl rfl rfl rfl ?_)
  rw [I0.2.2.2.1]
  refine wp_callS hk rfl rfl rfl rfl ?_
  refine m_in ?_
  refine wp_ifneB (u := isN a (sN S)) hk rfl (congrArg (fun z => nI (b2n z)) (q_in0' (by omega))) (fun g => ?_) (fun g => ?_)
  · rw [if_pos g] at kk
    obtain ⟨ha, ea⟩ := i2n_of (by omega) g
    rw [ea]
    generalize i2n a = p at ha kk ⊢
    obtain ⟨p1, p2, p3, p4, p5, p6⟩ := I0.2.2.2.2 p ha
    have OP := O.2.2.2.2 p ha
    have on7 := OP.2.1
    have om4 := OP.2.2.2.1
    repeat (first | refine wp_s hk rfl rfl ?_ | refine wp_goto hk rfl ?_ | refine wp_geti hk rfl rfl rfl rfl ?_ | refine wp_getr hk rfl rfl rfl rfl ?_)
    refine wp_ald (jx := p) hk rfl rfl rfl (by omega) ?_
    rw [p1]
    refine wp_put hk rfl rfl rfl rfl rfl ?_
    repeat (first | refine wp_s hk rfl rfl ?_ | refine wp_goto hk rfl ?_ | refine wp_geti hk rfl rfl rfl rfl ?_ | refine wp_getr hk rfl rfl rfl rfl ?_)
    refine wp_ald (jx := p) hk rfl rfl rfl (by omega) ?_
    rw [q_up_ne _ _ (show 102 ≠ 83 by decide), p2]
    refine wp_put hk rfl rfl rfl rfl rfl ?_
    have e1 : ∀ j, (q_up (q_up M0 83 (upd (M0 83) 1 (nI (vn (sP S p))))) 83 (upd ((q_up M0 83 (upd (M0 83) 1 (nI (vn (sP S p))))) 83) 2 (nI (vm (sP S p))))) 83 j = if j = 2 then nI (vm (sP S p)) else if j = 1 then nI (vn (sP S p)) else M0 83 j := fun j => by rw [q83, q83]
    have K2 : Kp M0 (q_up (q_up M0 83 (upd (M0 83) 1 (nI (vn (sP S p))))) 83 (upd ((q_up M0 83 (upd (M0 83) 1 (nI (vn (sP S p))))) 83) 2 (nI (vm (sP S p))))) [83] := ((Kp.rf _ _).up (by decide)).up (by decide)
    generalize q_up (q_up M0 83 (upd (M0 83) 1 (nI (vn (sP S p))))) 83 (upd ((q_up M0 83 (upd (M0 83) 1 (nI (vn (sP S p))))) 83) 2 (nI (vm (sP S p)))) = M2 at e1 K2 ⊢
    have l3 : ∀ M1, Kp M2 M1 [84, 85, 86, 87] → cpd M2 M1 84 0 103 (7 * p) 7 → cpd M2 M1 87 0 106 (7 * p) 7 → cpd M2 M1 85 0 104 (4 * p) 4 → cpd M2 M1 86 0 105 (28 * p) 0 → WP 197 81 [some (.ref 83), some (.int (nI p)), some (.int (nI 0))] [.int (nI 28), .int (nI 0)] M1 Q := by
      refine q_dn (n := 28) (P := fun j => ∀ M1, Kp M2 M1 [84, 85, 86, 87] → cpd M2 M1 84 0 103 (7 * p) 7 → cpd M2 M1 87 0 106 (7 * p) 7 → cpd M2 M1 85 0 104 (4 * p) 4 → cpd M2 M1 86 0 105 (28 * p) j → WP 197 81 [some (.ref 83), some (.int (nI p)), some (.int (nI j))] [.int (nI 28), .int (nI j)] M1 Q) (fun M1 K1 Z1 Z2 Z3 Z4 => ?_) (fun j hj ih M1 K1 Z1 Z2 Z3 Z4 => ?_) 0 (Nat.zero_le _)
      · refine wp_icgeN (u := 28) (v := 28) hk rfl rfl rfl (by omega) (by omega) (fun _ => ?_) (fun z => absurd z (by omega))
        have g1 : M1 83 1 = nI (vn (sP S p)) := by rw [K1 83 (by decide), e1]; rfl
        have g2 : M1 83 2 = nI (vm (sP S p)) := by rw [K1 83 (by decide), e1]; rfl
        repeat (first | refine wp_s hk rfl rfl ?_ | refine wp_goto hk rfl ?_ | refine wp_geti hk rfl rfl rfl rfl ?_ | refine wp_getr hk rfl rfl rfl rfl ?_)
        rw [g1, g2, q_nmul]
        refine wp_ir hk rfl rfl (kk M1 (I0.card (V := sP S p) (fun i hi => ?_) ?_ ?_ ⟨g1, g2, fun j hj => ?_, fun j hj s hs => ?_, fun j hj => ?_, fun s hs => ?_⟩) (H0.tr ((Hi.kp K2).tr (Hi.kp K1))))
        · rw [K1 i (fun z => by simp only [List.mem_cons, List.not_mem_nil, or_false] at z hi; omega), K2 i (fun z => by simp only [List.mem_cons, List.not_mem_nil, or_false] at z hi; omega)]
        · rw [K1 83 (by decide), e1]; rfl
        · rw [K1 83 (by decide), e1]; rfl
        · have := Z2.1 j hj
          rw [Nat.zero_add] at this
          rw [this, K2 106 (by decide)]; exact p6 j hj
        · have := Z4.1 (4 * j + s) (by omega)
          rw [Nat.zero_add, ← Nat.add_assoc] at this
          rw [this, K2 105 (by decide)]; exact p5 j hj s hs
        · have := Z1.1 j hj
          rw [Nat.zero_add] at this
          rw [this, K2 103 (by decide)]; exact p3 j hj
        · have := Z3.1 s hs
          rw [Nat.zero_add] at this
          rw [this, K2 104 (by decide)]; exact p4 s hs
      · refine wp_icgeN (u := j) (v := 28) hk rfl rfl rfl (by omega) (by omega) (fun z => absurd z (by omega)) (fun _ => ?_)
        repeat (first | refine wp_s hk rfl rfl ?_ | refine wp_goto hk rfl ?_ | refine wp_geti hk rfl rfl rfl rfl ?_ | refine wp_getr hk rfl rfl rfl rfl ?_)
        refine wp_ald (jx := 28 * p + j) hk rfl rfl (by simp only [q_nadd, q_nmul]) (by omega) ?_
        refine wp_ast (jx := 0 + j) hk rfl rfl (by rw [Nat.zero_add]) (by omega) ?_
        repeat (first | refine wp_s hk rfl rfl ?_ | refine wp_goto hk rfl ?_ | refine wp_geti hk rfl rfl rfl rfl ?_ | refine wp_getr hk rfl rfl rfl rfl ?_)
        rw [q_nadd j 1]
        exact ih _ (K1.up (by decide)) (Z1.ne (by decide)) (Z2.ne (by decide)) (Z3.ne (by decide)) (Z4.up (by rw [K1 105 (by decide)]))
    have l2 : ∀ M1, Kp M2 M1 [84, 85, 86, 87] → cpd M2 M1 84 0 103 (7 * p) 7 → cpd M2 M1 87 0 106 (7 * p) 7 → cpd M2 M1 85 0 104 (4 * p) 0 → cpd M2 M1 86 0 105 (28 * p) 0 → WP 197 62 [some (.ref 83), some (.int (nI p)), some (.int (nI 0))] [.int (nI 4), .int (nI 0)] M1 Q := by
      refine q_dn (n := 4) (P := fun j => ∀ M1, Kp M2 M1 [84, 85, 86, 87] → cpd M2 M1 84 0 103 (7 * p) 7 → cpd M2 M1 87 0 106 (7 * p) 7 → cpd M2 M1 85 0 104 (4 * p) j → cpd M2 M1 86 0 105 (28 * p) 0 → WP 197 62 [some (.ref 83), some (.int (nI p)), some (.int (nI j))] [.int (nI 4), .int (nI j)] M1 Q) (fun M1 K1 Z1 Z2 Z3 Z4 => ?_) (fun j hj ih M1 K1 Z1 Z2 Z3 Z4 => ?_) 0 (Nat.zero_le _)
      · refine wp_icgeN (u := 4) (v := 4) hk rfl rfl rfl (by omega) (by omega) (fun _ => ?_) (fun z => absurd z (by omega))
        repeat (first | refine wp_s hk rfl rfl ?_ | refine wp_goto hk rfl ?_ | refine wp_geti hk rfl rfl rfl rfl ?_ | refine wp_getr hk rfl rfl rfl rfl ?_)
        exact l3 M1 K1 Z1 Z2 Z3 Z4
      · refine wp_icgeN (u := j) (v := 4) hk rfl rfl rfl (by omega) (by omega) (fun z => absurd z (by omega)) (fun _ => ?_)
        repeat (first | refine wp_s hk rfl rfl ?_ | refine wp_goto hk rfl ?_ | refine wp_geti hk rfl rfl rfl rfl ?_ | refine wp_getr hk rfl rfl rfl rfl ?_)
        refine wp_ald (jx := 4 * p + j) hk rfl rfl (by simp only [q_nadd, q_nmul]) (by omega) ?_
        refine wp_ast (jx := 0 + j) hk rfl rfl (by rw [Nat.zero_add]) (by omega) ?_
        repeat (first | refine wp_s hk rfl rfl ?_ | refine wp_goto hk rfl ?_ | refine wp_geti hk rfl rfl rfl rfl ?_ | refine wp_getr hk rfl rfl rfl rfl ?_)
        rw [q_nadd j 1]
        exact ih _ (K1.up (by decide)) (Z1.ne (by decide)) (Z2.ne (by decide)) (Z3.up (by rw [K1 104 (by decide)])) (Z4.ne (by decide))
    have l1 := q_dn (n := 7) (P := fun j => ∀ M1, Kp M2 M1 [84, 85, 86, 87] → cpd M2 M1 84 0 103 (7 * p) j → cpd M2 M1 87 0 106 (7 * p) j → cpd M2 M1 85 0 104 (4 * p) 0 → cpd M2 M1 86 0 105 (28 * p) 0 → WP 197 31 [some (.ref 83), some (.int (nI p)), some (.int (nI j))] [.int (nI 7), .int (nI j)] M1 Q) (fun M1 K1 Z1 Z2 Z3 Z4 => by
      refine wp_icgeN (u := 7) (v := 7) hk rfl rfl rfl (by omega) (by omega) (fun _ => ?_) (fun z => absurd z (by omega))
      repeat (first | refine wp_s hk rfl rfl ?_ | refine wp_goto hk rfl ?_ | refine wp_geti hk rfl rfl rfl rfl ?_ | refine wp_getr hk rfl rfl rfl rfl ?_)
      exact l2 M1 K1 Z1 Z2 Z3 Z4) (fun j hj ih M1 K1 Z1 Z2 Z3 Z4 => by
      refine wp_icgeN (u := j) (v := 7) hk rfl rfl rfl (by omega) (by omega) (fun z => absurd z (by omega)) (fun _ => ?_)
      repeat (first | refine wp_s hk rfl rfl ?_ | refine wp_goto hk rfl ?_ | refine wp_geti hk rfl rfl rfl rfl ?_ | refine wp_getr hk rfl rfl rfl rfl ?_)
      refine wp_ald (jx := 7 * p + j) hk rfl rfl (by simp only [q_nadd, q_nmul]) (by omega) ?_
      refine wp_ast (jx := 0 + j) hk rfl rfl (by rw [Nat.zero_add]) (by omega) ?_
      have Z1' := Z1.up (v := M1 103 (7 * p + j)) (by rw [K1 103 (by decide)])
      have K1' : Kp M2 (q_up M1 84 (upd (M1 84) (0 + j) (M1 103 (7 * p + j)))) [84, 85, 86, 87] := K1.up (by decide)
      have Z2' := Z2.ne (i := 84) (f := upd (M1 84) (0 + j) (M1 103 (7 * p + j))) (by decide)
      have Z3' := Z3.ne (i := 84) (f := upd (M1 84) (0 + j) (M1 103 (7 * p + j))) (by decide)
      have Z4' := Z4.ne (i := 84) (f := upd (M1 84) (0 + j) (M1 103 (7 * p + j))) (by decide)
      generalize q_up M1 84 (upd (M1 84) (0 + j) (M1 103 (7 * p + j))) = M3 at Z1' Z2' Z3' Z4' K1' ⊢
      have e6 : M3 106 (7 * p + j) = nI (b2n ((vL (sP S p)).testBit j)) := by rw [K1' 106 (by decide), K2 106 (by decide)]; exact p6 j hj
      repeat (first | refine wp_s hk rfl rfl ?_ | refine wp_goto hk rfl ?_ | refine wp_geti hk rfl rfl rfl rfl ?_ | refine wp_getr hk rfl rfl rfl rfl ?_)
      refine wp_bld (jx := 7 * p + j) hk rfl rfl (by simp only [q_nadd, q_nmul]) (by omega) ?_
      refine wp_bst (jx := 0 + j) hk rfl rfl (by rw [Nat.zero_add]) (by omega) (by rw [e6]; cases (vL (sP S p)).testBit j; exact Or.inl (by decide); exact Or.inr (by decide)) ?_
      repeat (first | refine wp_s hk rfl rfl ?_ | refine wp_goto hk rfl ?_ | refine wp_geti hk rfl rfl rfl rfl ?_ | refine wp_getr hk rfl rfl rfl rfl ?_)
      rw [q_nadd j 1]
      exact ih _ (K1'.up (by decide)) (Z1'.ne (by decide)) (Z2'.up (by rw [K1' 106 (by decide)])) (Z3'.ne (by decide)) (Z4'.ne (by decide)))
    have z0 : ∀ d s lo, cpd M2 M2 d 0 s lo 0 := fun d s lo => ⟨fun i hi => absurd hi (Nat.not_lt_zero _), fun i hi => rfl⟩
    repeat (first | refine wp_s hk rfl rfl ?_ | refine wp_goto hk rfl ?_ | refine wp_geti hk rfl rfl rfl rfl ?_ | refine wp_getr hk rfl rfl rfl rfl ?_)
    exact l1 0 (Nat.zero_le _) M2 (Kp.rf _ _) (z0 _ _ _) (z0 _ _ _) (z0 _ _ _) (z0 _ _ _)
  · rw [if_neg (by rw [g]; exact Bool.false_ne_true)] at kk
    repeat (first | refine wp_s hk rfl rfl ?_ | refine wp_goto hk rfl ?_ | refine wp_geti hk rfl rfl rfl rfl ?_ | refine wp_getr hk rfl rfl rfl rfl ?_)
    exact wp_ir hk rfl rfl (kk M0 I0 H0)
def opKeep (S : St) : Int32 × St := if sN S = 8 then (FULL, S) else (nI (sN S + 1), (sV S, sT S, sR S, sN S + 1, fun i => if i = sN S then sV S else sP S i))
theorem m_keep {M : MM} {S : St} {Q : Option Value → MM → Prop} (I : RefInv M S) (O : StOK S) (kk : ∀ M', RefInv M' (opKeep S).2 → Hi M M' → Q (some (.int (opKeep S).1)) M') : Ca 189 [.ref 83] M Q := by
  have ho8 := O.2.2.2.1
  have hk : q_cd 189 = kd_X9_keep := rfl
  show WP 189 0 [some (.ref 83), none] [] M Q
  repeat (first | refine wp_s hk rfl rfl ?_ | refine wp_goto hk rfl ?_ | refine wp_geti hk rfl rfl rfl rfl ?_ | refine wp_getr hk rfl rfl rfl rfl ?_)
  refine wp_th hk rfl (fun M0 F0 => ?_)
  have I0 := I.fr O F0
  have H0 := Hi.fr F0
  unfold opKeep at kk
  repeat (first | refine wp_s hk rfl rfl ?_ | refine wp_goto hk rfl ?_ | refine wp_geti hk rfl rfl rfl rfl ?_ | refine wp_getr hk rfl rfl rfl rfl ?_)
  refine wp_icneN (u := sN S) (v := 8) hk rfl I0.2.2.2.1 rfl (by omega) (by omega) (fun g => ?_) (fun g => ?_)
  · rw [if_neg g] at kk
    obtain ⟨⟨c1, c2, c3, c4, c5, c6⟩, ⟨b1, b2⟩, hr, d1, e1⟩ := I0
    generalize hN : sN S = N at *
    repeat (first | refine wp_s hk rfl rfl ?_ | refine wp_goto hk rfl ?_ | refine wp_geti hk rfl rfl rfl rfl ?_ | refine wp_getr hk rfl rfl rfl rfl ?_)
    rw [d1, c1]
    refine wp_ast (jx := N) hk rfl rfl rfl (by omega) ?_
    repeat (first | refine wp_s hk rfl rfl ?_ | refine wp_goto hk rfl ?_ | refine wp_geti hk rfl rfl rfl rfl ?_ | refine wp_getr hk rfl rfl rfl rfl ?_)
    rw [q_up_ne _ _ (show 83 ≠ 101 by decide), d1, c2]
    refine wp_ast (jx := N) hk rfl rfl rfl (by omega) ?_
    have e101 : ∀ x, (q_up (q_up M0 101 (upd (M0 101) N (nI (vn (sV S))))) 102 (upd ((q_up M0 101 (upd (M0 101) N (nI (vn (sV S))))) 102) N (nI (vm (sV S))))) 101 x = if x = N then nI (vn (sV S)) else M0 101 x := fun x => by
      rw [q_up_ne _ _ (by decide), q_up_at]
      by_cases e : x = N
      · subst e; rw [upd_at, if_pos rfl]
      · rw [upd_ne _ _ e, if_neg e]
    have e102 : ∀ x, (q_up (q_up M0 101 (upd (M0 101) N (nI (vn (sV S))))) 102 (upd ((q_up M0 101 (upd (M0 101) N (nI (vn (sV S))))) 102) N (nI (vm (sV S))))) 102 x = if x = N then nI (vm (sV S)) else M0 102 x := fun x => by
      rw [q_up_at, q_up_ne _ _ (show 102 ≠ 101 by decide)]
      by_cases e : x = N
      · subst e; rw [upd_at, if_pos rfl]
      · rw [upd_ne _ _ e, if_neg e]
    have K2 : Kp M0 (q_up (q_up M0 101 (upd (M0 101) N (nI (vn (sV S))))) 102 (upd ((q_up M0 101 (upd (M0 101) N (nI (vn (sV S))))) 102) N (nI (vm (sV S))))) [101, 102] := ((Kp.rf _ _).up (by decide)).up (by decide)
    generalize q_up (q_up M0 101 (upd (M0 101) N (nI (vn (sV S))))) 102 (upd ((q_up M0 101 (upd (M0 101) N (nI (vn (sV S))))) 102) N (nI (vm (sV S)))) = M2 at e101 e102 K2 ⊢
    have k83 : ∀ M1, Kp M2 M1 [103, 104, 105, 106] → M1 83 22 = nI N := fun M1 K1 => by rw [K1 83 (by decide), K2 83 (by decide)]; exact d1
    have l3 : ∀ M1, Kp M2 M1 [103, 104, 105, 106] → cpd M2 M1 103 (7 * N) 84 0 7 → cpd M2 M1 106 (7 * N) 87 0 7 → cpd M2 M1 104 (4 * N) 85 0 4 → cpd M2 M1 105 (28 * N) 86 0 0 → WP 189 80 [some (.ref 83), some (.int (nI 0))] [.int (nI 28), .int (nI 0)] M1 Q := by
      refine q_dn (n := 28) (P := fun j => ∀ M1, Kp M2 M1 [103, 104, 105, 106] → cpd M2 M1 103 (7 * N) 84 0 7 → cpd M2 M1 106 (7 * N) 87 0 7 → cpd M2 M1 104 (4 * N) 85 0 4 → cpd M2 M1 105 (28 * N) 86 0 j → WP 189 80 [some (.ref 83), some (.int (nI j))] [.int (nI 28), .int (nI j)] M1 Q) (fun M1 K1 Z1 Z2 Z3 Z4 => ?_) (fun j hj ih M1 K1 Z1 Z2 Z3 Z4 => ?_) 0 (Nat.zero_le _)
      · refine wp_icgeN (u := 28) (v := 28) hk rfl rfl rfl (by omega) (by omega) (fun _ => ?_) (fun z => absurd z (by omega))
        repeat (first | refine wp_s hk rfl rfl ?_ | refine wp_goto hk rfl ?_ | refine wp_geti hk rfl rfl rfl rfl ?_ | refine wp_getr hk rfl rfl rfl rfl ?_)
        rw [k83 M1 K1, q_nadd]
        refine wp_put hk rfl rfl rfl rfl rfl ?_
        repeat (first | refine wp_s hk rfl rfl ?_ | refine wp_goto hk rfl ?_ | refine wp_geti hk rfl rfl rfl rfl ?_ | refine wp_getr hk rfl rfl rfl rfl ?_)
        rw [q83, if_pos rfl]
        refine wp_ir hk rfl rfl (kk _ ⟨⟨?_, ?_, fun j hj => ?_, fun j hj s hs => ?_, fun j hj => ?_, fun s hs => ?_⟩, ⟨?_, fun i hi => ?_⟩, ⟨fun r hr' => ?_, ?_, ?_⟩, ?_, fun i hi => ?_⟩ (H0.tr ((Hi.kp K2).tr ((Hi.kp K1).tr ((Hi.rf _).up (by decide))))))
        · rw [q83, K1 83 (by decide), K2 83 (by decide)]; exact c1
        · rw [q83, K1 83 (by decide), K2 83 (by decide)]; exact c2
        · rw [q_up_ne _ _ (by decide), K1 87 (by decide), K2 87 (by decide)]; exact c3 j hj
        · rw [q_up_ne _ _ (by decide), K1 86 (by decide), K2 86 (by decide)]; exact c4 j hj s hs
        · rw [q_up_ne _ _ (by decide), K1 84 (by decide), K2 84 (by decide)]; exact c5 j hj
        · rw [q_up_ne _ _ (by decide), K1 85 (by decide), K2 85 (by decide)]; exact c6 s hs
        · rw [q83, K1 83 (by decide), K2 83 (by decide)]; exact b1
        · rw [q_up_ne _ _ (by decide), K1 90 (by decide), K2 90 (by decide)]; exact b2 i hi
        · have := hr.1 r hr'
          unfold RefRu at this ⊢
          simp only [q_up_ne (j := 94) _ _ (show 94 ≠ 83 by decide), q_up_ne (j := 95) _ _ (show 95 ≠ 83 by decide), q_up_ne (j := 96) _ _ (show 96 ≠ 83 by decide), q_up_ne (j := 97) _ _ (show 97 ≠ 83 by decide), K1 94 (by decide), K2 94 (by decide), K1 95 (by decide), K2 95 (by decide), K1 96 (by decide), K2 96 (by decide), K1 97 (by decide), K2 97 (by decide)]
          exact this
        · rw [q_up_ne _ _ (by decide), K1 94 (by decide), K2 94 (by decide)]; exact hr.2.1
        · rw [q_up_ne _ _ (by decide), K1 95 (by decide), K2 95 (by decide)]; exact hr.2.2
        · rw [q83]; rfl
        · show RefPast _ i (if i = N then sV S else sP S i)
          by_cases e : i = N
          · subst e
            rw [if_pos rfl]
            refine ⟨?_, ?_, fun j hj => ?_, fun s hs => ?_, fun j hj s hs => ?_, fun j hj => ?_⟩
            · rw [q_up_ne _ _ (by decide), K1 101 (by decide), e101, if_pos rfl]
            · rw [q_up_ne _ _ (by decide), K1 102 (by decide), e102, if_pos rfl]
            · have := Z1.1 j hj
              rw [Nat.zero_add] at this
              rw [q_up_ne _ _ (by decide), this, K2 84 (by decide)]; exact c5 j hj
            · have := Z3.1 s hs
              rw [Nat.zero_add] at this
              rw [q_up_ne _ _ (by decide), this, K2 85 (by decide)]; exact c6 s hs
            · have := Z4.1 (4 * j + s) (by omega)
              rw [Nat.zero_add, ← Nat.add_assoc] at this
              rw [q_up_ne _ _ (by decide), this, K2 86 (by decide)]; exact c4 j hj s hs
            · have := Z2.1 j hj
              rw [Nat.zero_add] at this
              rw [q_up_ne _ _ (by decide), this, K2 87 (by decide)]; exact c3 j hj
          · have hi' : i < N := by
              have : i < N + 1 := hi
              omega
            rw [if_neg e]
            obtain ⟨p1, p2, p3, p4, p5, p6⟩ := e1 i hi'
            refine ⟨?_, ?_, fun j hj => ?_, fun s hs => ?_, fun j hj s hs => ?_, fun j hj => ?_⟩
            · rw [q_up_ne _ _ (by decide), K1 101 (by decide), e101, if_neg e]; exact p1
            · rw [q_up_ne _ _ (by decide), K1 102 (by decide), e102, if_neg e]; exact p2
            · rw [q_up_ne _ _ (by decide), Z1.2 _ (by omega), K2 103 (by decide)]; exact p3 j hj
            · rw [q_up_ne _ _ (by decide), Z3.2 _ (by omega), K2 104 (by decide)]; exact p4 s hs
            · rw [q_up_ne _ _ (by decide), Z4.2 _ (by omega), K2 105 (by decide)]; exact p5 j hj s hs
            · rw [q_up_ne _ _ (by decide), Z2.2 _ (by omega), K2 106 (by decide)]; exact p6 j hj
      · refine wp_icgeN (u := j) (v := 28) hk rfl rfl rfl (by omega) (by omega) (fun z => absurd z (by omega)) (fun _ => ?_)
        repeat (first | refine wp_s hk rfl rfl ?_ | refine wp_goto hk rfl ?_ | refine wp_geti hk rfl rfl rfl rfl ?_ | refine wp_getr hk rfl rfl rfl rfl ?_)
        refine wp_ald (jx := j) hk rfl rfl rfl (by omega) ?_
        rw [k83 M1 K1]
        refine wp_ast (jx := 28 * N + j) hk rfl rfl (by simp only [q_nadd, q_nmul]) (by omega) ?_
        repeat (first | refine wp_s hk rfl rfl ?_ | refine wp_goto hk rfl ?_ | refine wp_geti hk rfl rfl rfl rfl ?_ | refine wp_getr hk rfl rfl rfl rfl ?_)
        rw [q_nadd j 1]
        exact ih _ (K1.up (by decide)) (Z1.ne (by decide)) (Z2.ne (by decide)) (Z3.ne (by decide)) (Z4.up (by rw [K1 86 (by decide), Nat.zero_add]))
    have l2 : ∀ M1, Kp M2 M1 [103, 104, 105, 106] → cpd M2 M1 103 (7 * N) 84 0 7 → cpd M2 M1 106 (7 * N) 87 0 7 → cpd M2 M1 104 (4 * N) 85 0 0 → cpd M2 M1 105 (28 * N) 86 0 0 → WP 189 60 [some (.ref 83), some (.int (nI 0))] [.int (nI 4), .int (nI 0)] M1 Q := by
      refine q_dn (n := 4) (P := fun j => ∀ M1, Kp M2 M1 [103, 104, 105, 106] → cpd M2 M1 103 (7 * N) 84 0 7 → cpd M2 M1 106 (7 * N) 87 0 7 → cpd M2 M1 104 (4 * N) 85 0 j → cpd M2 M1 105 (28 * N) 86 0 0 → WP 189 60 [some (.ref 83), some (.int (nI j))] [.int (nI 4), .int (nI j)] M1 Q) (fun M1 K1 Z1 Z2 Z3 Z4 => ?_) (fun j hj ih M1 K1 Z1 Z2 Z3 Z4 => ?_) 0 (Nat.zero_le _)
      · refine wp_icgeN (u := 4) (v := 4) hk rfl rfl rfl (by omega) (by omega) (fun _ => ?_) (fun z => absurd z (by omega))
        repeat (first | refine wp_s hk rfl rfl ?_ | refine wp_goto hk rfl ?_ | refine wp_geti hk rfl rfl rfl rfl ?_ | refine wp_getr hk rfl rfl rfl rfl ?_)
        exact l3 M1 K1 Z1 Z2 Z3 Z4
      · refine wp_icgeN (u := j) (v := 4) hk rfl rfl rfl (by omega) (by omega) (fun z => absurd z (by omega)) (fun _ => ?_)
        repeat (first | refine wp_s hk rfl rfl ?_ | refine wp_goto hk rfl ?_ | refine wp_geti hk rfl rfl rfl rfl ?_ | refine wp_getr hk rfl rfl rfl rfl ?_)
        refine wp_ald (jx := j) hk rfl rfl rfl (by omega) ?_
        rw [k83 M1 K1]
        refine wp_ast (jx := 4 * N + j) hk rfl rfl (by simp only [q_nadd, q_nmul]) (by omega) ?_
        repeat (first | refine wp_s hk rfl rfl ?_ | refine wp_goto hk rfl ?_ | refine wp_geti hk rfl rfl rfl rfl ?_ | refine wp_getr hk rfl rfl rfl rfl ?_)
        rw [q_nadd j 1]
        exact ih _ (K1.up (by decide)) (Z1.ne (by decide)) (Z2.ne (by decide)) (Z3.up (by rw [K1 85 (by decide), Nat.zero_add])) (Z4.ne (by decide))
    have l1 := q_dn (n := 7) (P := fun j => ∀ M1, Kp M2 M1 [103, 104, 105, 106] → cpd M2 M1 103 (7 * N) 84 0 j → cpd M2 M1 106 (7 * N) 87 0 j → cpd M2 M1 104 (4 * N) 85 0 0 → cpd M2 M1 105 (28 * N) 86 0 0 → WP 189 27 [some (.ref 83), some (.int (nI j))] [.int (nI 7), .int (nI j)] M1 Q) (fun M1 K1 Z1 Z2 Z3 Z4 => by
      refine wp_icgeN (u := 7) (v := 7) hk rfl rfl rfl (by omega) (by omega) (fun _ => ?_) (fun z => absurd z (by omega))
      repeat (first | refine wp_s hk rfl rfl ?_ | refine wp_goto hk rfl ?_ | refine wp_geti hk rfl rfl rfl rfl ?_ | refine wp_getr hk rfl rfl rfl rfl ?_)
      exact l2 M1 K1 Z1 Z2 Z3 Z4) (fun j hj ih M1 K1 Z1 Z2 Z3 Z4 => by
      refine wp_icgeN (u := j) (v := 7) hk rfl rfl rfl (by omega) (by omega) (fun z => absurd z (by omega)) (fun _ => ?_)
      repeat (first | refine wp_s hk rfl rfl ?_ | refine wp_goto hk rfl ?_ | refine wp_geti hk rfl rfl rfl rfl ?_ | refine wp_getr hk rfl rfl rfl rfl ?_)
      refine wp_ald (jx := j) hk rfl rfl rfl (by omega) ?_
      rw [k83 M1 K1]
      refine wp_ast (jx := 7 * N + j) hk rfl rfl (by simp only [q_nadd, q_nmul]) (by omega) ?_
      have Z1' := Z1.up (v := M1 84 j) (by rw [K1 84 (by decide), Nat.zero_add])
      have K1' : Kp M2 (q_up M1 103 (upd (M1 103) (7 * N + j) (M1 84 j))) [103, 104, 105, 106] := K1.up (by decide)
      have Z2' := Z2.ne (i := 103) (f := upd (M1 103) (7 * N + j) (M1 84 j)) (by decide)
      have Z3' := Z3.ne (i := 103) (f := upd (M1 103) (7 * N + j) (M1 84 j)) (by decide)
      have Z4' := Z4.ne (i := 103) (f := upd (M1 103) (7 * N + j) (M1 84 j)) (by decide)
      generalize q_up M1 103 (upd (M1 103) (7 * N + j) (M1 84 j)) = M3 at Z1' Z2' Z3' Z4' K1' ⊢
      have e6 : M3 87 j = nI (b2n ((vL (sV S)).testBit j)) := by rw [K1' 87 (by decide), K2 87 (by decide)]; exact c3 j hj
      repeat (first | refine wp_s hk rfl rfl ?_ | refine wp_goto hk rfl ?_ | refine wp_geti hk rfl rfl rfl rfl ?_ | refine wp_getr hk rfl rfl rfl rfl ?_)
      refine wp_bld (jx := j) hk rfl rfl rfl (by omega) ?_
      rw [k83 M3 K1']
      refine wp_bst (jx := 7 * N + j) hk rfl rfl (by simp only [q_nadd, q_nmul]) (by omega) (by rw [e6]; cases (vL (sV S)).testBit j; exact Or.inl (by decide); exact Or.inr (by decide)) ?_
      repeat (first | refine wp_s hk rfl rfl ?_ | refine wp_goto hk rfl ?_ | refine wp_geti hk rfl rfl rfl rfl ?_ | refine wp_getr hk rfl rfl rfl rfl ?_)
      rw [q_nadd j 1]
      exact ih _ (K1'.up (by decide)) (Z1'.ne (by decide)) (Z2'.up (by rw [K1' 87 (by decide), Nat.zero_add])) (Z3'.ne (by decide)) (Z4'.ne (by decide)))
    have z0 : ∀ d s lo, cpd M2 M2 d lo s 0 0 := fun d s lo => ⟨fun i hi => absurd hi (Nat.not_lt_zero _), fun i hi => rfl⟩
    repeat (first | refine wp_s hk rfl rfl ?_ | refine wp_goto hk rfl ?_ | refine wp_geti hk rfl rfl rfl rfl ?_ | refine wp_getr hk rfl rfl rfl rfl ?_)
    exact l1 0 (Nat.zero_le _) M2 (Kp.rf _ _) (z0 _ _ _) (z0 _ _ _) (z0 _ _ _) (z0 _ _ _)
  · rw [if_pos (Classical.not_not.mp g)] at kk
    repeat (first | refine wp_s hk rfl rfl ?_ | refine wp_goto hk rfl ?_ | refine wp_geti hk rfl rfl rfl rfl ?_ | refine wp_getr hk rfl rfl rfl rfl ?_)
    exact wp_ir hk rfl rfl (kk M0 I0 H0)
