/-! the class's own calls: a mark moved, blocs, lots -/
theorem an_bit (L x j : Nat) : (anW L x).testBit j = (L.testBit j && !x.testBit j) := by
  unfold anW
  rw [Nat.testBit_xor, Nat.testBit_and]
  cases L.testBit j <;> cases x.testBit j <;> rfl
theorem bitsW_bit {f : Nat → Bool} {j : Nat} : ∀ n, (bitsW f n).testBit j = (decide (j < n) && f j)
  | 0 => by
    show Nat.testBit 0 j = _
    rw [Nat.zero_testBit, decide_eq_false (Nat.not_lt_zero j), Bool.false_and]
  | n + 1 => by
    simp only [bitsW]
    rw [Nat.testBit_or, bitsW_bit n]
    by_cases e : j = n
    · subst e
      rw [decide_eq_false (Nat.lt_irrefl j), decide_eq_true (Nat.lt_succ_self j), Bool.false_and, Bool.false_or, Bool.true_and]
      cases hf : f j with
      | true => rw [if_pos rfl, Nat.testBit_two_pow_self]
      | false => rw [if_neg Bool.false_ne_true, Nat.zero_testBit]
    · have h0 : (if f n = true then 2 ^ n else 0).testBit j = false := by
        by_cases hf : f n = true
        · rw [if_pos hf, Nat.testBit_two_pow, decide_eq_false (fun z => e z.symm)]
        · rw [if_neg hf, Nat.zero_testBit]
      rw [h0, Bool.or_false]
      congr 1
      rw [decide_eq_decide]
      omega
theorem cg_bit {n x j : Nat} : (cgW n x).testBit j = (decide (j < n) && !x.testBit j) := bitsW_bit n
theorem vc_B {V : Vw} {set : Nat} (k : Nat → Nat → Nat) : vc (setK (setL V (anW (vL V) set)) k) = cntB (vc V) (vn V) set := by
  funext j
  show (decide (j < vn V) && !(anW (vL V) set).testBit j) = _
  unfold cntB
  rw [an_bit, bt_tb]
  by_cases h : j < vn V
  · rw [decide_eq_true h]
    cases hb : set.testBit j with
    | true => rw [if_pos ⟨h, rfl⟩]; simp
    | false => rw [if_neg (fun z => by cases z.2), vc_b2n h]; simp
  · rw [decide_eq_false h, if_neg (fun z => h z.1), vc_hi (by omega)]
    rfl
theorem vc_M {V : Vw} {j : Nat} (hL : vL V < 128) (hn : vn V ≤ 7) (hj : j < 7) : vc (setL V (stB (vL V) j true)) = cntM (vc V) j false := by
  funext i
  show (decide (i < vn V) && !(stB (vL V) j true).testBit i) = _
  unfold cntM
  by_cases h : i < vn V
  · rw [decide_eq_true h, (stB_bit _ hL j hj true).2 i (by omega)]
    by_cases e : i = j
    · rw [if_pos e, if_pos e]; rfl
    · rw [if_neg e, if_neg e, vc_b2n h]; rfl
  · rw [decide_eq_false h]
    by_cases e : i = j
    · rw [if_pos e]; rfl
    · rw [if_neg e, vc_hi (by omega)]; rfl
theorem dr_zero {V : Vw} {set : Nat} (hset : set < 2 ^ vn V) : anW set (cgW (vn V) (vL V)) = 0 ↔ anyN (fun j => bt set j && !vc V j) (vn V) = false := by
  constructor
  · intro h
    cases ha : anyN (fun j => bt set j && !vc V j) (vn V) with
    | false => rfl
    | true =>
      obtain ⟨j, hj, hb⟩ := anyN_iff.mp ha
      have h2 := an_bit set (cgW (vn V) (vL V)) j
      rw [h, Nat.zero_testBit, cg_bit, decide_eq_true hj, Bool.true_and, ← vc_b2n hj, ← bt_tb] at h2
      rw [← h2] at hb
      cases hb
  · intro h
    refine Nat.eq_of_testBit_eq (fun j => ?_)
    rw [Nat.zero_testBit, an_bit, cg_bit]
    by_cases hj : j < vn V
    · rw [decide_eq_true hj, Bool.true_and, ← vc_b2n hj, ← bt_tb]
      cases hb : (bt set j && !vc V j) with
      | false => rfl
      | true =>
        have := (anyN_iff (f := fun j => bt set j && !vc V j)).mpr ⟨j, hj, hb⟩
        rw [h] at this
        cases this
    · have h0 : set.testBit j = false := Nat.testBit_lt_two_pow (Nat.lt_of_lt_of_le hset (Nat.pow_le_pow_right (by omega) (by omega)))
      rw [h0, Bool.false_and]
theorem vc_D {V : Vw} {set : Nat} (h : anyN (fun j => bt set j && !vc V j) (vn V) = false) : vc (setL V (vL V ||| cgW (vn V) set)) = cntD V set := by
  funext j
  show (decide (j < vn V) && !(vL V ||| cgW (vn V) set).testBit j) = _
  unfold cntD
  by_cases hj : j < vn V
  · rw [decide_eq_true hj, Nat.testBit_or, cg_bit, decide_eq_true hj, if_pos hj, bt_tb]
    have hv := vc_b2n (V := V) hj
    cases hb : set.testBit j with
    | false => simp
    | true =>
      cases hl : (vL V).testBit j with
      | false => simp
      | true =>
        have := (anyN_iff (f := fun j => bt set j && !vc V j)).mpr ⟨j, hj, show (bt set j && !vc V j) = true by rw [bt_tb, hb, hv, hl]; rfl⟩
        rw [h] at this
        cases this
  · rw [decide_eq_false hj, if_neg hj, vc_hi (by omega)]
    rfl
def fwS (o : Option Nat) : Nat := match o with
  | none => 8
  | some f => popW f
theorem fwS_le (o : Option Nat) : fwS o ≤ 8 := by
  cases o with
  | none => exact Nat.le_refl _
  | some f => have := popW_le f; show popW f ≤ 8; omega
theorem fwW_yes {ok : Nat → Bool} {x : Nat} (h1 : popW x < fwS (fwW ok x)) (h2 : ok x = true) : fwW ok (x + 1) = some x := by
  cases h : fwW ok x with
  | none => rw [fwW, h, h2]; rfl
  | some f =>
    rw [h] at h1
    rw [fwW, h, h2]
    exact if_pos (by rw [Bool.and_true]; exact decide_eq_true h1)
theorem fwW_no {ok : Nat → Bool} {x : Nat} (h1 : ¬ popW x < fwS (fwW ok x) ∨ ok x = false) : fwW ok (x + 1) = fwW ok x := by
  rw [fwW]
  refine if_neg (fun z => ?_)
  rw [Bool.and_eq_true] at z
  rcases h1 with h1 | h1
  · cases h : fwW ok x with
    | none => rw [h] at h1; have := popW_le x; exact h1 (by show popW x < 8; omega)
    | some f => rw [h] at h1 z; exact h1 (of_decide_eq_true z.1)
  · rw [h1] at z; cases z.2
theorem mkB_le {V : Vw} {set s : Nat} (O : VOK V) : ∀ j, j < 7 → ∀ t, t < 4 → mkB (vk V) (vn V) (vm V) set s j t ≤ 5 := fun j hj t ht => by
  have := O.2.2.2.2.2.1 j hj t ht
  unfold mkB fv5
  repeat' split
  all_goals omega
section PUB6
variable {M : MM} {S : St} {Q : Option Value → MM → Prop}
theorem k_move {a b c d : Int32} (I : ClsInv M S) (O : StOK S) (kk : ∀ M', Kp M M' scr → Q (some (.int (spMove S a b c d))) M') : Ca 112 [.ref 0, .int a, .int b, .int c, .int d] M Q := by
  have h4 := O.1.2.2.2.1
  have h7 := O.1.2.1
  unfold spMove at kk
  have hk : q_cd 112 = kd_X8_move := rfl
  show WP 112 0 [some (.ref 0), some (.int a), some (.int b), some (.int c), some (.int d)] [] M Q
  have no : (isN a 3 && (isN b (vn (sV S)) && isN c (vm (sV S)))) = false → WP 112 14 [some (.ref 0), some (.int a), some (.int b), some (.int c), some (.int d)] [] M Q := by
    intro h
    rw [h] at kk
    repeat (first | refine wp_s hk rfl rfl ?_ | refine wp_goto hk rfl ?_ | refine wp_geti hk rfl rfl rfl rfl ?_ | refine wp_getr hk rfl rfl rfl rfl ?_)
    exact wp_ir hk rfl rfl (kk M (Kp.rf _ _))
  repeat (first | refine wp_s hk rfl rfl ?_ | refine wp_goto hk rfl ?_ | refine wp_geti hk rfl rfl rfl rfl ?_ | refine wp_getr hk rfl rfl rfl rfl ?_)
  refine wp_callV hk rfl rfl rfl rfl rfl rfl ?_
  refine k_isRule ?_
  refine wp_ifeqB hk rfl rfl (fun h => no (by rw [h]; rfl)) (fun ha => ?_)
  repeat (first | refine wp_s hk rfl rfl ?_ | refine wp_goto hk rfl ?_ | refine wp_geti hk rfl rfl rfl rfl ?_ | refine wp_getr hk rfl rfl rfl rfl ?_)
  refine wp_callV hk rfl rfl rfl rfl rfl rfl ?_
  refine c_hasJudge CSh1 I.1 ?_
  refine wp_ifeqB hk rfl rfl (fun h => no (by rw [h, Bool.false_and, Bool.and_false])) (fun hb => ?_)
  repeat (first | refine wp_s hk rfl rfl ?_ | refine wp_goto hk rfl ?_ | refine wp_geti hk rfl rfl rfl rfl ?_ | refine wp_getr hk rfl rfl rfl rfl ?_)
  refine wp_callV hk rfl rfl rfl rfl rfl rfl ?_
  refine c_hasSkater CSh1 I.1 ?_
  refine wp_ifneB hk rfl rfl (fun hc => ?_) (fun h => no (by rw [h, Bool.and_false, Bool.and_false]))
  simp only [ha, hb, hc, Bool.and_self, if_true] at kk
  repeat (first | refine wp_s hk rfl rfl ?_ | refine wp_goto hk rfl ?_ | refine wp_geti hk rfl rfl rfl rfl ?_ | refine wp_getr hk rfl rfl rfl rfl ?_)
  refine wp_callV hk rfl rfl rfl rfl rfl rfl ?_
  refine k_isMark ?_
  refine wp_ifneB hk rfl rfl (fun hd => ?_) (fun h => ?_)
  · rw [if_pos hd] at kk
    obtain ⟨ha1, ha2⟩ := i2n_of (by omega) ha
    obtain ⟨hb1, hb2⟩ := i2n_of (by omega) hb
    obtain ⟨hc1, hc2⟩ := i2n_of (by omega) hc
    obtain ⟨hd1, hd2⟩ := i2n_of (by omega) hd
    rw [ha2, hb2, hc2, hd2]
    generalize i2n a = r at ha1 kk ⊢
    generalize i2n b = j at hb1 kk ⊢
    generalize i2n c = s at hc1 kk ⊢
    generalize i2n d = v at hd1 kk ⊢
    repeat (first | refine wp_s hk rfl rfl ?_ | refine wp_goto hk rfl ?_ | refine wp_geti hk rfl rfl rfl rfl ?_ | refine wp_getr hk rfl rfl rfl rfl ?_)
    refine wp_qld (jx := r) hk rfl rfl rfl rfl (zcs_at r ha1) (by decide) ?_
    repeat (first | refine wp_s hk rfl rfl ?_ | refine wp_goto hk rfl ?_ | refine wp_geti hk rfl rfl rfl rfl ?_ | refine wp_getr hk rfl rfl rfl rfl ?_)
    refine wp_callV hk rfl rfl rfl rfl rfl rfl ?_
    refine t_take CSh1 TSh16 (ZShR r ha1) (by omega) (Or.inr (by omega)) I.1 O.1 (I.2.2.1 r ha1) (O.2.2.1 r ha1) (fun M1 K1 W1 => ?_)
    have I1 := I.kp O (K1.mono (by decide))
    repeat (first | refine wp_s hk rfl rfl ?_ | refine wp_goto hk rfl ?_ | refine wp_geti hk rfl rfl rfl rfl ?_ | refine wp_getr hk rfl rfl rfl rfl ?_)
    refine wp_callV hk rfl rfl rfl rfl rfl rfl ?_
    refine c_copyFrom CSh5 CSh1 (Or.inr (by omega)) I1.1 (fun M2 K2 C2 => ?_)
    have I2 := I1.kp O (K2.mono (by decide))
    repeat (first | refine wp_s hk rfl rfl ?_ | refine wp_goto hk rfl ?_ | refine wp_geti hk rfl rfl rfl rfl ?_ | refine wp_getr hk rfl rfl rfl rfl ?_)
    refine wp_callV hk rfl rfl rfl rfl rfl rfl ?_
    refine c_give CSh5 C2 (by omega) (by omega) (fun M3 K3 C3 => ?_)
    have I3 := I2.kp O (K3.mono (by decide))
    have O3 : VOK (setK (sV S) (mkM (vk (sV S)) j s v)) := O.1.setK (fun i hi t ht => by
      have := O.1.2.2.2.2.2.1 i hi t ht
      unfold mkM
      split <;> omega)
    repeat (first | refine wp_s hk rfl rfl ?_ | refine wp_goto hk rfl ?_ | refine wp_geti hk rfl rfl rfl rfl ?_ | refine wp_getr hk rfl rfl rfl rfl ?_)
    refine wp_qld (jx := r) hk rfl rfl rfl rfl (zcs_at r ha1) (by decide) ?_
    repeat (first | refine wp_s hk rfl rfl ?_ | refine wp_goto hk rfl ?_ | refine wp_geti hk rfl rfl rfl rfl ?_ | refine wp_getr hk rfl rfl rfl rfl ?_)
    refine wp_callV hk rfl rfl rfl rfl rfl rfl ?_
    refine t_take CSh5 TSh20 (ZShR r ha1) (by omega) (Or.inr (by omega)) C3 O3 (I3.2.2.1 r ha1) (O.2.2.1 r ha1) (fun M4 K4 W4 => ?_)
    have V4 := ((W1.kp K2 (by decide) (by decide)).kp K3 (by decide) (by decide)).kp K4 (by decide) (by decide)
    repeat (first | refine wp_s hk rfl rfl ?_ | refine wp_goto hk rfl ?_ | refine wp_geti hk rfl rfl rfl rfl ?_ | refine wp_getr hk rfl rfl rfl rfl ?_)
    refine wp_callV hk rfl rfl rfl rfl rfl rfl ?_
    refine t_placeOf TSh16 V4 hc1 ?_
    repeat (first | refine wp_s hk rfl rfl ?_ | refine wp_goto hk rfl ?_ | refine wp_geti hk rfl rfl rfl rfl ?_ | refine wp_getr hk rfl rfl rfl rfl ?_)
    refine wp_callV hk rfl rfl rfl rfl rfl rfl ?_
    refine t_placeOf TSh20 W4 hc1 ?_
    repeat (first | refine wp_s hk rfl rfl ?_ | refine wp_goto hk rfl ?_ | refine wp_geti hk rfl rfl rfl rfl ?_ | refine wp_getr hk rfl rfl rfl rfl ?_)
    have hkk := kk M4 ((K1.mono (by decide)).tr ((K2.mono (by decide)).tr ((K3.mono (by decide)).tr (K4.mono (by decide)))))
    rw [show ∀ x y z : Int32, z + x - y = x - y + z from fun x y z => by grind] at hkk
    exact wp_ir hk rfl rfl hkk
  · rw [h] at kk
    repeat (first | refine wp_s hk rfl rfl ?_ | refine wp_goto hk rfl ?_ | refine wp_geti hk rfl rfl rfl rfl ?_ | refine wp_getr hk rfl rfl rfl rfl ?_)
    exact wp_ir hk rfl rfl (kk M (Kp.rf _ _))
theorem k_placeByBloc {V : Vw} {R : Ru} {z set s : Nat} (C : CardIs M 1 V) (O : VOK V) (hz : ZSh z) (hz15 : z + 3 < 5 ∨ 23 < z) (HZ : SchIs M z R) (OR : RuOK R) (hset : set < 128) (hs : s < vm V) (kk : ∀ M', Kp M M' [5, 6, 7, 8, 20, 22, 23] → Q (some (.int (nI (plB V R set s)))) M') : Ca 114 [.ref 0, .ref z, .int (nI set), .int (nI s)] M Q := by
  have h4 := O.2.2.2.1
  have hL := O.2.2.2.2.1
  have hk : q_cd 114 = kd_X8_placeByBloc := rfl
  show WP 114 0 [some (.ref 0), some (.ref z), some (.int (nI set)), some (.int (nI s))] [] M Q
  repeat (first | refine wp_s hk rfl rfl ?_ | refine wp_goto hk rfl ?_ | refine wp_geti hk rfl rfl rfl rfl ?_ | refine wp_getr hk rfl rfl rfl rfl ?_)
  refine wp_callV hk rfl rfl rfl rfl rfl rfl ?_
  refine c_copyFrom CSh5 CSh1 (Or.inr (by omega)) C (fun M1 K1 C1 => ?_)
  repeat (first | refine wp_s hk rfl rfl ?_ | refine wp_goto hk rfl ?_ | refine wp_geti hk rfl rfl rfl rfl ?_ | refine wp_getr hk rfl rfl rfl rfl ?_)
  refine wp_callV hk rfl rfl rfl rfl rfl rfl ?_
  refine c_favour CSh5 C1 O hset (by omega) (fun M2 K2 C2 => ?_)
  have O2 : VOK (setK (setL V (anW (vL V) set)) (mkB (vk V) (vn V) (vm V) set s)) := (O.setL (q_an _ hL _ hset).2).setK (mkB_le O)
  have Z2 : SchIs M2 z R := (HZ.kp K1 (by simp; omega) (by simp; omega) (by simp; omega) (by simp; omega)).kp K2 (by simp; omega) (by simp; omega) (by simp; omega) (by simp; omega)
  repeat (first | refine wp_s hk rfl rfl ?_ | refine wp_goto hk rfl ?_ | refine wp_geti hk rfl rfl rfl rfl ?_ | refine wp_getr hk rfl rfl rfl rfl ?_)
  refine wp_callV hk rfl rfl rfl rfl rfl rfl ?_
  refine t_take CSh5 TSh20 hz (by omega) (by omega) C2 O2 Z2 OR (fun M3 K3 W3 => ?_)
  rw [vc_B] at W3
  repeat (first | refine wp_s hk rfl rfl ?_ | refine wp_goto hk rfl ?_ | refine wp_geti hk rfl rfl rfl rfl ?_ | refine wp_getr hk rfl rfl rfl rfl ?_)
  refine wp_callV hk rfl rfl rfl rfl rfl rfl ?_
  refine t_placeOf TSh20 W3 hs ?_
  exact wp_ir hk rfl rfl (kk M3 ((K1.mono (by decide)).tr ((K2.mono (by decide)).tr (K3.mono (by decide)))))
theorem k_bloc {a b c : Int32} (I : ClsInv M S) (O : StOK S) (kk : ∀ M', Kp M M' scr → Q (some (.int (spBloc S a b c))) M') : Ca 115 [.ref 0, .int a, .int b, .int c] M Q := by
  have h4 := O.1.2.2.2.1
  have h7 := O.1.2.1
  have h128 := pow_n h7
  unfold spBloc at kk
  have hk : q_cd 115 = kd_X8_bloc := rfl
  show WP 115 0 [some (.ref 0), some (.int a), some (.int b), some (.int c)] [] M Q
  have no : (isN a 3 && isN c (vm (sV S))) = false → WP 115 9 [some (.ref 0), some (.int a), some (.int b), some (.int c)] [] M Q := by
    intro h
    rw [h] at kk
    repeat (first | refine wp_s hk rfl rfl ?_ | refine wp_goto hk rfl ?_ | refine wp_geti hk rfl rfl rfl rfl ?_ | refine wp_getr hk rfl rfl rfl rfl ?_)
    exact wp_ir hk rfl rfl (kk M (Kp.rf _ _))
  repeat (first | refine wp_s hk rfl rfl ?_ | refine wp_goto hk rfl ?_ | refine wp_geti hk rfl rfl rfl rfl ?_ | refine wp_getr hk rfl rfl rfl rfl ?_)
  refine wp_callV hk rfl rfl rfl rfl rfl rfl ?_
  refine k_isRule ?_
  refine wp_ifeqB hk rfl rfl (fun h => no (by rw [h]; rfl)) (fun ha => ?_)
  repeat (first | refine wp_s hk rfl rfl ?_ | refine wp_goto hk rfl ?_ | refine wp_geti hk rfl rfl rfl rfl ?_ | refine wp_getr hk rfl rfl rfl rfl ?_)
  refine wp_callV hk rfl rfl rfl rfl rfl rfl ?_
  refine c_hasSkater CSh1 I.1 ?_
  refine wp_ifneB hk rfl rfl (fun hc => ?_) (fun h => no (by rw [h, Bool.and_false]))
  simp only [ha, hc, Bool.and_self, if_true] at kk
  repeat (first | refine wp_s hk rfl rfl ?_ | refine wp_goto hk rfl ?_ | refine wp_geti hk rfl rfl rfl rfl ?_ | refine wp_getr hk rfl rfl rfl rfl ?_)
  refine wp_callV hk rfl rfl rfl rfl rfl rfl ?_
  refine k_isSet I.1 h7 ?_
  refine wp_ifneB hk rfl rfl (fun hb => ?_) (fun h => ?_)
  · rw [if_pos hb] at kk
    obtain ⟨ha1, ha2⟩ := i2n_of (by omega) ha
    obtain ⟨hb1, hb2⟩ := i2n_of (by omega) hb
    obtain ⟨hc1, hc2⟩ := i2n_of (by omega) hc
    rw [ha2, hb2, hc2]
    generalize i2n a = r at ha1 kk ⊢
    generalize i2n b = set at hb1 kk ⊢
    generalize i2n c = s at hc1 kk ⊢
    repeat (first | refine wp_s hk rfl rfl ?_ | refine wp_goto hk rfl ?_ | refine wp_geti hk rfl rfl rfl rfl ?_ | refine wp_getr hk rfl rfl rfl rfl ?_)
    refine wp_qld (jx := r) hk rfl rfl rfl rfl (zcs_at r ha1) (by decide) ?_
    repeat (first | refine wp_s hk rfl rfl ?_ | refine wp_goto hk rfl ?_ | refine wp_geti hk rfl rfl rfl rfl ?_ | refine wp_getr hk rfl rfl rfl rfl ?_)
    refine wp_callV hk rfl rfl rfl rfl rfl rfl ?_
    refine k_placeByBloc I.1 O.1 (ZShR r ha1) (Or.inr (by omega)) (I.2.2.1 r ha1) (O.2.2.1 r ha1) (by omega) hc1 (fun M1 K1 => ?_)
    exact wp_ir hk rfl rfl (kk M1 (K1.mono (by decide)))
  · rw [h] at kk
    repeat (first | refine wp_s hk rfl rfl ?_ | refine wp_goto hk rfl ?_ | refine wp_geti hk rfl rfl rfl rfl ?_ | refine wp_getr hk rfl rfl rfl rfl ?_)
    exact wp_ir hk rfl rfl (kk M (Kp.rf _ _))
theorem k_few {a b c : Int32} (I : ClsInv M S) (O : StOK S) (kk : ∀ M', Kp M M' scr → Q (some (.int (spFew S a b c))) M') : Ca 116 [.ref 0, .int a, .int b, .int c] M Q := by
  have h4 := O.1.2.2.2.1
  have h7 := O.1.2.1
  have h128 := pow_n h7
  unfold spFew at kk
  have hk : q_cd 116 = kd_X8_few := rfl
  show WP 116 0 [some (.ref 0), some (.int a), some (.int b), some (.int c), none, none, none, none] [] M Q
  have no : (isN a 3 && isN b (vm (sV S))) = false → WP 116 9 [some (.ref 0), some (.int a), some (.int b), some (.int c), none, none, none, none] [] M Q := by
    intro h
    rw [h] at kk
    repeat (first | refine wp_s hk rfl rfl ?_ | refine wp_goto hk rfl ?_ | refine wp_geti hk rfl rfl rfl rfl ?_ | refine wp_getr hk rfl rfl rfl rfl ?_)
    exact wp_ir hk rfl rfl (kk M (Kp.rf _ _))
  repeat (first | refine wp_s hk rfl rfl ?_ | refine wp_goto hk rfl ?_ | refine wp_geti hk rfl rfl rfl rfl ?_ | refine wp_getr hk rfl rfl rfl rfl ?_)
  refine wp_callV hk rfl rfl rfl rfl rfl rfl ?_
  refine k_isRule ?_
  refine wp_ifeqB hk rfl rfl (fun h => no (by rw [h]; rfl)) (fun ha => ?_)
  repeat (first | refine wp_s hk rfl rfl ?_ | refine wp_goto hk rfl ?_ | refine wp_geti hk rfl rfl rfl rfl ?_ | refine wp_getr hk rfl rfl rfl rfl ?_)
  refine wp_callV hk rfl rfl rfl rfl rfl rfl ?_
  refine c_hasSkater CSh1 I.1 ?_
  refine wp_ifneB hk rfl rfl (fun hb => ?_) (fun h => no (by rw [h, Bool.and_false]))
  simp only [ha, hb, Bool.and_self, if_true] at kk
  have bad : isR c 1 4 = false → WP 116 17 [some (.ref 0), some (.int a), some (.int b), some (.int c), none, none, none, none] [] M Q := by
    intro h
    rw [h] at kk
    repeat (first | refine wp_s hk rfl rfl ?_ | refine wp_goto hk rfl ?_ | refine wp_geti hk rfl rfl rfl rfl ?_ | refine wp_getr hk rfl rfl rfl rfl ?_)
    exact wp_ir hk rfl rfl (kk M (Kp.rf _ _))
  repeat (first | refine wp_s hk rfl rfl ?_ | refine wp_goto hk rfl ?_ | refine wp_geti hk rfl rfl rfl rfl ?_ | refine wp_getr hk rfl rfl rfl rfl ?_)
  refine wp_iclt hk rfl (fun g => bad (isR_lo (lo := 1) g)) (fun g1 => ?_)
  repeat (first | refine wp_s hk rfl rfl ?_ | refine wp_goto hk rfl ?_ | refine wp_geti hk rfl rfl rfl rfl ?_ | refine wp_getr hk rfl rfl rfl rfl ?_)
  refine wp_icle hk rfl (fun g2 => ?_) (fun g => bad (isR_hi (hi := 4) (Int32.not_le.mp g)))
  have hc := isR_in (lo := 1) (hi := 4) g1 g2
  rw [if_pos hc] at kk
  obtain ⟨hc0, hc1, hc2⟩ := isR_of (by omega) (by omega) hc
  obtain ⟨ha1, ha2⟩ := i2n_of (by omega) ha
  obtain ⟨hb1, hb2⟩ := i2n_of (by omega) hb
  rw [ha2, hb2, hc2]
  generalize i2n a = r at ha1 kk ⊢
  generalize i2n b = s at hb1 kk ⊢
  generalize i2n c = p at hc0 hc1 kk ⊢
  obtain ⟨ok, hok⟩ : ∃ ok : Nat → Bool, ok = fun set => decide (plB (sV S) (sR S r) set s ≤ p) := ⟨_, rfl⟩
  rw [← hok] at kk
  have loop := q_dn (n := 2 ^ vn (sV S)) (P := fun x => ∀ M1 x7, Kp M M1 scr → WP 116 25 [some (.ref 0), some (.int (nI r)), some (.int (nI s)), some (.int (nI p)), some (.int (fwV (fwW ok x))), some (.int (nI (fwS (fwW ok x)))), some (.int (nI x)), x7] [] M1 Q) (by
    intro M1 x7 K1
    have I1 := I.kp O K1
    repeat (first | refine wp_s hk rfl rfl ?_ | refine wp_goto hk rfl ?_ | refine wp_geti hk rfl rfl rfl rfl ?_ | refine wp_getr hk rfl rfl rfl rfl ?_)
    refine wp_callV hk rfl rfl rfl rfl rfl rfl ?_
    refine c_judgeSets CSh1 I1.1 h7 ?_
    refine wp_icgeN (u := 2 ^ vn (sV S)) (v := 2 ^ vn (sV S)) hk rfl rfl rfl (by omega) (by omega) (fun _ => ?_) (fun h => absurd h (by omega))
    repeat (first | refine wp_s hk rfl rfl ?_ | refine wp_goto hk rfl ?_ | refine wp_geti hk rfl rfl rfl rfl ?_ | refine wp_getr hk rfl rfl rfl rfl ?_)
    exact wp_ir hk rfl rfl (kk M1 K1)) (by
    intro x hx ih M1 x7 K1
    have I1 := I.kp O K1
    have l1 := fwS_le (fwW ok x)
    have l2 := popW_le x
    have skip : ∀ M2, Kp M M2 scr → (¬ popW x < fwS (fwW ok x) ∨ ok x = false) → WP 116 50 [some (.ref 0), some (.int (nI r)), some (.int (nI s)), some (.int (nI p)), some (.int (fwV (fwW ok x))), some (.int (nI (fwS (fwW ok x)))), some (.int (nI x)), some (.int (nI (popW x)))] [] M2 Q := by
      intro M2 K2 h
      rw [fwW_no h] at ih
      refine wp_s hk rfl rfl ?_
      refine wp_goto hk rfl ?_
      rw [q_nadd x 1]
      exact ih M2 _ K2
    repeat (first | refine wp_s hk rfl rfl ?_ | refine wp_goto hk rfl ?_ | refine wp_geti hk rfl rfl rfl rfl ?_ | refine wp_getr hk rfl rfl rfl rfl ?_)
    refine wp_callV hk rfl rfl rfl rfl rfl rfl ?_
    refine c_judgeSets CSh1 I1.1 h7 ?_
    refine wp_icgeN (u := x) (v := 2 ^ vn (sV S)) hk rfl rfl rfl (by omega) (by omega) (fun h => absurd h (by omega)) (fun _ => ?_)
    repeat (first | refine wp_s hk rfl rfl ?_ | refine wp_goto hk rfl ?_ | refine wp_geti hk rfl rfl rfl rfl ?_ | refine wp_getr hk rfl rfl rfl rfl ?_)
    refine wp_callS hk rfl rfl rfl rfl ?_
    refine c_bitCount (by omega) ?_
    repeat (first | refine wp_s hk rfl rfl ?_ | refine wp_goto hk rfl ?_ | refine wp_geti hk rfl rfl rfl rfl ?_ | refine wp_getr hk rfl rfl rfl rfl ?_)
    refine wp_icgeN (u := popW x) (v := fwS (fwW ok x)) hk rfl rfl rfl (by omega) (by omega) (fun y => skip M1 K1 (Or.inl (by omega))) (fun y => ?_)
    repeat (first | refine wp_s hk rfl rfl ?_ | refine wp_goto hk rfl ?_ | refine wp_geti hk rfl rfl rfl rfl ?_ | refine wp_getr hk rfl rfl rfl rfl ?_)
    refine wp_qld (jx := r) hk rfl rfl rfl rfl (zcs_at r ha1) (by decide) ?_
    repeat (first | refine wp_s hk rfl rfl ?_ | refine wp_goto hk rfl ?_ | refine wp_geti hk rfl rfl rfl rfl ?_ | refine wp_getr hk rfl rfl rfl rfl ?_)
    refine wp_callV hk rfl rfl rfl rfl rfl rfl ?_
    refine k_placeByBloc I1.1 O.1 (ZShR r ha1) (Or.inr (by omega)) (I1.2.2.1 r ha1) (O.2.2.1 r ha1) (by omega) hb1 (fun M2 K2 => ?_)
    have K12 : Kp M M2 scr := K1.tr (K2.mono (by decide))
    have l3 : plB (sV S) (sR S r) x s ≤ vm (sV S) := placeW_m hb1
    repeat (first | refine wp_s hk rfl rfl ?_ | refine wp_goto hk rfl ?_ | refine wp_geti hk rfl rfl rfl rfl ?_ | refine wp_getr hk rfl rfl rfl rfl ?_)
    refine wp_icgtN (u := plB (sV S) (sR S r) x s) (v := p) hk rfl rfl rfl (by omega) (by omega) (fun w => skip M2 K12 (Or.inr (by rw [hok]; exact decide_eq_false (by omega)))) (fun w => ?_)
    rw [fwW_yes (by omega) (by rw [hok]; exact decide_eq_true (by omega))] at ih
    refine wp_s hk rfl rfl ?_
    refine wp_s hk rfl rfl ?_
    refine wp_s hk rfl rfl ?_
    refine wp_s hk rfl rfl ?_
    refine wp_s hk rfl rfl ?_
    refine wp_goto hk rfl ?_
    rw [q_nadd x 1]
    exact ih M2 _ K12)
  refine wp_s hk rfl rfl ?_
  refine wp_s hk rfl rfl ?_
  refine wp_s hk rfl rfl ?_
  refine wp_s hk rfl rfl ?_
  refine wp_s hk rfl rfl ?_
  refine wp_s hk rfl rfl ?_
  exact loop 0 (Nat.zero_le _) M _ (Kp.rf _ _)
end PUB6
