theorem RefV.c' {M : MM} {n m : Nat} {cnt : Nat → Bool} {mk : Nat → Nat → Nat} {j : Nat} {x : Int32} (H : RefV M n m cnt mk) (hj : j < 7) (b : Bool) (hx : x = nI (b2n b)) : RefV (q_up M 89 (upd (M 89) j x)) n m (cntM cnt j b) mk := by
  rw [hx]; exact H.c hj
def cntD (V : Vw) (set : Nat) : Nat → Bool := fun j => if j < vn V then bt set j else vc V j
def drOk (V : Vw) (k set : Nat) : Bool := decide (popW set = k) && !anyN (fun j => bt set j && !vc V j) (vn V)
def drW (V : Vw) (R : Ru) (k s : Nat) : Nat := sumN (fun set => if (drOk V k set && decide (firstW (worthW (vn V) (vm V) (cntD V set) (vk V) R) R.1 (vm V) (vm V) = 2 ^ s)) = true then 1 else 0) (2 ^ vn V)
def spDrawn (S : St) (a b c : Int32) : Int32 := if isN a 3 && isN b (vm (sV S)) then (if isR c 1 (vn (sV S)) then nI (drW (sV S) (sR S (i2n a)) (i2n c) (i2n b)) else BAD) else UNK
theorem m_drawn {M : MM} {S : St} {a b c : Int32} {Q : Option Value → MM → Prop} (I : RefInv M S) (O : StOK S) (kk : ∀ M', RFr M M' → Q (some (.int (spDrawn S a b c))) M') : Ca 184 [.ref 83, .int a, .int b, .int c] M Q := by
  have hk : q_cd 184 = kd_X9_drawn := rfl
  show WP 184 0 [some (.ref 83), some (.int a), some (.int b), some (.int c), none, none, none, none, none] [] M Q
  have ho4 := O.1.2.2.2.1
  have ho7 := O.1.2.1
  have hp := pow_n ho7
  repeat (first | refine wp_s hk rfl rfl ?_ | refine wp_goto hk rfl ?_ | refine wp_geti hk rfl rfl rfl rfl ?_ | refine wp_getr hk rfl rfl rfl rfl ?_)
  refine wp_th hk rfl (fun M0 F0 => ?_)
  have I0 := I.fr O F0
  repeat (first | refine wp_s hk rfl rfl ?_ | refine wp_goto hk rfl ?_ | refine wp_geti hk rfl rfl rfl rfl ?_ | refine wp_getr hk rfl rfl rfl rfl ?_)
  refine wp_callS hk rfl rfl rfl rfl ?_
  refine m_noRule ?_
  refine wp_ifneB (u := !isN a 3) hk rfl rfl (fun h => ?_) (fun h => ?_)
  · have h' : isN a 3 = false := by simpa using h
    repeat (first | refine wp_s hk rfl rfl ?_ | refine wp_goto hk rfl ?_ | refine wp_geti hk rfl rfl rfl rfl ?_ | refine wp_getr hk rfl rfl rfl rfl ?_)
    refine wp_ir hk rfl rfl ?_
    have hkk := kk M0 F0
    simp only [spDrawn, h', Bool.and_self, Bool.true_and, Bool.and_true, Bool.false_and, Bool.and_false, if_true, Bool.false_eq_true, if_false, Bool.not_true, Bool.not_false] at hkk
    exact hkk
  have h' : isN a 3 = true := by simpa using h
  repeat (first | refine wp_s hk rfl rfl ?_ | refine wp_goto hk rfl ?_ | refine wp_geti hk rfl rfl rfl rfl ?_ | refine wp_getr hk rfl rfl rfl rfl ?_)
  refine wp_callV hk rfl rfl rfl rfl rfl rfl ?_
  refine m_noSkater I0.1.2.1 O.1.2.2.1 (by omega) ?_
  refine wp_ifeqB (u := !isN b (vm (sV S))) hk rfl rfl (fun k => ?_) (fun k => ?_)
  · have k' : isN b (vm (sV S)) = true := by simpa using k
    repeat (first | refine wp_s hk rfl rfl ?_ | refine wp_goto hk rfl ?_ | refine wp_geti hk rfl rfl rfl rfl ?_ | refine wp_getr hk rfl rfl rfl rfl ?_)
    rw [I0.1.1]
    refine wp_callS hk rfl rfl rfl rfl ?_
    refine m_in ?_
    refine wp_ifneB (u := isR c 1 (vn (sV S))) hk rfl (congrArg (fun z => nI (b2n z)) (q_in64v (by omega) (by omega))) (fun f => ?_) (fun f => ?_)
    · obtain ⟨hr, ea⟩ := i2n_of (by omega) h'
      obtain ⟨hs, eb⟩ := i2n_of (by omega) k'
      obtain ⟨hc1, hc4, ec⟩ := isR_of (by omega) (by omega) f
      rw [ea, eb, ec]
      have hkk := fun M' F => kk M' F
      simp only [spDrawn, h', k', f, Bool.and_self, if_true] at hkk
      unfold drW at hkk
      repeat (first | refine wp_s hk rfl rfl ?_ | refine wp_goto hk rfl ?_ | refine wp_geti hk rfl rfl rfl rfl ?_ | refine wp_getr hk rfl rfl rfl rfl ?_)
      have loop := q_dn (n := 2 ^ vn (sV S)) (P := fun x => ∀ M1 x6 x7 x8, Kp M0 M1 [88, 89, 98, 99] → WP 184 31 [some (.ref 83), some (.int (nI (i2n a))), some (.int (nI (i2n b))), some (.int (nI (i2n c))), some (.int (nI (sumN (fun set => if (drOk (sV S) (i2n c) set && decide (firstW (worthW (vn (sV S)) (vm (sV S)) (cntD (sV S) set) (vk (sV S)) (sR S (i2n a))) (sR S (i2n a)).1 (vm (sV S)) (vm (sV S)) = 2 ^ (i2n b))) = true then 1 else 0) x))), some (.int (nI x)), x6, x7, x8] [.int (nI 1 <<< (M1 83 1 &&& 31)), .int (nI x)] M1 Q) (by
        intro M1 x6 x7 x8 K1
        have I1 := I0.1.kp K1 (by decide) (by decide) (by decide) (by decide) (by decide)
        rw [I1.1, q_shl1 _ (by omega)]
        refine wp_icgeN hk rfl rfl rfl (by first | omega | decide) (by first | omega | decide) (fun _ => ?_) (fun h => absurd h (by omega))
        repeat (first | refine wp_s hk rfl rfl ?_ | refine wp_goto hk rfl ?_ | refine wp_geti hk rfl rfl rfl rfl ?_ | refine wp_getr hk rfl rfl rfl rfl ?_)
        exact wp_ir hk rfl rfl (hkk M1 (F0.tr (RFr.kp K1)))) (by
        intro x hx ih M1 x6 x7 x8 K1
        have I1 := I0.1.kp K1 (by decide) (by decide) (by decide) (by decide) (by decide)
        have R1 := (I0.2.2.1.1 _ hr).kp K1 (by decide) (by decide) (by decide) (by decide)
        rw [I1.1, q_shl1 _ (by omega)]
        refine wp_icgeN hk rfl rfl rfl (by first | omega | decide) (by first | omega | decide) (fun h => absurd h (by omega)) (fun _ => ?_)
        simp only [sumN] at ih
        repeat (first | refine wp_s hk rfl rfl ?_ | refine wp_goto hk rfl ?_ | refine wp_geti hk rfl rfl rfl rfl ?_ | refine wp_getr hk rfl rfl rfl rfl ?_)
        refine wp_callV hk rfl rfl rfl rfl rfl rfl ?_
        refine m_take I1 O.1 (fun M2 K2 V2 => ?_)
        have K12 : Kp M0 M2 [88, 89, 98, 99] := K1.tr (K2.mono (by decide))
        repeat (first | refine wp_s hk rfl rfl ?_ | refine wp_goto hk rfl ?_ | refine wp_geti hk rfl rfl rfl rfl ?_ | refine wp_getr hk rfl rfl rfl rfl ?_)
        refine wp_callS hk rfl rfl rfl rfl ?_
        refine m_many (by omega) ?_
        have lpop := popW_le x
        generalize (sumN (fun set => if (drOk (sV S) (i2n c) set && decide (firstW (worthW (vn (sV S)) (vm (sV S)) (cntD (sV S) set) (vk (sV S)) (sR S (i2n a))) (sR S (i2n a)).1 (vm (sV S)) (vm (sV S)) = 2 ^ (i2n b))) = true then 1 else 0) x) = acc at ih ⊢
        have inner := q_dn (n := vn (sV S)) (P := fun j => ∀ M3 x8, Kp M0 M3 [88, 89, 98, 99] → RefV M3 (vn (sV S)) (vm (sV S)) (fun j' => if j' < j then bt x j' else vc (sV S) j') (vk (sV S)) → WP 184 47 [some (.ref 83), some (.int (nI (i2n a))), some (.int (nI (i2n b))), some (.int (nI (i2n c))), some (.int (nI acc)), some (.int (nI x)), some (.int (nI (b2n (decide (popW x = i2n c) && !anyN (fun j => bt x j && !vc (sV S) j) j)))), some (.int (nI j)), x8] [.int (M3 83 1), .int (nI j)] M3 Q) (by
          intro M3 x8 K3 V3
          refine wp_icgeN hk rfl rfl V3.1 (by first | omega | decide) (by first | omega | decide) (fun _ => ?_) (fun h => absurd h (by omega))
          repeat (first | refine wp_s hk rfl rfl ?_ | refine wp_goto hk rfl ?_ | refine wp_geti hk rfl rfl rfl rfl ?_ | refine wp_getr hk rfl rfl rfl rfl ?_)
          refine wp_ifeqB hk rfl rfl (fun g => ?_) (fun g => ?_)
          · have := ih M3 (some (.int (nI (b2n (decide (popW x = i2n c) && !anyN (fun j => bt x j && !vc (sV S) j) (vn (sV S))))))) (some (.int (nI (vn (sV S))))) x8 K3
            rw [if_neg (by rw [show drOk (sV S) (i2n c) x = false from g, Bool.false_and]; exact Bool.false_ne_true)] at this
            repeat (first | refine wp_s hk rfl rfl ?_ | refine wp_goto hk rfl ?_ | refine wp_geti hk rfl rfl rfl rfl ?_ | refine wp_getr hk rfl rfl rfl rfl ?_)
            rw [q_nadd x 1]
            exact this
          · have R3 := (I0.2.2.1.1 _ hr).kp K3 (by decide) (by decide) (by decide) (by decide)
            repeat (first | refine wp_s hk rfl rfl ?_ | refine wp_goto hk rfl ?_ | refine wp_geti hk rfl rfl rfl rfl ?_ | refine wp_getr hk rfl rfl rfl rfl ?_)
            refine wp_callV hk rfl rfl rfl rfl rfl rfl ?_
            refine m_lay V3 (by omega) R3 (O.2.2.1 _ hr) (fun M4 K4 W4 => ?_)
            repeat (first | refine wp_s hk rfl rfl ?_ | refine wp_goto hk rfl ?_ | refine wp_geti hk rfl rfl rfl rfl ?_ | refine wp_getr hk rfl rfl rfl rfl ?_)
            refine wp_callV hk rfl rfl rfl rfl rfl rfl ?_
            refine m_firsts W4 (by omega) ?_
            have hfl := firstW_lt (w := worthW (vn (sV S)) (vm (sV S)) (cntD (sV S) x) (vk (sV S)) (sR S (i2n a))) (parts := (sR S (i2n a)).1) (m := vm (sV S)) (s := vm (sV S)) ho4
            have h16 : 2 ^ vm (sV S) ≤ 2 ^ 4 := Nat.pow_le_pow_right (by omega) ho4
            have h17 : 2 ^ (i2n b) ≤ 2 ^ 3 := Nat.pow_le_pow_right (by omega) (by omega)
            have := ih M4 (some (.int (nI (b2n (decide (popW x = i2n c) && !anyN (fun j => bt x j && !vc (sV S) j) (vn (sV S))))))) (some (.int (nI (vn (sV S))))) x8 (K3.tr (K4.mono (by decide)))
            simp only [show drOk (sV S) (i2n c) x = true from g, Bool.true_and, decide_eq_true_eq] at this
            change RefW M4 _ _ _ (worthW _ _ (cntD (sV S) x) _ _) at W4
            repeat (first | refine wp_s hk rfl rfl ?_ | refine wp_goto hk rfl ?_ | refine wp_geti hk rfl rfl rfl rfl ?_ | refine wp_getr hk rfl rfl rfl rfl ?_)
            rw [q_shl1 (i2n b) (by omega)]
            refine wp_icneN (u := firstW (worthW (vn (sV S)) (vm (sV S)) (cntD (sV S) x) (vk (sV S)) (sR S (i2n a))) (sR S (i2n a)).1 (vm (sV S)) (vm (sV S))) (v := 2 ^ (i2n b)) hk rfl rfl rfl (by omega) (by omega) (fun e => ?_) (fun e => ?_)
            · rw [if_neg e] at this
              repeat (first | refine wp_s hk rfl rfl ?_ | refine wp_goto hk rfl ?_ | refine wp_geti hk rfl rfl rfl rfl ?_ | refine wp_getr hk rfl rfl rfl rfl ?_)
              rw [q_nadd x 1, q_nadd]
              exact this
            · rw [if_pos (Classical.not_not.mp e)] at this
              repeat (first | refine wp_s hk rfl rfl ?_ | refine wp_goto hk rfl ?_ | refine wp_geti hk rfl rfl rfl rfl ?_ | refine wp_getr hk rfl rfl rfl rfl ?_)
              rw [q_nadd x 1, q_nadd]
              exact this) (by
          intro j hj ihj M3 x8 K3 V3
          refine wp_icgeN hk rfl rfl V3.1 (by first | omega | decide) (by first | omega | decide) (fun h => absurd h (by omega)) (fun _ => ?_)
          have hb2 := q_bitc (set := x) (j := j)
          have cont : ∀ d, d = bt x j → ∀ x8, WP 184 58 [some (.ref 83), some (.int (nI (i2n a))), some (.int (nI (i2n b))), some (.int (nI (i2n c))), some (.int (nI acc)), some (.int (nI x)), some (.int (nI (b2n (decide (popW x = i2n c) && !anyN (fun j => bt x j && !vc (sV S) j) j)))), some (.int (nI j)), x8] [.int (nI (b2n d))] M3 Q := by
            intro d hd x8
            simp only [anyN] at ihj
            have cont2 : ∀ z, z = (decide (popW x = i2n c) && !(anyN (fun j => bt x j && !vc (sV S) j) j || (bt x j && !vc (sV S) j))) → ∀ x6, WP 184 71 [some (.ref 83), some (.int (nI (i2n a))), some (.int (nI (i2n b))), some (.int (nI (i2n c))), some (.int (nI acc)), some (.int (nI x)), x6, some (.int (nI j)), some (.int (nI (b2n d)))] [.int (nI (b2n z))] M3 Q := by
              intro z hz x6
              repeat (first | refine wp_s hk rfl rfl ?_ | refine wp_goto hk rfl ?_ | refine wp_geti hk rfl rfl rfl rfl ?_ | refine wp_getr hk rfl rfl rfl rfl ?_)
              refine wp_bst (jx := j) hk rfl rfl rfl (by omega) (by cases d <;> decide) ?_
              repeat (first | refine wp_s hk rfl rfl ?_ | refine wp_goto hk rfl ?_ | refine wp_geti hk rfl rfl rfl rfl ?_ | refine wp_getr hk rfl rfl rfl rfl ?_)
              rw [q_nadd j 1, hz]
              refine ihj _ _ (K3.up (by decide)) ((V3.c' (j := j) (by omega) d rfl).cg (fun j' hj' => ?_) (fun _ _ _ _ => rfl))
              simp only [cntM]
              by_cases e : j' = j
              · subst e; rw [if_pos rfl, if_pos (by omega), hd]
              · rw [if_neg e]
                by_cases e2 : j' < j
                · rw [if_pos e2, if_pos (by omega)]
                · rw [if_neg e2, if_neg (by omega)]
            repeat (first | refine wp_s hk rfl rfl ?_ | refine wp_goto hk rfl ?_ | refine wp_geti hk rfl rfl rfl rfl ?_ | refine wp_getr hk rfl rfl rfl rfl ?_)
            refine wp_ifeqB hk rfl rfl (fun g => ?_) (fun g => ?_)
            · refine wp_s hk rfl rfl ?_
              refine cont2 false ?_ _
              cases hp1 : decide (popW x = i2n c) with
              | false => rfl
              | true =>
                rw [hp1, Bool.true_and] at g
                rw [show anyN (fun j => bt x j && !vc (sV S) j) j = true by simpa using g]
                rfl
            · rw [Bool.and_eq_true] at g
              have g2 : anyN (fun j => bt x j && !vc (sV S) j) j = false := by simpa using g.2
              rw [g.1, g2] at cont2
              simp only [Bool.true_and, Bool.false_or] at cont2
              repeat (first | refine wp_s hk rfl rfl ?_ | refine wp_goto hk rfl ?_ | refine wp_geti hk rfl rfl rfl rfl ?_ | refine wp_getr hk rfl rfl rfl rfl ?_)
              refine wp_ifeqB hk rfl rfl (fun q => ?_) (fun q => ?_)
              · refine wp_s hk rfl rfl ?_
                refine wp_goto hk rfl ?_
                exact cont2 true (by rw [← hd, q]; rfl) _
              · repeat (first | refine wp_s hk rfl rfl ?_ | refine wp_goto hk rfl ?_ | refine wp_geti hk rfl rfl rfl rfl ?_ | refine wp_getr hk rfl rfl rfl rfl ?_)
                refine wp_bld (jx := j) hk rfl rfl rfl (by omega) ?_
                have hcj := V3.2.2.2.2.1 j (by omega)
                simp only [Nat.lt_irrefl, if_false] at hcj
                refine wp_ifeqB hk rfl hcj (fun q2 => ?_) (fun q2 => ?_)
                · refine wp_s hk rfl rfl ?_
                  exact cont2 false (by rw [← hd, q, q2]; rfl) _
                · refine wp_s hk rfl rfl ?_
                  refine wp_goto hk rfl ?_
                  exact cont2 true (by rw [← hd, q, q2]; rfl) _
          repeat (first | refine wp_s hk rfl rfl ?_ | refine wp_goto hk rfl ?_ | refine wp_geti hk rfl rfl rfl rfl ?_ | refine wp_getr hk rfl rfl rfl rfl ?_)
          rw [q_bit x (by omega) j (by omega)]
          refine wp_icneN (u := x / 2 ^ j % 2) (v := 1) hk rfl rfl rfl (by omega) (by omega) (fun g => ?_) (fun g => ?_)
          · refine wp_s hk rfl rfl ?_
            exact cont false (decide_eq_false g).symm _
          · refine wp_s hk rfl rfl ?_
            refine wp_goto hk rfl ?_
            exact cont true (decide_eq_true (Classical.not_not.mp g)).symm _)
        have start : ∀ z, z = decide (popW x = i2n c) → ∀ x6 x7 x8, WP 184 41 [some (.ref 83), some (.int (nI (i2n a))), some (.int (nI (i2n b))), some (.int (nI (i2n c))), some (.int (nI acc)), some (.int (nI x)), x6, x7, x8] [.int (nI (b2n z))] M2 Q := by
          intro z hz x6 x7 x8
          repeat (first | refine wp_s hk rfl rfl ?_ | refine wp_goto hk rfl ?_ | refine wp_geti hk rfl rfl rfl rfl ?_ | refine wp_getr hk rfl rfl rfl rfl ?_)
          have := inner 0 (Nat.zero_le _) M2 x8 K12 (V2.cg (fun _ _ => by simp only [Nat.not_lt_zero, if_false]) (fun _ _ _ _ => rfl))
          simp only [anyN, Bool.not_false, Bool.and_true] at this
          rw [hz]
          exact this
        repeat (first | refine wp_s hk rfl rfl ?_ | refine wp_goto hk rfl ?_ | refine wp_geti hk rfl rfl rfl rfl ?_ | refine wp_getr hk rfl rfl rfl rfl ?_)
        refine wp_icneN (u := popW x) (v := i2n c) hk rfl rfl rfl (by omega) (by omega) (fun g => ?_) (fun g => ?_)
        · refine wp_s hk rfl rfl ?_
          exact start false (decide_eq_false g).symm _ _ _
        · refine wp_s hk rfl rfl ?_
          refine wp_goto hk rfl ?_
          exact start true (decide_eq_true (Classical.not_not.mp g)).symm _ _ _)
      exact loop 0 (Nat.zero_le _) M0 _ _ _ (Kp.rf _ _)
    · repeat (first | refine wp_s hk rfl rfl ?_ | refine wp_goto hk rfl ?_ | refine wp_geti hk rfl rfl rfl rfl ?_ | refine wp_getr hk rfl rfl rfl rfl ?_)
      refine wp_ir hk rfl rfl ?_
      have hkk := kk M0 F0
      simp only [spDrawn, h', k', f, Bool.and_self, Bool.true_and, Bool.and_true, Bool.false_and, Bool.and_false, if_true, Bool.false_eq_true, if_false, Bool.not_true, Bool.not_false] at hkk
      exact hkk
  · have k' : isN b (vm (sV S)) = false := by simpa using k
    repeat (first | refine wp_s hk rfl rfl ?_ | refine wp_goto hk rfl ?_ | refine wp_geti hk rfl rfl rfl rfl ?_ | refine wp_getr hk rfl rfl rfl rfl ?_)
    refine wp_ir hk rfl rfl ?_
    have hkk := kk M0 F0
    simp only [spDrawn, h', k', Bool.and_self, Bool.true_and, Bool.and_true, Bool.false_and, Bool.and_false, if_true, Bool.false_eq_true, if_false, Bool.not_true, Bool.not_false] at hkk
    exact hkk
/-- judges without whom others are first -/
def loW (V : Vw) (R : Ru) : Nat := sumN (fun j => if (vc V j && !decide (firstW (worthW (vn V) (vm V) (cntM (vc V) j false) (vk V) R) R.1 (vm V) (vm V) = firstW (wS V R) R.1 (vm V) (vm V))) = true then 1 else 0) (vn V)
def spLeft (S : St) (a : Int32) : Int32 := if isN a 3 then nI (loW (sV S) (sR S (i2n a))) else UNK
theorem m_leftOut {M : MM} {S : St} {a : Int32} {Q : Option Value → MM → Prop} (I : RefInv M S) (O : StOK S) (kk : ∀ M', RFr M M' → Q (some (.int (spLeft S a))) M') : Ca 185 [.ref 83, .int a] M Q := by
  have hk : q_cd 185 = kd_X9_leftOut := rfl
  show WP 185 0 [some (.ref 83), some (.int a), none, none, none] [] M Q
  have ho4 := O.1.2.2.2.1
  have ho7 := O.1.2.1
  repeat (first | refine wp_s hk rfl rfl ?_ | refine wp_goto hk rfl ?_ | refine wp_geti hk rfl rfl rfl rfl ?_ | refine wp_getr hk rfl rfl rfl rfl ?_)
  refine wp_th hk rfl (fun M0 F0 => ?_)
  have I0 := I.fr O F0
  repeat (first | refine wp_s hk rfl rfl ?_ | refine wp_goto hk rfl ?_ | refine wp_geti hk rfl rfl rfl rfl ?_ | refine wp_getr hk rfl rfl rfl rfl ?_)
  refine wp_callS hk rfl rfl rfl rfl ?_
  refine m_noRule ?_
  refine wp_ifeqB (u := !isN a 3) hk rfl rfl (fun h => ?_) (fun h => ?_)
  · have h' : isN a 3 = true := by simpa using h
    obtain ⟨hr, ea⟩ := i2n_of (by omega) h'
    repeat (first | refine wp_s hk rfl rfl ?_ | refine wp_goto hk rfl ?_ | refine wp_geti hk rfl rfl rfl rfl ?_ | refine wp_getr hk rfl rfl rfl rfl ?_)
    refine wp_callV hk rfl rfl rfl rfl rfl rfl ?_
    refine m_take I0.1 O.1 (fun M1 K1 V1 => ?_)
    have RA := (I0.2.2.1.1 _ hr).kp K1 (by decide) (by decide) (by decide) (by decide)
    repeat (first | refine wp_s hk rfl rfl ?_ | refine wp_goto hk rfl ?_ | refine wp_geti hk rfl rfl rfl rfl ?_ | refine wp_getr hk rfl rfl rfl rfl ?_)
    rw [ea]
    refine wp_callV hk rfl rfl rfl rfl rfl rfl ?_
    refine m_lay V1 (by omega) RA (O.2.2.1 _ hr) (fun M2 K2 W2 => ?_)
    change RefW M2 _ _ _ (wS (sV S) (sR S (i2n a))) at W2
    have K02 : Kp M0 M2 [88, 89, 98, 99] := (K1.mono (by decide)).tr (K2.mono (by decide))
    have V2 := V1.kp K2 (by decide) (by decide) (by decide)
    repeat (first | refine wp_s hk rfl rfl ?_ | refine wp_goto hk rfl ?_ | refine wp_geti hk rfl rfl rfl rfl ?_ | refine wp_getr hk rfl rfl rfl rfl ?_)
    refine wp_callV hk rfl rfl rfl rfl rfl rfl ?_
    refine m_firsts W2 (by omega) ?_
    have hkk := fun M' F => kk M' F
    simp only [spLeft, h', if_true] at hkk
    unfold loW at hkk
    have h16 : 2 ^ vm (sV S) ≤ 2 ^ 4 := Nat.pow_le_pow_right (by omega) ho4
    have hfl := firstW_lt (w := wS (sV S) (sR S (i2n a))) (parts := (sR S (i2n a)).1) (m := vm (sV S)) (s := vm (sV S)) ho4
    generalize firstW (wS (sV S) (sR S (i2n a))) (sR S (i2n a)).1 (vm (sV S)) (vm (sV S)) = ff at hkk hfl ⊢
    repeat (first | refine wp_s hk rfl rfl ?_ | refine wp_goto hk rfl ?_ | refine wp_geti hk rfl rfl rfl rfl ?_ | refine wp_getr hk rfl rfl rfl rfl ?_)
    have loop := q_dn (n := vn (sV S)) (P := fun j => ∀ M3, Kp M0 M3 [88, 89, 98, 99] → RefV M3 (vn (sV S)) (vm (sV S)) (vc (sV S)) (vk (sV S)) → WP 185 24 [some (.ref 83), some (.int (nI (i2n a))), some (.int (nI ff)), some (.int (nI (sumN (fun j => if (vc (sV S) j && !decide (firstW (worthW (vn (sV S)) (vm (sV S)) (cntM (vc (sV S)) j false) (vk (sV S)) (sR S (i2n a))) (sR S (i2n a)).1 (vm (sV S)) (vm (sV S)) = ff)) = true then 1 else 0) j))), some (.int (nI j))] [.int (M3 83 1), .int (nI j)] M3 Q) (by
      intro M3 K3 V3
      refine wp_icgeN hk rfl rfl V3.1 (by first | omega | decide) (by first | omega | decide) (fun _ => ?_) (fun h => absurd h (by omega))
      repeat (first | refine wp_s hk rfl rfl ?_ | refine wp_goto hk rfl ?_ | refine wp_geti hk rfl rfl rfl rfl ?_ | refine wp_getr hk rfl rfl rfl rfl ?_)
      exact wp_ir hk rfl rfl (hkk M3 (F0.tr (RFr.kp K3)))) (by
      intro j hj ih M3 K3 V3
      refine wp_icgeN hk rfl rfl V3.1 (by first | omega | decide) (by first | omega | decide) (fun h => absurd h (by omega)) (fun _ => ?_)
      simp only [sumN] at ih
      repeat (first | refine wp_s hk rfl rfl ?_ | refine wp_goto hk rfl ?_ | refine wp_geti hk rfl rfl rfl rfl ?_ | refine wp_getr hk rfl rfl rfl rfl ?_)
      refine wp_bld (jx := j) hk rfl rfl rfl (by omega) ?_
      refine wp_ifeqB hk rfl (V3.2.2.2.2.1 j (by omega)) (fun g => ?_) (fun g => ?_)
      · have := ih M3 K3 V3
        rw [if_neg (by rw [g, Bool.false_and]; exact Bool.false_ne_true)] at this
        repeat (first | refine wp_s hk rfl rfl ?_ | refine wp_goto hk rfl ?_ | refine wp_geti hk rfl rfl rfl rfl ?_ | refine wp_getr hk rfl rfl rfl rfl ?_)
        rw [q_nadd j 1]
        exact this
      · repeat (first | refine wp_s hk rfl rfl ?_ | refine wp_goto hk rfl ?_ | refine wp_geti hk rfl rfl rfl rfl ?_ | refine wp_getr hk rfl rfl rfl rfl ?_)
        refine wp_bst (jx := j) hk rfl rfl rfl (by omega) (Or.inl (by decide)) ?_
        have V4 := V3.c' (j := j) (x := nI 0) (by omega) false rfl
        have K4 : Kp M0 (q_up M3 89 (upd (M3 89) j (nI 0))) [88, 89, 98, 99] := K3.up (by decide)
        change RefV (q_up M3 89 (upd (M3 89) j (nI 0))) _ _ _ _ at V4
        generalize q_up M3 89 (upd (M3 89) j (nI 0)) = M4 at V4 K4 ⊢
        repeat (first | refine wp_s hk rfl rfl ?_ | refine wp_goto hk rfl ?_ | refine wp_geti hk rfl rfl rfl rfl ?_ | refine wp_getr hk rfl rfl rfl rfl ?_)
        refine wp_callV hk rfl rfl rfl rfl rfl rfl ?_
        refine m_lay V4 (by omega) ((I0.2.2.1.1 _ hr).kp K4 (by decide) (by decide) (by decide) (by decide)) (O.2.2.1 _ hr) (fun M5 K5 W5 => ?_)
        repeat (first | refine wp_s hk rfl rfl ?_ | refine wp_goto hk rfl ?_ | refine wp_geti hk rfl rfl rfl rfl ?_ | refine wp_getr hk rfl rfl rfl rfl ?_)
        refine wp_callV hk rfl rfl rfl rfl rfl rfl ?_
        refine m_firsts W5 (by omega) ?_
        have hfl2 := firstW_lt (w := worthW (vn (sV S)) (vm (sV S)) (cntM (vc (sV S)) j false) (vk (sV S)) (sR S (i2n a))) (parts := (sR S (i2n a)).1) (m := vm (sV S)) (s := vm (sV S)) ho4
        have fin : ∀ z, z = (if (vc (sV S) j && !decide (firstW (worthW (vn (sV S)) (vm (sV S)) (cntM (vc (sV S)) j false) (vk (sV S)) (sR S (i2n a))) (sR S (i2n a)).1 (vm (sV S)) (vm (sV S)) = ff)) = true then 1 else 0) → WP 185 47 [some (.ref 83), some (.int (nI (i2n a))), some (.int (nI ff)), some (.int (nI (sumN (fun j => if (vc (sV S) j && !decide (firstW (worthW (vn (sV S)) (vm (sV S)) (cntM (vc (sV S)) j false) (vk (sV S)) (sR S (i2n a))) (sR S (i2n a)).1 (vm (sV S)) (vm (sV S)) = ff)) = true then 1 else 0) j))), some (.int (nI j))] [.int (nI z), .int (nI (sumN (fun j => if (vc (sV S) j && !decide (firstW (worthW (vn (sV S)) (vm (sV S)) (cntM (vc (sV S)) j false) (vk (sV S)) (sR S (i2n a))) (sR S (i2n a)).1 (vm (sV S)) (vm (sV S)) = ff)) = true then 1 else 0) j))] M5 Q := by
          intro z hz
          repeat (first | refine wp_s hk rfl rfl ?_ | refine wp_goto hk rfl ?_ | refine wp_geti hk rfl rfl rfl rfl ?_ | refine wp_getr hk rfl rfl rfl rfl ?_)
          refine wp_bst (jx := j) hk rfl rfl rfl (by omega) (Or.inr (by decide)) ?_
          repeat (first | refine wp_s hk rfl rfl ?_ | refine wp_goto hk rfl ?_ | refine wp_geti hk rfl rfl rfl rfl ?_ | refine wp_getr hk rfl rfl rfl rfl ?_)
          rw [q_nadd j 1, q_nadd, hz]
          have V5 := V4.kp K5 (by decide) (by decide) (by decide)
          refine ih _ ((K4.tr (K5.mono (by decide))).up (by decide)) ((V5.c' (j := j) (by omega) true rfl).cg (fun j' hj' => ?_) (fun _ _ _ _ => rfl))
          simp only [cntM]
          by_cases e : j' = j
          · subst e; rw [if_pos rfl, g]
          · rw [if_neg e, if_neg e]
        rw [g] at fin
        simp only [Bool.true_and] at fin
        repeat (first | refine wp_s hk rfl rfl ?_ | refine wp_goto hk rfl ?_ | refine wp_geti hk rfl rfl rfl rfl ?_ | refine wp_getr hk rfl rfl rfl rfl ?_)
        refine wp_icneN (u := firstW (worthW (vn (sV S)) (vm (sV S)) (cntM (vc (sV S)) j false) (vk (sV S)) (sR S (i2n a))) (sR S (i2n a)).1 (vm (sV S)) (vm (sV S))) (v := ff) hk rfl rfl rfl (by omega) (by omega) (fun e => ?_) (fun e => ?_)
        · refine wp_s hk rfl rfl ?_
          exact fin 1 (by rw [decide_eq_false e]; rfl)
        · refine wp_s hk rfl rfl ?_
          refine wp_goto hk rfl ?_
          exact fin 0 (by rw [decide_eq_true (Classical.not_not.mp e)]; rfl))
    exact loop 0 (Nat.zero_le _) M2 K02 V2
  · have h' : isN a 3 = false := by simpa using h
    repeat (first | refine wp_s hk rfl rfl ?_ | refine wp_goto hk rfl ?_ | refine wp_geti hk rfl rfl rfl rfl ?_ | refine wp_getr hk rfl rfl rfl rfl ?_)
    refine wp_ir hk rfl rfl ?_
    have hkk := kk M0 F0
    simp only [spLeft, h', Bool.and_self, Bool.true_and, Bool.and_true, Bool.false_and, Bool.and_false, if_true, Bool.false_eq_true, if_false, Bool.not_true, Bool.not_false] at hkk
    exact hkk
