/-! the class's own calls: lots, one left out -/
section PUB7
variable {M : MM} {S : St} {Q : Option Value → MM → Prop}
theorem firstW_16 {w : Nat → Nat → Nat} {parts m : Nat} (h : m ≤ 4) : firstW w parts m m < 16 := by
  have h1 := firstW_lt (w := w) (parts := parts) (m := m) (s := m) h
  have h2 : 2 ^ m ≤ 2 ^ 4 := Nat.pow_le_pow_right (by omega) h
  omega
theorem k_drawn {a b c : Int32} (I : ClsInv M S) (O : StOK S) (kk : ∀ M', Kp M M' scr → Q (some (.int (spDrawn S a b c))) M') : Ca 117 [.ref 0, .int a, .int b, .int c] M Q := by
  have h4 := O.1.2.2.2.1
  have h7 := O.1.2.1
  have hL := O.1.2.2.2.2.1
  have h128 := pow_n h7
  have hcg := (cg_pop _ h7 _ hL).2
  unfold spDrawn at kk
  have hk : q_cd 117 = kd_X8_drawn := rfl
  show WP 117 0 [some (.ref 0), some (.int a), some (.int b), some (.int c), none, none, none] [] M Q
  have no : (isN a 3 && isN b (vm (sV S))) = false → WP 117 9 [some (.ref 0), some (.int a), some (.int b), some (.int c), none, none, none] [] M Q := by
    intro h
    rw [h] at kk
    repeat (first | refine wp_s hk rfl rfl ?_ | refine wp_goto hk rfl ?_ | refine wp_geti hk rfl rfl rfl rfl ?_ | refine wp_getr hk rfl rfl rfl rfl ?_)
    exact wp_ir hk rfl rfl (kk M (Kp.rf _ _))
  repeat (first | refine wp_s hk rfl rfl ?_ | refine wp_goto hk rfl ?_ | refine wp_geti hk rfl rfl rfl rfl ?_ | refine wp_getr hk rfl rfl rfl rfl ?_)
  refine wp_callV hk rfl rfl rfl rfl rfl rfl ?_
  refine k_isRule ?_
  refine wp_ifeqB hk rfl rfl (fun h => no (by rw [h]; rfl)) (fun ha => ?_)
  repeat (first | refine wp_s hk rfl rfl ?_ | refine wp_goto hk rfl ?_ | refine wp_geti hk rfl rfl rfl rfl ?_ | refine wp_getr hk rfl rfl rfl rfl ?_)
  refine wp_callV hk rfl rfl rfl rfl rfl rfl ?_
  refine c_hasSkater CSh1 I.1 ?_
  refine wp_ifneB hk rfl rfl (fun hb => ?_) (fun h => no (by rw [h, Bool.and_false]))
  simp only [ha, hb, Bool.and_self, if_true] at kk
  have bad : isR c 1 (vn (sV S)) = false → WP 117 19 [some (.ref 0), some (.int a), some (.int b), some (.int c), none, none, none] [] M Q := by
    intro h
    rw [h] at kk
    repeat (first | refine wp_s hk rfl rfl ?_ | refine wp_goto hk rfl ?_ | refine wp_geti hk rfl rfl rfl rfl ?_ | refine wp_getr hk rfl rfl rfl rfl ?_)
    exact wp_ir hk rfl rfl (kk M (Kp.rf _ _))
  repeat (first | refine wp_s hk rfl rfl ?_ | refine wp_goto hk rfl ?_ | refine wp_geti hk rfl rfl rfl rfl ?_ | refine wp_getr hk rfl rfl rfl rfl ?_)
  refine wp_iclt hk rfl (fun g => bad (isR_lo (lo := 1) g)) (fun g1 => ?_)
  repeat (first | refine wp_s hk rfl rfl ?_ | refine wp_goto hk rfl ?_ | refine wp_geti hk rfl rfl rfl rfl ?_ | refine wp_getr hk rfl rfl rfl rfl ?_)
  refine wp_callV hk rfl rfl rfl rfl rfl rfl ?_
  refine c_judges CSh1 I.1 ?_
  refine wp_icle hk rfl (fun g2 => ?_) (fun g => bad (isR_hi (Int32.not_le.mp g)))
  have hc := isR_in (lo := 1) g1 g2
  rw [if_pos hc] at kk
  obtain ⟨hc0, hc1, hc2⟩ := isR_of (by omega) (by omega) hc
  obtain ⟨ha1, ha2⟩ := i2n_of (by omega) ha
  obtain ⟨hb1, hb2⟩ := i2n_of (by omega) hb
  rw [ha2, hb2, hc2]
  generalize i2n a = r at ha1 kk ⊢
  generalize i2n b = s at hb1 kk ⊢
  generalize i2n c = k at hc0 hc1 kk ⊢
  unfold drW at kk
  obtain ⟨G, hG⟩ : ∃ G : Nat → Nat, G = fun set => if (drOk (sV S) k set && decide (firstW (worthW (vn (sV S)) (vm (sV S)) (cntD (sV S) set) (vk (sV S)) (sR S r)) (sR S r).1 (vm (sV S)) (vm (sV S)) = 2 ^ s)) = true then 1 else 0 := ⟨_, rfl⟩
  rw [← hG] at kk
  have loop := q_dn (n := 2 ^ vn (sV S)) (P := fun x => ∀ M1, Kp M M1 scr → WP 117 29 [some (.ref 0), some (.int (nI r)), some (.int (nI s)), some (.int (nI k)), some (.int (nI (sumN G x))), some (.int (nI (cgW (vn (sV S)) (vL (sV S))))), some (.int (nI x))] [] M1 Q) (by
    intro M1 K1
    have I1 := I.kp O K1
    repeat (first | refine wp_s hk rfl rfl ?_ | refine wp_goto hk rfl ?_ | refine wp_geti hk rfl rfl rfl rfl ?_ | refine wp_getr hk rfl rfl rfl rfl ?_)
    refine wp_callV hk rfl rfl rfl rfl rfl rfl ?_
    refine c_judgeSets CSh1 I1.1 h7 ?_
    refine wp_icgeN (u := 2 ^ vn (sV S)) (v := 2 ^ vn (sV S)) hk rfl rfl rfl (by omega) (by omega) (fun _ => ?_) (fun h => absurd h (by omega))
    repeat (first | refine wp_s hk rfl rfl ?_ | refine wp_goto hk rfl ?_ | refine wp_geti hk rfl rfl rfl rfl ?_ | refine wp_getr hk rfl rfl rfl rfl ?_)
    exact wp_ir hk rfl rfl (kk M1 K1)) (by
    intro x hx ih M1 K1
    have I1 := I.kp O K1
    have l2 := popW_le x
    rw [show sumN G (x + 1) = sumN G x + G x from rfl] at ih
    generalize sumN G x = A at ih ⊢
    have skip : ∀ M2, Kp M M2 scr → G x = 0 → WP 117 70 [some (.ref 0), some (.int (nI r)), some (.int (nI s)), some (.int (nI k)), some (.int (nI A)), some (.int (nI (cgW (vn (sV S)) (vL (sV S))))), some (.int (nI x))] [] M2 Q := by
      intro M2 K2 h
      rw [h, Nat.add_zero] at ih
      refine wp_s hk rfl rfl ?_
      refine wp_goto hk rfl ?_
      rw [q_nadd x 1]
      exact ih M2 K2
    repeat (first | refine wp_s hk rfl rfl ?_ | refine wp_goto hk rfl ?_ | refine wp_geti hk rfl rfl rfl rfl ?_ | refine wp_getr hk rfl rfl rfl rfl ?_)
    refine wp_callV hk rfl rfl rfl rfl rfl rfl ?_
    refine c_judgeSets CSh1 I1.1 h7 ?_
    refine wp_icgeN (u := x) (v := 2 ^ vn (sV S)) hk rfl rfl rfl (by omega) (by omega) (fun h => absurd h (by omega)) (fun _ => ?_)
    repeat (first | refine wp_s hk rfl rfl ?_ | refine wp_goto hk rfl ?_ | refine wp_geti hk rfl rfl rfl rfl ?_ | refine wp_getr hk rfl rfl rfl rfl ?_)
    have hx128 : x < 128 := by omega
    rw [(q_an x hx128 _ hcg).1]
    have han := (q_an x hx128 _ hcg).2
    refine wp_ifneN (u := anW x (cgW (vn (sV S)) (vL (sV S)))) hk rfl rfl (by omega) (fun y => skip M1 K1 ?_) (fun y => ?_)
    · rw [hG]
      refine if_neg (fun z => y ((dr_zero hx).mpr ?_))
      rw [Bool.and_eq_true] at z
      have z1 := z.1
      unfold drOk at z1
      rw [Bool.and_eq_true] at z1
      simpa using z1.2
    · have hsub := (dr_zero hx).mp (Classical.not_not.mp y)
      repeat (first | refine wp_s hk rfl rfl ?_ | refine wp_goto hk rfl ?_ | refine wp_geti hk rfl rfl rfl rfl ?_ | refine wp_getr hk rfl rfl rfl rfl ?_)
      refine wp_callS hk rfl rfl rfl rfl ?_
      refine c_bitCount hx128 ?_
      repeat (first | refine wp_s hk rfl rfl ?_ | refine wp_goto hk rfl ?_ | refine wp_geti hk rfl rfl rfl rfl ?_ | refine wp_getr hk rfl rfl rfl rfl ?_)
      refine wp_icneN (u := popW x) (v := k) hk rfl rfl rfl (by omega) (by omega) (fun w => skip M1 K1 ?_) (fun w => ?_)
      · rw [hG]
        refine if_neg (fun z => w ?_)
        rw [Bool.and_eq_true] at z
        have z1 := z.1
        unfold drOk at z1
        rw [Bool.and_eq_true] at z1
        exact of_decide_eq_true z1.1
      · have hd : drOk (sV S) k x = true := by
          unfold drOk
          rw [decide_eq_true (Classical.not_not.mp w), hsub]
          rfl
        repeat (first | refine wp_s hk rfl rfl ?_ | refine wp_goto hk rfl ?_ | refine wp_geti hk rfl rfl rfl rfl ?_ | refine wp_getr hk rfl rfl rfl rfl ?_)
        refine wp_callV hk rfl rfl rfl rfl rfl rfl ?_
        refine c_copyFrom CSh5 CSh1 (Or.inr (by omega)) I1.1 (fun M2 K2 C2 => ?_)
        repeat (first | refine wp_s hk rfl rfl ?_ | refine wp_goto hk rfl ?_ | refine wp_geti hk rfl rfl rfl rfl ?_ | refine wp_getr hk rfl rfl rfl rfl ?_)
        refine wp_callV hk rfl rfl rfl rfl rfl rfl ?_
        refine c_loseAllBut CSh5 C2 h7 hx128 (fun M3 K3 C3 => ?_)
        have K13 : Kp M1 M3 scr := (K2.mono (by decide)).tr (K3.mono (by decide))
        have I3 := I1.kp O K13
        have O3 : VOK (setL (sV S) (vL (sV S) ||| cgW (vn (sV S)) x)) := O.1.setL (Nat.or_lt_two_pow (n := 7) hL (cg_pop _ h7 _ hx128).2)
        repeat (first | refine wp_s hk rfl rfl ?_ | refine wp_goto hk rfl ?_ | refine wp_geti hk rfl rfl rfl rfl ?_ | refine wp_getr hk rfl rfl rfl rfl ?_)
        refine wp_qld (jx := r) hk rfl rfl rfl rfl (zcs_at r ha1) (by decide) ?_
        repeat (first | refine wp_s hk rfl rfl ?_ | refine wp_goto hk rfl ?_ | refine wp_geti hk rfl rfl rfl rfl ?_ | refine wp_getr hk rfl rfl rfl rfl ?_)
        refine wp_callV hk rfl rfl rfl rfl rfl rfl ?_
        refine t_take CSh5 TSh20 (ZShR r ha1) (by omega) (Or.inr (by omega)) C3 O3 (I3.2.2.1 r ha1) (O.2.2.1 r ha1) (fun M4 K4 W4 => ?_)
        have K14 : Kp M M4 scr := K1.tr (K13.tr (K4.mono (by decide)))
        have W4' : StW M4 20 (sR S r).1 (vm (sV S)) (worthW (vn (sV S)) (vm (sV S)) (vc (setL (sV S) (vL (sV S) ||| cgW (vn (sV S)) x))) (vk (sV S)) (sR S r)) := W4
        rw [vc_D hsub] at W4'
        repeat (first | refine wp_s hk rfl rfl ?_ | refine wp_goto hk rfl ?_ | refine wp_geti hk rfl rfl rfl rfl ?_ | refine wp_getr hk rfl rfl rfl rfl ?_)
        refine wp_callV hk rfl rfl rfl rfl rfl rfl ?_
        refine t_leaders TSh20 W4' ?_
        have l3 := firstW_16 (w := worthW (vn (sV S)) (vm (sV S)) (cntD (sV S) x) (vk (sV S)) (sR S r)) (parts := (sR S r).1) h4
        have l4 : 2 ^ s ≤ 2 ^ 3 := Nat.pow_le_pow_right (by omega) (by omega)
        repeat (first | refine wp_s hk rfl rfl ?_ | refine wp_goto hk rfl ?_ | refine wp_geti hk rfl rfl rfl rfl ?_ | refine wp_getr hk rfl rfl rfl rfl ?_)
        rw [q_shl1 s (by omega)]
        refine wp_icneN (u := firstW (worthW (vn (sV S)) (vm (sV S)) (cntD (sV S) x) (vk (sV S)) (sR S r)) (sR S r).1 (vm (sV S)) (vm (sV S))) (v := 2 ^ s) hk rfl rfl rfl (by omega) (by omega) (fun q => skip M4 K14 ?_) (fun q => ?_)
        · rw [hG]
          refine if_neg (fun z => q ?_)
          rw [Bool.and_eq_true] at z
          exact of_decide_eq_true z.2
        · rw [show G x = 1 by rw [hG]; exact if_pos (by rw [hd, decide_eq_true (Classical.not_not.mp q)]; rfl)] at ih
          refine wp_s hk rfl rfl ?_
          refine wp_s hk rfl rfl ?_
          refine wp_goto hk rfl ?_
          rw [q_nadd x 1, q_nadd A 1]
          exact ih M4 K14)
  repeat (first | refine wp_s hk rfl rfl ?_ | refine wp_goto hk rfl ?_ | refine wp_geti hk rfl rfl rfl rfl ?_ | refine wp_getr hk rfl rfl rfl rfl ?_)
  refine wp_callV hk rfl rfl rfl rfl rfl rfl ?_
  refine c_counting CSh1 I.1 hL h7 ?_
  refine wp_s hk rfl rfl ?_
  refine wp_s hk rfl rfl ?_
  refine wp_s hk rfl rfl ?_
  exact loop 0 (Nat.zero_le _) M (Kp.rf _ _)
theorem k_leftOut {a : Int32} (I : ClsInv M S) (O : StOK S) (kk : ∀ M', Kp M M' scr → Q (some (.int (spLeft S a))) M') : Ca 118 [.ref 0, .int a] M Q := by
  have h4 := O.1.2.2.2.1
  have h7 := O.1.2.1
  have hL := O.1.2.2.2.2.1
  unfold spLeft at kk
  have hk : q_cd 118 = kd_X8_leftOut := rfl
  show WP 118 0 [some (.ref 0), some (.int a), none, none] [] M Q
  repeat (first | refine wp_s hk rfl rfl ?_ | refine wp_goto hk rfl ?_ | refine wp_geti hk rfl rfl rfl rfl ?_ | refine wp_getr hk rfl rfl rfl rfl ?_)
  refine wp_callV hk rfl rfl rfl rfl rfl rfl ?_
  refine k_isRule ?_
  refine wp_ifneB hk rfl rfl (fun ha => ?_) (fun h => ?_)
  · rw [if_pos ha] at kk
    obtain ⟨ha1, ha2⟩ := i2n_of (by omega) ha
    rw [ha2]
    generalize i2n a = r at ha1 kk ⊢
    unfold loW at kk
    obtain ⟨G, hG⟩ : ∃ G : Nat → Nat, G = fun j => if (vc (sV S) j && !decide (firstW (worthW (vn (sV S)) (vm (sV S)) (cntM (vc (sV S)) j false) (vk (sV S)) (sR S r)) (sR S r).1 (vm (sV S)) (vm (sV S)) = firstW (wS (sV S) (sR S r)) (sR S r).1 (vm (sV S)) (vm (sV S)))) = true then 1 else 0 := ⟨_, rfl⟩
    rw [← hG] at kk
    repeat (first | refine wp_s hk rfl rfl ?_ | refine wp_goto hk rfl ?_ | refine wp_geti hk rfl rfl rfl rfl ?_ | refine wp_getr hk rfl rfl rfl rfl ?_)
    refine wp_qld (jx := r) hk rfl rfl rfl rfl (zcs_at r ha1) (by decide) ?_
    repeat (first | refine wp_s hk rfl rfl ?_ | refine wp_goto hk rfl ?_ | refine wp_geti hk rfl rfl rfl rfl ?_ | refine wp_getr hk rfl rfl rfl rfl ?_)
    refine wp_callV hk rfl rfl rfl rfl rfl rfl ?_
    refine t_take CSh1 TSh16 (ZShR r ha1) (by omega) (Or.inr (by omega)) I.1 O.1 (I.2.2.1 r ha1) (O.2.2.1 r ha1) (fun M0 K0 W0 => ?_)
    have loop := q_dn (n := vn (sV S)) (P := fun j => ∀ M1, Kp M0 M1 [5, 6, 7, 8, 20, 22, 23] → WP 118 19 [some (.ref 0), some (.int (nI r)), some (.int (nI (sumN G j))), some (.int (nI j))] [] M1 Q) (by
      intro M1 K1
      have K01 : Kp M M1 scr := (K0.mono (by decide)).tr (K1.mono (by decide))
      have I1 := I.kp O K01
      repeat (first | refine wp_s hk rfl rfl ?_ | refine wp_goto hk rfl ?_ | refine wp_geti hk rfl rfl rfl rfl ?_ | refine wp_getr hk rfl rfl rfl rfl ?_)
      refine wp_callV hk rfl rfl rfl rfl rfl rfl ?_
      refine c_judges CSh1 I1.1 ?_
      refine wp_icgeN (u := vn (sV S)) (v := vn (sV S)) hk rfl rfl rfl (by omega) (by omega) (fun _ => ?_) (fun h => absurd h (by omega))
      repeat (first | refine wp_s hk rfl rfl ?_ | refine wp_goto hk rfl ?_ | refine wp_geti hk rfl rfl rfl rfl ?_ | refine wp_getr hk rfl rfl rfl rfl ?_)
      exact wp_ir hk rfl rfl (kk M1 K01)) (by
      intro j hj ih M1 K1
      have K01 : Kp M M1 scr := (K0.mono (by decide)).tr (K1.mono (by decide))
      have I1 := I.kp O K01
      rw [show sumN G (j + 1) = sumN G j + G j from rfl] at ih
      generalize sumN G j = A at ih ⊢
      have skip : ∀ M2, Kp M0 M2 [5, 6, 7, 8, 20, 22, 23] → G j = 0 → WP 118 56 [some (.ref 0), some (.int (nI r)), some (.int (nI A)), some (.int (nI j))] [] M2 Q := by
        intro M2 K2 h
        rw [h, Nat.add_zero] at ih
        refine wp_s hk rfl rfl ?_
        refine wp_goto hk rfl ?_
        rw [q_nadd j 1]
        exact ih M2 K2
      repeat (first | refine wp_s hk rfl rfl ?_ | refine wp_goto hk rfl ?_ | refine wp_geti hk rfl rfl rfl rfl ?_ | refine wp_getr hk rfl rfl rfl rfl ?_)
      refine wp_callV hk rfl rfl rfl rfl rfl rfl ?_
      refine c_judges CSh1 I1.1 ?_
      refine wp_icgeN (u := j) (v := vn (sV S)) hk rfl rfl rfl (by omega) (by omega) (fun h => absurd h (by omega)) (fun _ => ?_)
      repeat (first | refine wp_s hk rfl rfl ?_ | refine wp_goto hk rfl ?_ | refine wp_geti hk rfl rfl rfl rfl ?_ | refine wp_getr hk rfl rfl rfl rfl ?_)
      refine wp_callV hk rfl rfl rfl rfl rfl rfl ?_
      refine c_counts CSh1 I1.1 hL h7 (by omega) ?_
      refine wp_ifeqB hk rfl rfl (fun y => skip M1 K1 (by rw [hG]; exact if_neg (by rw [y]; exact Bool.false_ne_true))) (fun y => ?_)
      repeat (first | refine wp_s hk rfl rfl ?_ | refine wp_goto hk rfl ?_ | refine wp_geti hk rfl rfl rfl rfl ?_ | refine wp_getr hk rfl rfl rfl rfl ?_)
      refine wp_callV hk rfl rfl rfl rfl rfl rfl ?_
      refine c_copyFrom CSh5 CSh1 (Or.inr (by omega)) I1.1 (fun M2 K2 C2 => ?_)
      repeat (first | refine wp_s hk rfl rfl ?_ | refine wp_goto hk rfl ?_ | refine wp_geti hk rfl rfl rfl rfl ?_ | refine wp_getr hk rfl rfl rfl rfl ?_)
      refine wp_callV hk rfl rfl rfl rfl rfl rfl ?_
      refine c_setLost (z := true) CSh5 C2 hL (by omega) (fun M3 K3 C3 => ?_)
      have K13 : Kp M1 M3 [5, 6, 7, 8, 20, 22, 23] := (K2.mono (by decide)).tr (K3.mono (by decide))
      have I3 := I1.kp O (K13.mono (by decide))
      have O3 : VOK (setL (sV S) (stB (vL (sV S)) j true)) := O.1.setL (stB_bit _ hL j (by omega) true).1
      repeat (first | refine wp_s hk rfl rfl ?_ | refine wp_goto hk rfl ?_ | refine wp_geti hk rfl rfl rfl rfl ?_ | refine wp_getr hk rfl rfl rfl rfl ?_)
      refine wp_qld (jx := r) hk rfl rfl rfl rfl (zcs_at r ha1) (by decide) ?_
      repeat (first | refine wp_s hk rfl rfl ?_ | refine wp_goto hk rfl ?_ | refine wp_geti hk rfl rfl rfl rfl ?_ | refine wp_getr hk rfl rfl rfl rfl ?_)
      refine wp_callV hk rfl rfl rfl rfl rfl rfl ?_
      refine t_take CSh5 TSh20 (ZShR r ha1) (by omega) (Or.inr (by omega)) C3 O3 (I3.2.2.1 r ha1) (O.2.2.1 r ha1) (fun M4 K4 W4 => ?_)
      have K14 : Kp M0 M4 [5, 6, 7, 8, 20, 22, 23] := K1.tr (K13.tr (K4.mono (by decide)))
      have W4' : StW M4 20 (sR S r).1 (vm (sV S)) (worthW (vn (sV S)) (vm (sV S)) (vc (setL (sV S) (stB (vL (sV S)) j true))) (vk (sV S)) (sR S r)) := W4
      rw [vc_M hL h7 (by omega)] at W4'
      repeat (first | refine wp_s hk rfl rfl ?_ | refine wp_goto hk rfl ?_ | refine wp_geti hk rfl rfl rfl rfl ?_ | refine wp_getr hk rfl rfl rfl rfl ?_)
      refine wp_callV hk rfl rfl rfl rfl rfl rfl ?_
      refine t_leaders TSh20 W4' ?_
      repeat (first | refine wp_s hk rfl rfl ?_ | refine wp_goto hk rfl ?_ | refine wp_geti hk rfl rfl rfl rfl ?_ | refine wp_getr hk rfl rfl rfl rfl ?_)
      refine wp_callV hk rfl rfl rfl rfl rfl rfl ?_
      refine t_leaders TSh16 (W0.kp K14 (by decide) (by decide)) ?_
      have l3 := firstW_16 (w := worthW (vn (sV S)) (vm (sV S)) (cntM (vc (sV S)) j false) (vk (sV S)) (sR S r)) (parts := (sR S r).1) h4
      have l4 := firstW_16 (w := worthW (vn (sV S)) (vm (sV S)) (vc (sV S)) (vk (sV S)) (sR S r)) (parts := (sR S r).1) h4
      refine wp_iceqN hk rfl rfl rfl (Nat.lt_trans l3 (by omega)) (Nat.lt_trans l4 (by omega)) (fun q => skip M4 K14 ?_) (fun q => ?_)
      · rw [hG]
        refine if_neg (fun z => ?_)
        rw [Bool.and_eq_true] at z
        have z2 := z.2
        rw [decide_eq_true (show firstW (worthW (vn (sV S)) (vm (sV S)) (cntM (vc (sV S)) j false) (vk (sV S)) (sR S r)) (sR S r).1 (vm (sV S)) (vm (sV S)) = firstW (wS (sV S) (sR S r)) (sR S r).1 (vm (sV S)) (vm (sV S)) from q)] at z2
        cases z2
      · rw [show G j = 1 by rw [hG]; exact if_pos (by rw [y, decide_eq_false (show ¬ firstW (worthW (vn (sV S)) (vm (sV S)) (cntM (vc (sV S)) j false) (vk (sV S)) (sR S r)) (sR S r).1 (vm (sV S)) (vm (sV S)) = firstW (wS (sV S) (sR S r)) (sR S r).1 (vm (sV S)) (vm (sV S)) from q)]; rfl)] at ih
        refine wp_s hk rfl rfl ?_
        refine wp_s hk rfl rfl ?_
        refine wp_goto hk rfl ?_
        rw [q_nadd j 1, q_nadd A 1]
        exact ih M4 K14)
    refine wp_s hk rfl rfl ?_
    refine wp_s hk rfl rfl ?_
    refine wp_s hk rfl rfl ?_
    refine wp_s hk rfl rfl ?_
    exact loop 0 (Nat.zero_le _) M0 (Kp.rf _ _)
  · rw [h] at kk
    repeat (first | refine wp_s hk rfl rfl ?_ | refine wp_goto hk rfl ?_ | refine wp_geti hk rfl rfl rfl rfl ?_ | refine wp_getr hk rfl rfl rfl rfl ?_)
    exact wp_ir hk rfl rfl (kk M (Kp.rf _ _))
end PUB7
