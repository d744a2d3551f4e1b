/-- a third turns two -/
def turnG (n m : Nat) (cnt : Nat → Bool) (mk : Nat → Nat → Nat) (R : Ru) (a b c j v : Nat) : Bool := !aheadW (worthW n m cnt (mkM mk j c v) R) a b 0 R.1
def turnW (n m : Nat) (cnt : Nat → Bool) (mk : Nat → Nat → Nat) (R : Ru) (a b c : Nat) : Bool := anyN (fun j => cnt j && anyN (turnG n m cnt mk R a b c j) 6) n
theorem m_isTurned {M : MM} {n m : Nat} {cnt : Nat → Bool} {mk : Nat → Nat → Nat} {R : Ru} {r a b c : Nat} {Q : Option Value → MM → Prop} (H : RefV M n m cnt mk) (hr : r ≤ 3) (hR : RefRu M r R) (hO : RuOK R) (ha : a < m) (hb : b < m) (hc : c < m)
    (kk : ∀ M', Kp M M' [88, 98, 99] → Q (some (.int (nI (b2n (turnW n m cnt mk R a b c))))) M') : Ca 186 [.ref 83, .int (nI r), .int (nI a), .int (nI b), .int (nI c)] M Q := by
  have hn7 := H.2.2.1
  have hm4 := H.2.2.2.1
  have hk : q_cd 186 = kd_X9_isTurned := rfl
  show WP 186 0 [some (.ref 83), some (.int (nI r)), some (.int (nI a)), some (.int (nI b)), some (.int (nI c)), none, none, none, none] [] M Q
  unfold turnW at kk
  have outer := q_dn (n := n) (P := fun j => ∀ M1 x7 x8, Kp M M1 [88, 98, 99] → RefV M1 n m cnt mk → WP 186 7 [some (.ref 83), some (.int (nI r)), some (.int (nI a)), some (.int (nI b)), some (.int (nI c)), some (.int (nI (b2n (anyN (fun j => cnt j && anyN (turnG n m cnt mk R a b c j) 6) j)))), some (.int (nI j)), x7, x8] [.int (M1 83 1), .int (nI j)] M1 Q) (by
    intro M1 x7 x8 K1 V1
    refine wp_icgeN hk rfl rfl V1.1 (by first | omega | decide) (by first | omega | decide) (fun _ => ?_) (fun h => absurd h (by omega))
    repeat (first | refine wp_s hk rfl rfl ?_ | refine wp_goto hk rfl ?_ | refine wp_geti hk rfl rfl rfl rfl ?_ | refine wp_getr hk rfl rfl rfl rfl ?_)
    exact wp_ir hk rfl (q_rokB _) (kk M1 K1)) (by
    intro j hj ih M1 x7 x8 K1 V1
    refine wp_icgeN hk rfl rfl V1.1 (by first | omega | decide) (by first | omega | decide) (fun h => absurd h (by omega)) (fun _ => ?_)
    simp only [anyN] at ih
    have hback : ∀ M2 k2 bb x8, bb = (anyN (fun j => cnt j && anyN (turnG n m cnt mk R a b c j) 6) j || (cnt j && anyN (turnG n m cnt mk R a b c j) 6)) → Kp M M2 [88, 98, 99] → RefV M2 n m cnt k2 → (∀ j' s', ¬ (j' = j ∧ s' = c) → k2 j' s' = mk j' s') → WP 186 53 [some (.ref 83), some (.int (nI r)), some (.int (nI a)), some (.int (nI b)), some (.int (nI c)), some (.int (nI (b2n bb))), some (.int (nI j)), some (.int (nI (mk j c))), x8] [] M2 Q := by
      intro M2 k2 bb x8 hbb K2 V2 hk2
      repeat (first | refine wp_s hk rfl rfl ?_ | refine wp_goto hk rfl ?_ | refine wp_geti hk rfl rfl rfl rfl ?_ | refine wp_getr hk rfl rfl rfl rfl ?_)
      refine wp_ast (jx := 4 * j + c) hk rfl rfl (by simp only [q_nadd, q_nmul]) (by omega) ?_
      repeat (first | refine wp_s hk rfl rfl ?_ | refine wp_goto hk rfl ?_ | refine wp_geti hk rfl rfl rfl rfl ?_ | refine wp_getr hk rfl rfl rfl rfl ?_)
      rw [q_nadd j 1, hbb]
      have hb5 := V1.2.2.2.2.2.2 j (by omega) c (by omega)
      refine ih _ _ _ (K2.up (by decide)) ((V2.w (j := j) (s := c) (v := mk j c) (by omega) (by omega) hb5).cg (fun _ _ => rfl) (fun j' _ s' _ => ?_))
      simp only [mkM]
      by_cases e : j' = j ∧ s' = c
      · rw [if_pos e, e.1, e.2]
      · rw [if_neg e]; exact hk2 j' s' e
    repeat (first | refine wp_s hk rfl rfl ?_ | refine wp_goto hk rfl ?_ | refine wp_geti hk rfl rfl rfl rfl ?_ | refine wp_getr hk rfl rfl rfl rfl ?_)
    refine wp_ald (jx := 4 * j + c) hk rfl rfl (by simp only [q_nadd, q_nmul]) (by omega) ?_
    rw [V1.2.2.2.2.2.1 j (by omega) c (by omega)]
    repeat (first | refine wp_s hk rfl rfl ?_ | refine wp_goto hk rfl ?_ | refine wp_geti hk rfl rfl rfl rfl ?_ | refine wp_getr hk rfl rfl rfl rfl ?_)
    cases hg : anyN (fun j => cnt j && anyN (turnG n m cnt mk R a b c j) 6) j with
    | true =>
      rw [hg] at hback
      simp only [Bool.true_or] at hback
      refine wp_icgeN (v := 6) hk rfl rfl rfl (by first | omega | decide) (by first | omega | decide) (fun h => absurd h (by first | omega | decide)) (fun _ => ?_)
      repeat (first | refine wp_s hk rfl rfl ?_ | refine wp_goto hk rfl ?_ | refine wp_geti hk rfl rfl rfl rfl ?_ | refine wp_getr hk rfl rfl rfl rfl ?_)
      refine wp_bld (jx := j) hk rfl rfl rfl (by omega) ?_
      refine wp_ifeqB hk rfl (V1.2.2.2.2.1 j (by omega)) (fun g => ?_) (fun g => ?_)
      · exact hback M1 mk true _ rfl K1 V1 (fun _ _ _ => rfl)
      · repeat (first | refine wp_s hk rfl rfl ?_ | refine wp_goto hk rfl ?_ | refine wp_geti hk rfl rfl rfl rfl ?_ | refine wp_getr hk rfl rfl rfl rfl ?_)
        refine wp_ifneB (u := true) hk rfl rfl (fun _ => ?_) (fun z => by cases z)
        exact hback M1 mk true _ rfl K1 V1 (fun _ _ _ => rfl)
    | false =>
      rw [hg] at hback
      simp only [Bool.false_or] at hback
      cases hcj : cnt j with
      | false =>
        rw [hcj] at hback
        simp only [Bool.false_and] at hback
        refine wp_icgeN (v := 6) hk rfl rfl rfl (by first | omega | decide) (by first | omega | decide) (fun h => absurd h (by first | omega | decide)) (fun _ => ?_)
        repeat (first | refine wp_s hk rfl rfl ?_ | refine wp_goto hk rfl ?_ | refine wp_geti hk rfl rfl rfl rfl ?_ | refine wp_getr hk rfl rfl rfl rfl ?_)
        refine wp_bld (jx := j) hk rfl rfl rfl (by omega) ?_
        refine wp_ifeqB hk rfl (V1.2.2.2.2.1 j (by omega)) (fun g => ?_) (fun g => by rw [hcj] at g; cases g)
        exact hback M1 mk false _ rfl K1 V1 (fun _ _ _ => rfl)
      | true =>
        rw [hcj] at hback
        simp only [Bool.true_and] at hback
        have inner := q_dn (n := 6) (P := fun v => ∀ M2 k2, Kp M M2 [88, 98, 99] → RefV M2 n m cnt k2 → (∀ j' s', ¬ (j' = j ∧ s' = c) → k2 j' s' = mk j' s') → WP 186 21 [some (.ref 83), some (.int (nI r)), some (.int (nI a)), some (.int (nI b)), some (.int (nI c)), some (.int (nI (b2n (anyN (turnG n m cnt mk R a b c j) v)))), some (.int (nI j)), some (.int (nI (mk j c))), some (.int (nI v))] [.int (nI 6), .int (nI v)] M2 Q) (by
          intro M2 k2 K2 V2 hk2
          refine wp_icgeN hk rfl rfl rfl (by first | omega | decide) (by first | omega | decide) (fun _ => ?_) (fun h => absurd h (by omega))
          exact hback M2 k2 _ _ rfl K2 V2 hk2) (by
          intro v hv ihv M2 k2 K2 V2 hk2
          refine wp_icgeN hk rfl rfl rfl (by first | omega | decide) (by first | omega | decide) (fun h => absurd h (by omega)) (fun _ => ?_)
          simp only [anyN] at ihv
          repeat (first | refine wp_s hk rfl rfl ?_ | refine wp_goto hk rfl ?_ | refine wp_geti hk rfl rfl rfl rfl ?_ | refine wp_getr hk rfl rfl rfl rfl ?_)
          refine wp_bld (jx := j) hk rfl rfl rfl (by omega) ?_
          refine wp_ifeqB hk rfl (V2.2.2.2.2.1 j (by omega)) (fun g => by rw [hcj] at g; cases g) (fun _ => ?_)
          repeat (first | refine wp_s hk rfl rfl ?_ | refine wp_goto hk rfl ?_ | refine wp_geti hk rfl rfl rfl rfl ?_ | refine wp_getr hk rfl rfl rfl rfl ?_)
          refine wp_ifneB hk rfl rfl (fun g => ?_) (fun g => ?_)
          · rw [g]
            exact hback M2 k2 true _ (anyN_mono g (Nat.le_of_lt hv)).symm K2 V2 hk2
          · rw [g] at ihv ⊢
            simp only [Bool.false_or] at ihv
            repeat (first | refine wp_s hk rfl rfl ?_ | refine wp_goto hk rfl ?_ | refine wp_geti hk rfl rfl rfl rfl ?_ | refine wp_getr hk rfl rfl rfl rfl ?_)
            refine wp_ast (jx := 4 * j + c) hk rfl rfl (by simp only [q_nadd, q_nmul]) (by omega) ?_
            have V3 := V2.w (j := j) (s := c) (v := v) (by omega) (by omega) (by omega)
            have K3 : Kp M (q_up M2 88 (upd (M2 88) (4 * j + c) (nI v))) [88, 98, 99] := K2.up (by decide)
            generalize q_up M2 88 (upd (M2 88) (4 * j + c) (nI v)) = M3 at V3 K3 ⊢
            have e3 : mkM k2 j c v = mkM mk j c v := by
              funext j' s'
              simp only [mkM]
              by_cases e : j' = j ∧ s' = c
              · rw [if_pos e, if_pos e]
              · rw [if_neg e, if_neg e]; exact hk2 j' s' e
            rw [e3] at V3
            repeat (first | refine wp_s hk rfl rfl ?_ | refine wp_goto hk rfl ?_ | refine wp_geti hk rfl rfl rfl rfl ?_ | refine wp_getr hk rfl rfl rfl rfl ?_)
            refine wp_callV hk rfl rfl rfl rfl rfl rfl ?_
            refine m_lay V3 hr (hR.kp K3 (by decide) (by decide) (by decide) (by decide)) hO (fun M4 K4 W4 => ?_)
            have K34 : Kp M M4 [88, 98, 99] := K3.tr (K4.mono (by decide))
            have V4 := V3.kp K4 (by decide) (by decide) (by decide)
            repeat (first | refine wp_s hk rfl rfl ?_ | refine wp_goto hk rfl ?_ | refine wp_geti hk rfl rfl rfl rfl ?_ | refine wp_getr hk rfl rfl rfl rfl ?_)
            refine wp_callV hk rfl rfl rfl rfl rfl rfl ?_
            refine m_by W4 hr ha hb ?_
            refine wp_ifgt hk rfl (fun g2 => ?_) (fun g2 => ?_)
            · repeat (first | refine wp_s hk rfl rfl ?_ | refine wp_goto hk rfl ?_ | refine wp_geti hk rfl rfl rfl rfl ?_ | refine wp_getr hk rfl rfl rfl rfl ?_)
              rw [q_nadd v 1]
              have := ihv M4 (mkM mk j c v) K34 V4 (fun j' s' e => by simp only [mkM]; rw [if_neg e])
              rw [show turnG n m cnt mk R a b c j v = false by unfold turnG; rw [sgW_gt.mp g2]; rfl] at this
              exact this
            · repeat (first | refine wp_s hk rfl rfl ?_ | refine wp_goto hk rfl ?_ | refine wp_geti hk rfl rfl rfl rfl ?_ | refine wp_getr hk rfl rfl rfl rfl ?_)
              rw [q_nadd v 1]
              have := ihv M4 (mkM mk j c v) K34 V4 (fun j' s' e => by simp only [mkM]; rw [if_neg e])
              rw [show turnG n m cnt mk R a b c j v = true by
                unfold turnG
                cases hx : aheadW (worthW n m cnt (mkM mk j c v) R) a b 0 R.1 with
                | false => rfl
                | true => exact absurd (sgW_gt.mpr hx) g2] at this
              exact this)
        have := inner 0 (Nat.zero_le _) M1 mk K1 V1 (fun _ _ _ => rfl)
        exact this)
  repeat (first | refine wp_s hk rfl rfl ?_ | refine wp_goto hk rfl ?_ | refine wp_geti hk rfl rfl rfl rfl ?_ | refine wp_getr hk rfl rfl rfl rfl ?_)
  exact outer 0 (Nat.zero_le _) M _ _ (Kp.rf _ _) H
def turnS (V : Vw) (R : Ru) (a b c : Nat) : Bool := turnW (vn V) (vm V) (vc V) (vk V) R a b c
def spTurns (S : St) (a b c d : Int32) : Int32 := if isN a 3 && (isN b (vm (sV S)) && (isN c (vm (sV S)) && isN d (vm (sV S)))) then (if b = c ∨ b = d ∨ c = d then BAD else if aheadW (wS (sV S) (sR S (i2n a))) (i2n b) (i2n c) 0 (sR S (i2n a)).1 then nI (b2n (turnS (sV S) (sR S (i2n a)) (i2n b) (i2n c) (i2n d))) else LATE) else UNK
theorem m_turns {M : MM} {S : St} {a b c d : Int32} {Q : Option Value → MM → Prop} (I : RefInv M S) (O : StOK S) (kk : ∀ M', RFr M M' → Q (some (.int (spTurns S a b c d))) M') : Ca 187 [.ref 83, .int a, .int b, .int c, .int d] M Q := by
  have hk : q_cd 187 = kd_X9_turns := rfl
  show WP 187 0 [some (.ref 83), some (.int a), some (.int b), some (.int c), some (.int d)] [] M Q
  have ho4 := O.1.2.2.2.1
  have ho7 := O.1.2.1
  repeat (first | refine wp_s hk rfl rfl ?_ | refine wp_goto hk rfl ?_ | refine wp_geti hk rfl rfl rfl rfl ?_ | refine wp_getr hk rfl rfl rfl rfl ?_)
  refine wp_th hk rfl (fun M0 F0 => ?_)
  have I0 := I.fr O F0
  repeat (first | refine wp_s hk rfl rfl ?_ | refine wp_goto hk rfl ?_ | refine wp_geti hk rfl rfl rfl rfl ?_ | refine wp_getr hk rfl rfl rfl rfl ?_)
  refine wp_callS hk rfl rfl rfl rfl ?_
  refine m_noRule ?_
  refine wp_ifneB (u := !isN a 3) hk rfl rfl (fun h => ?_) (fun h => ?_)
  · have h' : isN a 3 = false := by simpa using h
    repeat (first | refine wp_s hk rfl rfl ?_ | refine wp_goto hk rfl ?_ | refine wp_geti hk rfl rfl rfl rfl ?_ | refine wp_getr hk rfl rfl rfl rfl ?_)
    refine wp_ir hk rfl rfl ?_
    have hkk := kk M0 F0
    simp only [spTurns, h', Bool.and_self, Bool.true_and, Bool.and_true, Bool.false_and, Bool.and_false, if_true, Bool.false_eq_true, if_false, Bool.not_true, Bool.not_false] at hkk
    exact hkk
  have h' : isN a 3 = true := by simpa using h
  repeat (first | refine wp_s hk rfl rfl ?_ | refine wp_goto hk rfl ?_ | refine wp_geti hk rfl rfl rfl rfl ?_ | refine wp_getr hk rfl rfl rfl rfl ?_)
  refine wp_callV hk rfl rfl rfl rfl rfl rfl ?_
  refine m_noSkater I0.1.2.1 O.1.2.2.1 (by omega) ?_
  refine wp_ifneB (u := !isN b (vm (sV S))) hk rfl rfl (fun g => ?_) (fun g => ?_)
  · have g' : isN b (vm (sV S)) = false := by simpa using g
    repeat (first | refine wp_s hk rfl rfl ?_ | refine wp_goto hk rfl ?_ | refine wp_geti hk rfl rfl rfl rfl ?_ | refine wp_getr hk rfl rfl rfl rfl ?_)
    refine wp_ir hk rfl rfl ?_
    have hkk := kk M0 F0
    simp only [spTurns, h', g', Bool.and_self, Bool.true_and, Bool.and_true, Bool.false_and, Bool.and_false, if_true, Bool.false_eq_true, if_false, Bool.not_true, Bool.not_false] at hkk
    exact hkk
  have g' : isN b (vm (sV S)) = true := by simpa using g
  repeat (first | refine wp_s hk rfl rfl ?_ | refine wp_goto hk rfl ?_ | refine wp_geti hk rfl rfl rfl rfl ?_ | refine wp_getr hk rfl rfl rfl rfl ?_)
  refine wp_callV hk rfl rfl rfl rfl rfl rfl ?_
  refine m_noSkater I0.1.2.1 O.1.2.2.1 (by omega) ?_
  refine wp_ifneB (u := !isN c (vm (sV S))) hk rfl rfl (fun f => ?_) (fun f => ?_)
  · have f' : isN c (vm (sV S)) = false := by simpa using f
    repeat (first | refine wp_s hk rfl rfl ?_ | refine wp_goto hk rfl ?_ | refine wp_geti hk rfl rfl rfl rfl ?_ | refine wp_getr hk rfl rfl rfl rfl ?_)
    refine wp_ir hk rfl rfl ?_
    have hkk := kk M0 F0
    simp only [spTurns, h', g', f', Bool.and_self, Bool.true_and, Bool.and_true, Bool.false_and, Bool.and_false, if_true, Bool.false_eq_true, if_false, Bool.not_true, Bool.not_false] at hkk
    exact hkk
  have f' : isN c (vm (sV S)) = true := by simpa using f
  repeat (first | refine wp_s hk rfl rfl ?_ | refine wp_goto hk rfl ?_ | refine wp_geti hk rfl rfl rfl rfl ?_ | refine wp_getr hk rfl rfl rfl rfl ?_)
  refine wp_callV hk rfl rfl rfl rfl rfl rfl ?_
  refine m_noSkater I0.1.2.1 O.1.2.2.1 (by omega) ?_
  refine wp_ifeqB (u := !isN d (vm (sV S))) hk rfl rfl (fun k => ?_) (fun k => ?_)
  · have k' : isN d (vm (sV S)) = true := by simpa using k
    obtain ⟨hr, ea⟩ := i2n_of (by omega) h'
    obtain ⟨hs1, eb⟩ := i2n_of (by omega) g'
    obtain ⟨hs2, ec⟩ := i2n_of (by omega) f'
    obtain ⟨hs3, ed⟩ := i2n_of (by omega) k'
    have hbad : (b = c ∨ b = d ∨ c = d) → ∀ al, WP 187 29 al [] M0 Q := by
      intro hz al
      repeat (first | refine wp_s hk rfl rfl ?_ | refine wp_goto hk rfl ?_ | refine wp_geti hk rfl rfl rfl rfl ?_ | refine wp_getr hk rfl rfl rfl rfl ?_)
      refine wp_ir hk rfl rfl ?_
      have hkk := kk M0 F0
      simp only [spTurns, h', g', f', k', Bool.and_self, if_true] at hkk
      rw [if_pos hz] at hkk
      exact hkk
    repeat (first | refine wp_s hk rfl rfl ?_ | refine wp_goto hk rfl ?_ | refine wp_geti hk rfl rfl rfl rfl ?_ | refine wp_getr hk rfl rfl rfl rfl ?_)
    refine wp_iceq hk rfl (fun z => hbad (Or.inl z) _) (fun z1 => ?_)
    repeat (first | refine wp_s hk rfl rfl ?_ | refine wp_goto hk rfl ?_ | refine wp_geti hk rfl rfl rfl rfl ?_ | refine wp_getr hk rfl rfl rfl rfl ?_)
    refine wp_iceq hk rfl (fun z => hbad (Or.inr (Or.inl z)) _) (fun z2 => ?_)
    repeat (first | refine wp_s hk rfl rfl ?_ | refine wp_goto hk rfl ?_ | refine wp_geti hk rfl rfl rfl rfl ?_ | refine wp_getr hk rfl rfl rfl rfl ?_)
    refine wp_icne hk rfl (fun z3 => ?_) (fun z => hbad (Or.inr (Or.inr (Classical.not_not.mp z))) _)
    have hkk := fun M' F => kk M' F
    simp only [spTurns, h', g', f', k', Bool.and_self, if_true] at hkk
    rw [if_neg (show ¬ (b = c ∨ b = d ∨ c = d) from fun hz => hz.elim z1 (fun hz => hz.elim z2 z3))] at hkk
    repeat (first | refine wp_s hk rfl rfl ?_ | refine wp_goto hk rfl ?_ | refine wp_geti hk rfl rfl rfl rfl ?_ | refine wp_getr hk rfl rfl rfl rfl ?_)
    refine wp_callV hk rfl rfl rfl rfl rfl rfl ?_
    refine m_take I0.1 O.1 (fun M1 K1 V1 => ?_)
    have RA := (I0.2.2.1.1 _ hr).kp K1 (by decide) (by decide) (by decide) (by decide)
    repeat (first | refine wp_s hk rfl rfl ?_ | refine wp_goto hk rfl ?_ | refine wp_geti hk rfl rfl rfl rfl ?_ | refine wp_getr hk rfl rfl rfl rfl ?_)
    rw [ea, eb, ec, ed]
    refine wp_callV hk rfl rfl rfl rfl rfl rfl ?_
    refine m_lay V1 (by omega) RA (O.2.2.1 _ hr) (fun M2 K2 W2 => ?_)
    have W2' : RefW M2 (i2n a) (sR S (i2n a)).1 (vm (sV S)) (wS (sV S) (sR S (i2n a))) := W2
    have V2 := V1.kp K2 (by decide) (by decide) (by decide)
    repeat (first | refine wp_s hk rfl rfl ?_ | refine wp_goto hk rfl ?_ | refine wp_geti hk rfl rfl rfl rfl ?_ | refine wp_getr hk rfl rfl rfl rfl ?_)
    refine wp_callV hk rfl rfl rfl rfl rfl rfl ?_
    refine m_by W2' (by omega) hs1 hs2 ?_
    refine wp_ifgt hk rfl (fun g2 => ?_) (fun g2 => ?_)
    · rw [if_pos (sgW_gt.mp g2)] at hkk
      repeat (first | refine wp_s hk rfl rfl ?_ | refine wp_goto hk rfl ?_ | refine wp_geti hk rfl rfl rfl rfl ?_ | refine wp_getr hk rfl rfl rfl rfl ?_)
      refine wp_callV hk rfl rfl rfl rfl rfl rfl ?_
      refine m_isTurned V2 (by omega) (RA.kp K2 (by decide) (by decide) (by decide) (by decide)) (O.2.2.1 _ hr) hs1 hs2 hs3 (fun M3 K3 => ?_)
      have hk3 := hkk M3 (F0.tr ((RFr.kp K1).tr ((RFr.kp K2).tr (RFr.kp K3))))
      unfold turnS at hk3
      refine wp_ifeqB hk rfl rfl (fun z => ?_) (fun z => ?_) <;> rw [z] at hk3
      · repeat (first | refine wp_s hk rfl rfl ?_ | refine wp_goto hk rfl ?_ | refine wp_geti hk rfl rfl rfl rfl ?_ | refine wp_getr hk rfl rfl rfl rfl ?_)
        exact wp_ir hk rfl rfl hk3
      · repeat (first | refine wp_s hk rfl rfl ?_ | refine wp_goto hk rfl ?_ | refine wp_geti hk rfl rfl rfl rfl ?_ | refine wp_getr hk rfl rfl rfl rfl ?_)
        exact wp_ir hk rfl rfl hk3
    · rw [if_neg (fun z => g2 (sgW_gt.mpr z))] at hkk
      repeat (first | refine wp_s hk rfl rfl ?_ | refine wp_goto hk rfl ?_ | refine wp_geti hk rfl rfl rfl rfl ?_ | refine wp_getr hk rfl rfl rfl rfl ?_)
      exact wp_ir hk rfl rfl (hkk M2 (F0.tr ((RFr.kp K1).tr (RFr.kp K2))))
  · have k' : isN d (vm (sV S)) = false := by simpa using k
    repeat (first | refine wp_s hk rfl rfl ?_ | refine wp_goto hk rfl ?_ | refine wp_geti hk rfl rfl rfl rfl ?_ | refine wp_getr hk rfl rfl rfl rfl ?_)
    refine wp_ir hk rfl rfl ?_
    have hkk := kk M0 F0
    simp only [spTurns, h', g', f', k', Bool.and_self, Bool.true_and, Bool.and_true, Bool.false_and, Bool.and_false, if_true, Bool.false_eq_true, if_false, Bool.not_true, Bool.not_false] at hkk
    exact hkk
/-- may they be two and a third? -/
def thOk (m a b c : Nat) : Bool := decide (a < m) && (decide (b < m) && (decide (c < m) && (decide (¬ a = b) && (decide (¬ a = c) && decide (¬ b = c)))))
def thC (V : Vw) (R : Ru) (a b c : Nat) : Bool := thOk (vm V) a b c && (aheadW (wS V R) a b 0 R.1 && turnS V R a b c)
def thW (V : Vw) (R : Ru) : Nat := sumN (fun k => if thC V R (k / 16) (k / 4 % 4) (k % 4) = true then 1 else 0) 64
def spThirds (S : St) (a : Int32) : Int32 := if isN a 3 then nI (thW (sV S) (sR S (i2n a))) else UNK
theorem m_thirds {M : MM} {S : St} {a : Int32} {Q : Option Value → MM → Prop} (I : RefInv M S) (O : StOK S) (kk : ∀ M', RFr M M' → Q (some (.int (spThirds S a))) M') : Ca 188 [.ref 83, .int a] M Q := by
  have hk : q_cd 188 = kd_X9_thirds := rfl
  show WP 188 0 [some (.ref 83), some (.int a), none, none, none, none, none, none] [] M Q
  have ho4 := O.1.2.2.2.1
  have ho7 := O.1.2.1
  repeat (first | refine wp_s hk rfl rfl ?_ | refine wp_goto hk rfl ?_ | refine wp_geti hk rfl rfl rfl rfl ?_ | refine wp_getr hk rfl rfl rfl rfl ?_)
  refine wp_th hk rfl (fun M0 F0 => ?_)
  have I0 := I.fr O F0
  repeat (first | refine wp_s hk rfl rfl ?_ | refine wp_goto hk rfl ?_ | refine wp_geti hk rfl rfl rfl rfl ?_ | refine wp_getr hk rfl rfl rfl rfl ?_)
  refine wp_callS hk rfl rfl rfl rfl ?_
  refine m_noRule ?_
  refine wp_ifeqB (u := !isN a 3) hk rfl rfl (fun h => ?_) (fun h => ?_)
  · have h' : isN a 3 = true := by simpa using h
    obtain ⟨hr, ea⟩ := i2n_of (by omega) h'
    have hkk := fun M' F => kk M' F
    simp only [spThirds, h', if_true] at hkk
    unfold thW at hkk
    rw [ea]
    repeat (first | refine wp_s hk rfl rfl ?_ | refine wp_goto hk rfl ?_ | refine wp_geti hk rfl rfl rfl rfl ?_ | refine wp_getr hk rfl rfl rfl rfl ?_)
    have loop := q_dn (n := 64) (P := fun k => ∀ M1 x4 x5 x6 x7, Kp M0 M1 [88, 89, 98, 99] → WP 188 14 [some (.ref 83), some (.int (nI (i2n a))), some (.int (nI (sumN (fun k => if thC (sV S) (sR S (i2n a)) (k / 16) (k / 4 % 4) (k % 4) = true then 1 else 0) k))), some (.int (nI k)), x4, x5, x6, x7] [.int (nI 64), .int (nI k)] M1 Q) (by
      intro M1 x4 x5 x6 x7 K1
      refine wp_icgeN hk rfl rfl rfl (by first | omega | decide) (by first | omega | decide) (fun _ => ?_) (fun h => absurd h (by omega))
      repeat (first | refine wp_s hk rfl rfl ?_ | refine wp_goto hk rfl ?_ | refine wp_geti hk rfl rfl rfl rfl ?_ | refine wp_getr hk rfl rfl rfl rfl ?_)
      exact wp_ir hk rfl rfl (hkk M1 (F0.tr (RFr.kp K1)))) (by
      intro k hk64 ih M1 x4 x5 x6 x7 K1
      refine wp_icgeN hk rfl rfl rfl (by first | omega | decide) (by first | omega | decide) (fun h => absurd h (by omega)) (fun _ => ?_)
      have I1 := I0.1.kp K1 (by decide) (by decide) (by decide) (by decide) (by decide)
      have R1 := (I0.2.2.1.1 _ hr).kp K1 (by decide) (by decide) (by decide) (by decide)
      simp only [sumN] at ih
      generalize (sumN (fun k => if thC (sV S) (sR S (i2n a)) (k / 16) (k / 4 % 4) (k % 4) = true then 1 else 0) k) = acc at ih ⊢
      repeat (first | refine wp_s hk rfl rfl ?_ | refine wp_goto hk rfl ?_ | refine wp_geti hk rfl rfl rfl rfl ?_ | refine wp_getr hk rfl rfl rfl rfl ?_)
      refine wp_div hk rfl (by decide) ?_
      rw [q_ndiv (b := 16) (by omega) (by omega) (by omega)]
      repeat (first | refine wp_s hk rfl rfl ?_ | refine wp_goto hk rfl ?_ | refine wp_geti hk rfl rfl rfl rfl ?_ | refine wp_getr hk rfl rfl rfl rfl ?_)
      refine wp_div hk rfl (by decide) ?_
      rw [q_ndiv (b := 4) (by omega) (by omega) (by omega)]
      repeat (first | refine wp_s hk rfl rfl ?_ | refine wp_goto hk rfl ?_ | refine wp_geti hk rfl rfl rfl rfl ?_ | refine wp_getr hk rfl rfl rfl rfl ?_)
      refine wp_rem hk rfl (by decide) ?_
      rw [q_nrem (a := k / 4) (b := 4) (by omega) (by omega) (by omega)]
      repeat (first | refine wp_s hk rfl rfl ?_ | refine wp_goto hk rfl ?_ | refine wp_geti hk rfl rfl rfl rfl ?_ | refine wp_getr hk rfl rfl rfl rfl ?_)
      refine wp_rem hk rfl (by decide) ?_
      rw [q_nrem (a := k) (b := 4) (by omega) (by omega) (by omega)]
      have ha4 : k / 16 < 4 := by omega
      have hb4 : k / 4 % 4 < 4 := by omega
      have hc4 : k % 4 < 4 := by omega
      generalize k / 16 = p at ih ha4 ⊢
      generalize k / 4 % 4 = q at ih hb4 ⊢
      generalize k % 4 = t at ih hc4 ⊢
      have after : ∀ z, z = thOk (vm (sV S)) p q t → ∀ x7, WP 188 53 [some (.ref 83), some (.int (nI (i2n a))), some (.int (nI acc)), some (.int (nI k)), some (.int (nI p)), some (.int (nI q)), some (.int (nI t)), x7] [.int (nI (b2n z))] M1 Q := by
        intro z hz x7
        repeat (first | refine wp_s hk rfl rfl ?_ | refine wp_goto hk rfl ?_ | refine wp_geti hk rfl rfl rfl rfl ?_ | refine wp_getr hk rfl rfl rfl rfl ?_)
        refine wp_callV hk rfl rfl rfl rfl rfl rfl ?_
        refine m_take I1 O.1 (fun M2 K2 V2 => ?_)
        have R2 := R1.kp K2 (by decide) (by decide) (by decide) (by decide)
        repeat (first | refine wp_s hk rfl rfl ?_ | refine wp_goto hk rfl ?_ | refine wp_geti hk rfl rfl rfl rfl ?_ | refine wp_getr hk rfl rfl rfl rfl ?_)
        refine wp_callV hk rfl rfl rfl rfl rfl rfl ?_
        refine m_lay V2 (by omega) R2 (O.2.2.1 _ hr) (fun M3 K3 W3 => ?_)
        have W3' : RefW M3 (i2n a) (sR S (i2n a)).1 (vm (sV S)) (wS (sV S) (sR S (i2n a))) := W3
        have V3 := V2.kp K3 (by decide) (by decide) (by decide)
        have K13 : Kp M0 M3 [88, 89, 98, 99] := K1.tr ((K2.mono (by decide)).tr (K3.mono (by decide)))
        have fin : ∀ y, y = thC (sV S) (sR S (i2n a)) p q t → ∀ M4, Kp M0 M4 [88, 89, 98, 99] → WP 188 78 [some (.ref 83), some (.int (nI (i2n a))), some (.int (nI acc)), some (.int (nI k)), some (.int (nI p)), some (.int (nI q)), some (.int (nI t)), some (.int (nI (b2n z)))] [.int (nI (b2n y)), .int (nI acc)] M4 Q := by
          intro y hy M4 K4
          repeat (first | refine wp_s hk rfl rfl ?_ | refine wp_goto hk rfl ?_ | refine wp_geti hk rfl rfl rfl rfl ?_ | refine wp_getr hk rfl rfl rfl rfl ?_)
          rw [q_nadd k 1, q_nadd]
          have e : b2n y = if thC (sV S) (sR S (i2n a)) p q t = true then 1 else 0 := by rw [← hy]; rfl
          rw [e]
          exact ih M4 _ _ _ _ K4
        unfold thC at fin
        rw [← hz] at fin
        repeat (first | refine wp_s hk rfl rfl ?_ | refine wp_goto hk rfl ?_ | refine wp_geti hk rfl rfl rfl rfl ?_ | refine wp_getr hk rfl rfl rfl rfl ?_)
        refine wp_ifeqB hk rfl rfl (fun g => ?_) (fun g => ?_)
        · refine wp_s hk rfl rfl ?_
          exact fin false (by rw [g]; rfl) M3 K13
        · rw [g] at hz fin ⊢
          simp only [Bool.true_and] at fin
          have hz' := hz.symm
          simp only [thOk, Bool.and_eq_true, decide_eq_true_eq] at hz'
          obtain ⟨z1, z2, z3, -⟩ := hz'
          repeat (first | refine wp_s hk rfl rfl ?_ | refine wp_goto hk rfl ?_ | refine wp_geti hk rfl rfl rfl rfl ?_ | refine wp_getr hk rfl rfl rfl rfl ?_)
          refine wp_callV hk rfl rfl rfl rfl rfl rfl ?_
          refine m_by W3' (by omega) z1 z2 ?_
          refine wp_ifle hk rfl (fun g2 => ?_) (fun g2 => ?_)
          · refine wp_s hk rfl rfl ?_
            have : aheadW (wS (sV S) (sR S (i2n a))) p q 0 (sR S (i2n a)).1 = false := by
              cases hx : aheadW (wS (sV S) (sR S (i2n a))) p q 0 (sR S (i2n a)).1 with
              | false => rfl
              | true => exact absurd (sgW_gt.mpr hx) (Int32.not_lt.mpr g2)
            exact fin false (by rw [this]; rfl) M3 K13
          · have : aheadW (wS (sV S) (sR S (i2n a))) p q 0 (sR S (i2n a)).1 = true := sgW_gt.mp (Int32.not_le.mp g2)
            rw [this] at fin
            simp only [Bool.true_and] at fin
            unfold turnS at fin
            repeat (first | refine wp_s hk rfl rfl ?_ | refine wp_goto hk rfl ?_ | refine wp_geti hk rfl rfl rfl rfl ?_ | refine wp_getr hk rfl rfl rfl rfl ?_)
            refine wp_callV hk rfl rfl rfl rfl rfl rfl ?_
            refine m_isTurned V3 (by omega) (R2.kp K3 (by decide) (by decide) (by decide) (by decide)) (O.2.2.1 _ hr) z1 z2 z3 (fun M4 K4 => ?_)
            have K14 := K13.tr (K4.mono (by decide))
            refine wp_ifeqB hk rfl rfl (fun y => ?_) (fun y => ?_)
            · refine wp_s hk rfl rfl ?_
              exact fin false y.symm M4 K14
            · refine wp_s hk rfl rfl ?_
              refine wp_goto hk rfl ?_
              exact fin true y.symm M4 K14
      have no : thOk (vm (sV S)) p q t = false → ∀ x7, WP 188 52 [some (.ref 83), some (.int (nI (i2n a))), some (.int (nI acc)), some (.int (nI k)), some (.int (nI p)), some (.int (nI q)), some (.int (nI t)), x7] [] M1 Q := by
        intro hz x7
        refine wp_s hk rfl rfl ?_
        exact after false hz.symm x7
      repeat (first | refine wp_s hk rfl rfl ?_ | refine wp_goto hk rfl ?_ | refine wp_geti hk rfl rfl rfl rfl ?_ | refine wp_getr hk rfl rfl rfl rfl ?_)
      refine wp_icgeN (u := p) hk rfl rfl I1.2.1 (by omega) (by omega) (fun g => no (by simp [thOk, Nat.not_lt.mpr g]) _) (fun g1 => ?_)
      repeat (first | refine wp_s hk rfl rfl ?_ | refine wp_goto hk rfl ?_ | refine wp_geti hk rfl rfl rfl rfl ?_ | refine wp_getr hk rfl rfl rfl rfl ?_)
      refine wp_icgeN (u := q) hk rfl rfl I1.2.1 (by omega) (by omega) (fun g => no (by simp [thOk, Nat.not_lt.mpr g]) _) (fun g2 => ?_)
      repeat (first | refine wp_s hk rfl rfl ?_ | refine wp_goto hk rfl ?_ | refine wp_geti hk rfl rfl rfl rfl ?_ | refine wp_getr hk rfl rfl rfl rfl ?_)
      refine wp_icgeN (u := t) hk rfl rfl I1.2.1 (by omega) (by omega) (fun g => no (by simp [thOk, Nat.not_lt.mpr g]) _) (fun g3 => ?_)
      repeat (first | refine wp_s hk rfl rfl ?_ | refine wp_goto hk rfl ?_ | refine wp_geti hk rfl rfl rfl rfl ?_ | refine wp_getr hk rfl rfl rfl rfl ?_)
      refine wp_iceqN (u := p) (v := q) hk rfl rfl rfl (by omega) (by omega) (fun g => no (by simp [thOk, g]) _) (fun g4 => ?_)
      repeat (first | refine wp_s hk rfl rfl ?_ | refine wp_goto hk rfl ?_ | refine wp_geti hk rfl rfl rfl rfl ?_ | refine wp_getr hk rfl rfl rfl rfl ?_)
      refine wp_iceqN (u := p) (v := t) hk rfl rfl rfl (by omega) (by omega) (fun g => no (by simp [thOk, g]) _) (fun g5 => ?_)
      repeat (first | refine wp_s hk rfl rfl ?_ | refine wp_goto hk rfl ?_ | refine wp_geti hk rfl rfl rfl rfl ?_ | refine wp_getr hk rfl rfl rfl rfl ?_)
      refine wp_iceqN (u := q) (v := t) hk rfl rfl rfl (by omega) (by omega) (fun g => no (by simp [thOk, g]) _) (fun g6 => ?_)
      refine wp_s hk rfl rfl ?_
      refine wp_goto hk rfl ?_
      exact after true (by simp [thOk, Nat.lt_of_not_le g1, Nat.lt_of_not_le g2, Nat.lt_of_not_le g3, g4, g5, g6]) _)
    exact loop 0 (Nat.zero_le _) M0 _ _ _ _ (Kp.rf _ _)
  · have h' : isN a 3 = false := by simpa using h
    repeat (first | refine wp_s hk rfl rfl ?_ | refine wp_goto hk rfl ?_ | refine wp_geti hk rfl rfl rfl rfl ?_ | refine wp_getr hk rfl rfl rfl rfl ?_)
    refine wp_ir hk rfl rfl ?_
    have hkk := kk M0 F0
    simp only [spThirds, h', Bool.and_self, Bool.true_and, Bool.and_true, Bool.false_and, Bool.and_false, if_true, Bool.false_eq_true, if_false, Bool.not_true, Bool.not_false] at hkk
    exact hkk
