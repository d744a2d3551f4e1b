/-- each of a set marks by land -/
def mkL (V : Vw) (n set : Nat) : Nat → Nat → Nat := fun j s => if j < n ∧ bt set j = true ∧ s < vm V then fv5 (vs V s) (vj V j) else vk V j s
theorem m_mind {M : MM} {V : Vw} {set : Nat} {Q : Option Value → MM → Prop} (I : RefCard M V) (O : VOK V) (hset : set < 128) (kk : ∀ M', Kp M M' [88, 89] → RefV M' (vn V) (vm V) (vc V) (mkL V (vn V) set) → Q none M') : Ca 198 [.ref 83, .int (nI set)] M Q := by
  have ho4 := O.2.2.2.1
  have ho1 := O.2.2.1
  have hn7 := O.2.1
  have hl1 := O.2.2.2.2.2.2.1
  have hl2 := O.2.2.2.2.2.2.2
  have hk : q_cd 198 = kd_X9_mind := rfl
  show WP 198 0 [some (.ref 83), some (.int (nI set)), none, none] [] M Q
  repeat (first | refine wp_s hk rfl rfl ?_ | refine wp_goto hk rfl ?_ | refine wp_geti hk rfl rfl rfl rfl ?_ | refine wp_getr hk rfl rfl rfl rfl ?_)
  refine wp_callV hk rfl rfl rfl rfl rfl rfl ?_
  refine m_take I O (fun M0 K0 V0 => ?_)
  repeat (first | refine wp_s hk rfl rfl ?_ | refine wp_goto hk rfl ?_ | refine wp_geti hk rfl rfl rfl rfl ?_ | refine wp_getr hk rfl rfl rfl rfl ?_)
  have loop := q_dn (n := vn V) (P := fun j => ∀ M1 x3, Kp M M1 [88, 89] → RefV M1 (vn V) (vm V) (vc V) (mkL V j set) → WP 198 7 [some (.ref 83), some (.int (nI set)), some (.int (nI j)), x3] [.int (M1 83 1), .int (nI j)] M1 Q) (by
    intro M1 x3 K1 V1
    refine wp_icgeN hk rfl rfl V1.1 (by first | omega | decide) (by first | omega | decide) (fun _ => ?_) (fun h => absurd h (by omega))
    exact wp_vr hk rfl (kk M1 K1 V1)) (by
    intro j hj ih M1 x3 K1 V1
    refine wp_icgeN hk rfl rfl V1.1 (by first | omega | decide) (by first | omega | decide) (fun h => absurd h (by omega)) (fun _ => ?_)
    have hb2 := q_bitc (set := set) (j := j)
    by_cases hb : bt set j = true
    · have hb1 : set / 2 ^ j % 2 = 1 := of_decide_eq_true hb
      have inner := q_dn (n := vm V) (P := fun t => ∀ M3, Kp M M3 [88, 89] → RefV M3 (vn V) (vm V) (vc V) (fun j' s' => if j' = j ∧ s' < t then fv5 (vs V s') (vj V j) else mkL V j set j' s') → WP 198 13 [some (.ref 83), some (.int (nI set)), some (.int (nI j)), some (.int (nI t))] [.int (M3 83 2), .int (nI t)] M3 Q) (by
        intro M3 K3 V3
        refine wp_icgeN hk rfl rfl V3.2.1 (by first | omega | decide) (by first | omega | decide) (fun _ => ?_) (fun h => absurd h (by omega))
        repeat (first | refine wp_s hk rfl rfl ?_ | refine wp_goto hk rfl ?_ | refine wp_geti hk rfl rfl rfl rfl ?_ | refine wp_getr hk rfl rfl rfl rfl ?_)
        rw [q_nadd j 1]
        refine ih M3 _ K3 (V3.cg (fun _ _ => rfl) (fun j' hj' s' hs' => ?_))
        simp only [mkL]
        by_cases e : j' = j
        · subst e
          by_cases e3 : s' < vm V
          · rw [if_pos ⟨rfl, e3⟩, if_pos ⟨by omega, hb, e3⟩]
          · rw [if_neg (fun z => e3 z.2), if_neg (by omega), if_neg (fun z => e3 z.2.2)]
        · rw [if_neg (fun z => e z.1)]
          by_cases e2 : j' < j ∧ bt set j' = true ∧ s' < vm V
          · rw [if_pos e2, if_pos ⟨by omega, e2.2⟩]
          · rw [if_neg e2, if_neg (fun z => e2 ⟨by omega, z.2⟩)]) (by
        intro t ht iht M3 K3 V3
        refine wp_icgeN hk rfl rfl V3.2.1 (by first | omega | decide) (by first | omega | decide) (fun h => absurd h (by omega)) (fun _ => ?_)
        have I3 := I.kp K3 (by decide) (by decide) (by decide) (by decide) (by decide)
        repeat (first | refine wp_s hk rfl rfl ?_ | refine wp_goto hk rfl ?_ | refine wp_geti hk rfl rfl rfl rfl ?_ | refine wp_getr hk rfl rfl rfl rfl ?_)
        rw [q_bit set hset j (by omega)]
        refine wp_icneN (u := set / 2 ^ j % 2) (v := 1) hk rfl rfl rfl (by omega) (by omega) (fun g => absurd hb1 g) (fun _ => ?_)
        have fin : ∀ z, z = fv5 (vs V t) (vj V j) → WP 198 40 [some (.ref 83), some (.int (nI set)), some (.int (nI j)), some (.int (nI t))] [.int (nI z), .int (nI 4 * nI j + nI t), .ref 88] M3 Q := by
          intro z hz
          refine wp_ast (jx := 4 * j + t) hk rfl rfl (by simp only [q_nadd, q_nmul]) (by omega) ?_
          repeat (first | refine wp_s hk rfl rfl ?_ | refine wp_goto hk rfl ?_ | refine wp_geti hk rfl rfl rfl rfl ?_ | refine wp_getr hk rfl rfl rfl rfl ?_)
          rw [q_nadd t 1]
          have hz5 : z ≤ 5 := by rw [hz]; unfold fv5; split <;> omega
          refine iht _ (K3.up (by decide)) ((V3.w (j := j) (s := t) (v := z) (by omega) (by omega) hz5).cg (fun _ _ => rfl) (fun j' hj' s' hs' => ?_))
          simp only [mkM]
          by_cases e : j' = j ∧ s' = t
          · obtain ⟨rfl, rfl⟩ := e
            rw [if_pos ⟨rfl, rfl⟩, if_pos ⟨rfl, by omega⟩, hz]
          · rw [if_neg e]
            by_cases e2 : j' = j ∧ s' < t
            · rw [if_pos e2, if_pos ⟨e2.1, by omega⟩]
            · rw [if_neg e2, if_neg (by omega)]
        repeat (first | refine wp_s hk rfl rfl ?_ | refine wp_goto hk rfl ?_ | refine wp_geti hk rfl rfl rfl rfl ?_ | refine wp_getr hk rfl rfl rfl rfl ?_)
        refine wp_ald (jx := t) hk rfl rfl rfl (by omega) ?_
        rw [I3.2.2.2.2.2 t (by omega)]
        repeat (first | refine wp_s hk rfl rfl ?_ | refine wp_goto hk rfl ?_ | refine wp_geti hk rfl rfl rfl rfl ?_ | refine wp_getr hk rfl rfl rfl rfl ?_)
        refine wp_ald (jx := j) hk rfl rfl rfl (by omega) ?_
        rw [I3.2.2.2.2.1 j (by omega)]
        have z1 := hl1 j (by omega)
        have z2 := hl2 t (by omega)
        refine wp_icneN (u := vs V t) (v := vj V j) hk rfl rfl rfl (by omega) (by omega) (fun g => ?_) (fun g => ?_)
        · refine wp_s hk rfl rfl ?_
          exact fin 0 (by unfold fv5; rw [if_neg g])
        · refine wp_s hk rfl rfl ?_
          refine wp_goto hk rfl ?_
          exact fin 5 (by unfold fv5; rw [if_pos (Classical.not_not.mp g)]))
      repeat (first | refine wp_s hk rfl rfl ?_ | refine wp_goto hk rfl ?_ | refine wp_geti hk rfl rfl rfl rfl ?_ | refine wp_getr hk rfl rfl rfl rfl ?_)
      exact inner 0 (Nat.zero_le _) M1 K1 (V1.cg (fun _ _ => rfl) (fun j' hj' s' hs' => by simp only [if_neg (show ¬ (j' = j ∧ s' < 0) by omega)]))
    · have hb1 : ¬ set / 2 ^ j % 2 = 1 := fun z => hb (decide_eq_true z)
      repeat (first | refine wp_s hk rfl rfl ?_ | refine wp_goto hk rfl ?_ | refine wp_geti hk rfl rfl rfl rfl ?_ | refine wp_getr hk rfl rfl rfl rfl ?_)
      refine wp_icgeN (u := 0) hk rfl rfl V1.2.1 (by first | omega | decide) (by first | omega | decide) (fun h => absurd h (by omega)) (fun _ => ?_)
      repeat (first | refine wp_s hk rfl rfl ?_ | refine wp_goto hk rfl ?_ | refine wp_geti hk rfl rfl rfl rfl ?_ | refine wp_getr hk rfl rfl rfl rfl ?_)
      rw [q_bit set hset j (by omega)]
      refine wp_icneN (u := set / 2 ^ j % 2) (v := 1) hk rfl rfl rfl (by omega) (by omega) (fun _ => ?_) (fun g => absurd (Classical.not_not.mp g) hb1)
      repeat (first | refine wp_s hk rfl rfl ?_ | refine wp_goto hk rfl ?_ | refine wp_geti hk rfl rfl rfl rfl ?_ | refine wp_getr hk rfl rfl rfl rfl ?_)
      rw [q_nadd j 1]
      refine ih M1 _ K1 (V1.cg (fun _ _ => rfl) (fun j' hj' s' hs' => ?_))
      simp only [mkL]
      by_cases e : j' = j
      · subst e; rw [if_neg (by omega), if_neg (fun z => hb z.2.1)]
      · by_cases e2 : j' < j ∧ bt set j' = true ∧ s' < vm V
        · rw [if_pos e2, if_pos ⟨by omega, e2.2⟩]
        · rw [if_neg e2, if_neg (fun z => e2 ⟨by omega, z.2⟩)])
  exact loop 0 (Nat.zero_le _) M0 _ K0 (V0.cg (fun _ _ => rfl) (fun j' hj' s' hs' => by simp only [mkL]; rw [if_neg (by omega)]))
/-- the least place of a land's skaters -/
def lstW (V : Vw) (pl : Nat → Nat) (f : Nat) : Nat → Nat
  | 0 => 9
  | t + 1 => if vs V t = f ∧ pl t < lstW V pl f t then pl t else lstW V pl f t
theorem lstW_le {V : Vw} {pl : Nat → Nat} {f : Nat} : ∀ {t : Nat}, lstW V pl f t ≤ 9
  | 0 => Nat.le_refl _
  | t + 1 => by
    have := lstW_le (V := V) (pl := pl) (f := f) (t := t)
    simp only [lstW]
    split <;> omega
def plL (V : Vw) (R : Ru) (set t : Nat) : Nat := placeW (worthW (vn V) (vm V) (vc V) (mkL V (vn V) set) R) R.1 (vm V) t
def lst (V : Vw) (R : Ru) (set f : Nat) : Nat := lstW V (plL V R set) f (vm V)
theorem m_leastOf {M : MM} {V : Vw} {R : Ru} {r set f : Nat} {Q : Option Value → MM → Prop} (I : RefCard M V) (O : VOK V) (hr : r ≤ 3) (hR : RefRu M r R) (hO : RuOK R) (hset : set < 128) (hf : f ≤ 3)
    (kk : ∀ M', Kp M M' [88, 89, 98, 99] → Q (some (.int (nI (lst V R set f)))) M') : Ca 199 [.ref 83, .int (nI r), .int (nI set), .int (nI f)] M Q := by
  have ho4 := O.2.2.2.1
  have hl2 := O.2.2.2.2.2.2.2
  have hk : q_cd 199 = kd_X9_leastOf := rfl
  show WP 199 0 [some (.ref 83), some (.int (nI r)), some (.int (nI set)), some (.int (nI f)), none, none, none] [] M Q
  repeat (first | refine wp_s hk rfl rfl ?_ | refine wp_goto hk rfl ?_ | refine wp_geti hk rfl rfl rfl rfl ?_ | refine wp_getr hk rfl rfl rfl rfl ?_)
  refine wp_callV hk rfl rfl rfl rfl rfl rfl ?_
  refine m_mind I O hset (fun M0 K0 V0 => ?_)
  repeat (first | refine wp_s hk rfl rfl ?_ | refine wp_goto hk rfl ?_ | refine wp_geti hk rfl rfl rfl rfl ?_ | refine wp_getr hk rfl rfl rfl rfl ?_)
  refine wp_callV hk rfl rfl rfl rfl rfl rfl ?_
  refine m_lay V0 hr (hR.kp K0 (by decide) (by decide) (by decide) (by decide)) hO (fun M1 K1 W1 => ?_)
  have K01 : Kp M M1 [88, 89, 98, 99] := (K0.mono (by decide)).tr (K1.mono (by decide))
  have V1 := V0.kp K1 (by decide) (by decide) (by decide)
  have I1 := I.kp K01 (by decide) (by decide) (by decide) (by decide) (by decide)
  have hkk := kk M1 K01
  unfold lst at hkk
  have loop := q_dn (n := vm V) (P := fun t => ∀ x6, WP 199 13 [some (.ref 83), some (.int (nI r)), some (.int (nI set)), some (.int (nI f)), some (.int (nI (lstW V (plL V R set) f t))), some (.int (nI t)), x6] [.int (M1 83 2), .int (nI t)] M1 Q) (by
    intro x6
    refine wp_icgeN hk rfl rfl V1.2.1 (by first | omega | decide) (by first | omega | decide) (fun _ => ?_) (fun h => absurd h (by omega))
    repeat (first | refine wp_s hk rfl rfl ?_ | refine wp_goto hk rfl ?_ | refine wp_geti hk rfl rfl rfl rfl ?_ | refine wp_getr hk rfl rfl rfl rfl ?_)
    exact wp_ir hk rfl rfl hkk) (by
    intro t ht ih x6
    refine wp_icgeN hk rfl rfl V1.2.1 (by first | omega | decide) (by first | omega | decide) (fun h => absurd h (by omega)) (fun _ => ?_)
    simp only [lstW] at ih
    have l1 := lstW_le (V := V) (pl := plL V R set) (f := f) (t := t)
    have l2 : plL V R set t ≤ 1 + vm V := placeW_le
    have l3 := hl2 t (by omega)
    repeat (first | refine wp_s hk rfl rfl ?_ | refine wp_goto hk rfl ?_ | refine wp_geti hk rfl rfl rfl rfl ?_ | refine wp_getr hk rfl rfl rfl rfl ?_)
    refine wp_callV hk rfl rfl rfl rfl rfl rfl ?_
    refine m_placeOf W1 hr ht ?_
    repeat (first | refine wp_s hk rfl rfl ?_ | refine wp_goto hk rfl ?_ | refine wp_geti hk rfl rfl rfl rfl ?_ | refine wp_getr hk rfl rfl rfl rfl ?_)
    refine wp_ald (jx := t) hk rfl rfl rfl (by omega) ?_
    rw [I1.2.2.2.2.2 t (by omega)]
    repeat (first | refine wp_s hk rfl rfl ?_ | refine wp_goto hk rfl ?_ | refine wp_geti hk rfl rfl rfl rfl ?_ | refine wp_getr hk rfl rfl rfl rfl ?_)
    have no : ¬ (vs V t = f ∧ plL V R set t < lstW V (plL V R set) f t) → WP 199 30 [some (.ref 83), some (.int (nI r)), some (.int (nI set)), some (.int (nI f)), some (.int (nI (lstW V (plL V R set) f t))), some (.int (nI t)), some (.int (nI (plL V R set t)))] [] M1 Q := by
      intro z
      rw [if_neg z] at ih
      repeat (first | refine wp_s hk rfl rfl ?_ | refine wp_goto hk rfl ?_ | refine wp_geti hk rfl rfl rfl rfl ?_ | refine wp_getr hk rfl rfl rfl rfl ?_)
      rw [q_nadd t 1]
      exact ih _
    refine wp_icneN (u := vs V t) (v := f) hk rfl rfl rfl (by omega) (by omega) (fun g => no (fun z => g z.1)) (fun g => ?_)
    repeat (first | refine wp_s hk rfl rfl ?_ | refine wp_goto hk rfl ?_ | refine wp_geti hk rfl rfl rfl rfl ?_ | refine wp_getr hk rfl rfl rfl rfl ?_)
    refine wp_icgeN (u := plL V R set t) (v := lstW V (plL V R set) f t) hk rfl rfl rfl (by omega) (by omega) (fun g2 => no (fun z => absurd z.2 (Nat.not_lt.mpr g2))) (fun g2 => ?_)
    rw [if_pos ⟨Classical.not_not.mp g, Nat.lt_of_not_le g2⟩] at ih
    repeat (first | refine wp_s hk rfl rfl ?_ | refine wp_goto hk rfl ?_ | refine wp_geti hk rfl rfl rfl rfl ?_ | refine wp_getr hk rfl rfl rfl rfl ?_)
    rw [q_nadd t 1]
    exact ih _)
  repeat (first | refine wp_s hk rfl rfl ?_ | refine wp_goto hk rfl ?_ | refine wp_geti hk rfl rfl rfl rfl ?_ | refine wp_getr hk rfl rfl rfl rfl ?_)
  exact loop 0 (Nat.zero_le _) _
theorem q_nxor (a b : Nat) : nI a ^^^ nI b = nI (a ^^^ b) := by
  show (⟨UInt32.ofNat a⟩ : Int32) ^^^ ⟨UInt32.ofNat b⟩ = ⟨UInt32.ofNat (a ^^^ b)⟩
  rw [UInt32.ofNat_xor]
  rfl
/-- would one judge rather change? -/
def unR (V : Vw) (R : Ru) (set j : Nat) : Bool := !(vL V).testBit j && decide (lst V R (set ^^^ 2 ^ j) (vj V j) < lst V R set (vj V j))
def atR (V : Vw) (R : Ru) (set : Nat) : Bool := !anyN (unR V R set) (vn V)
theorem xor_lt {set j : Nat} (h : set < 128) (hj : j < 7) : set ^^^ 2 ^ j < 128 := Nat.xor_lt_two_pow (n := 7) h (Nat.pow_lt_pow_right (by omega) hj)
theorem m_isAtRest {M : MM} {V : Vw} {R : Ru} {r set : Nat} {Q : Option Value → MM → Prop} (I : RefCard M V) (O : VOK V) (hr : r ≤ 3) (hR : RefRu M r R) (hO : RuOK R) (hset : set < 128)
    (kk : ∀ M', Kp M M' [88, 89, 98, 99] → Q (some (.int (nI (b2n (atR V R set))))) M') : Ca 200 [.ref 83, .int (nI r), .int (nI set)] M Q := by
  have hn7 := O.2.1
  have hl1 := O.2.2.2.2.2.2.1
  have hk : q_cd 200 = kd_X9_isAtRest := rfl
  show WP 200 0 [some (.ref 83), some (.int (nI r)), some (.int (nI set)), none, none] [] M Q
  unfold atR at kk
  have loop := q_dn (n := vn V) (P := fun j => ∀ M1, Kp M M1 [88, 89, 98, 99] → WP 200 7 [some (.ref 83), some (.int (nI r)), some (.int (nI set)), some (.int (nI (b2n (!anyN (unR V R set) j)))), some (.int (nI j))] [.int (M1 83 1), .int (nI j)] M1 Q) (by
    intro M1 K1
    have I1 := I.kp K1 (by decide) (by decide) (by decide) (by decide) (by decide)
    refine wp_icgeN hk rfl rfl I1.1 (by first | omega | decide) (by first | omega | decide) (fun _ => ?_) (fun h => absurd h (by omega))
    repeat (first | refine wp_s hk rfl rfl ?_ | refine wp_goto hk rfl ?_ | refine wp_geti hk rfl rfl rfl rfl ?_ | refine wp_getr hk rfl rfl rfl rfl ?_)
    exact wp_ir hk rfl (q_rokB _) (kk M1 K1)) (by
    intro j hj ih M1 K1
    have I1 := I.kp K1 (by decide) (by decide) (by decide) (by decide) (by decide)
    refine wp_icgeN hk rfl rfl I1.1 (by first | omega | decide) (by first | omega | decide) (fun h => absurd h (by omega)) (fun _ => ?_)
    have z1 := hl1 j (by omega)
    cases hg : anyN (unR V R set) j with
    | true =>
      repeat (first | refine wp_s hk rfl rfl ?_ | refine wp_goto hk rfl ?_ | refine wp_geti hk rfl rfl rfl rfl ?_ | refine wp_getr hk rfl rfl rfl rfl ?_)
      refine wp_ifeqB (u := false) hk rfl rfl (fun _ => ?_) (fun z => by cases z)
      repeat (first | refine wp_s hk rfl rfl ?_ | refine wp_goto hk rfl ?_ | refine wp_geti hk rfl rfl rfl rfl ?_ | refine wp_getr hk rfl rfl rfl rfl ?_)
      have := kk M1 K1
      rw [anyN_mono hg (Nat.le_of_lt hj)] at this
      exact wp_ir hk rfl rfl this
    | false =>
      simp only [anyN, hg, Bool.false_or] at ih
      repeat (first | refine wp_s hk rfl rfl ?_ | refine wp_goto hk rfl ?_ | refine wp_geti hk rfl rfl rfl rfl ?_ | refine wp_getr hk rfl rfl rfl rfl ?_)
      refine wp_ifeqB (u := true) hk rfl rfl (fun z => by cases z) (fun _ => ?_)
      repeat (first | refine wp_s hk rfl rfl ?_ | refine wp_goto hk rfl ?_ | refine wp_geti hk rfl rfl rfl rfl ?_ | refine wp_getr hk rfl rfl rfl rfl ?_)
      refine wp_bld (jx := j) hk rfl rfl rfl (by omega) ?_
      refine wp_ifneB hk rfl (I1.2.2.1 j (by omega)) (fun g => ?_) (fun g => ?_)
      · repeat (first | refine wp_s hk rfl rfl ?_ | refine wp_goto hk rfl ?_ | refine wp_geti hk rfl rfl rfl rfl ?_ | refine wp_getr hk rfl rfl rfl rfl ?_)
        rw [q_nadd j 1]
        have := ih M1 K1
        rw [show unR V R set j = false by unfold unR; rw [g]; rfl] at this
        exact this
      · have hu : unR V R set j = decide (lst V R (set ^^^ 2 ^ j) (vj V j) < lst V R set (vj V j)) := by unfold unR; rw [g]; rfl
        rw [hu] at ih
        have l1 : lst V R (set ^^^ 2 ^ j) (vj V j) ≤ 9 := lstW_le
        have l2 : lst V R set (vj V j) ≤ 9 := lstW_le
        repeat (first | refine wp_s hk rfl rfl ?_ | refine wp_goto hk rfl ?_ | refine wp_geti hk rfl rfl rfl rfl ?_ | refine wp_getr hk rfl rfl rfl rfl ?_)
        refine wp_ald (jx := j) hk rfl rfl rfl (by omega) ?_
        rw [I1.2.2.2.2.1 j (by omega), q_shl1 j (by omega), q_nxor]
        refine wp_callV hk rfl rfl rfl rfl rfl rfl ?_
        refine m_leastOf I1 O hr (hR.kp K1 (by decide) (by decide) (by decide) (by decide)) hO (xor_lt hset (by omega)) z1 (fun M2 K2 => ?_)
        have K12 := K1.tr K2
        have I2 := I.kp K12 (by decide) (by decide) (by decide) (by decide) (by decide)
        repeat (first | refine wp_s hk rfl rfl ?_ | refine wp_goto hk rfl ?_ | refine wp_geti hk rfl rfl rfl rfl ?_ | refine wp_getr hk rfl rfl rfl rfl ?_)
        refine wp_ald (jx := j) hk rfl rfl rfl (by omega) ?_
        rw [I2.2.2.2.2.1 j (by omega)]
        refine wp_callV hk rfl rfl rfl rfl rfl rfl ?_
        refine m_leastOf I2 O hr (hR.kp K12 (by decide) (by decide) (by decide) (by decide)) hO hset z1 (fun M3 K3 => ?_)
        have ih' := ih M3 (K12.tr K3)
        refine wp_icltN (u := lst V R (set ^^^ 2 ^ j) (vj V j)) (v := lst V R set (vj V j)) hk rfl rfl rfl (by omega) (by omega) (fun g2 => ?_) (fun g2 => ?_)
        · rw [decide_eq_true g2] at ih'
          repeat (first | refine wp_s hk rfl rfl ?_ | refine wp_goto hk rfl ?_ | refine wp_geti hk rfl rfl rfl rfl ?_ | refine wp_getr hk rfl rfl rfl rfl ?_)
          rw [q_nadd j 1]
          exact ih'
        · rw [decide_eq_false g2] at ih'
          repeat (first | refine wp_s hk rfl rfl ?_ | refine wp_goto hk rfl ?_ | refine wp_geti hk rfl rfl rfl rfl ?_ | refine wp_getr hk rfl rfl rfl rfl ?_)
          rw [q_nadd j 1]
          exact ih')
  repeat (first | refine wp_s hk rfl rfl ?_ | refine wp_goto hk rfl ?_ | refine wp_geti hk rfl rfl rfl rfl ?_ | refine wp_getr hk rfl rfl rfl rfl ?_)
  exact loop 0 (Nat.zero_le _) M (Kp.rf _ _)
def spMinded (S : St) (a b c : Int32) : Int32 := if isN a 3 && isN c (vm (sV S)) then (if isN b (2 ^ vn (sV S)) then nI (plL (sV S) (sR S (i2n a)) (i2n b) (i2n c)) else BAD) else UNK
theorem m_minded {M : MM} {S : St} {a b c : Int32} {Q : Option Value → MM → Prop} (I : RefInv M S) (O : StOK S) (kk : ∀ M', RFr M M' → Q (some (.int (spMinded S a b c))) M') : Ca 201 [.ref 83, .int a, .int b, .int c] M Q := by
  have hk : q_cd 201 = kd_X9_minded := rfl
  show WP 201 0 [some (.ref 83), some (.int a), some (.int b), some (.int c)] [] M Q
  have ho4 := O.1.2.2.2.1
  have ho7 := O.1.2.1
  have hp := pow_n ho7
  repeat (first | refine wp_s hk rfl rfl ?_ | refine wp_goto hk rfl ?_ | refine wp_geti hk rfl rfl rfl rfl ?_ | refine wp_getr hk rfl rfl rfl rfl ?_)
  refine wp_th hk rfl (fun M0 F0 => ?_)
  have I0 := I.fr O F0
  repeat (first | refine wp_s hk rfl rfl ?_ | refine wp_goto hk rfl ?_ | refine wp_geti hk rfl rfl rfl rfl ?_ | refine wp_getr hk rfl rfl rfl rfl ?_)
  refine wp_callS hk rfl rfl rfl rfl ?_
  refine m_noRule ?_
  refine wp_ifneB (u := !isN a 3) hk rfl rfl (fun h => ?_) (fun h => ?_)
  · have h' : isN a 3 = false := by simpa using h
    repeat (first | refine wp_s hk rfl rfl ?_ | refine wp_goto hk rfl ?_ | refine wp_geti hk rfl rfl rfl rfl ?_ | refine wp_getr hk rfl rfl rfl rfl ?_)
    refine wp_ir hk rfl rfl ?_
    have hkk := kk M0 F0
    simp only [spMinded, h', Bool.and_self, Bool.true_and, Bool.and_true, Bool.false_and, Bool.and_false, if_true, Bool.false_eq_true, if_false, Bool.not_true, Bool.not_false] at hkk
    exact hkk
  have h' : isN a 3 = true := by simpa using h
  repeat (first | refine wp_s hk rfl rfl ?_ | refine wp_goto hk rfl ?_ | refine wp_geti hk rfl rfl rfl rfl ?_ | refine wp_getr hk rfl rfl rfl rfl ?_)
  refine wp_callV hk rfl rfl rfl rfl rfl rfl ?_
  refine m_noSkater I0.1.2.1 O.1.2.2.1 (by omega) ?_
  refine wp_ifeqB (u := !isN c (vm (sV S))) hk rfl rfl (fun k => ?_) (fun k => ?_)
  · have k' : isN c (vm (sV S)) = true := by simpa using k
    repeat (first | refine wp_s hk rfl rfl ?_ | refine wp_goto hk rfl ?_ | refine wp_geti hk rfl rfl rfl rfl ?_ | refine wp_getr hk rfl rfl rfl rfl ?_)
    refine wp_callV hk rfl rfl rfl rfl rfl rfl ?_
    refine m_noSet I0.1.1 O.1.1 ho7 ?_
    refine wp_ifeqB (u := !isN b (2 ^ vn (sV S))) hk rfl rfl (fun f => ?_) (fun f => ?_)
    · have f' : isN b (2 ^ vn (sV S)) = true := by simpa using f
      obtain ⟨hr, ea⟩ := i2n_of (by omega) h'
      obtain ⟨hj, eb⟩ := i2n_of (by omega) f'
      obtain ⟨hs, ec⟩ := i2n_of (by omega) k'
      repeat (first | refine wp_s hk rfl rfl ?_ | refine wp_goto hk rfl ?_ | refine wp_geti hk rfl rfl rfl rfl ?_ | refine wp_getr hk rfl rfl rfl rfl ?_)
      rw [ea, eb, ec]
      refine wp_callV hk rfl rfl rfl rfl rfl rfl ?_
      refine m_mind I0.1 O.1 (by omega) (fun M1 K1 V1 => ?_)
      repeat (first | refine wp_s hk rfl rfl ?_ | refine wp_goto hk rfl ?_ | refine wp_geti hk rfl rfl rfl rfl ?_ | refine wp_getr hk rfl rfl rfl rfl ?_)
      refine wp_callV hk rfl rfl rfl rfl rfl rfl ?_
      refine m_lay V1 (by omega) ((I0.2.2.1.1 _ hr).kp K1 (by decide) (by decide) (by decide) (by decide)) (O.2.2.1 _ hr) (fun M2 K2 W2 => ?_)
      repeat (first | refine wp_s hk rfl rfl ?_ | refine wp_goto hk rfl ?_ | refine wp_geti hk rfl rfl rfl rfl ?_ | refine wp_getr hk rfl rfl rfl rfl ?_)
      refine wp_callV hk rfl rfl rfl rfl rfl rfl ?_
      refine m_placeOf W2 (by omega) hs ?_
      refine wp_ir hk rfl rfl ?_
      have hkk := kk M2 (F0.tr ((RFr.kp K1).tr (RFr.kp K2)))
      simp only [spMinded, h', f', k', Bool.and_self, Bool.true_and, Bool.and_true, Bool.false_and, Bool.and_false, if_true, Bool.false_eq_true, if_false, Bool.not_true, Bool.not_false] at hkk
      exact hkk
    · have f' : isN b (2 ^ vn (sV S)) = false := by simpa using f
      repeat (first | refine wp_s hk rfl rfl ?_ | refine wp_goto hk rfl ?_ | refine wp_geti hk rfl rfl rfl rfl ?_ | refine wp_getr hk rfl rfl rfl rfl ?_)
      refine wp_ir hk rfl rfl ?_
      have hkk := kk M0 F0
      simp only [spMinded, h', f', k', Bool.and_self, Bool.true_and, Bool.and_true, Bool.false_and, Bool.and_false, if_true, Bool.false_eq_true, if_false, Bool.not_true, Bool.not_false] at hkk
      exact hkk
  · have k' : isN c (vm (sV S)) = false := by simpa using k
    repeat (first | refine wp_s hk rfl rfl ?_ | refine wp_goto hk rfl ?_ | refine wp_geti hk rfl rfl rfl rfl ?_ | refine wp_getr hk rfl rfl rfl rfl ?_)
    refine wp_ir hk rfl rfl ?_
    have hkk := kk M0 F0
    simp only [spMinded, h', k', Bool.and_self, Bool.true_and, Bool.and_true, Bool.false_and, Bool.and_false, if_true, Bool.false_eq_true, if_false, Bool.not_true, Bool.not_false] at hkk
    exact hkk
def spRest (S : St) (a b : Int32) : Int32 := if isN a 3 then (if isN b (2 ^ vn (sV S)) then nI (b2n (atR (sV S) (sR S (i2n a)) (i2n b))) else BAD) else UNK
theorem m_rest {M : MM} {S : St} {a b : Int32} {Q : Option Value → MM → Prop} (I : RefInv M S) (O : StOK S) (kk : ∀ M', RFr M M' → Q (some (.int (spRest S a b))) M') : Ca 202 [.ref 83, .int a, .int b] M Q := by
  have hk : q_cd 202 = kd_X9_rest := rfl
  show WP 202 0 [some (.ref 83), some (.int a), some (.int b)] [] M Q
  have ho7 := O.1.2.1
  have hp := pow_n ho7
  repeat (first | refine wp_s hk rfl rfl ?_ | refine wp_goto hk rfl ?_ | refine wp_geti hk rfl rfl rfl rfl ?_ | refine wp_getr hk rfl rfl rfl rfl ?_)
  refine wp_th hk rfl (fun M0 F0 => ?_)
  have I0 := I.fr O F0
  repeat (first | refine wp_s hk rfl rfl ?_ | refine wp_goto hk rfl ?_ | refine wp_geti hk rfl rfl rfl rfl ?_ | refine wp_getr hk rfl rfl rfl rfl ?_)
  refine wp_callS hk rfl rfl rfl rfl ?_
  refine m_noRule ?_
  refine wp_ifeqB (u := !isN a 3) hk rfl rfl (fun h => ?_) (fun h => ?_)
  · have h' : isN a 3 = true := by simpa using h
    repeat (first | refine wp_s hk rfl rfl ?_ | refine wp_goto hk rfl ?_ | refine wp_geti hk rfl rfl rfl rfl ?_ | refine wp_getr hk rfl rfl rfl rfl ?_)
    refine wp_callV hk rfl rfl rfl rfl rfl rfl ?_
    refine m_noSet I0.1.1 O.1.1 ho7 ?_
    refine wp_ifeqB (u := !isN b (2 ^ vn (sV S))) hk rfl rfl (fun f => ?_) (fun f => ?_)
    · have f' : isN b (2 ^ vn (sV S)) = true := by simpa using f
      obtain ⟨hr, ea⟩ := i2n_of (by omega) h'
      obtain ⟨hj, eb⟩ := i2n_of (by omega) f'
      repeat (first | refine wp_s hk rfl rfl ?_ | refine wp_goto hk rfl ?_ | refine wp_geti hk rfl rfl rfl rfl ?_ | refine wp_getr hk rfl rfl rfl rfl ?_)
      rw [ea, eb]
      refine wp_callV hk rfl rfl rfl rfl rfl rfl ?_
      refine m_isAtRest I0.1 O.1 (by omega) (I0.2.2.1.1 _ hr) (O.2.2.1 _ hr) (by omega) (fun M1 K1 => ?_)
      have hkk := kk M1 (F0.tr (RFr.kp K1))
      simp only [spRest, h', f', if_true] at hkk
      refine wp_ifeqB hk rfl rfl (fun z => ?_) (fun z => ?_) <;> rw [z] at hkk
      · repeat (first | refine wp_s hk rfl rfl ?_ | refine wp_goto hk rfl ?_ | refine wp_geti hk rfl rfl rfl rfl ?_ | refine wp_getr hk rfl rfl rfl rfl ?_)
        exact wp_ir hk rfl rfl hkk
      · repeat (first | refine wp_s hk rfl rfl ?_ | refine wp_goto hk rfl ?_ | refine wp_geti hk rfl rfl rfl rfl ?_ | refine wp_getr hk rfl rfl rfl rfl ?_)
        exact wp_ir hk rfl rfl hkk
    · have f' : isN b (2 ^ vn (sV S)) = false := by simpa using f
      repeat (first | refine wp_s hk rfl rfl ?_ | refine wp_goto hk rfl ?_ | refine wp_geti hk rfl rfl rfl rfl ?_ | refine wp_getr hk rfl rfl rfl rfl ?_)
      refine wp_ir hk rfl rfl ?_
      have hkk := kk M0 F0
      simp only [spRest, h', f', Bool.and_self, Bool.true_and, Bool.and_true, Bool.false_and, Bool.and_false, if_true, Bool.false_eq_true, if_false, Bool.not_true, Bool.not_false] at hkk
      exact hkk
  · have h' : isN a 3 = false := by simpa using h
    repeat (first | refine wp_s hk rfl rfl ?_ | refine wp_goto hk rfl ?_ | refine wp_geti hk rfl rfl rfl rfl ?_ | refine wp_getr hk rfl rfl rfl rfl ?_)
    refine wp_ir hk rfl rfl ?_
    have hkk := kk M0 F0
    simp only [spRest, h', Bool.and_self, Bool.true_and, Bool.and_true, Bool.false_and, Bool.and_false, if_true, Bool.false_eq_true, if_false, Bool.not_true, Bool.not_false] at hkk
    exact hkk
/-- the first that does -/
def fsW (f : Nat → Bool) : Nat → Option Nat
  | 0 => none
  | x + 1 => match fsW f x with
    | some y => some y
    | none => if f x then some x else none
def orW (a b : Option Nat) : Option Nat := match a with
  | some y => some y
  | none => b
def cnW (f : Nat → Bool) (n : Nat) : Nat := sumN (fun x => if f x = true then 1 else 0) n
def spRests (S : St) (told : Bool) (a : Int32) : Int32 := if isN a 3 then (if told = true then fwV (fsW (atR (sV S) (sR S (i2n a))) (2 ^ vn (sV S))) else nI (cnW (atR (sV S) (sR S (i2n a))) (2 ^ vn (sV S)))) else UNK
theorem m_rests {M : MM} {S : St} {told : Bool} {a : Int32} {Q : Option Value → MM → Prop} (I : RefInv M S) (O : StOK S) (kk : ∀ M', RFr M M' → Q (some (.int (spRests S told a))) M') : Ca 203 [.ref 83, .int a, .int (nI (b2n told))] M Q := by
  have hk : q_cd 203 = kd_X9_rests := rfl
  show WP 203 0 [some (.ref 83), some (.int a), some (.int (nI (b2n told))), none, none, none, none] [] M Q
  have ho7 := O.1.2.1
  have hp := pow_n ho7
  repeat (first | refine wp_s hk rfl rfl ?_ | refine wp_goto hk rfl ?_ | refine wp_geti hk rfl rfl rfl rfl ?_ | refine wp_getr hk rfl rfl rfl rfl ?_)
  refine wp_th hk rfl (fun M0 F0 => ?_)
  have I0 := I.fr O F0
  repeat (first | refine wp_s hk rfl rfl ?_ | refine wp_goto hk rfl ?_ | refine wp_geti hk rfl rfl rfl rfl ?_ | refine wp_getr hk rfl rfl rfl rfl ?_)
  refine wp_callS hk rfl rfl rfl rfl ?_
  refine m_noRule ?_
  refine wp_ifeqB (u := !isN a 3) hk rfl rfl (fun h => ?_) (fun h => ?_)
  · have h' : isN a 3 = true := by simpa using h
    obtain ⟨hr, ea⟩ := i2n_of (by omega) h'
    rw [ea]
    have hkk := fun M' F => kk M' F
    simp only [spRests, h', if_true] at hkk
    unfold cnW at hkk
    repeat (first | refine wp_s hk rfl rfl ?_ | refine wp_goto hk rfl ?_ | refine wp_geti hk rfl rfl rfl rfl ?_ | refine wp_getr hk rfl rfl rfl rfl ?_)
    rw [I0.1.1, q_shl1 _ (by omega)]
    have loop : ∀ t, t ≤ 2 ^ vn (sV S) → ∀ M1 x6 c l, Kp M0 M1 [88, 89, 98, 99] → c + sumN (fun x => if atR (sV S) (sR S (i2n a)) x = true then 1 else 0) t = sumN (fun x => if atR (sV S) (sR S (i2n a)) x = true then 1 else 0) (2 ^ vn (sV S)) → orW (fsW (atR (sV S) (sR S (i2n a))) t) l = fsW (atR (sV S) (sR S (i2n a))) (2 ^ vn (sV S)) → WP 203 20 [some (.ref 83), some (.int (nI (i2n a))), some (.int (nI (b2n told))), some (.int (nI c)), some (.int (fwV l)), some (.int (nI t - nI 1)), x6] [.int (nI t - nI 1)] M1 Q := by
      intro t
      induction t with
      | zero =>
        intro ht M1 x6 c l K1 hc hl
        refine wp_ifltD (u := 0) (v := 1) hk rfl rfl (by omega) (by omega) (fun _ => ?_) (fun h => absurd h (by omega))
        have := hkk M1 (F0.tr (RFr.kp K1))
        change c + 0 = _ at hc
        change l = _ at hl
        rw [← hl, ← hc, Nat.add_zero] at this
        repeat (first | refine wp_s hk rfl rfl ?_ | refine wp_goto hk rfl ?_ | refine wp_geti hk rfl rfl rfl rfl ?_ | refine wp_getr hk rfl rfl rfl rfl ?_)
        cases told with
        | true =>
          refine wp_ifeqB (u := true) hk rfl rfl (fun z => by cases z) (fun _ => ?_)
          repeat (first | refine wp_s hk rfl rfl ?_ | refine wp_goto hk rfl ?_ | refine wp_geti hk rfl rfl rfl rfl ?_ | refine wp_getr hk rfl rfl rfl rfl ?_)
          exact wp_ir hk rfl rfl this
        | false =>
          refine wp_ifeqB (u := false) hk rfl rfl (fun _ => ?_) (fun z => by cases z)
          repeat (first | refine wp_s hk rfl rfl ?_ | refine wp_goto hk rfl ?_ | refine wp_geti hk rfl rfl rfl rfl ?_ | refine wp_getr hk rfl rfl rfl rfl ?_)
          exact wp_ir hk rfl rfl this
      | succ t ih =>
        intro ht M1 x6 c l K1 hc hl
        refine wp_ifltD (u := t + 1) (v := 1) hk rfl rfl (by omega) (by omega) (fun h => absurd h (by omega)) (fun _ => ?_)
        rw [q_nsub (Nat.le_add_left 1 t), Nat.add_sub_cancel]
        repeat (first | refine wp_s hk rfl rfl ?_ | refine wp_goto hk rfl ?_ | refine wp_geti hk rfl rfl rfl rfl ?_ | refine wp_getr hk rfl rfl rfl rfl ?_)
        refine wp_callV hk rfl rfl rfl rfl rfl rfl ?_
        refine m_isAtRest (I0.1.kp K1 (by decide) (by decide) (by decide) (by decide) (by decide)) O.1 (by omega) ((I0.2.2.1.1 _ hr).kp K1 (by decide) (by decide) (by decide) (by decide)) (O.2.2.1 _ hr) (by omega) (fun M2 K2 => ?_)
        have K12 := K1.tr K2
        simp only [sumN] at hc
        cases hg : atR (sV S) (sR S (i2n a)) t with
        | true =>
          rw [hg] at hc
          repeat (first | refine wp_s hk rfl rfl ?_ | refine wp_goto hk rfl ?_ | refine wp_geti hk rfl rfl rfl rfl ?_ | refine wp_getr hk rfl rfl rfl rfl ?_)
          refine wp_ifeqB (u := true) hk rfl rfl (fun z => by cases z) (fun _ => ?_)
          repeat (first | refine wp_s hk rfl rfl ?_ | refine wp_goto hk rfl ?_ | refine wp_geti hk rfl rfl rfl rfl ?_ | refine wp_getr hk rfl rfl rfl rfl ?_)
          refine wp_ifeqB (u := true) hk rfl rfl (fun z => by cases z) (fun _ => ?_)
          repeat (first | refine wp_s hk rfl rfl ?_ | refine wp_goto hk rfl ?_ | refine wp_geti hk rfl rfl rfl rfl ?_ | refine wp_getr hk rfl rfl rfl rfl ?_)
          rw [q_dec2, q_nadd]
          refine ih (by omega) M2 _ (c + 1) (some t) K12 (by simp only [if_true] at hc; omega) ?_
          rw [← hl]
          simp only [fsW, orW, hg, if_true]
          cases fsW (atR (sV S) (sR S (i2n a))) t <;> rfl
        | false =>
          rw [hg] at hc
          repeat (first | refine wp_s hk rfl rfl ?_ | refine wp_goto hk rfl ?_ | refine wp_geti hk rfl rfl rfl rfl ?_ | refine wp_getr hk rfl rfl rfl rfl ?_)
          refine wp_ifeqB (u := false) hk rfl rfl (fun _ => ?_) (fun z => by cases z)
          repeat (first | refine wp_s hk rfl rfl ?_ | refine wp_goto hk rfl ?_ | refine wp_geti hk rfl rfl rfl rfl ?_ | refine wp_getr hk rfl rfl rfl rfl ?_)
          refine wp_ifeqB (u := false) hk rfl rfl (fun _ => ?_) (fun z => by cases z)
          repeat (first | refine wp_s hk rfl rfl ?_ | refine wp_goto hk rfl ?_ | refine wp_geti hk rfl rfl rfl rfl ?_ | refine wp_getr hk rfl rfl rfl rfl ?_)
          rw [q_dec2, q_nadd]
          refine ih (by omega) M2 _ (c + 0) l K12 (by simp only [Bool.false_eq_true, if_false] at hc; omega) ?_
          rw [← hl]
          simp only [fsW, orW, hg, Bool.false_eq_true, if_false]
          cases fsW (atR (sV S) (sR S (i2n a))) t <;> rfl
    exact loop _ (Nat.le_refl _) M0 _ 0 none (Kp.rf _ _) (Nat.zero_add _) (by cases fsW (atR (sV S) (sR S (i2n a))) (2 ^ vn (sV S)) <;> rfl)
  · have h' : isN a 3 = false := by simpa using h
    repeat (first | refine wp_s hk rfl rfl ?_ | refine wp_goto hk rfl ?_ | refine wp_geti hk rfl rfl rfl rfl ?_ | refine wp_getr hk rfl rfl rfl rfl ?_)
    refine wp_ir hk rfl rfl ?_
    have hkk := kk M0 F0
    simp only [spRests, h', Bool.and_self, Bool.true_and, Bool.and_true, Bool.false_and, Bool.and_false, if_true, Bool.false_eq_true, if_false, Bool.not_true, Bool.not_false] at hkk
    exact hkk
