theorem m_first {M : MM} {S : St} {a : Int32} {Q : Option Value → MM → Prop} (I : RefInv M S) (O : StOK S) (kk : ∀ M', RFr M M' → Q (some (.int (spFirst S a))) M') : Ca 168 [.ref 83, .int a] M Q := by
  have hk : q_cd 168 = kd_X9_first := rfl
  show WP 168 0 [some (.ref 83), some (.int a)] [] M Q
  repeat (first | refine wp_s hk rfl rfl ?_ | refine wp_goto hk rfl ?_ | refine wp_geti hk rfl rfl rfl rfl ?_ | refine wp_getr hk rfl rfl rfl rfl ?_)
  refine wp_th hk rfl (fun M0 F0 => ?_)
  have I0 := I.fr O F0
  repeat (first | refine wp_s hk rfl rfl ?_ | refine wp_goto hk rfl ?_ | refine wp_geti hk rfl rfl rfl rfl ?_ | refine wp_getr hk rfl rfl rfl rfl ?_)
  refine wp_callS hk rfl rfl rfl rfl ?_
  refine m_noRule ?_
  refine wp_ifeqB (u := !isN a 3) hk rfl rfl (fun h => ?_) (fun h => ?_)
  · have h' : isN a 3 = true := by simpa using h
    obtain ⟨hr, ea⟩ := i2n_of (by omega) h'
    repeat (first | refine wp_s hk rfl rfl ?_ | refine wp_goto hk rfl ?_ | refine wp_geti hk rfl rfl rfl rfl ?_ | refine wp_getr hk rfl rfl rfl rfl ?_)
    refine wp_callV hk rfl rfl rfl rfl rfl rfl ?_
    refine m_take I0.1 O.1 (fun M1 K1 V1 => ?_)
    repeat (first | refine wp_s hk rfl rfl ?_ | refine wp_goto hk rfl ?_ | refine wp_geti hk rfl rfl rfl rfl ?_ | refine wp_getr hk rfl rfl rfl rfl ?_)
    rw [ea]
    refine wp_callV hk rfl rfl rfl rfl rfl rfl ?_
    refine m_lay V1 (by omega) ((I0.2.2.1.1 _ hr).kp K1 (by decide) (by decide) (by decide) (by decide)) (O.2.2.1 _ hr) (fun M2 K2 W2 => ?_)
    repeat (first | refine wp_s hk rfl rfl ?_ | refine wp_goto hk rfl ?_ | refine wp_geti hk rfl rfl rfl rfl ?_ | refine wp_getr hk rfl rfl rfl rfl ?_)
    refine wp_callV hk rfl rfl rfl rfl rfl rfl ?_
    refine m_firsts W2 (by omega) ?_
    refine wp_ir hk rfl rfl ?_
    have hkk := kk M2 (F0.tr ((RFr.kp K1).tr (RFr.kp K2)))
    simp only [spFirst, h', ← ea, Bool.and_self, Bool.true_and, Bool.and_true, Bool.false_and, Bool.and_false, if_true, Bool.false_eq_true, if_false, Bool.not_true, Bool.not_false] at hkk
    exact hkk
  · have h' : isN a 3 = false := by simpa using h
    repeat (first | refine wp_s hk rfl rfl ?_ | refine wp_goto hk rfl ?_ | refine wp_geti hk rfl rfl rfl rfl ?_ | refine wp_getr hk rfl rfl rfl rfl ?_)
    refine wp_ir hk rfl rfl ?_
    have hkk := kk M0 F0
    simp only [spFirst, h', Bool.and_self, Bool.true_and, Bool.and_true, Bool.false_and, Bool.and_false, if_true, Bool.false_eq_true, if_false, Bool.not_true, Bool.not_false] at hkk
    exact hkk
theorem m_worth {M : MM} {S : St} {a b c : Int32} {Q : Option Value → MM → Prop} (I : RefInv M S) (O : StOK S) (kk : ∀ M', RFr M M' → Q (some (.int (spWorth S a b c))) M') : Ca 165 [.ref 83, .int a, .int b, .int c] M Q := by
  have hk : q_cd 165 = kd_X9_worth := rfl
  show WP 165 0 [some (.ref 83), some (.int a), some (.int b), some (.int c)] [] M Q
  have ho4 := O.1.2.2.2.1
  repeat (first | refine wp_s hk rfl rfl ?_ | refine wp_goto hk rfl ?_ | refine wp_geti hk rfl rfl rfl rfl ?_ | refine wp_getr hk rfl rfl rfl rfl ?_)
  refine wp_th hk rfl (fun M0 F0 => ?_)
  have I0 := I.fr O F0
  repeat (first | refine wp_s hk rfl rfl ?_ | refine wp_goto hk rfl ?_ | refine wp_geti hk rfl rfl rfl rfl ?_ | refine wp_getr hk rfl rfl rfl rfl ?_)
  refine wp_callS hk rfl rfl rfl rfl ?_
  refine m_noRule ?_
  refine wp_ifneB (u := !isN a 3) hk rfl rfl (fun h => ?_) (fun h => ?_)
  · have h' : isN a 3 = false := by simpa using h
    repeat (first | refine wp_s hk rfl rfl ?_ | refine wp_goto hk rfl ?_ | refine wp_geti hk rfl rfl rfl rfl ?_ | refine wp_getr hk rfl rfl rfl rfl ?_)
    refine wp_ir hk rfl rfl ?_
    have hkk := kk M0 F0
    simp only [spWorth, h', Bool.and_self, Bool.true_and, Bool.and_true, Bool.false_and, Bool.and_false, if_true, Bool.false_eq_true, if_false, Bool.not_true, Bool.not_false] at hkk
    exact hkk
  have h' : isN a 3 = true := by simpa using h
  obtain ⟨hr, ea⟩ := i2n_of (by omega) h'
  repeat (first | refine wp_s hk rfl rfl ?_ | refine wp_goto hk rfl ?_ | refine wp_geti hk rfl rfl rfl rfl ?_ | refine wp_getr hk rfl rfl rfl rfl ?_)
  refine wp_callV hk rfl rfl rfl rfl rfl rfl ?_
  refine m_noSkater I0.1.2.1 O.1.2.2.1 (Nat.le_trans O.1.2.2.2.1 (by omega)) ?_
  refine wp_ifeqB (u := !isN b (vm (sV S))) hk rfl rfl (fun g => ?_) (fun g => ?_)
  · have g' : isN b (vm (sV S)) = true := by simpa using g
    obtain ⟨hs, eb⟩ := i2n_of (by omega) g'
    have hO := O.2.2.1 _ hr
    repeat (first | refine wp_s hk rfl rfl ?_ | refine wp_goto hk rfl ?_ | refine wp_geti hk rfl rfl rfl rfl ?_ | refine wp_getr hk rfl rfl rfl rfl ?_)
    refine wp_ald (jx := i2n a) hk rfl rfl ea (by omega) ?_
    rw [(I0.2.2.1.1 _ hr).1]
    repeat (first | refine wp_s hk rfl rfl ?_ | refine wp_goto hk rfl ?_ | refine wp_geti hk rfl rfl rfl rfl ?_ | refine wp_getr hk rfl rfl rfl rfl ?_)
    rw [q_nsub hO.1]
    refine wp_callS hk rfl rfl rfl rfl ?_
    refine m_in ?_
    refine wp_ifneB (u := isN c (sR S (i2n a)).1) hk rfl (congrArg (fun z => nI (b2n z)) (q_in0 hO.1 (by have := hO.2.1; omega))) (fun k => ?_) (fun k => ?_)
    · obtain ⟨hi, ec⟩ := i2n_of (by have := hO.2.1; omega) k
      repeat (first | refine wp_s hk rfl rfl ?_ | refine wp_goto hk rfl ?_ | refine wp_geti hk rfl rfl rfl rfl ?_ | refine wp_getr hk rfl rfl rfl rfl ?_)
      refine wp_callV hk rfl rfl rfl rfl rfl rfl ?_
      refine m_take I0.1 O.1 (fun M1 K1 V1 => ?_)
      repeat (first | refine wp_s hk rfl rfl ?_ | refine wp_goto hk rfl ?_ | refine wp_geti hk rfl rfl rfl rfl ?_ | refine wp_getr hk rfl rfl rfl rfl ?_)
      rw [ea, eb, ec]
      refine wp_callV hk rfl rfl rfl rfl rfl rfl ?_
      refine m_worthOf V1 (by omega) ((I0.2.2.1.1 _ hr).kp K1 (by decide) (by decide) (by decide) (by decide)) hO hi hs (fun M2 K2 => ?_)
      refine wp_ir hk rfl rfl ?_
      have hkk := kk M2 (F0.tr ((RFr.kp K1).tr (RFr.kp K2)))
      simp only [spWorth, h', g', k, Bool.and_self, Bool.true_and, Bool.and_true, Bool.false_and, Bool.and_false, if_true, Bool.false_eq_true, if_false, Bool.not_true, Bool.not_false] at hkk
      exact hkk
    · repeat (first | refine wp_s hk rfl rfl ?_ | refine wp_goto hk rfl ?_ | refine wp_geti hk rfl rfl rfl rfl ?_ | refine wp_getr hk rfl rfl rfl rfl ?_)
      refine wp_ir hk rfl rfl ?_
      have hkk := kk M0 F0
      simp only [spWorth, h', g', k, Bool.and_self, Bool.true_and, Bool.and_true, Bool.false_and, Bool.and_false, if_true, Bool.false_eq_true, if_false, Bool.not_true, Bool.not_false] at hkk
      exact hkk
  · have g' : isN b (vm (sV S)) = false := by simpa using g
    repeat (first | refine wp_s hk rfl rfl ?_ | refine wp_goto hk rfl ?_ | refine wp_geti hk rfl rfl rfl rfl ?_ | refine wp_getr hk rfl rfl rfl rfl ?_)
    refine wp_ir hk rfl rfl ?_
    have hkk := kk M0 F0
    simp only [spWorth, h', g', Bool.and_self, Bool.true_and, Bool.and_true, Bool.false_and, Bool.and_false, if_true, Bool.false_eq_true, if_false, Bool.not_true, Bool.not_false] at hkk
    exact hkk
/-- before whom a skater comes, and the i-th -/
def rkW (pl : Nat → Nat) (m s : Nat) : Nat := sumN (fun o => if pl o < pl s ∨ (pl o = pl s ∧ o < s) then 1 else 0) m
def ordW (pl : Nat → Nat) (m : Nat) (x : Int32) : Nat → Nat → Int32
  | _, 0 => NON
  | s, d + 1 => if nI (rkW pl m s) = x then nI s else ordW pl m x (s + 1) d
def spOrder (S : St) (a i : Int32) : Int32 := if isN a 3 then ordW (placeW (wS (sV S) (sR S (i2n a))) (sR S (i2n a)).1 (vm (sV S))) (vm (sV S)) i 0 (vm (sV S)) else UNK
theorem placeW_le {w : Nat → Nat → Nat} {parts m s : Nat} : placeW w parts m s ≤ 1 + m := by
  have := sumN_le (f := fun o => if aheadW w o s 0 parts then 1 else 0) (c := 1) (n := m) (fun j _ => by split <;> omega)
  simp only [placeW]; omega
theorem m_order {M : MM} {S : St} {a x : Int32} {Q : Option Value → MM → Prop} (I : RefInv M S) (O : StOK S) (kk : ∀ M', RFr M M' → Q (some (.int (spOrder S a x))) M') : Ca 167 [.ref 83, .int a, .int x] M Q := by
  have hk : q_cd 167 = kd_X9_order := rfl
  show WP 167 0 [some (.ref 83), some (.int a), some (.int x), none, none, none, none] [] M Q
  have ho4 := O.1.2.2.2.1
  repeat (first | refine wp_s hk rfl rfl ?_ | refine wp_goto hk rfl ?_ | refine wp_geti hk rfl rfl rfl rfl ?_ | refine wp_getr hk rfl rfl rfl rfl ?_)
  refine wp_th hk rfl (fun M0 F0 => ?_)
  have I0 := I.fr O F0
  repeat (first | refine wp_s hk rfl rfl ?_ | refine wp_goto hk rfl ?_ | refine wp_geti hk rfl rfl rfl rfl ?_ | refine wp_getr hk rfl rfl rfl rfl ?_)
  refine wp_callS hk rfl rfl rfl rfl ?_
  refine m_noRule ?_
  refine wp_ifeqB (u := !isN a 3) hk rfl rfl (fun h => ?_) (fun h => ?_)
  · have h' : isN a 3 = true := by simpa using h
    obtain ⟨hr, ea⟩ := i2n_of (by omega) h'
    repeat (first | refine wp_s hk rfl rfl ?_ | refine wp_goto hk rfl ?_ | refine wp_geti hk rfl rfl rfl rfl ?_ | refine wp_getr hk rfl rfl rfl rfl ?_)
    refine wp_callV hk rfl rfl rfl rfl rfl rfl ?_
    refine m_take I0.1 O.1 (fun M1 K1 V1 => ?_)
    repeat (first | refine wp_s hk rfl rfl ?_ | refine wp_goto hk rfl ?_ | refine wp_geti hk rfl rfl rfl rfl ?_ | refine wp_getr hk rfl rfl rfl rfl ?_)
    rw [ea]
    refine wp_callV hk rfl rfl rfl rfl rfl rfl ?_
    refine m_lay V1 (by omega) ((I0.2.2.1.1 _ hr).kp K1 (by decide) (by decide) (by decide) (by decide)) (O.2.2.1 _ hr) (fun M2 K2 W2 => ?_)
    have F2 := F0.tr ((RFr.kp K1).tr (RFr.kp K2))
    have hkk := kk M2 F2
    simp only [spOrder, h', if_true] at hkk
    change RefW M2 _ _ _ (wS (sV S) (sR S (i2n a))) at W2
    generalize wS (sV S) (sR S (i2n a)) = w at W2 hkk
    generalize (sR S (i2n a)).1 = parts at W2 hkk
    generalize i2n a = r at W2 hr hkk
    generalize vm (sV S) = m at W2 hkk ho4
    have hm := W2.2.1
    repeat (first | refine wp_s hk rfl rfl ?_ | refine wp_goto hk rfl ?_ | refine wp_geti hk rfl rfl rfl rfl ?_ | refine wp_getr hk rfl rfl rfl rfl ?_)
    have outer := q_dn (n := m) (P := fun s => ∀ x4 x5 x6, Q (some (.int (ordW (placeW w parts m) m x s (m - s)))) M2 → WP 167 18 [some (.ref 83), some (.int (nI r)), some (.int x), some (.int (nI s)), x4, x5, x6] [.int (M2 83 2), .int (nI s)] M2 Q) (by
      intro x4 x5 x6 hQ
      refine wp_icgeN hk rfl rfl hm (by first | omega | decide) (by first | omega | decide) (fun _ => ?_) (fun h => absurd h (by omega))
      repeat (first | refine wp_s hk rfl rfl ?_ | refine wp_goto hk rfl ?_ | refine wp_geti hk rfl rfl rfl rfl ?_ | refine wp_getr hk rfl rfl rfl rfl ?_)
      refine wp_ir hk rfl rfl ?_
      rw [Nat.sub_self] at hQ
      exact hQ) (by
      intro s hs ih x4 x5 x6 hQ
      refine wp_icgeN hk rfl rfl hm (by first | omega | decide) (by first | omega | decide) (fun h => absurd h (by omega)) (fun _ => ?_)
      rw [show m - s = (m - (s + 1)) + 1 by omega] at hQ
      simp only [ordW] at hQ
      repeat (first | refine wp_s hk rfl rfl ?_ | refine wp_goto hk rfl ?_ | refine wp_geti hk rfl rfl rfl rfl ?_ | refine wp_getr hk rfl rfl rfl rfl ?_)
      have inner := q_dn (n := m) (P := fun o => ∀ x6, WP 167 26 [some (.ref 83), some (.int (nI r)), some (.int x), some (.int (nI s)), some (.int (nI (sumN (fun o => if placeW w parts m o < placeW w parts m s ∨ (placeW w parts m o = placeW w parts m s ∧ o < s) then 1 else 0) o))), some (.int (nI o)), x6] [.int (M2 83 2), .int (nI o)] M2 Q) (by
        intro x6
        refine wp_icgeN hk rfl rfl hm (by first | omega | decide) (by first | omega | decide) (fun _ => ?_) (fun h => absurd h (by omega))
        repeat (first | refine wp_s hk rfl rfl ?_ | refine wp_goto hk rfl ?_ | refine wp_geti hk rfl rfl rfl rfl ?_ | refine wp_getr hk rfl rfl rfl rfl ?_)
        refine wp_icne hk rfl (fun e => ?_) (fun e => ?_)
        · rw [if_neg (show ¬ nI (rkW (placeW w parts m) m s) = x from e)] at hQ
          repeat (first | refine wp_s hk rfl rfl ?_ | refine wp_goto hk rfl ?_ | refine wp_geti hk rfl rfl rfl rfl ?_ | refine wp_getr hk rfl rfl rfl rfl ?_)
          rw [q_nadd s 1]
          exact ih _ _ _ hQ
        · rw [if_pos (show nI (rkW (placeW w parts m) m s) = x from Classical.not_not.mp e)] at hQ
          repeat (first | refine wp_s hk rfl rfl ?_ | refine wp_goto hk rfl ?_ | refine wp_geti hk rfl rfl rfl rfl ?_ | refine wp_getr hk rfl rfl rfl rfl ?_)
          exact wp_ir hk rfl rfl hQ) (by
        intro o ho iho x6
        refine wp_icgeN hk rfl rfl hm (by first | omega | decide) (by first | omega | decide) (fun h => absurd h (by omega)) (fun _ => ?_)
        repeat (first | refine wp_s hk rfl rfl ?_ | refine wp_goto hk rfl ?_ | refine wp_geti hk rfl rfl rfl rfl ?_ | refine wp_getr hk rfl rfl rfl rfl ?_)
        refine wp_callV hk rfl rfl rfl rfl rfl rfl ?_
        refine m_placeOf W2 (by omega) hs ?_
        repeat (first | refine wp_s hk rfl rfl ?_ | refine wp_goto hk rfl ?_ | refine wp_geti hk rfl rfl rfl rfl ?_ | refine wp_getr hk rfl rfl rfl rfl ?_)
        refine wp_callV hk rfl rfl rfl rfl rfl rfl ?_
        refine m_placeOf W2 (by omega) ho ?_
        have l1 := placeW_le (w := w) (parts := parts) (m := m) (s := s)
        have l2 := placeW_le (w := w) (parts := parts) (m := m) (s := o)
        repeat (first | refine wp_s hk rfl rfl ?_ | refine wp_goto hk rfl ?_ | refine wp_geti hk rfl rfl rfl rfl ?_ | refine wp_getr hk rfl rfl rfl rfl ?_)
        have fin : ∀ z : Nat, z = (if placeW w parts m o < placeW w parts m s ∨ (placeW w parts m o = placeW w parts m s ∧ o < s) then 1 else 0) → WP 167 48 [some (.ref 83), some (.int (nI r)), some (.int x), some (.int (nI s)), some (.int (nI (sumN (fun o => if placeW w parts m o < placeW w parts m s ∨ (placeW w parts m o = placeW w parts m s ∧ o < s) then 1 else 0) o))), some (.int (nI o)), some (.int (nI (placeW w parts m s) - nI (placeW w parts m o)))] [.int (nI z), .int (nI (sumN (fun o => if placeW w parts m o < placeW w parts m s ∨ (placeW w parts m o = placeW w parts m s ∧ o < s) then 1 else 0) o))] M2 Q := by
          intro z hz
          repeat (first | refine wp_s hk rfl rfl ?_ | refine wp_goto hk rfl ?_ | refine wp_geti hk rfl rfl rfl rfl ?_ | refine wp_getr hk rfl rfl rfl rfl ?_)
          rw [q_nadd, q_nadd o 1, hz]
          exact iho _
        generalize placeW w parts m s = ps at l1 fin ⊢
        generalize placeW w parts m o = po at l2 fin ⊢
        refine wp_ifgtD hk rfl rfl (by omega) (by omega) (fun g => ?_) (fun g => ?_)
        · refine wp_s hk rfl rfl ?_
          refine wp_goto hk rfl ?_
          exact fin 1 (by rw [if_pos (Or.inl g)])
        · repeat (first | refine wp_s hk rfl rfl ?_ | refine wp_goto hk rfl ?_ | refine wp_geti hk rfl rfl rfl rfl ?_ | refine wp_getr hk rfl rfl rfl rfl ?_)
          refine wp_ifneD hk rfl rfl (by omega) (by omega) (fun g2 => ?_) (fun g2 => ?_)
          · refine wp_s hk rfl rfl ?_
            exact fin 0 (by rw [if_neg (by omega)])
          · repeat (first | refine wp_s hk rfl rfl ?_ | refine wp_goto hk rfl ?_ | refine wp_geti hk rfl rfl rfl rfl ?_ | refine wp_getr hk rfl rfl rfl rfl ?_)
            refine wp_icgeN (u := o) (v := s) hk rfl rfl rfl (by omega) (by omega) (fun g3 => ?_) (fun g3 => ?_)
            · refine wp_s hk rfl rfl ?_
              exact fin 0 (by rw [if_neg (by omega)])
            · refine wp_s hk rfl rfl ?_
              refine wp_goto hk rfl ?_
              exact fin 1 (by rw [if_pos (by omega)]))
      exact inner 0 (Nat.zero_le _) _)
    exact outer 0 (Nat.zero_le _) _ _ _ hkk
  · have h' : isN a 3 = false := by simpa using h
    repeat (first | refine wp_s hk rfl rfl ?_ | refine wp_goto hk rfl ?_ | refine wp_geti hk rfl rfl rfl rfl ?_ | refine wp_getr hk rfl rfl rfl rfl ?_)
    refine wp_ir hk rfl rfl ?_
    have hkk := kk M0 F0
    simp only [spOrder, h', Bool.and_self, Bool.true_and, Bool.and_true, Bool.false_and, Bool.and_false, if_true, Bool.false_eq_true, if_false, Bool.not_true, Bool.not_false] at hkk
    exact hkk
/-- pairs of skaters that two rules put in unlike orders -/
def apW (f g : Nat → Nat → Int32) (m : Nat) : Nat := sumN (fun a => sumN (fun b => if f a b = g a b then 0 else 1) a) m
def sgR (V : Vw) (R : Ru) (a b : Nat) : Int32 := sgW (aheadW (wS V R) a b 0 R.1) (aheadW (wS V R) b a 0 R.1)
def spApart (S : St) (a b : Int32) : Int32 := if isN a 3 && isN b 3 then nI (apW (sgR (sV S) (sR S (i2n a))) (sgR (sV S) (sR S (i2n b))) (vm (sV S))) else UNK
theorem m_apart {M : MM} {S : St} {a b : Int32} {Q : Option Value → MM → Prop} (I : RefInv M S) (O : StOK S) (kk : ∀ M', RFr M M' → Q (some (.int (spApart S a b))) M') : Ca 169 [.ref 83, .int a, .int b] M Q := by
  have hk : q_cd 169 = kd_X9_apart := rfl
  show WP 169 0 [some (.ref 83), some (.int a), some (.int b), none, none, none, none] [] M Q
  have ho4 := O.1.2.2.2.1
  repeat (first | refine wp_s hk rfl rfl ?_ | refine wp_goto hk rfl ?_ | refine wp_geti hk rfl rfl rfl rfl ?_ | refine wp_getr hk rfl rfl rfl rfl ?_)
  refine wp_th hk rfl (fun M0 F0 => ?_)
  have I0 := I.fr O F0
  repeat (first | refine wp_s hk rfl rfl ?_ | refine wp_goto hk rfl ?_ | refine wp_geti hk rfl rfl rfl rfl ?_ | refine wp_getr hk rfl rfl rfl rfl ?_)
  refine wp_callS hk rfl rfl rfl rfl ?_
  refine m_noRule ?_
  refine wp_ifneB (u := !isN a 3) hk rfl rfl (fun h => ?_) (fun h => ?_)
  · have h' : isN a 3 = false := by simpa using h
    repeat (first | refine wp_s hk rfl rfl ?_ | refine wp_goto hk rfl ?_ | refine wp_geti hk rfl rfl rfl rfl ?_ | refine wp_getr hk rfl rfl rfl rfl ?_)
    refine wp_ir hk rfl rfl ?_
    have hkk := kk M0 F0
    simp only [spApart, h', Bool.and_self, Bool.true_and, Bool.and_true, Bool.false_and, Bool.and_false, if_true, Bool.false_eq_true, if_false, Bool.not_true, Bool.not_false] at hkk
    exact hkk
  have h' : isN a 3 = true := by simpa using h
  obtain ⟨hr, ea⟩ := i2n_of (by omega) h'
  repeat (first | refine wp_s hk rfl rfl ?_ | refine wp_goto hk rfl ?_ | refine wp_geti hk rfl rfl rfl rfl ?_ | refine wp_getr hk rfl rfl rfl rfl ?_)
  refine wp_callS hk rfl rfl rfl rfl ?_
  refine m_noRule ?_
  refine wp_ifeqB (u := !isN b 3) hk rfl rfl (fun g => ?_) (fun g => ?_)
  · have g' : isN b 3 = true := by simpa using g
    obtain ⟨hr2, eb⟩ := i2n_of (by omega) g'
    repeat (first | refine wp_s hk rfl rfl ?_ | refine wp_goto hk rfl ?_ | refine wp_geti hk rfl rfl rfl rfl ?_ | refine wp_getr hk rfl rfl rfl rfl ?_)
    refine wp_callV hk rfl rfl rfl rfl rfl rfl ?_
    refine m_take I0.1 O.1 (fun M1 K1 V1 => ?_)
    have F1 := F0.tr (RFr.kp K1)
    have hm := V1.2.1
    have RA := (I0.2.2.1.1 _ hr).kp K1 (by decide) (by decide) (by decide) (by decide)
    have RB := (I0.2.2.1.1 _ hr2).kp K1 (by decide) (by decide) (by decide) (by decide)
    have OA := O.2.2.1 _ hr
    have OB := O.2.2.1 _ hr2
    have hkk := fun M' F => kk M' F
    simp only [spApart, h', g', Bool.and_self, if_true] at hkk
    rw [ea, eb]
    repeat (first | refine wp_s hk rfl rfl ?_ | refine wp_goto hk rfl ?_ | refine wp_geti hk rfl rfl rfl rfl ?_ | refine wp_getr hk rfl rfl rfl rfl ?_)
    have outer := q_dn (n := vm (sV S)) (P := fun x => ∀ M3 x5 x6, Kp M1 M3 [98, 99] → WP 169 20 [some (.ref 83), some (.int (nI (i2n a))), some (.int (nI (i2n b))), some (.int (nI (apW (sgR (sV S) (sR S (i2n a))) (sgR (sV S) (sR S (i2n b))) x))), some (.int (nI x)), x5, x6] [.int (M3 83 2), .int (nI x)] M3 Q) (by
      intro M3 x5 x6 K3
      refine wp_icgeN hk rfl rfl ((congrFun (K3 83 (by decide)) 2).trans hm) (by first | omega | decide) (by first | omega | decide) (fun _ => ?_) (fun h => absurd h (by omega))
      repeat (first | refine wp_s hk rfl rfl ?_ | refine wp_goto hk rfl ?_ | refine wp_geti hk rfl rfl rfl rfl ?_ | refine wp_getr hk rfl rfl rfl rfl ?_)
      exact wp_ir hk rfl rfl (hkk M3 (F1.tr (RFr.kp K3)))) (by
      intro x hx ih M3 x5 x6 K3
      refine wp_icgeN hk rfl rfl ((congrFun (K3 83 (by decide)) 2).trans hm) (by first | omega | decide) (by first | omega | decide) (fun h => absurd h (by omega)) (fun _ => ?_)
      repeat (first | refine wp_s hk rfl rfl ?_ | refine wp_goto hk rfl ?_ | refine wp_geti hk rfl rfl rfl rfl ?_ | refine wp_getr hk rfl rfl rfl rfl ?_)
      have inner := q_dn (n := x) (P := fun y => ∀ M3 x6, Kp M1 M3 [98, 99] → WP 169 25 [some (.ref 83), some (.int (nI (i2n a))), some (.int (nI (i2n b))), some (.int (nI (apW (sgR (sV S) (sR S (i2n a))) (sgR (sV S) (sR S (i2n b))) x + sumN (fun y => if sgR (sV S) (sR S (i2n a)) x y = sgR (sV S) (sR S (i2n b)) x y then 0 else 1) y))), some (.int (nI x)), some (.int (nI y)), x6] [.int (nI x), .int (nI y)] M3 Q) (by
        intro M3 x6 K3
        refine wp_icgeN hk rfl rfl rfl (by first | omega | decide) (by first | omega | decide) (fun _ => ?_) (fun h => absurd h (by omega))
        repeat (first | refine wp_s hk rfl rfl ?_ | refine wp_goto hk rfl ?_ | refine wp_geti hk rfl rfl rfl rfl ?_ | refine wp_getr hk rfl rfl rfl rfl ?_)
        rw [q_nadd x 1]
        exact ih _ _ _ K3) (by
        intro y hy ihy M3 x6 K3
        refine wp_icgeN hk rfl rfl rfl (by first | omega | decide) (by first | omega | decide) (fun h => absurd h (by omega)) (fun _ => ?_)
        repeat (first | refine wp_s hk rfl rfl ?_ | refine wp_goto hk rfl ?_ | refine wp_geti hk rfl rfl rfl rfl ?_ | refine wp_getr hk rfl rfl rfl rfl ?_)
        refine wp_callV hk rfl rfl rfl rfl rfl rfl ?_
        refine m_lay (V1.kp K3 (by decide) (by decide) (by decide)) (by omega) (RA.kp K3 (by decide) (by decide) (by decide) (by decide)) OA (fun M4 K4 W4 => ?_)
        repeat (first | refine wp_s hk rfl rfl ?_ | refine wp_goto hk rfl ?_ | refine wp_geti hk rfl rfl rfl rfl ?_ | refine wp_getr hk rfl rfl rfl rfl ?_)
        refine wp_callV hk rfl rfl rfl rfl rfl rfl ?_
        refine m_by W4 (by omega) hx (by omega) ?_
        repeat (first | refine wp_s hk rfl rfl ?_ | refine wp_goto hk rfl ?_ | refine wp_geti hk rfl rfl rfl rfl ?_ | refine wp_getr hk rfl rfl rfl rfl ?_)
        refine wp_callV hk rfl rfl rfl rfl rfl rfl ?_
        refine m_lay (V1.kp (K3.tr K4) (by decide) (by decide) (by decide)) (by omega) (RB.kp (K3.tr K4) (by decide) (by decide) (by decide) (by decide)) OB (fun M5 K5 W5 => ?_)
        repeat (first | refine wp_s hk rfl rfl ?_ | refine wp_goto hk rfl ?_ | refine wp_geti hk rfl rfl rfl rfl ?_ | refine wp_getr hk rfl rfl rfl rfl ?_)
        refine wp_callV hk rfl rfl rfl rfl rfl rfl ?_
        refine m_by W5 (by omega) hx (by omega) ?_
        refine wp_icne hk rfl (fun e => ?_) (fun e => ?_)
        · repeat (first | refine wp_s hk rfl rfl ?_ | refine wp_goto hk rfl ?_ | refine wp_geti hk rfl rfl rfl rfl ?_ | refine wp_getr hk rfl rfl rfl rfl ?_)
          rw [q_nadd y 1, q_nadd, Nat.add_assoc]
          have := ihy M5 (some (.int (sgR (sV S) (sR S (i2n a)) x y))) ((K3.tr K4).tr K5)
          simp only [sumN] at this
          rw [if_neg (show ¬ sgR (sV S) (sR S (i2n a)) x y = sgR (sV S) (sR S (i2n b)) x y from e)] at this
          exact this
        · repeat (first | refine wp_s hk rfl rfl ?_ | refine wp_goto hk rfl ?_ | refine wp_geti hk rfl rfl rfl rfl ?_ | refine wp_getr hk rfl rfl rfl rfl ?_)
          rw [q_nadd y 1, q_nadd, Nat.add_assoc]
          have := ihy M5 (some (.int (sgR (sV S) (sR S (i2n a)) x y))) ((K3.tr K4).tr K5)
          simp only [sumN] at this
          rw [if_pos (show sgR (sV S) (sR S (i2n a)) x y = sgR (sV S) (sR S (i2n b)) x y from Classical.not_not.mp e)] at this
          exact this)
      exact inner 0 (Nat.zero_le _) M3 _ K3)
    exact outer 0 (Nat.zero_le _) M1 _ _ (Kp.rf _ _)
  · have g' : isN b 3 = false := by simpa using g
    repeat (first | refine wp_s hk rfl rfl ?_ | refine wp_goto hk rfl ?_ | refine wp_geti hk rfl rfl rfl rfl ?_ | refine wp_getr hk rfl rfl rfl rfl ?_)
    refine wp_ir hk rfl rfl ?_
    have hkk := kk M0 F0
    simp only [spApart, h', g', Bool.and_self, Bool.true_and, Bool.and_true, Bool.false_and, Bool.and_false, if_true, Bool.false_eq_true, if_false, Bool.not_true, Bool.not_false] at hkk
    exact hkk
