def anyN (f : Nat → Bool) : Nat → Bool
  | 0 => false
  | n + 1 => anyN f n || f n
theorem anyN_mono {f : Nat → Bool} {a : Nat} (h : anyN f a = true) : ∀ {b : Nat}, a ≤ b → anyN f b = true := by
  intro b hb
  induction b with
  | zero => rw [show a = 0 by omega] at h; exact h
  | succ b ih =>
    by_cases e : a = b + 1
    · subst e; exact h
    · simp only [anyN, ih (by omega), Bool.true_or]
def bentW (V : Vw) (R : Ru) (j : Nat) : Bool := anyN (fun v => anyN (fun s => decide (vs V s = vj V j) && decide (plG (vn V) (vm V) (vc V) (vk V) R j v s < placeW (wS V R) R.1 (vm V) s)) (vm V)) (6 ^ vm V)
theorem RefCard.kp {M M' : MM} {V : Vw} {ids : List Nat} (H : RefCard M V) (h : Kp M M' ids) (h1 : 83 ∉ ids) (h2 : 84 ∉ ids) (h3 : 85 ∉ ids) (h4 : 86 ∉ ids) (h5 : 87 ∉ ids) : RefCard M' V := by
  unfold RefCard
  rw [h 83 h1, h 84 h2, h 85 h3, h 86 h4, h 87 h5]
  exact H
theorem q_rokB (b : Bool) : q_rok (some .boolean) (nI (b2n b)) = true := by cases b <;> decide
theorem m_isBent {M : MM} {V : Vw} {R : Ru} {r j : Nat} {Q : Option Value → MM → Prop} (I : RefCard M V) (O : VOK V) (hr : r ≤ 3) (hR : RefRu M r R) (hO : RuOK R) (hj : j < 7)
    (kk : ∀ M', Kp M M' [88, 89, 98, 99, 100] → Q (some (.int (nI (b2n (bentW V R j))))) M') : Ca 174 [.ref 83, .int (nI r), .int (nI j)] M Q := by
  have ho4 := O.2.2.2.1
  have ho1 := O.2.2.1
  have hrows := m_rows ho4
  have hl1 := O.2.2.2.2.2.2.1 j hj
  have hl2 := O.2.2.2.2.2.2.2
  have hk : q_cd 174 = kd_X9_isBent := rfl
  show WP 174 0 [some (.ref 83), some (.int (nI r)), some (.int (nI j)), none, none, none] [] M Q
  repeat (first | refine wp_s hk rfl rfl ?_ | refine wp_goto hk rfl ?_ | refine wp_geti hk rfl rfl rfl rfl ?_ | refine wp_getr hk rfl rfl rfl rfl ?_)
  refine wp_callV hk rfl rfl rfl rfl rfl rfl ?_
  refine m_take I O (fun M0 K0 V0 => ?_)
  repeat (first | refine wp_s hk rfl rfl ?_ | refine wp_goto hk rfl ?_ | refine wp_geti hk rfl rfl rfl rfl ?_ | refine wp_getr hk rfl rfl rfl rfl ?_)
  refine wp_callV hk rfl rfl rfl rfl rfl rfl ?_
  refine m_lay V0 hr (hR.kp K0 (by decide) (by decide) (by decide) (by decide)) hO (fun M1 K1 W1 => ?_)
  have K01 : Kp M M1 [88, 89, 98, 99, 100] := (K0.mono (by decide)).tr (K1.mono (by decide))
  have V1 := V0.kp K1 (by decide) (by decide) (by decide)
  change RefW M1 r R.1 (vm V) (wS V R) at W1
  have hret : ∀ M' x4 x5 b, b = bentW V R j → Kp M M' [88, 89, 98, 99, 100] → WP 174 72 [some (.ref 83), some (.int (nI r)), some (.int (nI j)), some (.int (nI (b2n b))), x4, x5] [] M' Q := by
    intro M' x4 x5 b hb hK
    repeat (first | refine wp_s hk rfl rfl ?_ | refine wp_goto hk rfl ?_ | refine wp_geti hk rfl rfl rfl rfl ?_ | refine wp_getr hk rfl rfl rfl rfl ?_)
    refine wp_ir hk rfl (q_rokB _) ?_
    rw [hb]
    exact kk M' hK
  have loop := q_dn (n := 6 ^ vm V) (P := fun v => ∀ M2 c1 k1 x5, Kp M M2 [88, 89, 98, 99, 100] → RefV M2 (vn V) (vm V) c1 k1 → (∀ j' s', ¬ (j' = j ∧ s' < vm V) → k1 j' s' = vk V j' s') → (∀ j', j' ≠ j → c1 j' = vc V j') → (∀ s, s < vm V → M2 100 s = nI (placeW (wS V R) R.1 (vm V) s)) →
      WP 174 28 [some (.ref 83), some (.int (nI r)), some (.int (nI j)), some (.int (nI (b2n (anyN (fun v => anyN (fun s => decide (vs V s = vj V j) && decide (plG (vn V) (vm V) (vc V) (vk V) R j v s < placeW (wS V R) R.1 (vm V) s)) (vm V)) v)))), some (.int (nI v)), x5] [.int (nI (6 ^ vm V)), .int (nI v)] M2 Q) (by
    intro M2 c1 k1 x5 K2 V2 hk1 hc1 hpl
    refine wp_icgeN hk rfl rfl rfl (by first | omega | decide) (by first | omega | decide) (fun _ => ?_) (fun h => absurd h (by omega))
    exact hret M2 _ _ _ rfl K2) (by
    intro v hv ih M2 c1 k1 x5 K2 V2 hk1 hc1 hpl
    refine wp_icgeN hk rfl rfl rfl (by first | omega | decide) (by first | omega | decide) (fun h => absurd h (by omega)) (fun _ => ?_)
    simp only [anyN] at ih
    cases hg : anyN (fun v => anyN (fun s => decide (vs V s = vj V j) && decide (plG (vn V) (vm V) (vc V) (vk V) R j v s < placeW (wS V R) R.1 (vm V) s)) (vm V)) v with
    | true =>
      repeat (first | refine wp_s hk rfl rfl ?_ | refine wp_goto hk rfl ?_ | refine wp_geti hk rfl rfl rfl rfl ?_ | refine wp_getr hk rfl rfl rfl rfl ?_)
      refine wp_ifneB (u := true) hk rfl rfl (fun _ => ?_) (fun h => by cases h)
      exact hret M2 _ _ true (anyN_mono hg (Nat.le_of_lt hv)).symm K2
    | false =>
      rw [hg] at ih
      simp only [Bool.false_or] at ih
      repeat (first | refine wp_s hk rfl rfl ?_ | refine wp_goto hk rfl ?_ | refine wp_geti hk rfl rfl rfl rfl ?_ | refine wp_getr hk rfl rfl rfl rfl ?_)
      refine wp_ifneB (u := false) hk rfl rfl (fun h => by cases h) (fun _ => ?_)
      repeat (first | refine wp_s hk rfl rfl ?_ | refine wp_goto hk rfl ?_ | refine wp_geti hk rfl rfl rfl rfl ?_ | refine wp_getr hk rfl rfl rfl rfl ?_)
      refine wp_callV hk rfl rfl rfl rfl rfl rfl ?_
      refine m_give V2 ho1 hj (by omega) (fun M3 K3 V3 => ?_)
      rw [mkG_mk hk1, cntG_c hc1] at V3
      have K23 : Kp M M3 [88, 89, 98, 99, 100] := K2.tr (K3.mono (by decide))
      repeat (first | refine wp_s hk rfl rfl ?_ | refine wp_goto hk rfl ?_ | refine wp_geti hk rfl rfl rfl rfl ?_ | refine wp_getr hk rfl rfl rfl rfl ?_)
      refine wp_callV hk rfl rfl rfl rfl rfl rfl ?_
      refine m_lay V3 hr (hR.kp K23 (by decide) (by decide) (by decide) (by decide)) hO (fun M4 K4 W4 => ?_)
      have K24 : Kp M M4 [88, 89, 98, 99, 100] := K23.tr (K4.mono (by decide))
      have V4 := V3.kp K4 (by decide) (by decide) (by decide)
      have I4 := I.kp K24 (by decide) (by decide) (by decide) (by decide) (by decide)
      have hpl4 : ∀ s, s < vm V → M4 100 s = nI (placeW (wS V R) R.1 (vm V) s) := fun s hs => by rw [K4 100 (by decide), K3 100 (by decide)]; exact hpl s hs
      repeat (first | refine wp_s hk rfl rfl ?_ | refine wp_goto hk rfl ?_ | refine wp_geti hk rfl rfl rfl rfl ?_ | refine wp_getr hk rfl rfl rfl rfl ?_)
      have inner := q_dn (n := vm V) (P := fun s => WP 174 43 [some (.ref 83), some (.int (nI r)), some (.int (nI j)), some (.int (nI (b2n (anyN (fun s => decide (vs V s = vj V j) && decide (plG (vn V) (vm V) (vc V) (vk V) R j v s < placeW (wS V R) R.1 (vm V) s)) s)))), some (.int (nI v)), some (.int (nI s))] [.int (M4 83 2), .int (nI s)] M4 Q) (by
        refine wp_icgeN hk rfl rfl V4.2.1 (by first | omega | decide) (by first | omega | decide) (fun _ => ?_) (fun h => absurd h (by omega))
        repeat (first | refine wp_s hk rfl rfl ?_ | refine wp_goto hk rfl ?_ | refine wp_geti hk rfl rfl rfl rfl ?_ | refine wp_getr hk rfl rfl rfl rfl ?_)
        rw [q_nadd v 1]
        refine wp_callV hk rfl rfl rfl rfl rfl rfl ?_
        refine m_cards V4.2.1 ho4 ?_
        exact ih M4 _ _ _ K24 V4 (fun j' s' h => by simp only [mkG]; rw [if_neg h]) (fun j' h => by simp only [cntG]; rw [if_neg h]) hpl4) (by
        intro s hs ihs
        refine wp_icgeN hk rfl rfl V4.2.1 (by first | omega | decide) (by first | omega | decide) (fun h => absurd h (by omega)) (fun _ => ?_)
        simp only [anyN] at ihs
        have fin : ∀ z b, b2n b = z → b = (anyN (fun s => decide (vs V s = vj V j) && decide (plG (vn V) (vm V) (vc V) (vk V) R j v s < placeW (wS V R) R.1 (vm V) s)) s || (decide (vs V s = vj V j) && decide (plG (vn V) (vm V) (vc V) (vk V) R j v s < placeW (wS V R) R.1 (vm V) s))) → ∀ x3, WP 174 67 [some (.ref 83), some (.int (nI r)), some (.int (nI j)), x3, some (.int (nI v)), some (.int (nI s))] [.int (nI z)] M4 Q := by
          intro z b hz hb x3
          repeat (first | refine wp_s hk rfl rfl ?_ | refine wp_goto hk rfl ?_ | refine wp_geti hk rfl rfl rfl rfl ?_ | refine wp_getr hk rfl rfl rfl rfl ?_)
          rw [q_nadd s 1, ← hz, hb]
          exact ihs
        have l2 := hl2 s (by omega)
        have l3 := placeW_le (w := wS V R) (parts := R.1) (m := vm V) (s := s)
        have l4 := placeW_le (w := worthW (vn V) (vm V) (cntG (vc V) j) (mkG (vk V) (vm V) j v) R) (parts := R.1) (m := vm V) (s := s)
        repeat (first | refine wp_s hk rfl rfl ?_ | refine wp_goto hk rfl ?_ | refine wp_geti hk rfl rfl rfl rfl ?_ | refine wp_getr hk rfl rfl rfl rfl ?_)
        refine wp_ifneB hk rfl rfl (fun g => ?_) (fun g => ?_)
        · refine wp_s hk rfl rfl ?_
          refine wp_goto hk rfl ?_
          exact fin 1 true rfl (by rw [g, Bool.true_or]) _
        · rw [g] at fin
          simp only [Bool.false_or] at fin
          repeat (first | refine wp_s hk rfl rfl ?_ | refine wp_goto hk rfl ?_ | refine wp_geti hk rfl rfl rfl rfl ?_ | refine wp_getr hk rfl rfl rfl rfl ?_)
          refine wp_ald (jx := s) hk rfl rfl rfl (by omega) ?_
          rw [I4.2.2.2.2.2 s (by omega)]
          repeat (first | refine wp_s hk rfl rfl ?_ | refine wp_goto hk rfl ?_ | refine wp_geti hk rfl rfl rfl rfl ?_ | refine wp_getr hk rfl rfl rfl rfl ?_)
          refine wp_ald (jx := j) hk rfl rfl rfl (by omega) ?_
          rw [I4.2.2.2.2.1 j hj]
          refine wp_icneN hk rfl rfl rfl (by omega) (by omega) (fun g2 => ?_) (fun g2 => ?_)
          · refine wp_s hk rfl rfl ?_
            exact fin 0 false rfl (by rw [decide_eq_false g2, Bool.false_and]) _
          · have g3 : vs V s = vj V j := by omega
            rw [decide_eq_true g3] at fin
            simp only [Bool.true_and] at fin
            repeat (first | refine wp_s hk rfl rfl ?_ | refine wp_goto hk rfl ?_ | refine wp_geti hk rfl rfl rfl rfl ?_ | refine wp_getr hk rfl rfl rfl rfl ?_)
            refine wp_callV hk rfl rfl rfl rfl rfl rfl ?_
            refine m_placeOf W4 hr hs ?_
            repeat (first | refine wp_s hk rfl rfl ?_ | refine wp_goto hk rfl ?_ | refine wp_geti hk rfl rfl rfl rfl ?_ | refine wp_getr hk rfl rfl rfl rfl ?_)
            refine wp_ald (jx := s) hk rfl rfl rfl (by omega) ?_
            rw [hpl4 s hs]
            refine wp_icgeN (u := placeW (worthW (vn V) (vm V) (cntG (vc V) j) (mkG (vk V) (vm V) j v) R) R.1 (vm V) s) hk rfl rfl rfl (by omega) (by omega) (fun g4 => ?_) (fun g4 => ?_)
            · refine wp_s hk rfl rfl ?_
              exact fin 0 false rfl (decide_eq_false (Nat.not_lt.mpr g4)).symm _
            · refine wp_s hk rfl rfl ?_
              refine wp_goto hk rfl ?_
              exact fin 1 true rfl (decide_eq_true (Nat.lt_of_not_le g4)).symm _)
      exact inner 0 (Nat.zero_le _))
  have l0 := q_dn (n := vm V) (P := fun s => ∀ M2, Kp M1 M2 [100] → (∀ s', s' < s → M2 100 s' = nI (placeW (wS V R) R.1 (vm V) s')) → WP 174 10 [some (.ref 83), some (.int (nI r)), some (.int (nI j)), some (.int (nI s)), none, none] [.int (M2 83 2), .int (nI s)] M2 Q) (by
    intro M2 K2 hpl
    have K02 : Kp M M2 [88, 89, 98, 99, 100] := K01.tr (K2.mono (by decide))
    have V2 := V1.kp K2 (by decide) (by decide) (by decide)
    refine wp_icgeN hk rfl rfl V2.2.1 (by first | omega | decide) (by first | omega | decide) (fun _ => ?_) (fun h => absurd h (by omega))
    repeat (first | refine wp_s hk rfl rfl ?_ | refine wp_goto hk rfl ?_ | refine wp_geti hk rfl rfl rfl rfl ?_ | refine wp_getr hk rfl rfl rfl rfl ?_)
    refine wp_callV hk rfl rfl rfl rfl rfl rfl ?_
    refine m_cards V2.2.1 ho4 ?_
    exact loop 0 (Nat.zero_le _) M2 _ _ _ K02 V2 (fun _ _ _ => rfl) (fun _ _ => rfl) hpl) (by
    intro s hs ih M2 K2 hpl
    have V2 := V1.kp K2 (by decide) (by decide) (by decide)
    refine wp_icgeN hk rfl rfl V2.2.1 (by first | omega | decide) (by first | omega | decide) (fun h => absurd h (by omega)) (fun _ => ?_)
    have W2 : RefW M2 r R.1 (vm V) (wS V R) := by
      obtain ⟨w1, w2, w3, w4, w5, w6⟩ := W1
      refine ⟨by rw [K2 94 (by decide)]; exact w1, by rw [K2 83 (by decide)]; exact w2, w3, w4, by rw [K2 98 (by decide)]; exact w5, w6⟩
    repeat (first | refine wp_s hk rfl rfl ?_ | refine wp_goto hk rfl ?_ | refine wp_geti hk rfl rfl rfl rfl ?_ | refine wp_getr hk rfl rfl rfl rfl ?_)
    refine wp_callV hk rfl rfl rfl rfl rfl rfl ?_
    refine m_placeOf W2 hr hs ?_
    refine wp_ast (jx := s) hk rfl rfl rfl (by omega) ?_
    repeat (first | refine wp_s hk rfl rfl ?_ | refine wp_goto hk rfl ?_ | refine wp_geti hk rfl rfl rfl rfl ?_ | refine wp_getr hk rfl rfl rfl rfl ?_)
    rw [q_nadd s 1]
    refine ih _ (K2.up (by decide)) (fun s' hs' => ?_)
    rw [q_up_at]
    by_cases e : s' = s
    · subst e; rw [upd_at]
    · rw [upd_ne _ _ e]; exact hpl s' (by omega))
  repeat (first | refine wp_s hk rfl rfl ?_ | refine wp_goto hk rfl ?_ | refine wp_geti hk rfl rfl rfl rfl ?_ | refine wp_getr hk rfl rfl rfl rfl ?_)
  exact l0 0 (Nat.zero_le _) M1 (Kp.rf _ _) (fun s' hs' => absurd hs' (Nat.not_lt_zero _))
def spBends (S : St) (a b : Int32) : Int32 := if isN a 3 && isN b (vn (sV S)) then nI (b2n (bentW (sV S) (sR S (i2n a)) (i2n b))) else UNK
theorem m_bends {M : MM} {S : St} {a b : Int32} {Q : Option Value → MM → Prop} (I : RefInv M S) (O : StOK S) (kk : ∀ M', RFr M M' → Q (some (.int (spBends S a b))) M') : Ca 175 [.ref 83, .int a, .int b] M Q := by
  have hk : q_cd 175 = kd_X9_bends := rfl
  show WP 175 0 [some (.ref 83), some (.int a), some (.int b)] [] M Q
  have ho7 := O.1.2.1
  repeat (first | refine wp_s hk rfl rfl ?_ | refine wp_goto hk rfl ?_ | refine wp_geti hk rfl rfl rfl rfl ?_ | refine wp_getr hk rfl rfl rfl rfl ?_)
  refine wp_th hk rfl (fun M0 F0 => ?_)
  have I0 := I.fr O F0
  repeat (first | refine wp_s hk rfl rfl ?_ | refine wp_goto hk rfl ?_ | refine wp_geti hk rfl rfl rfl rfl ?_ | refine wp_getr hk rfl rfl rfl rfl ?_)
  refine wp_callS hk rfl rfl rfl rfl ?_
  refine m_noRule ?_
  refine wp_ifneB (u := !isN a 3) hk rfl rfl (fun h => ?_) (fun h => ?_)
  · have h' : isN a 3 = false := by simpa using h
    repeat (first | refine wp_s hk rfl rfl ?_ | refine wp_goto hk rfl ?_ | refine wp_geti hk rfl rfl rfl rfl ?_ | refine wp_getr hk rfl rfl rfl rfl ?_)
    refine wp_ir hk rfl rfl ?_
    have hkk := kk M0 F0
    simp only [spBends, h', Bool.and_self, Bool.true_and, Bool.and_true, Bool.false_and, Bool.and_false, if_true, Bool.false_eq_true, if_false, Bool.not_true, Bool.not_false] at hkk
    exact hkk
  have h' : isN a 3 = true := by simpa using h
  repeat (first | refine wp_s hk rfl rfl ?_ | refine wp_goto hk rfl ?_ | refine wp_geti hk rfl rfl rfl rfl ?_ | refine wp_getr hk rfl rfl rfl rfl ?_)
  refine wp_callV hk rfl rfl rfl rfl rfl rfl ?_
  refine m_noJudge I0.1.1 O.1.1 ho7 ?_
  refine wp_ifeqB (u := !isN b (vn (sV S))) hk rfl rfl (fun g => ?_) (fun g => ?_)
  · have g' : isN b (vn (sV S)) = true := by simpa using g
    obtain ⟨hr, ea⟩ := i2n_of (by omega) h'
    obtain ⟨hj, eb⟩ := i2n_of (by omega) g'
    repeat (first | refine wp_s hk rfl rfl ?_ | refine wp_goto hk rfl ?_ | refine wp_geti hk rfl rfl rfl rfl ?_ | refine wp_getr hk rfl rfl rfl rfl ?_)
    rw [ea, eb]
    refine wp_callV hk rfl rfl rfl rfl rfl rfl ?_
    refine m_isBent I0.1 O.1 (by omega) (I0.2.2.1.1 _ hr) (O.2.2.1 _ hr) (by omega) (fun M1 K1 => ?_)
    have hkk := kk M1 (F0.tr (RFr.kp K1))
    simp only [spBends, h', g', Bool.and_self, if_true] at hkk
    refine wp_ifeqB hk rfl rfl (fun z => ?_) (fun z => ?_) <;> rw [z] at hkk
    · repeat (first | refine wp_s hk rfl rfl ?_ | refine wp_goto hk rfl ?_ | refine wp_geti hk rfl rfl rfl rfl ?_ | refine wp_getr hk rfl rfl rfl rfl ?_)
      exact wp_ir hk rfl rfl hkk
    · repeat (first | refine wp_s hk rfl rfl ?_ | refine wp_goto hk rfl ?_ | refine wp_geti hk rfl rfl rfl rfl ?_ | refine wp_getr hk rfl rfl rfl rfl ?_)
      exact wp_ir hk rfl rfl hkk
  · have g' : isN b (vn (sV S)) = false := by simpa using g
    repeat (first | refine wp_s hk rfl rfl ?_ | refine wp_goto hk rfl ?_ | refine wp_geti hk rfl rfl rfl rfl ?_ | refine wp_getr hk rfl rfl rfl rfl ?_)
    refine wp_ir hk rfl rfl ?_
    have hkk := kk M0 F0
    simp only [spBends, h', g', Bool.and_self, Bool.true_and, Bool.and_true, Bool.false_and, Bool.and_false, if_true, Bool.false_eq_true, if_false, Bool.not_true, Bool.not_false] at hkk
    exact hkk
/-- bits of those for whom it holds -/
def bitsW (f : Nat → Bool) : Nat → Nat
  | 0 => 0
  | j + 1 => bitsW f j ||| (if f j then 2 ^ j else 0)
theorem bitsW_lt {f : Nat → Bool} : ∀ {j : Nat}, bitsW f j < 2 ^ j
  | 0 => by simp [bitsW]
  | j + 1 => by
    have h1 := bitsW_lt (f := f) (j := j)
    simp only [bitsW]
    have h2 : 2 ^ j < 2 ^ (j + 1) := Nat.pow_lt_pow_right (by omega) (by omega)
    exact Nat.or_lt_two_pow (by omega) (by split <;> omega)
theorem q_nor (a b : Nat) : nI a ||| nI b = nI (a ||| b) := by
  show (⟨UInt32.ofNat a⟩ : Int32) ||| ⟨UInt32.ofNat b⟩ = ⟨UInt32.ofNat (a ||| b)⟩
  rw [UInt32.ofNat_or]
  rfl
theorem m_allBent {M : MM} {V : Vw} {R : Ru} {r : Nat} {Q : Option Value → MM → Prop} (I : RefCard M V) (O : VOK V) (hr : r ≤ 3) (hR : RefRu M r R) (hO : RuOK R)
    (kk : ∀ M', Kp M M' [88, 89, 98, 99, 100] → Q (some (.int (nI (bitsW (bentW V R) (vn V))))) M') : Ca 176 [.ref 83, .int (nI r)] M Q := by
  have ho7 := O.2.1
  have hk : q_cd 176 = kd_X9_allBent := rfl
  show WP 176 0 [some (.ref 83), some (.int (nI r)), none, none] [] M Q
  have loop := q_dn (n := vn V) (P := fun j => ∀ M1, Kp M M1 [88, 89, 98, 99, 100] → WP 176 7 [some (.ref 83), some (.int (nI r)), some (.int (nI (bitsW (bentW V R) j))), some (.int (nI j))] [.int (M1 83 1), .int (nI j)] M1 Q) (by
    intro M1 K1
    refine wp_icgeN hk rfl rfl ((congrFun (K1 83 (by decide)) 1).trans I.1) (by first | omega | decide) (by first | omega | decide) (fun _ => ?_) (fun h => absurd h (by omega))
    repeat (first | refine wp_s hk rfl rfl ?_ | refine wp_goto hk rfl ?_ | refine wp_geti hk rfl rfl rfl rfl ?_ | refine wp_getr hk rfl rfl rfl rfl ?_)
    exact wp_ir hk rfl rfl (kk M1 K1)) (by
    intro j hj ih M1 K1
    refine wp_icgeN hk rfl rfl ((congrFun (K1 83 (by decide)) 1).trans I.1) (by first | omega | decide) (by first | omega | decide) (fun h => absurd h (by omega)) (fun _ => ?_)
    simp only [bitsW] at ih
    repeat (first | refine wp_s hk rfl rfl ?_ | refine wp_goto hk rfl ?_ | refine wp_geti hk rfl rfl rfl rfl ?_ | refine wp_getr hk rfl rfl rfl rfl ?_)
    refine wp_callV hk rfl rfl rfl rfl rfl rfl ?_
    refine m_isBent (I.kp K1 (by decide) (by decide) (by decide) (by decide) (by decide)) O hr (hR.kp K1 (by decide) (by decide) (by decide) (by decide)) hO (by omega) (fun M2 K2 => ?_)
    have ih' := ih M2 (K1.tr K2)
    refine wp_ifeqB hk rfl rfl (fun z => ?_) (fun z => ?_)
    · rw [if_neg (by rw [z]; exact Bool.false_ne_true)] at ih'
      repeat (first | refine wp_s hk rfl rfl ?_ | refine wp_goto hk rfl ?_ | refine wp_geti hk rfl rfl rfl rfl ?_ | refine wp_getr hk rfl rfl rfl rfl ?_)
      rw [q_nadd j 1, q_nor]
      exact ih'
    · rw [if_pos z] at ih'
      repeat (first | refine wp_s hk rfl rfl ?_ | refine wp_goto hk rfl ?_ | refine wp_geti hk rfl rfl rfl rfl ?_ | refine wp_getr hk rfl rfl rfl rfl ?_)
      rw [q_nadd j 1, q_shl1 j (by omega), q_nor]
      exact ih')
  repeat (first | refine wp_s hk rfl rfl ?_ | refine wp_goto hk rfl ?_ | refine wp_geti hk rfl rfl rfl rfl ?_ | refine wp_getr hk rfl rfl rfl rfl ?_)
  exact loop 0 (Nat.zero_le _) M (Kp.rf _ _)
def spBent (S : St) (a : Int32) : Int32 := if isN a 3 then nI (bitsW (bentW (sV S) (sR S (i2n a))) (vn (sV S))) else UNK
theorem m_bent {M : MM} {S : St} {a : Int32} {Q : Option Value → MM → Prop} (I : RefInv M S) (O : StOK S) (kk : ∀ M', RFr M M' → Q (some (.int (spBent S a))) M') : Ca 177 [.ref 83, .int a] M Q := by
  have hk : q_cd 177 = kd_X9_bent := rfl
  show WP 177 0 [some (.ref 83), some (.int a)] [] M Q
  repeat (first | refine wp_s hk rfl rfl ?_ | refine wp_goto hk rfl ?_ | refine wp_geti hk rfl rfl rfl rfl ?_ | refine wp_getr hk rfl rfl rfl rfl ?_)
  refine wp_th hk rfl (fun M0 F0 => ?_)
  have I0 := I.fr O F0
  repeat (first | refine wp_s hk rfl rfl ?_ | refine wp_goto hk rfl ?_ | refine wp_geti hk rfl rfl rfl rfl ?_ | refine wp_getr hk rfl rfl rfl rfl ?_)
  refine wp_callS hk rfl rfl rfl rfl ?_
  refine m_noRule ?_
  refine wp_ifeqB (u := !isN a 3) hk rfl rfl (fun h => ?_) (fun h => ?_)
  · have h' : isN a 3 = true := by simpa using h
    obtain ⟨hr, ea⟩ := i2n_of (by omega) h'
    repeat (first | refine wp_s hk rfl rfl ?_ | refine wp_goto hk rfl ?_ | refine wp_geti hk rfl rfl rfl rfl ?_ | refine wp_getr hk rfl rfl rfl rfl ?_)
    rw [ea]
    refine wp_callV hk rfl rfl rfl rfl rfl rfl ?_
    refine m_allBent I0.1 O.1 (by omega) (I0.2.2.1.1 _ hr) (O.2.2.1 _ hr) (fun M1 K1 => ?_)
    refine wp_ir hk rfl rfl ?_
    have hkk := kk M1 (F0.tr (RFr.kp K1))
    simp only [spBent, h', Bool.and_self, Bool.true_and, Bool.and_true, Bool.false_and, Bool.and_false, if_true, Bool.false_eq_true, if_false, Bool.not_true, Bool.not_false] at hkk
    exact hkk
  · have h' : isN a 3 = false := by simpa using h
    repeat (first | refine wp_s hk rfl rfl ?_ | refine wp_goto hk rfl ?_ | refine wp_geti hk rfl rfl rfl rfl ?_ | refine wp_getr hk rfl rfl rfl rfl ?_)
    refine wp_ir hk rfl rfl ?_
    have hkk := kk M0 F0
    simp only [spBent, h', Bool.and_self, Bool.true_and, Bool.and_true, Bool.false_and, Bool.and_false, if_true, Bool.false_eq_true, if_false, Bool.not_true, Bool.not_false] at hkk
    exact hkk
/-- how many bits -/
def popW (x : Nat) : Nat := sumN (fun k => x / 2 ^ k % 2) 7
theorem q_bit : ∀ x, x < 128 → ∀ k, k < 7 → (nI x >>> (nI k &&& 31)) &&& nI 1 = nI (x / 2 ^ k % 2) := by decide +kernel
theorem m_many {M : MM} {x : Nat} {Q : Option Value → MM → Prop} (hx : x < 128) (kk : Q (some (.int (nI (popW x)))) M) : Ca 178 [.int (nI x)] M Q := by
  have hk : q_cd 178 = kd_X9_many := rfl
  show WP 178 0 [some (.int (nI x)), none, none] [] M Q
  have loop := q_dn (n := 7) (P := fun k => WP 178 6 [some (.int (nI x)), some (.int (nI (sumN (fun k => x / 2 ^ k % 2) k))), some (.int (nI k))] [.int (nI 7), .int (nI k)] M Q) (by
    refine wp_icgeN hk rfl rfl rfl (by first | omega | decide) (by first | omega | decide) (fun _ => ?_) (fun h => absurd h (by omega))
    repeat (first | refine wp_s hk rfl rfl ?_ | refine wp_goto hk rfl ?_ | refine wp_geti hk rfl rfl rfl rfl ?_ | refine wp_getr hk rfl rfl rfl rfl ?_)
    exact wp_ir hk rfl rfl kk) (by
    intro k hk7 ih
    refine wp_icgeN hk rfl rfl rfl (by first | omega | decide) (by first | omega | decide) (fun h => absurd h (by omega)) (fun _ => ?_)
    repeat (first | refine wp_s hk rfl rfl ?_ | refine wp_goto hk rfl ?_ | refine wp_geti hk rfl rfl rfl rfl ?_ | refine wp_getr hk rfl rfl rfl rfl ?_)
    rw [q_bit x hx k hk7, q_nadd k 1, q_nadd]
    exact ih)
  repeat (first | refine wp_s hk rfl rfl ?_ | refine wp_goto hk rfl ?_ | refine wp_geti hk rfl rfl rfl rfl ?_ | refine wp_getr hk rfl rfl rfl rfl ?_)
  exact loop 0 (Nat.zero_le _)
theorem popW_le (x : Nat) : popW x ≤ 7 := sumN_le (c := 1) (fun k _ => by have := Nat.mod_lt (x / 2 ^ k) (show 0 < 2 by omega); omega)
def stW (f : Nat → Nat) : Nat → Nat × Nat
  | 0 => (8, 0)
  | k + 1 => if f k < (stW f k).1 then (f k, k) else stW f k
theorem stW_le {f : Nat → Nat} : ∀ {k : Nat}, (stW f k).1 ≤ 8 ∧ (stW f k).2 ≤ k
  | 0 => ⟨Nat.le_refl _, Nat.le_refl _⟩
  | k + 1 => by
    have := stW_le (f := f) (k := k)
    simp only [stW]
    by_cases h : f k < (stW f k).1
    · rw [if_pos h]; exact ⟨by show f k ≤ 8; omega, by show k ≤ k + 1; omega⟩
    · rw [if_neg h]; exact ⟨this.1, by omega⟩
/-- S k alone -/
def ruS (k : Nat) : Ru := (1, fun _ => 0, fun _ => k, fun _ _ => 0)
theorem ruS_ok {k : Nat} (h : k < 4) : RuOK (ruS k) := ⟨Nat.le_refl _, by show 1 ≤ 3; omega, fun _ _ => Nat.zero_le _, fun _ _ _ => by show k ≤ 3; omega, fun _ _ _ _ _ => Nat.zero_le _⟩
def spStrike (S : St) : Int32 := nI (stW (fun k => popW (bitsW (bentW (sV S) (ruS k)) (vn (sV S)))) 4).2
theorem m_strike {M : MM} {S : St} {Q : Option Value → MM → Prop} (I : RefInv M S) (O : StOK S) (kk : ∀ M', RFr M M' → Q (some (.int (spStrike S))) M') : Ca 179 [.ref 83] M Q := by
  have ho7 := O.1.2.1
  have hk : q_cd 179 = kd_X9_strike := rfl
  show WP 179 0 [some (.ref 83), none, none, none, none] [] M Q
  repeat (first | refine wp_s hk rfl rfl ?_ | refine wp_goto hk rfl ?_ | refine wp_geti hk rfl rfl rfl rfl ?_ | refine wp_getr hk rfl rfl rfl rfl ?_)
  refine wp_th hk rfl (fun M0 F0 => ?_)
  have loop := q_dn (n := 4) (P := fun k => ∀ M1 x4, RFr M M1 → WP 179 11 [some (.ref 83), some (.int (nI (stW (fun k => popW (bitsW (bentW (sV S) (ruS k)) (vn (sV S)))) k).1)), some (.int (nI (stW (fun k => popW (bitsW (bentW (sV S) (ruS k)) (vn (sV S)))) k).2)), some (.int (nI k)), x4] [.int (nI 4), .int (nI k)] M1 Q) (by
    intro M1 x4 F1
    refine wp_icgeN hk rfl rfl rfl (by first | omega | decide) (by first | omega | decide) (fun _ => ?_) (fun h => absurd h (by omega))
    repeat (first | refine wp_s hk rfl rfl ?_ | refine wp_goto hk rfl ?_ | refine wp_geti hk rfl rfl rfl rfl ?_ | refine wp_getr hk rfl rfl rfl rfl ?_)
    exact wp_ir hk rfl rfl (kk M1 F1)) (by
    intro k hk4 ih M1 x4 F1
    refine wp_icgeN hk rfl rfl rfl (by first | omega | decide) (by first | omega | decide) (fun h => absurd h (by omega)) (fun _ => ?_)
    have I1 := I.fr O F1
    repeat (first | refine wp_s hk rfl rfl ?_ | refine wp_goto hk rfl ?_ | refine wp_geti hk rfl rfl rfl rfl ?_ | refine wp_getr hk rfl rfl rfl rfl ?_)
    refine wp_ast (jx := 9) hk rfl rfl rfl (by omega) ?_
    generalize hM2 : q_up M1 96 (upd (M1 96) 9 (nI k)) = M2
    have F2 : RFr M1 M2 := by
      subst hM2
      exact ⟨fun i hi => q_up_ne _ _ (fun e => hi (by rw [e]; simp)), fun j _ _ => by rw [q_up_ne _ _ (by decide)], fun j hj => by rw [q_up_at, upd_ne _ _ hj]⟩
    have I2 := I1.fr O F2
    have hR2 : RefRu M2 3 (ruS k) := by
      have h0 := I2.2.2.1
      refine ⟨h0.2.1, fun i hi => ?_, fun i hi _ => ?_, fun i hi h4 => absurd h4 (by show ¬ (0 : Nat) = 4; omega)⟩
      · have : i = 0 := by have h3 : i < 1 := hi; omega
        subst this; exact h0.2.2
      · have : i = 0 := by have h3 : i < 1 := hi; omega
        subst this
        rw [← hM2, q_up_at]
        exact upd_at _ _ _
    repeat (first | refine wp_s hk rfl rfl ?_ | refine wp_goto hk rfl ?_ | refine wp_geti hk rfl rfl rfl rfl ?_ | refine wp_getr hk rfl rfl rfl rfl ?_)
    refine wp_callV hk rfl rfl rfl rfl rfl rfl ?_
    refine m_allBent (r := 3) I2.1 O.1 (Nat.le_refl 3) hR2 (ruS_ok hk4) (fun M3 K3 => ?_)
    have hb : bitsW (bentW (sV S) (ruS k)) (vn (sV S)) < 2 ^ 7 := Nat.lt_of_lt_of_le bitsW_lt (Nat.pow_le_pow_right (by omega) ho7)
    refine wp_callS hk rfl rfl rfl rfl ?_
    refine m_many (by omega) ?_
    have ih' := fun x4 => ih M3 x4 ((F1.tr F2).tr (RFr.kp K3))
    simp only [stW] at ih'
    have l1 := (stW_le (f := fun k => popW (bitsW (bentW (sV S) (ruS k)) (vn (sV S)))) (k := k)).1
    have l2 := popW_le (bitsW (bentW (sV S) (ruS k)) (vn (sV S)))
    repeat (first | refine wp_s hk rfl rfl ?_ | refine wp_goto hk rfl ?_ | refine wp_geti hk rfl rfl rfl rfl ?_ | refine wp_getr hk rfl rfl rfl rfl ?_)
    refine wp_icgeN (u := popW (bitsW (bentW (sV S) (ruS k)) (vn (sV S)))) (v := (stW (fun k => popW (bitsW (bentW (sV S) (ruS k)) (vn (sV S)))) k).1) hk rfl rfl rfl (by omega) (by omega) (fun g => ?_) (fun g => ?_)
    · rw [if_neg (Nat.not_lt.mpr g)] at ih'
      repeat (first | refine wp_s hk rfl rfl ?_ | refine wp_goto hk rfl ?_ | refine wp_geti hk rfl rfl rfl rfl ?_ | refine wp_getr hk rfl rfl rfl rfl ?_)
      rw [q_nadd k 1]
      exact ih' _
    · rw [if_pos (Nat.lt_of_not_le g)] at ih'
      repeat (first | refine wp_s hk rfl rfl ?_ | refine wp_goto hk rfl ?_ | refine wp_geti hk rfl rfl rfl rfl ?_ | refine wp_getr hk rfl rfl rfl rfl ?_)
      rw [q_nadd k 1]
      exact ih' _)
  repeat (first | refine wp_s hk rfl rfl ?_ | refine wp_goto hk rfl ?_ | refine wp_geti hk rfl rfl rfl rfl ?_ | refine wp_getr hk rfl rfl rfl rfl ?_)
  exact loop 0 (Nat.zero_le _) M0 _ F0
def mkM (mk : Nat → Nat → Nat) (j s v : Nat) : Nat → Nat → Nat := fun j' s' => if j' = j ∧ s' = s then v else mk j' s'
def spMove (S : St) (a b c d : Int32) : Int32 := if isN a 3 && (isN b (vn (sV S)) && isN c (vm (sV S))) then (if isN d 6 then nI 10 + nI (placeW (wS (sV S) (sR S (i2n a))) (sR S (i2n a)).1 (vm (sV S)) (i2n c)) - nI (placeW (worthW (vn (sV S)) (vm (sV S)) (vc (sV S)) (mkM (vk (sV S)) (i2n b) (i2n c) (i2n d)) (sR S (i2n a))) (sR S (i2n a)).1 (vm (sV S)) (i2n c)) else BAD) else UNK
theorem m_move {M : MM} {S : St} {a b c d : Int32} {Q : Option Value → MM → Prop} (I : RefInv M S) (O : StOK S) (kk : ∀ M', RFr M M' → Q (some (.int (spMove S a b c d))) M') : Ca 180 [.ref 83, .int a, .int b, .int c, .int d] M Q := by
  have hk : q_cd 180 = kd_X9_move := rfl
  show WP 180 0 [some (.ref 83), some (.int a), some (.int b), some (.int c), some (.int d), none] [] M Q
  have ho4 := O.1.2.2.2.1
  have ho7 := O.1.2.1
  repeat (first | refine wp_s hk rfl rfl ?_ | refine wp_goto hk rfl ?_ | refine wp_geti hk rfl rfl rfl rfl ?_ | refine wp_getr hk rfl rfl rfl rfl ?_)
  refine wp_th hk rfl (fun M0 F0 => ?_)
  have I0 := I.fr O F0
  repeat (first | refine wp_s hk rfl rfl ?_ | refine wp_goto hk rfl ?_ | refine wp_geti hk rfl rfl rfl rfl ?_ | refine wp_getr hk rfl rfl rfl rfl ?_)
  refine wp_callS hk rfl rfl rfl rfl ?_
  refine m_noRule ?_
  refine wp_ifneB (u := !isN a 3) hk rfl rfl (fun h => ?_) (fun h => ?_)
  · have h' : isN a 3 = false := by simpa using h
    repeat (first | refine wp_s hk rfl rfl ?_ | refine wp_goto hk rfl ?_ | refine wp_geti hk rfl rfl rfl rfl ?_ | refine wp_getr hk rfl rfl rfl rfl ?_)
    refine wp_ir hk rfl rfl ?_
    have hkk := kk M0 F0
    simp only [spMove, h', Bool.and_self, Bool.true_and, Bool.and_true, Bool.false_and, Bool.and_false, if_true, Bool.false_eq_true, if_false, Bool.not_true, Bool.not_false] at hkk
    exact hkk
  have h' : isN a 3 = true := by simpa using h
  repeat (first | refine wp_s hk rfl rfl ?_ | refine wp_goto hk rfl ?_ | refine wp_geti hk rfl rfl rfl rfl ?_ | refine wp_getr hk rfl rfl rfl rfl ?_)
  refine wp_callV hk rfl rfl rfl rfl rfl rfl ?_
  refine m_noJudge I0.1.1 O.1.1 ho7 ?_
  refine wp_ifneB (u := !isN b (vn (sV S))) hk rfl rfl (fun g => ?_) (fun g => ?_)
  · have g' : isN b (vn (sV S)) = false := by simpa using g
    repeat (first | refine wp_s hk rfl rfl ?_ | refine wp_goto hk rfl ?_ | refine wp_geti hk rfl rfl rfl rfl ?_ | refine wp_getr hk rfl rfl rfl rfl ?_)
    refine wp_ir hk rfl rfl ?_
    have hkk := kk M0 F0
    simp only [spMove, h', g', Bool.and_self, Bool.true_and, Bool.and_true, Bool.false_and, Bool.and_false, if_true, Bool.false_eq_true, if_false, Bool.not_true, Bool.not_false] at hkk
    exact hkk
  have g' : isN b (vn (sV S)) = true := by simpa using g
  repeat (first | refine wp_s hk rfl rfl ?_ | refine wp_goto hk rfl ?_ | refine wp_geti hk rfl rfl rfl rfl ?_ | refine wp_getr hk rfl rfl rfl rfl ?_)
  refine wp_callV hk rfl rfl rfl rfl rfl rfl ?_
  refine m_noSkater I0.1.2.1 O.1.2.2.1 (by omega) ?_
  refine wp_ifeqB (u := !isN c (vm (sV S))) hk rfl rfl (fun k => ?_) (fun k => ?_)
  · have k' : isN c (vm (sV S)) = true := by simpa using k
    obtain ⟨hr, ea⟩ := i2n_of (by omega) h'
    obtain ⟨hj, eb⟩ := i2n_of (by omega) g'
    obtain ⟨hs, ec⟩ := i2n_of (by omega) k'
    repeat (first | refine wp_s hk rfl rfl ?_ | refine wp_goto hk rfl ?_ | refine wp_geti hk rfl rfl rfl rfl ?_ | refine wp_getr hk rfl rfl rfl rfl ?_)
    refine wp_callS hk rfl rfl rfl rfl ?_
    refine m_in ?_
    refine wp_ifneB (u := isN d 6) hk rfl (congrArg (fun z => nI (b2n z)) ((q_in64 (by omega) (by omega)).trans (q_isN_le (n := 5) (by omega)))) (fun f => ?_) (fun f => ?_)
    · obtain ⟨hd, ed⟩ := i2n_of (by omega) f
      repeat (first | refine wp_s hk rfl rfl ?_ | refine wp_goto hk rfl ?_ | refine wp_geti hk rfl rfl rfl rfl ?_ | refine wp_getr hk rfl rfl rfl rfl ?_)
      refine wp_callV hk rfl rfl rfl rfl rfl rfl ?_
      refine m_take I0.1 O.1 (fun M1 K1 V1 => ?_)
      repeat (first | refine wp_s hk rfl rfl ?_ | refine wp_goto hk rfl ?_ | refine wp_geti hk rfl rfl rfl rfl ?_ | refine wp_getr hk rfl rfl rfl rfl ?_)
      rw [ea]
      refine wp_callV hk rfl rfl rfl rfl rfl rfl ?_
      have RA := (I0.2.2.1.1 _ hr).kp K1 (by decide) (by decide) (by decide) (by decide)
      refine m_lay V1 (by omega) RA (O.2.2.1 _ hr) (fun M2 K2 W2 => ?_)
      repeat (first | refine wp_s hk rfl rfl ?_ | refine wp_goto hk rfl ?_ | refine wp_geti hk rfl rfl rfl rfl ?_ | refine wp_getr hk rfl rfl rfl rfl ?_)
      rw [ec]
      refine wp_callV hk rfl rfl rfl rfl rfl rfl ?_
      refine m_placeOf W2 (by omega) hs ?_
      repeat (first | refine wp_s hk rfl rfl ?_ | refine wp_goto hk rfl ?_ | refine wp_geti hk rfl rfl rfl rfl ?_ | refine wp_getr hk rfl rfl rfl rfl ?_)
      rw [eb]
      refine wp_ast (jx := 4 * i2n b + i2n c) hk rfl rfl (by simp only [q_nadd, q_nmul]) (by omega) ?_
      have V2 := V1.kp K2 (by decide) (by decide) (by decide)
      have V3 : RefV (q_up M2 88 (upd (M2 88) (4 * i2n b + i2n c) d)) (vn (sV S)) (vm (sV S)) (vc (sV S)) (mkM (vk (sV S)) (i2n b) (i2n c) (i2n d)) := by
        obtain ⟨v1, v2, v3, v4, v5, v6, v7⟩ := V2
        refine ⟨by rw [q_up_ne _ _ (by decide)]; exact v1, by rw [q_up_ne _ _ (by decide)]; exact v2, v3, v4, by rw [q_up_ne _ _ (by decide)]; exact v5, fun j hj s hs => ?_, fun j hj s hs => ?_⟩
        · rw [q_up_at]
          simp only [mkM]
          by_cases e : j = i2n b ∧ s = i2n c
          · obtain ⟨rfl, rfl⟩ := e
            rw [upd_at, if_pos ⟨rfl, rfl⟩, ← ed]
          · rw [upd_ne _ _ (by omega), if_neg e]; exact v6 j hj s hs
        · simp only [mkM]
          split
          · omega
          · exact v7 j hj s hs
      have K3 : Kp M0 (q_up M2 88 (upd (M2 88) (4 * i2n b + i2n c) d)) [88, 89, 98, 99] := ((K1.mono (by decide)).tr (K2.mono (by decide))).up (by decide)
      repeat (first | refine wp_s hk rfl rfl ?_ | refine wp_goto hk rfl ?_ | refine wp_geti hk rfl rfl rfl rfl ?_ | refine wp_getr hk rfl rfl rfl rfl ?_)
      refine wp_callV hk rfl rfl rfl rfl rfl rfl ?_
      refine m_lay V3 (by omega) ((I0.2.2.1.1 _ hr).kp K3 (by decide) (by decide) (by decide) (by decide)) (O.2.2.1 _ hr) (fun M4 K4 W4 => ?_)
      repeat (first | refine wp_s hk rfl rfl ?_ | refine wp_goto hk rfl ?_ | refine wp_geti hk rfl rfl rfl rfl ?_ | refine wp_getr hk rfl rfl rfl rfl ?_)
      refine wp_callV hk rfl rfl rfl rfl rfl rfl ?_
      refine m_placeOf W4 (by omega) hs ?_
      repeat (first | refine wp_s hk rfl rfl ?_ | refine wp_goto hk rfl ?_ | refine wp_geti hk rfl rfl rfl rfl ?_ | refine wp_getr hk rfl rfl rfl rfl ?_)
      refine wp_ir hk rfl rfl ?_
      have hkk := kk M4 (F0.tr ((RFr.kp K3).tr (RFr.kp K4)))
      simp only [spMove, h', g', k', f, Bool.and_self, Bool.true_and, Bool.and_true, Bool.false_and, Bool.and_false, if_true, Bool.false_eq_true, if_false, Bool.not_true, Bool.not_false] at hkk
      exact hkk
    · repeat (first | refine wp_s hk rfl rfl ?_ | refine wp_goto hk rfl ?_ | refine wp_geti hk rfl rfl rfl rfl ?_ | refine wp_getr hk rfl rfl rfl rfl ?_)
      refine wp_ir hk rfl rfl ?_
      have hkk := kk M0 F0
      simp only [spMove, h', g', k', f, Bool.and_self, Bool.true_and, Bool.and_true, Bool.false_and, Bool.and_false, if_true, Bool.false_eq_true, if_false, Bool.not_true, Bool.not_false] at hkk
      exact hkk
  · have k' : isN c (vm (sV S)) = false := by simpa using k
    repeat (first | refine wp_s hk rfl rfl ?_ | refine wp_goto hk rfl ?_ | refine wp_geti hk rfl rfl rfl rfl ?_ | refine wp_getr hk rfl rfl rfl rfl ?_)
    refine wp_ir hk rfl rfl ?_
    have hkk := kk M0 F0
    simp only [spMove, h', g', k', Bool.and_self, Bool.true_and, Bool.and_true, Bool.false_and, Bool.and_false, if_true, Bool.false_eq_true, if_false, Bool.not_true, Bool.not_false] at hkk
    exact hkk
