/-! the class's own calls: one judge -/
theorem anyN_iff {f : Nat → Bool} : ∀ {n : Nat}, anyN f n = true ↔ ∃ x, x < n ∧ f x = true
  | 0 => ⟨fun h => (by cases h), fun ⟨x, hx, _⟩ => absurd hx (Nat.not_lt_zero _)⟩
  | n + 1 => by
    simp only [anyN, Bool.or_eq_true]
    constructor
    · intro h
      rcases h with h | h
      · obtain ⟨x, h1, h2⟩ := anyN_iff.mp h
        exact ⟨x, by omega, h2⟩
      · exact ⟨n, by omega, h⟩
    · intro ⟨x, h1, h2⟩
      by_cases e : x = n
      · subst e; exact Or.inr h2
      · exact Or.inl (anyN_iff.mpr ⟨x, by omega, h2⟩)
theorem plJ_1 (V : Vw) (R : Ru) (j s v : Nat) : 1 ≤ plJ V R j s v := by rw [plJ_eq]; exact placeW_1
theorem plJ_5 {V : Vw} {R : Ru} {j s v : Nat} (O : VOK V) (hs : s < vm V) : plJ V R j s v < 5 := by
  rw [plJ_eq]
  have h1 : placeW (rW V R j (dig (vm V) v)) R.1 (vm V) s ≤ vm V := placeW_m hs
  have := O.2.2.2.1
  omega
theorem six_pos (m : Nat) : 0 < 6 ^ m := Nat.pow_pos (by omega)
/-- where the search may stop -/
theorem stop1 {V : Vw} {R : Ru} {j s v : Nat} (hv : v ≤ 6 ^ vm V) (h : v = 6 ^ vm V ∨ (fbW (plJ V R j s) v).1 ≤ 1) : fbW (plJ V R j s) v = fbW (plJ V R j s) (6 ^ vm V) := by
  rcases h with h | h
  · rw [h]
  · have := fbW_stop (pl := plJ V R j s) (fun v => plJ_1 V R j s v) h (6 ^ vm V - v)
    rw [show v + (6 ^ vm V - v) = 6 ^ vm V by omega] at this
    exact this.symm
/-- a row that betters is found where there is one -/
theorem stop2 {V : Vw} {R : Ru} {j s v p : Nat} (O : VOK V) (hs : s < vm V) (hp : 1 < p) (hv : v ≤ 6 ^ vm V) (h : v = 6 ^ vm V ∨ (fbW (plJ V R j s) v).1 ≤ p - 1) : plJ V R j s (fbW (plJ V R j s) v).2 < p ↔ ∃ x, x < 6 ^ vm V ∧ plJ V R j s x < p := by
  have hpos := six_pos (vm V)
  have hv0 : 0 < v ∨ (v = 0 ∧ 5 ≤ p - 1) := by
    by_cases e : v = 0
    · subst e
      rcases h with h | h
      · omega
      · exact Or.inr ⟨rfl, h⟩
    · exact Or.inl (by omega)
  constructor
  · intro hlt
    rcases hv0 with h0 | ⟨h0, -⟩
    · obtain ⟨-, -, h3⟩ := fbW_at (pl := plJ V R j s) (plJ_5 O hs) h0
      exact ⟨_, by omega, hlt⟩
    · subst h0
      exact ⟨0, hpos, hlt⟩
  · intro ⟨x, hx, hlt⟩
    rcases hv0 with h0 | ⟨h0, h5⟩
    · obtain ⟨h1, h2, h3⟩ := fbW_at (pl := plJ V R j s) (plJ_5 O hs) h0
      rw [h1]
      rcases h with h | h
      · have := h2 x (by omega); omega
      · omega
    · subst h0
      have := plJ_5 (R := R) (j := j) (v := (fbW (plJ V R j s) 0).2) O hs
      omega
theorem bentW_iff {V : Vw} {R : Ru} {j : Nat} : bentW V R j = true ↔ ∃ s, s < vm V ∧ vs V s = vj V j ∧ ∃ v, v < 6 ^ vm V ∧ plJ V R j s v < placeW (wS V R) R.1 (vm V) s := by
  unfold bentW
  rw [anyN_iff]
  constructor
  · intro ⟨v, hv, h⟩
    obtain ⟨s, hs, h⟩ := anyN_iff.mp h
    simp only [Bool.and_eq_true, decide_eq_true_eq] at h
    exact ⟨s, hs, h.1, v, hv, h.2⟩
  · intro ⟨s, hs, h1, v, hv, h2⟩
    refine ⟨v, hv, anyN_iff.mpr ⟨s, hs, ?_⟩⟩
    simp only [Bool.and_eq_true, decide_eq_true_eq]
    exact ⟨h1, h2⟩
section PUB5
variable {M : MM} {S : St} {Q : Option Value → MM → Prop}
theorem k_could {a b c : Int32} (I : ClsInv M S) (O : StOK S) (kk : ∀ M', Kp M M' scr → Q (some (.int (spFB S false a b c))) M') : Ca 105 [.ref 0, .int a, .int b, .int c] M Q := by
  have h4 := O.1.2.2.2.1
  have h7 := O.1.2.1
  have hrows := m_rows h4
  unfold spFB at kk
  have hk : q_cd 105 = kd_X8_could := rfl
  show WP 105 0 [some (.ref 0), some (.int a), some (.int b), some (.int c)] [] M Q
  have no : (isN a 3 && (isN b (vn (sV S)) && isN c (vm (sV S)))) = false → WP 105 14 [some (.ref 0), some (.int a), some (.int b), some (.int c)] [] M Q := by
    intro h
    rw [h] at kk
    repeat (first | refine wp_s hk rfl rfl ?_ | refine wp_goto hk rfl ?_ | refine wp_geti hk rfl rfl rfl rfl ?_ | refine wp_getr hk rfl rfl rfl rfl ?_)
    exact wp_ir hk rfl rfl (kk M (Kp.rf _ _))
  repeat (first | refine wp_s hk rfl rfl ?_ | refine wp_goto hk rfl ?_ | refine wp_geti hk rfl rfl rfl rfl ?_ | refine wp_getr hk rfl rfl rfl rfl ?_)
  refine wp_callV hk rfl rfl rfl rfl rfl rfl ?_
  refine k_isRule ?_
  refine wp_ifeqB hk rfl rfl (fun h => no (by rw [h]; rfl)) (fun ha => ?_)
  repeat (first | refine wp_s hk rfl rfl ?_ | refine wp_goto hk rfl ?_ | refine wp_geti hk rfl rfl rfl rfl ?_ | refine wp_getr hk rfl rfl rfl rfl ?_)
  refine wp_callV hk rfl rfl rfl rfl rfl rfl ?_
  refine c_hasJudge CSh1 I.1 ?_
  refine wp_ifeqB hk rfl rfl (fun h => no (by rw [h, Bool.false_and, Bool.and_false])) (fun hb => ?_)
  repeat (first | refine wp_s hk rfl rfl ?_ | refine wp_goto hk rfl ?_ | refine wp_geti hk rfl rfl rfl rfl ?_ | refine wp_getr hk rfl rfl rfl rfl ?_)
  refine wp_callV hk rfl rfl rfl rfl rfl rfl ?_
  refine c_hasSkater CSh1 I.1 ?_
  refine wp_ifneB hk rfl rfl (fun hc => ?_) (fun h => no (by rw [h, Bool.and_false, Bool.and_false]))
  simp only [ha, hb, hc, Bool.and_self, if_true, Bool.false_eq_true, if_false] at kk
  obtain ⟨ha1, ha2⟩ := i2n_of (by omega) ha
  obtain ⟨hb1, hb2⟩ := i2n_of (by omega) hb
  obtain ⟨hc1, hc2⟩ := i2n_of (by omega) hc
  rw [ha2, hb2, hc2]
  generalize i2n a = r at ha1 kk ⊢
  generalize i2n b = j at hb1 kk ⊢
  generalize i2n c = s at hc1 kk ⊢
  repeat (first | refine wp_s hk rfl rfl ?_ | refine wp_goto hk rfl ?_ | refine wp_geti hk rfl rfl rfl rfl ?_ | refine wp_getr hk rfl rfl rfl rfl ?_)
  refine wp_qld (jx := r) hk rfl rfl rfl rfl (zcs_at r ha1) (by decide) ?_
  repeat (first | refine wp_s hk rfl rfl ?_ | refine wp_goto hk rfl ?_ | refine wp_geti hk rfl rfl rfl rfl ?_ | refine wp_getr hk rfl rfl rfl rfl ?_)
  refine wp_callV hk rfl rfl rfl rfl rfl rfl ?_
  refine r_open I.1 O.1 (ZShR r ha1) (Or.inr (by omega)) (I.2.2.1 r ha1) (O.2.2.1 r ha1) hb1 (fun M1 K1 R1 => ?_)
  repeat (first | refine wp_s hk rfl rfl ?_ | refine wp_goto hk rfl ?_ | refine wp_geti hk rfl rfl rfl rfl ?_ | refine wp_getr hk rfl rfl rfl rfl ?_)
  refine wp_callV hk rfl rfl rfl rfl rfl rfl ?_
  refine r_bestRow (e := 1) R1 O.1 (O.2.2.1 r ha1) hb1 hc1 (by omega) (fun M2 v K2 hv hst => ?_)
  have e1 := stop1 hv hst
  have hpos := six_pos (vm (sV S))
  obtain ⟨f1, f2, f3⟩ := fbW_at (pl := plJ (sV S) (sR S r) j s) (plJ_5 O.1 hc1) hpos
  rw [e1]
  repeat (first | refine wp_s hk rfl rfl ?_ | refine wp_goto hk rfl ?_ | refine wp_geti hk rfl rfl rfl rfl ?_ | refine wp_getr hk rfl rfl rfl rfl ?_)
  refine wp_callV hk rfl rfl rfl rfl rfl rfl ?_
  refine r_placeBy (R1.kp K2 (by decide) (by decide) (by decide) (by decide) (by decide)) O.1 (O.2.2.1 r ha1) hb1 hc1 (by omega) (fun M3 K3 => ?_)
  rw [f1]
  exact wp_ir hk rfl rfl (kk M3 ((K1.mono (by decide)).tr ((K2.mono (by decide)).tr (K3.mono (by decide)))))
theorem k_best {a b c : Int32} (I : ClsInv M S) (O : StOK S) (kk : ∀ M', Kp M M' scr → Q (some (.int (spFB S true a b c))) M') : Ca 106 [.ref 0, .int a, .int b, .int c] M Q := by
  have h4 := O.1.2.2.2.1
  have h7 := O.1.2.1
  unfold spFB at kk
  have hk : q_cd 106 = kd_X8_best := rfl
  show WP 106 0 [some (.ref 0), some (.int a), some (.int b), some (.int c)] [] M Q
  have no : (isN a 3 && (isN b (vn (sV S)) && isN c (vm (sV S)))) = false → WP 106 14 [some (.ref 0), some (.int a), some (.int b), some (.int c)] [] M Q := by
    intro h
    rw [h] at kk
    repeat (first | refine wp_s hk rfl rfl ?_ | refine wp_goto hk rfl ?_ | refine wp_geti hk rfl rfl rfl rfl ?_ | refine wp_getr hk rfl rfl rfl rfl ?_)
    exact wp_ir hk rfl rfl (kk M (Kp.rf _ _))
  repeat (first | refine wp_s hk rfl rfl ?_ | refine wp_goto hk rfl ?_ | refine wp_geti hk rfl rfl rfl rfl ?_ | refine wp_getr hk rfl rfl rfl rfl ?_)
  refine wp_callV hk rfl rfl rfl rfl rfl rfl ?_
  refine k_isRule ?_
  refine wp_ifeqB hk rfl rfl (fun h => no (by rw [h]; rfl)) (fun ha => ?_)
  repeat (first | refine wp_s hk rfl rfl ?_ | refine wp_goto hk rfl ?_ | refine wp_geti hk rfl rfl rfl rfl ?_ | refine wp_getr hk rfl rfl rfl rfl ?_)
  refine wp_callV hk rfl rfl rfl rfl rfl rfl ?_
  refine c_hasJudge CSh1 I.1 ?_
  refine wp_ifeqB hk rfl rfl (fun h => no (by rw [h, Bool.false_and, Bool.and_false])) (fun hb => ?_)
  repeat (first | refine wp_s hk rfl rfl ?_ | refine wp_goto hk rfl ?_ | refine wp_geti hk rfl rfl rfl rfl ?_ | refine wp_getr hk rfl rfl rfl rfl ?_)
  refine wp_callV hk rfl rfl rfl rfl rfl rfl ?_
  refine c_hasSkater CSh1 I.1 ?_
  refine wp_ifneB hk rfl rfl (fun hc => ?_) (fun h => no (by rw [h, Bool.and_false, Bool.and_false]))
  simp only [ha, hb, hc, Bool.and_self, if_true] at kk
  obtain ⟨ha1, ha2⟩ := i2n_of (by omega) ha
  obtain ⟨hb1, hb2⟩ := i2n_of (by omega) hb
  obtain ⟨hc1, hc2⟩ := i2n_of (by omega) hc
  rw [ha2, hb2, hc2]
  generalize i2n a = r at ha1 kk ⊢
  generalize i2n b = j at hb1 kk ⊢
  generalize i2n c = s at hc1 kk ⊢
  repeat (first | refine wp_s hk rfl rfl ?_ | refine wp_goto hk rfl ?_ | refine wp_geti hk rfl rfl rfl rfl ?_ | refine wp_getr hk rfl rfl rfl rfl ?_)
  refine wp_qld (jx := r) hk rfl rfl rfl rfl (zcs_at r ha1) (by decide) ?_
  repeat (first | refine wp_s hk rfl rfl ?_ | refine wp_goto hk rfl ?_ | refine wp_geti hk rfl rfl rfl rfl ?_ | refine wp_getr hk rfl rfl rfl rfl ?_)
  refine wp_callV hk rfl rfl rfl rfl rfl rfl ?_
  refine r_open I.1 O.1 (ZShR r ha1) (Or.inr (by omega)) (I.2.2.1 r ha1) (O.2.2.1 r ha1) hb1 (fun M1 K1 R1 => ?_)
  repeat (first | refine wp_s hk rfl rfl ?_ | refine wp_goto hk rfl ?_ | refine wp_geti hk rfl rfl rfl rfl ?_ | refine wp_getr hk rfl rfl rfl rfl ?_)
  refine wp_callV hk rfl rfl rfl rfl rfl rfl ?_
  refine r_bestRow (e := 1) R1 O.1 (O.2.2.1 r ha1) hb1 hc1 (by omega) (fun M2 v K2 hv hst => ?_)
  rw [stop1 hv hst]
  exact wp_ir hk rfl rfl (kk M2 ((K1.mono (by decide)).tr (K2.mono (by decide))))
/-- wants today taken and the reach opened -/
theorem k_bettersOwn {V : Vw} {R : Ru} {j : Nat} (C : CardIs M 1 V) (O : VOK V) (OR : RuOK R) (hj : j < vn V) (W : StW M 16 R.1 (vm V) (wS V R)) (H : RchIs M V R j) (kk : ∀ M', Kp M M' [34] → Q (some (.int (nI (b2n (bentW V R j))))) M') : Ca 107 [.ref 0, .int (nI j)] M Q := by
  have h4 := O.2.2.2.1
  have h7 := O.2.1
  have hrows := m_rows h4
  have hk : q_cd 107 = kd_X8_bettersOwn := rfl
  show WP 107 0 [some (.ref 0), some (.int (nI j)), none, none] [] M Q
  have loop := q_dn (n := vm V) (P := fun s => ∀ M1 x3, Kp M M1 [34] → (∀ t, t < s → ¬ (vs V t = vj V j ∧ ∃ v, v < 6 ^ vm V ∧ plJ V R j t v < placeW (wS V R) R.1 (vm V) t)) → WP 107 2 [some (.ref 0), some (.int (nI j)), some (.int (nI s)), x3] [] M1 Q) (by
    intro M1 x3 K1 hn
    have hf : bentW V R j = false := by
      cases hb : bentW V R j with
      | false => rfl
      | true =>
        obtain ⟨s, hs, h⟩ := bentW_iff.mp hb
        exact absurd h (hn s hs)
    rw [hf] at kk
    repeat (first | refine wp_s hk rfl rfl ?_ | refine wp_goto hk rfl ?_ | refine wp_geti hk rfl rfl rfl rfl ?_ | refine wp_getr hk rfl rfl rfl rfl ?_)
    refine wp_callV hk rfl rfl rfl rfl rfl rfl ?_
    refine c_skaters CSh1 (C.kp K1 (by decide) (by decide) (by decide) (by decide)) ?_
    refine wp_icgeN (u := vm V) (v := vm V) hk rfl rfl rfl (by omega) (by omega) (fun _ => ?_) (fun h => absurd h (by omega))
    repeat (first | refine wp_s hk rfl rfl ?_ | refine wp_goto hk rfl ?_ | refine wp_geti hk rfl rfl rfl rfl ?_ | refine wp_getr hk rfl rfl rfl rfl ?_)
    exact wp_ir hk rfl rfl (kk M1 K1)) (by
    intro s hs ih M1 x3 K1 hn
    have C1 : CardIs M1 1 V := C.kp K1 (by decide) (by decide) (by decide) (by decide)
    have W1 := W.kp K1 (by decide) (by decide)
    have H1 : RchIs M1 V R j := H.kp K1 (by decide) (by decide) (by decide) (by decide) (by decide)
    have l1 : 1 ≤ placeW (wS V R) R.1 (vm V) s := placeW_1
    have l2 : placeW (wS V R) R.1 (vm V) s ≤ vm V := placeW_m hs
    have no : ∀ M2, Kp M M2 [34] → ¬ (vs V s = vj V j ∧ ∃ v, v < 6 ^ vm V ∧ plJ V R j s v < placeW (wS V R) R.1 (vm V) s) → WP 107 36 [some (.ref 0), some (.int (nI j)), some (.int (nI s)), some (.int (nI (placeW (wS V R) R.1 (vm V) s)))] [] M2 Q := by
      intro M2 K2 h
      refine wp_s hk rfl rfl ?_
      refine wp_goto hk rfl ?_
      rw [q_nadd s 1]
      refine ih M2 _ K2 (fun t ht => ?_)
      by_cases e : t = s
      · subst e; exact h
      · exact hn t (by omega)
    repeat (first | refine wp_s hk rfl rfl ?_ | refine wp_goto hk rfl ?_ | refine wp_geti hk rfl rfl rfl rfl ?_ | refine wp_getr hk rfl rfl rfl rfl ?_)
    refine wp_callV hk rfl rfl rfl rfl rfl rfl ?_
    refine c_skaters CSh1 C1 ?_
    refine wp_icgeN (u := s) (v := vm V) hk rfl rfl rfl (by omega) (by omega) (fun h => absurd h (by omega)) (fun _ => ?_)
    repeat (first | refine wp_s hk rfl rfl ?_ | refine wp_goto hk rfl ?_ | refine wp_geti hk rfl rfl rfl rfl ?_ | refine wp_getr hk rfl rfl rfl rfl ?_)
    refine wp_callV hk rfl rfl rfl rfl rfl rfl ?_
    refine t_placeOf TSh16 W1 hs ?_
    repeat (first | refine wp_s hk rfl rfl ?_ | refine wp_goto hk rfl ?_ | refine wp_geti hk rfl rfl rfl rfl ?_ | refine wp_getr hk rfl rfl rfl rfl ?_)
    refine wp_icleN (u := placeW (wS V R) R.1 (vm V) s) (v := 1) hk rfl rfl rfl (by omega) (by omega) (fun y => ?_) (fun y => ?_)
    · exact no M1 K1 (fun z => by
        obtain ⟨-, v, -, hv⟩ := z
        have := plJ_1 V R j s v
        omega)
    · repeat (first | refine wp_s hk rfl rfl ?_ | refine wp_goto hk rfl ?_ | refine wp_geti hk rfl rfl rfl rfl ?_ | refine wp_getr hk rfl rfl rfl rfl ?_)
      refine wp_callV hk rfl rfl rfl rfl rfl rfl ?_
      refine c_ofOneLand CSh1 C1 O (by omega) (by omega) ?_
      refine wp_ifeqB hk rfl rfl (fun z => no M1 K1 (fun w => of_decide_eq_false z w.1.symm)) (fun z => ?_)
      have hland := of_decide_eq_true z
      repeat (first | refine wp_s hk rfl rfl ?_ | refine wp_goto hk rfl ?_ | refine wp_geti hk rfl rfl rfl rfl ?_ | refine wp_getr hk rfl rfl rfl rfl ?_)
      rw [q_nsub (show 1 ≤ placeW (wS V R) R.1 (vm V) s by omega)]
      refine wp_callV hk rfl rfl rfl rfl rfl rfl ?_
      refine r_bestRow (e := placeW (wS V R) R.1 (vm V) s - 1) H1 O OR hj hs (by omega) (fun M2 v K2 hv hst => ?_)
      have hle := (fbW_le (pl := plJ V R j s) (v := v)).2
      have hiff := stop2 O hs (by omega) hv hst
      repeat (first | refine wp_s hk rfl rfl ?_ | refine wp_goto hk rfl ?_ | refine wp_geti hk rfl rfl rfl rfl ?_ | refine wp_getr hk rfl rfl rfl rfl ?_)
      refine wp_callV hk rfl rfl rfl rfl rfl rfl ?_
      refine r_placeBy (H1.kp K2 (by decide) (by decide) (by decide) (by decide) (by decide)) O OR hj hs (by omega) (fun M3 K3 => ?_)
      have h5 := plJ_5 (R := R) (j := j) (v := (fbW (plJ V R j s) v).2) O hs
      have K13 := K1.tr (K2.tr K3)
      repeat (first | refine wp_s hk rfl rfl ?_ | refine wp_goto hk rfl ?_ | refine wp_geti hk rfl rfl rfl rfl ?_ | refine wp_getr hk rfl rfl rfl rfl ?_)
      refine wp_icgeN (u := plJ V R j s (fbW (plJ V R j s) v).2) (v := placeW (wS V R) R.1 (vm V) s) hk rfl rfl rfl (by omega) (by omega) (fun w => ?_) (fun w => ?_)
      · exact no M3 K13 (fun q => absurd (hiff.mpr q.2) (by omega))
      · have hb : bentW V R j = true := bentW_iff.mpr ⟨s, hs, hland.symm, hiff.mp (by omega)⟩
        rw [hb] at kk
        repeat (first | refine wp_s hk rfl rfl ?_ | refine wp_goto hk rfl ?_ | refine wp_geti hk rfl rfl rfl rfl ?_ | refine wp_getr hk rfl rfl rfl rfl ?_)
        exact wp_ir hk rfl rfl (kk M3 K13))
  refine wp_s hk rfl rfl ?_
  refine wp_s hk rfl rfl ?_
  exact loop 0 (Nat.zero_le _) M _ (Kp.rf _ _) (fun t ht => absurd ht (Nat.not_lt_zero _))
theorem k_bends {a b : Int32} (I : ClsInv M S) (O : StOK S) (kk : ∀ M', Kp M M' scr → Q (some (.int (spBends S a b))) M') : Ca 108 [.ref 0, .int a, .int b] M Q := by
  have h4 := O.1.2.2.2.1
  have h7 := O.1.2.1
  unfold spBends at kk
  have hk : q_cd 108 = kd_X8_bends := rfl
  show WP 108 0 [some (.ref 0), some (.int a), some (.int b)] [] M Q
  have no : (isN a 3 && isN b (vn (sV S))) = false → WP 108 9 [some (.ref 0), some (.int a), some (.int b)] [] M Q := by
    intro h
    rw [h] at kk
    repeat (first | refine wp_s hk rfl rfl ?_ | refine wp_goto hk rfl ?_ | refine wp_geti hk rfl rfl rfl rfl ?_ | refine wp_getr hk rfl rfl rfl rfl ?_)
    exact wp_ir hk rfl rfl (kk M (Kp.rf _ _))
  repeat (first | refine wp_s hk rfl rfl ?_ | refine wp_goto hk rfl ?_ | refine wp_geti hk rfl rfl rfl rfl ?_ | refine wp_getr hk rfl rfl rfl rfl ?_)
  refine wp_callV hk rfl rfl rfl rfl rfl rfl ?_
  refine k_isRule ?_
  refine wp_ifeqB hk rfl rfl (fun h => no (by rw [h]; rfl)) (fun ha => ?_)
  repeat (first | refine wp_s hk rfl rfl ?_ | refine wp_goto hk rfl ?_ | refine wp_geti hk rfl rfl rfl rfl ?_ | refine wp_getr hk rfl rfl rfl rfl ?_)
  refine wp_callV hk rfl rfl rfl rfl rfl rfl ?_
  refine c_hasJudge CSh1 I.1 ?_
  refine wp_ifneB hk rfl rfl (fun hb => ?_) (fun h => no (by rw [h, Bool.and_false]))
  simp only [ha, hb, Bool.and_self, if_true] at kk
  obtain ⟨ha1, ha2⟩ := i2n_of (by omega) ha
  obtain ⟨hb1, hb2⟩ := i2n_of (by omega) hb
  rw [ha2, hb2]
  generalize i2n a = r at ha1 kk ⊢
  generalize i2n b = j at hb1 kk ⊢
  repeat (first | refine wp_s hk rfl rfl ?_ | refine wp_goto hk rfl ?_ | refine wp_geti hk rfl rfl rfl rfl ?_ | refine wp_getr hk rfl rfl rfl rfl ?_)
  refine wp_qld (jx := r) hk rfl rfl rfl rfl (zcs_at r ha1) (by decide) ?_
  repeat (first | refine wp_s hk rfl rfl ?_ | refine wp_goto hk rfl ?_ | refine wp_geti hk rfl rfl rfl rfl ?_ | refine wp_getr hk rfl rfl rfl rfl ?_)
  refine wp_callV hk rfl rfl rfl rfl rfl rfl ?_
  refine t_take CSh1 TSh16 (ZShR r ha1) (by omega) (Or.inr (by omega)) I.1 O.1 (I.2.2.1 r ha1) (O.2.2.1 r ha1) (fun M1 K1 W1 => ?_)
  have I1 := I.kp O (K1.mono (by decide))
  repeat (first | refine wp_s hk rfl rfl ?_ | refine wp_goto hk rfl ?_ | refine wp_geti hk rfl rfl rfl rfl ?_ | refine wp_getr hk rfl rfl rfl rfl ?_)
  refine wp_qld (jx := r) hk rfl rfl rfl rfl (zcs_at r ha1) (by decide) ?_
  repeat (first | refine wp_s hk rfl rfl ?_ | refine wp_goto hk rfl ?_ | refine wp_geti hk rfl rfl rfl rfl ?_ | refine wp_getr hk rfl rfl rfl rfl ?_)
  refine wp_callV hk rfl rfl rfl rfl rfl rfl ?_
  refine r_open I1.1 O.1 (ZShR r ha1) (Or.inr (by omega)) (I1.2.2.1 r ha1) (O.2.2.1 r ha1) hb1 (fun M2 K2 R2 => ?_)
  have I2 := I1.kp O (K2.mono (by decide))
  repeat (first | refine wp_s hk rfl rfl ?_ | refine wp_goto hk rfl ?_ | refine wp_geti hk rfl rfl rfl rfl ?_ | refine wp_getr hk rfl rfl rfl rfl ?_)
  refine wp_callV hk rfl rfl rfl rfl rfl rfl ?_
  refine k_bettersOwn I2.1 O.1 (O.2.2.1 r ha1) hb1 (W1.kp K2 (by decide) (by decide)) R2 (fun M3 K3 => ?_)
  have hkk := kk M3 ((K1.mono (by decide)).tr ((K2.mono (by decide)).tr (K3.mono (by decide))))
  refine wp_ifeqB hk rfl rfl (fun y => ?_) (fun y => ?_)
  · rw [y] at hkk
    repeat (first | refine wp_s hk rfl rfl ?_ | refine wp_goto hk rfl ?_ | refine wp_geti hk rfl rfl rfl rfl ?_ | refine wp_getr hk rfl rfl rfl rfl ?_)
    exact wp_ir hk rfl rfl hkk
  · rw [y] at hkk
    repeat (first | refine wp_s hk rfl rfl ?_ | refine wp_goto hk rfl ?_ | refine wp_geti hk rfl rfl rfl rfl ?_ | refine wp_getr hk rfl rfl rfl rfl ?_)
    exact wp_ir hk rfl rfl hkk
theorem k_benders {V : Vw} {R : Ru} {z : Nat} (C : CardIs M 1 V) (O : VOK V) (hz : ZSh z) (hz15 : z + 3 < 16 ∨ 70 < z) (HZ : SchIs M z R) (OR : RuOK R) (kk : ∀ M', Kp M M' [16, 18, 19, 24, 26, 27, 28, 29, 30, 31, 32, 33, 34] → Q (some (.int (nI (bitsW (bentW V R) (vn V))))) M') : Ca 109 [.ref 0, .ref z] M Q := by
  have h7 := O.2.1
  have hk : q_cd 109 = kd_X8_benders := rfl
  show WP 109 0 [some (.ref 0), some (.ref z), none, none] [] M Q
  repeat (first | refine wp_s hk rfl rfl ?_ | refine wp_goto hk rfl ?_ | refine wp_geti hk rfl rfl rfl rfl ?_ | refine wp_getr hk rfl rfl rfl rfl ?_)
  refine wp_callV hk rfl rfl rfl rfl rfl rfl ?_
  refine t_take CSh1 TSh16 hz (by omega) (by omega) C O HZ OR (fun M1 K1 W1 => ?_)
  have loop := q_dn (n := vn V) (P := fun j => ∀ M2, Kp M1 M2 [24, 26, 27, 28, 29, 30, 31, 32, 33, 34] → WP 109 10 [some (.ref 0), some (.ref z), some (.int (nI (bitsW (bentW V R) j))), some (.int (nI j))] [] M2 Q) (by
    intro M2 K2
    have C2 : CardIs M2 1 V := (C.kp K1 (by decide) (by decide) (by decide) (by decide)).kp K2 (by decide) (by decide) (by decide) (by decide)
    repeat (first | refine wp_s hk rfl rfl ?_ | refine wp_goto hk rfl ?_ | refine wp_geti hk rfl rfl rfl rfl ?_ | refine wp_getr hk rfl rfl rfl rfl ?_)
    refine wp_callV hk rfl rfl rfl rfl rfl rfl ?_
    refine c_judges CSh1 C2 ?_
    refine wp_icgeN (u := vn V) (v := vn V) hk rfl rfl rfl (by omega) (by omega) (fun _ => ?_) (fun h => absurd h (by omega))
    repeat (first | refine wp_s hk rfl rfl ?_ | refine wp_goto hk rfl ?_ | refine wp_geti hk rfl rfl rfl rfl ?_ | refine wp_getr hk rfl rfl rfl rfl ?_)
    exact wp_ir hk rfl rfl (kk M2 ((K1.mono (by decide)).tr (K2.mono (by decide))))) (by
    intro j hj ih M2 K2
    have C2 : CardIs M2 1 V := (C.kp K1 (by decide) (by decide) (by decide) (by decide)).kp K2 (by decide) (by decide) (by decide) (by decide)
    have Z2 : SchIs M2 z R := (HZ.kp K1 (by simp; omega) (by simp; omega) (by simp; omega) (by simp; omega)).kp K2 (by simp; omega) (by simp; omega) (by simp; omega) (by simp; omega)
    repeat (first | refine wp_s hk rfl rfl ?_ | refine wp_goto hk rfl ?_ | refine wp_geti hk rfl rfl rfl rfl ?_ | refine wp_getr hk rfl rfl rfl rfl ?_)
    refine wp_callV hk rfl rfl rfl rfl rfl rfl ?_
    refine c_judges CSh1 C2 ?_
    refine wp_icgeN (u := j) (v := vn V) hk rfl rfl rfl (by omega) (by omega) (fun h => absurd h (by omega)) (fun _ => ?_)
    simp only [bitsW] at ih
    repeat (first | refine wp_s hk rfl rfl ?_ | refine wp_goto hk rfl ?_ | refine wp_geti hk rfl rfl rfl rfl ?_ | refine wp_getr hk rfl rfl rfl rfl ?_)
    refine wp_callV hk rfl rfl rfl rfl rfl rfl ?_
    refine r_open C2 O hz (by omega) Z2 OR hj (fun M3 K3 R3 => ?_)
    repeat (first | refine wp_s hk rfl rfl ?_ | refine wp_goto hk rfl ?_ | refine wp_geti hk rfl rfl rfl rfl ?_ | refine wp_getr hk rfl rfl rfl rfl ?_)
    refine wp_callV hk rfl rfl rfl rfl rfl rfl ?_
    refine k_bettersOwn (C2.kp K3 (by decide) (by decide) (by decide) (by decide)) O OR hj ((W1.kp K2 (by decide) (by decide)).kp K3 (by decide) (by decide)) R3 (fun M4 K4 => ?_)
    have K24 : Kp M1 M4 [24, 26, 27, 28, 29, 30, 31, 32, 33, 34] := K2.tr ((K3.mono (by decide)).tr (K4.mono (by decide)))
    refine wp_ifeqB hk rfl rfl (fun y => ?_) (fun y => ?_)
    · rw [if_neg (by rw [y]; exact Bool.false_ne_true), Nat.or_zero] at ih
      refine wp_s hk rfl rfl ?_
      refine wp_goto hk rfl ?_
      rw [q_nadd j 1]
      exact ih M4 K24
    · rw [if_pos y] at ih
      refine wp_s hk rfl rfl ?_
      refine wp_s hk rfl rfl ?_
      refine wp_s hk rfl rfl ?_
      refine wp_s hk rfl rfl ?_
      refine wp_s hk rfl rfl ?_
      refine wp_s hk rfl rfl ?_
      refine wp_s hk rfl rfl ?_
      refine wp_goto hk rfl ?_
      rw [q_nadd j 1, q_shl1 j (by omega), q_nor]
      exact ih M4 K24)
  refine wp_s hk rfl rfl ?_
  refine wp_s hk rfl rfl ?_
  refine wp_s hk rfl rfl ?_
  refine wp_s hk rfl rfl ?_
  exact loop 0 (Nat.zero_le _) M1 (Kp.rf _ _)
theorem k_bent {a : Int32} (I : ClsInv M S) (O : StOK S) (kk : ∀ M', Kp M M' scr → Q (some (.int (spBent S a))) M') : Ca 110 [.ref 0, .int a] M Q := by
  unfold spBent at kk
  have hk : q_cd 110 = kd_X8_bent := rfl
  show WP 110 0 [some (.ref 0), some (.int a)] [] M Q
  repeat (first | refine wp_s hk rfl rfl ?_ | refine wp_goto hk rfl ?_ | refine wp_geti hk rfl rfl rfl rfl ?_ | refine wp_getr hk rfl rfl rfl rfl ?_)
  refine wp_callV hk rfl rfl rfl rfl rfl rfl ?_
  refine k_isRule ?_
  refine wp_ifneB hk rfl rfl (fun ha => ?_) (fun h => ?_)
  · rw [if_pos ha] at kk
    obtain ⟨ha1, ha2⟩ := i2n_of (by omega) ha
    rw [ha2]
    generalize i2n a = r at ha1 kk ⊢
    repeat (first | refine wp_s hk rfl rfl ?_ | refine wp_goto hk rfl ?_ | refine wp_geti hk rfl rfl rfl rfl ?_ | refine wp_getr hk rfl rfl rfl rfl ?_)
    refine wp_qld (jx := r) hk rfl rfl rfl rfl (zcs_at r ha1) (by decide) ?_
    repeat (first | refine wp_s hk rfl rfl ?_ | refine wp_goto hk rfl ?_ | refine wp_geti hk rfl rfl rfl rfl ?_ | refine wp_getr hk rfl rfl rfl rfl ?_)
    refine wp_callV hk rfl rfl rfl rfl rfl rfl ?_
    refine k_benders I.1 O.1 (ZShR r ha1) (Or.inr (by omega)) (I.2.2.1 r ha1) (O.2.2.1 r ha1) (fun M1 K1 => ?_)
    exact wp_ir hk rfl rfl (kk M1 (K1.mono (by decide)))
  · rw [h] at kk
    repeat (first | refine wp_s hk rfl rfl ?_ | refine wp_goto hk rfl ?_ | refine wp_geti hk rfl rfl rfl rfl ?_ | refine wp_getr hk rfl rfl rfl rfl ?_)
    exact wp_ir hk rfl rfl (kk M (Kp.rf _ _))
theorem k_strike (I : ClsInv M S) (O : StOK S) (kk : ∀ M', Kp M M' scr → Q (some (.int (spStrike S))) M') : Ca 111 [.ref 0] M Q := by
  have h7 := O.1.2.1
  unfold spStrike at kk
  have hk : q_cd 111 = kd_X8_strike := rfl
  show WP 111 0 [some (.ref 0), none, none, none, none] [] M Q
  obtain ⟨f, hf⟩ : ∃ f : Nat → Nat, f = fun k => popW (bitsW (bentW (sV S) (ruS k)) (vn (sV S))) := ⟨_, rfl⟩
  rw [← hf] at kk
  have loop := q_dn (n := 4) (P := fun k => ∀ M1 x4, Kp M M1 scr → WP 111 8 [some (.ref 0), some (.int (nI (stW f k).2)), some (.int (nI (stW f k).1)), some (.int (nI k)), x4] [.int (nI 4), .int (nI k)] M1 Q) (by
    intro M1 x4 K1
    refine wp_icgeN (u := 4) (v := 4) hk rfl rfl rfl (by omega) (by omega) (fun _ => ?_) (fun h => absurd h (by omega))
    repeat (first | refine wp_s hk rfl rfl ?_ | refine wp_goto hk rfl ?_ | refine wp_geti hk rfl rfl rfl rfl ?_ | refine wp_getr hk rfl rfl rfl rfl ?_)
    exact wp_ir hk rfl rfl (kk M1 K1)) (by
    intro k hk4 ih M1 x4 K1
    have I1 := I.kp O K1
    have l1 := (stW_le (f := f) (k := k)).1
    refine wp_icgeN (u := k) (v := 4) hk rfl rfl rfl (by omega) (by omega) (fun h => absurd h (by omega)) (fun _ => ?_)
    repeat (first | refine wp_s hk rfl rfl ?_ | refine wp_goto hk rfl ?_ | refine wp_geti hk rfl rfl rfl rfl ?_ | refine wp_getr hk rfl rfl rfl rfl ?_)
    refine wp_callV hk rfl rfl rfl rfl rfl rfl ?_
    refine z_strikeAlone ZSh12 (fun M2 K2 Z2 => ?_)
    have I2 := I1.kp O (K2.mono (by decide))
    repeat (first | refine wp_s hk rfl rfl ?_ | refine wp_goto hk rfl ?_ | refine wp_geti hk rfl rfl rfl rfl ?_ | refine wp_getr hk rfl rfl rfl rfl ?_)
    refine wp_callV hk rfl rfl rfl rfl rfl rfl ?_
    refine k_benders I2.1 O.1 ZSh12 (Or.inl (by omega)) Z2 (ruS_ok hk4) (fun M3 K3 => ?_)
    have K13 : Kp M M3 scr := K1.tr ((K2.mono (by decide)).tr (K3.mono (by decide)))
    have hlt : bitsW (bentW (sV S) (ruS k)) (vn (sV S)) < 128 := by
      have h1 := bitsW_lt (f := bentW (sV S) (ruS k)) (j := vn (sV S))
      have h2 := pow_n h7
      omega
    refine wp_callS hk rfl rfl rfl rfl ?_
    refine c_bitCount hlt ?_
    have e : popW (bitsW (bentW (sV S) (ruS k)) (vn (sV S))) = f k := by rw [hf]
    have l2 : f k ≤ 7 := by rw [← e]; exact popW_le _
    rw [e]
    simp only [stW] at ih
    repeat (first | refine wp_s hk rfl rfl ?_ | refine wp_goto hk rfl ?_ | refine wp_geti hk rfl rfl rfl rfl ?_ | refine wp_getr hk rfl rfl rfl rfl ?_)
    refine wp_icgeN (u := f k) (v := (stW f k).1) hk rfl rfl rfl (by omega) (by omega) (fun y => ?_) (fun y => ?_)
    · rw [if_neg (by omega)] at ih
      repeat (first | refine wp_s hk rfl rfl ?_ | refine wp_goto hk rfl ?_ | refine wp_geti hk rfl rfl rfl rfl ?_ | refine wp_getr hk rfl rfl rfl rfl ?_)
      rw [q_nadd k 1]
      exact ih M3 _ K13
    · rw [if_pos (by omega)] at ih
      repeat (first | refine wp_s hk rfl rfl ?_ | refine wp_goto hk rfl ?_ | refine wp_geti hk rfl rfl rfl rfl ?_ | refine wp_getr hk rfl rfl rfl rfl ?_)
      rw [q_nadd k 1]
      exact ih M3 _ K13)
  repeat (first | refine wp_s hk rfl rfl ?_ | refine wp_goto hk rfl ?_ | refine wp_geti hk rfl rfl rfl rfl ?_ | refine wp_getr hk rfl rfl rfl rfl ?_)
  exact loop 0 (Nat.zero_le _) M _ (Kp.rf _ _)
end PUB5
