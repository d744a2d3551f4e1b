/-! the class's own calls that change its state -/
theorem Lo.rf (M : MM) : Lo M M := fun _ _ => rfl
theorem ClsInv.card {M M' : MM} {S : St} {V : Vw} (I : ClsInv M S) (O : StOK S) (h : Kp M M' [1, 2, 3, 4]) (C : CardIs M' 1 V) : ClsInv M' (stV S V) := by
  obtain ⟨a, b, c, d, e⟩ := I
  have h8 := O.2.2.2.1
  refine ⟨C, TextIs.kp (T := sT S) b h (by decide) (by decide), fun r hr => (c r hr).kp h (by simp; omega) (by simp; omega) (by simp; omega) (by simp; omega), by rw [h 35 (by decide)]; exact d, fun i hi => ?_⟩
  have hi' : i < sN S := hi
  exact (e i hi').kp h (by simp; omega) (by simp; omega) (by simp; omega) (by simp; omega)
theorem ClsInv.text {M M' : MM} {S : St} {T : Nat × (Nat → Nat)} (I : ClsInv M S) (O : StOK S) (h : Kp M M' [9, 10]) (C : TextIs M' T) : ClsInv M' (sV S, T, sR S, sN S, sP S) := by
  obtain ⟨a, b, c, d, e⟩ := I
  have h8 := O.2.2.2.1
  refine ⟨a.kp h (by decide) (by decide) (by decide) (by decide), C, fun r hr => (c r hr).kp h (by simp; omega) (by simp; omega) (by simp; omega) (by simp; omega), by rw [h 35 (by decide)]; exact d, fun i hi => ?_⟩
  have hi' : i < sN S := hi
  exact (e i hi').kp h (by simp; omega) (by simp; omega) (by simp; omega) (by simp; omega)
theorem ClsInv.rule {M M' : MM} {S : St} {R : Ru} {r : Nat} (I : ClsInv M S) (O : StOK S) (hr : r < 3) (h : Kp M M' [71 + 4 * r, 71 + 4 * r + 1, 71 + 4 * r + 2, 71 + 4 * r + 3]) (C : SchIs M' (71 + 4 * r) R) : ClsInv M' (stR S r R) := by
  obtain ⟨a, b, c, d, e⟩ := I
  have h8 := O.2.2.2.1
  refine ⟨a.kp h (by simp; omega) (by simp; omega) (by simp; omega) (by simp; omega), TextIs.kp (T := sT S) b h (by simp; omega) (by simp; omega), fun r' hr' => ?_, by rw [h 35 (by simp; omega)]; exact d, fun i hi => ?_⟩
  · show SchIs M' (71 + 4 * r') (if r' = r then R else sR S r')
    by_cases e : r' = r
    · subst e; rw [if_pos rfl]; exact C
    · rw [if_neg e]
      exact (c r' hr').kp h (by simp; omega) (by simp; omega) (by simp; omega) (by simp; omega)
  · have hi' : i < sN S := hi
    exact (e i hi').kp h (by simp; omega) (by simp; omega) (by simp; omega) (by simp; omega)
theorem ClsInv.past {M M' : MM} {S : St} {N : Nat} {P : Nat → Vw} {ids : List Nat} (I : ClsInv M S) (h : Kp M M' ids) (hs : ∀ i ∈ ids, 35 ≤ i ∧ i < 69) (C : PastIs M' N P) : ClsInv M' (sV S, sT S, sR S, N, P) := by
  obtain ⟨a, b, c, d, e⟩ := I
  have no : ∀ i, i < 35 ∨ 69 ≤ i → i ∉ ids := fun i hi z => by have := hs i z; omega
  exact ⟨a.kp h (no _ (by omega)) (no _ (by omega)) (no _ (by omega)) (no _ (by omega)), TextIs.kp (T := sT S) b h (no _ (by omega)) (no _ (by omega)), fun r hr => (c r hr).kp h (no _ (by omega)) (no _ (by omega)) (no _ (by omega)) (no _ (by omega)), C.1, C.2⟩
section PUB2
variable {M : MM} {S : St} {Q : Option Value → MM → Prop}
theorem k_panel {a b : Int32} (I : ClsInv M S) (O : StOK S) (kk : ∀ M', ClsInv M' (opPanel S a b).2 → Lo M M' → Q (some (.int (opPanel S a b).1)) M') : Ca 87 [.ref 0, .int a, .int b] M Q := by
  have hk : q_cd 87 = kd_X8_panel := rfl
  show WP 87 0 [some (.ref 0), some (.int a), some (.int b)] [] M Q
  have bad : (isR a 1 7 && isR b 1 4) = false → WP 87 12 [some (.ref 0), some (.int a), some (.int b)] [] M Q := by
    intro h
    have hkk := kk M
    simp only [opPanel, h, Bool.false_eq_true, if_false] at hkk
    repeat (first | refine wp_s hk rfl rfl ?_ | refine wp_goto hk rfl ?_ | refine wp_geti hk rfl rfl rfl rfl ?_ | refine wp_getr hk rfl rfl rfl rfl ?_)
    exact wp_ir hk rfl rfl (hkk I (Lo.rf M))
  repeat (first | refine wp_s hk rfl rfl ?_ | refine wp_goto hk rfl ?_ | refine wp_geti hk rfl rfl rfl rfl ?_ | refine wp_getr hk rfl rfl rfl rfl ?_)
  refine wp_iclt hk rfl (fun g => bad (by rw [isR_lo (lo := 1) (hi := 7) g]; rfl)) (fun g1 => ?_)
  repeat (first | refine wp_s hk rfl rfl ?_ | refine wp_goto hk rfl ?_ | refine wp_geti hk rfl rfl rfl rfl ?_ | refine wp_getr hk rfl rfl rfl rfl ?_)
  refine wp_icgt hk rfl (fun g => bad (by rw [isR_hi (lo := 1) (hi := 7) g]; rfl)) (fun g2 => ?_)
  repeat (first | refine wp_s hk rfl rfl ?_ | refine wp_goto hk rfl ?_ | refine wp_geti hk rfl rfl rfl rfl ?_ | refine wp_getr hk rfl rfl rfl rfl ?_)
  refine wp_iclt hk rfl (fun g => bad (by rw [isR_lo (lo := 1) (hi := 4) g, Bool.and_false])) (fun g3 => ?_)
  repeat (first | refine wp_s hk rfl rfl ?_ | refine wp_goto hk rfl ?_ | refine wp_geti hk rfl rfl rfl rfl ?_ | refine wp_getr hk rfl rfl rfl rfl ?_)
  refine wp_icle hk rfl (fun g4 => ?_) (fun g => bad (by rw [isR_hi (lo := 1) (hi := 4) (Int32.not_le.mp g), Bool.and_false]))
  have h := isR_in (lo := 1) (hi := 7) g1 (Int32.not_lt.mp g2)
  have g := isR_in (lo := 1) (hi := 4) g3 g4
  obtain ⟨a1, a2, a3⟩ := isR_of (by omega) (by omega) h
  obtain ⟨b1, b2, b3⟩ := isR_of (by omega) (by omega) g
  have hkk := fun M' => kk M'
  simp only [opPanel, h, g, Bool.and_self, if_true] at hkk
  rw [a3, b3]
  generalize i2n a = n at a1 a2 hkk ⊢
  generalize i2n b = m at b1 b2 hkk ⊢
  repeat (first | refine wp_s hk rfl rfl ?_ | refine wp_goto hk rfl ?_ | refine wp_geti hk rfl rfl rfl rfl ?_ | refine wp_getr hk rfl rfl rfl rfl ?_)
  refine wp_callV hk rfl rfl rfl rfl rfl rfl ?_
  refine c_begin CSh1 (fun M1 K1 C1 => ?_)
  repeat (first | refine wp_s hk rfl rfl ?_ | refine wp_goto hk rfl ?_ | refine wp_geti hk rfl rfl rfl rfl ?_ | refine wp_getr hk rfl rfl rfl rfl ?_)
  refine wp_callV hk rfl rfl rfl rfl rfl rfl ?_
  refine c_size CSh1 C1 ?_
  exact wp_ir hk rfl rfl (hkk M1 (I.card O K1 C1) (Lo.kp K1))
theorem k_land {z : Bool} {a b : Int32} (I : ClsInv M S) (O : StOK S) (kk : ∀ M', ClsInv M' (opLand S z a b).2 → Lo M M' → Q (some (.int (opLand S z a b).1)) M') : Ca 88 [.ref 0, .int (nI (b2n z)), .int a, .int b] M Q := by
  have h7 := O.1.2.1
  have h4 := O.1.2.2.2.1
  have hk : q_cd 88 = kd_X8_land := rfl
  show WP 88 0 [some (.ref 0), some (.int (nI (b2n z))), some (.int a), some (.int b)] [] M Q
  have unk : isN a (if z = true then vm (sV S) else vn (sV S)) = false → WP 88 13 [some (.ref 0), some (.int (nI (b2n z))), some (.int a), some (.int b)] [] M Q := by
    intro h
    have hkk := kk M
    simp only [opLand, h, Bool.false_eq_true, if_false] at hkk
    repeat (first | refine wp_s hk rfl rfl ?_ | refine wp_goto hk rfl ?_ | refine wp_geti hk rfl rfl rfl rfl ?_ | refine wp_getr hk rfl rfl rfl rfl ?_)
    exact wp_ir hk rfl rfl (hkk I (Lo.rf M))
  have rest : isN a (if z = true then vm (sV S) else vn (sV S)) = true → WP 88 15 [some (.ref 0), some (.int (nI (b2n z))), some (.int a), some (.int b)] [] M Q := by
    intro h
    have bad : isN b 4 = false → WP 88 20 [some (.ref 0), some (.int (nI (b2n z))), some (.int a), some (.int b)] [] M Q := by
      intro h2
      have hkk := kk M
      simp only [opLand, h, h2, Bool.false_eq_true, if_false, if_true] at hkk
      repeat (first | refine wp_s hk rfl rfl ?_ | refine wp_goto hk rfl ?_ | refine wp_geti hk rfl rfl rfl rfl ?_ | refine wp_getr hk rfl rfl rfl rfl ?_)
      exact wp_ir hk rfl rfl (hkk I (Lo.rf M))
    repeat (first | refine wp_s hk rfl rfl ?_ | refine wp_goto hk rfl ?_ | refine wp_geti hk rfl rfl rfl rfl ?_ | refine wp_getr hk rfl rfl rfl rfl ?_)
    refine wp_iflt hk rfl (fun g => bad (isN_lo g)) (fun g1 => ?_)
    repeat (first | refine wp_s hk rfl rfl ?_ | refine wp_goto hk rfl ?_ | refine wp_geti hk rfl rfl rfl rfl ?_ | refine wp_getr hk rfl rfl rfl rfl ?_)
    refine wp_iclt hk rfl (fun g2 => ?_) (fun g => bad (isN_hi (Int32.not_lt.mp g)))
    have h2 := isN_in (n := 4) g1 (Int32.not_le.mpr g2)
    have hkk := fun M' => kk M'
    simp only [opLand, h, h2, if_true] at hkk
    obtain ⟨b1, b2⟩ := i2n_of (by omega) h2
    cases z with
    | true =>
      simp only [if_true] at h hkk
      obtain ⟨a1, a2⟩ := i2n_of (by omega) h
      rw [a2, b2]
      generalize i2n a = s at a1 hkk ⊢
      generalize i2n b = x at b1 hkk ⊢
      repeat (first | refine wp_s hk rfl rfl ?_ | refine wp_goto hk rfl ?_ | refine wp_geti hk rfl rfl rfl rfl ?_ | refine wp_getr hk rfl rfl rfl rfl ?_)
      refine wp_ifeqB (u := true) hk rfl rfl (fun y => by cases y) (fun _ => ?_)
      repeat (first | refine wp_s hk rfl rfl ?_ | refine wp_goto hk rfl ?_ | refine wp_geti hk rfl rfl rfl rfl ?_ | refine wp_getr hk rfl rfl rfl rfl ?_)
      refine wp_callV hk rfl rfl rfl rfl rfl rfl ?_
      refine c_moveSkater CSh1 I.1 (by omega) (fun M1 K1 C1 => ?_)
      repeat (first | refine wp_s hk rfl rfl ?_ | refine wp_goto hk rfl ?_ | refine wp_geti hk rfl rfl rfl rfl ?_ | refine wp_getr hk rfl rfl rfl rfl ?_)
      exact wp_ir hk rfl rfl (hkk M1 (I.card O (K1.mono (by decide)) C1) (Lo.kp K1))
    | false =>
      simp only [Bool.false_eq_true, if_false] at h hkk
      obtain ⟨a1, a2⟩ := i2n_of (by omega) h
      rw [a2, b2]
      generalize i2n a = s at a1 hkk ⊢
      generalize i2n b = x at b1 hkk ⊢
      repeat (first | refine wp_s hk rfl rfl ?_ | refine wp_goto hk rfl ?_ | refine wp_geti hk rfl rfl rfl rfl ?_ | refine wp_getr hk rfl rfl rfl rfl ?_)
      refine wp_ifeqB (u := false) hk rfl rfl (fun _ => ?_) (fun y => by cases y)
      repeat (first | refine wp_s hk rfl rfl ?_ | refine wp_goto hk rfl ?_ | refine wp_geti hk rfl rfl rfl rfl ?_ | refine wp_getr hk rfl rfl rfl rfl ?_)
      refine wp_callV hk rfl rfl rfl rfl rfl rfl ?_
      refine c_moveJudge CSh1 I.1 (by omega) (fun M1 K1 C1 => ?_)
      repeat (first | refine wp_s hk rfl rfl ?_ | refine wp_goto hk rfl ?_ | refine wp_geti hk rfl rfl rfl rfl ?_ | refine wp_getr hk rfl rfl rfl rfl ?_)
      exact wp_ir hk rfl rfl (hkk M1 (I.card O (K1.mono (by decide)) C1) (Lo.kp K1))
  cases z with
  | true =>
    repeat (first | refine wp_s hk rfl rfl ?_ | refine wp_goto hk rfl ?_ | refine wp_geti hk rfl rfl rfl rfl ?_ | refine wp_getr hk rfl rfl rfl rfl ?_)
    refine wp_ifeqB (u := true) hk rfl rfl (fun y => by cases y) (fun _ => ?_)
    repeat (first | refine wp_s hk rfl rfl ?_ | refine wp_goto hk rfl ?_ | refine wp_geti hk rfl rfl rfl rfl ?_ | refine wp_getr hk rfl rfl rfl rfl ?_)
    refine wp_callV hk rfl rfl rfl rfl rfl rfl ?_
    refine c_hasSkater CSh1 I.1 ?_
    refine wp_ifneB hk rfl rfl (fun y => rest y) (fun y => ?_)
    refine wp_goto hk rfl ?_
    exact unk y
  | false =>
    repeat (first | refine wp_s hk rfl rfl ?_ | refine wp_goto hk rfl ?_ | refine wp_geti hk rfl rfl rfl rfl ?_ | refine wp_getr hk rfl rfl rfl rfl ?_)
    refine wp_ifeqB (u := false) hk rfl rfl (fun _ => ?_) (fun y => by cases y)
    repeat (first | refine wp_s hk rfl rfl ?_ | refine wp_goto hk rfl ?_ | refine wp_geti hk rfl rfl rfl rfl ?_ | refine wp_getr hk rfl rfl rfl rfl ?_)
    refine wp_callV hk rfl rfl rfl rfl rfl rfl ?_
    refine c_hasJudge CSh1 I.1 ?_
    refine wp_ifneB hk rfl rfl (fun y => rest y) (fun y => ?_)
    exact unk y
theorem k_mark {a b c : Int32} (I : ClsInv M S) (O : StOK S) (kk : ∀ M', ClsInv M' (opMark S a b c).2 → Lo M M' → Q (some (.int (opMark S a b c).1)) M') : Ca 90 [.ref 0, .int a, .int b, .int c] M Q := by
  have h7 := O.1.2.1
  have h4 := O.1.2.2.2.1
  have hk : q_cd 90 = kd_X8_mark := rfl
  show WP 90 0 [some (.ref 0), some (.int a), some (.int b), some (.int c), none] [] M Q
  have unk : (isN a (vn (sV S)) && isN b (vm (sV S))) = false → WP 90 10 [some (.ref 0), some (.int a), some (.int b), some (.int c), none] [] M Q := by
    intro h
    have hkk := kk M
    simp only [opMark, h, Bool.false_eq_true, if_false] at hkk
    repeat (first | refine wp_s hk rfl rfl ?_ | refine wp_goto hk rfl ?_ | refine wp_geti hk rfl rfl rfl rfl ?_ | refine wp_getr hk rfl rfl rfl rfl ?_)
    exact wp_ir hk rfl rfl (hkk I (Lo.rf M))
  repeat (first | refine wp_s hk rfl rfl ?_ | refine wp_goto hk rfl ?_ | refine wp_geti hk rfl rfl rfl rfl ?_ | refine wp_getr hk rfl rfl rfl rfl ?_)
  refine wp_callV hk rfl rfl rfl rfl rfl rfl ?_
  refine c_hasJudge CSh1 I.1 ?_
  refine wp_ifeqB hk rfl rfl (fun h => unk (by rw [h]; rfl)) (fun ha => ?_)
  repeat (first | refine wp_s hk rfl rfl ?_ | refine wp_goto hk rfl ?_ | refine wp_geti hk rfl rfl rfl rfl ?_ | refine wp_getr hk rfl rfl rfl rfl ?_)
  refine wp_callV hk rfl rfl rfl rfl rfl rfl ?_
  refine c_hasSkater CSh1 I.1 ?_
  refine wp_ifneB hk rfl rfl (fun hb => ?_) (fun h => unk (by rw [h, Bool.and_false]))
  repeat (first | refine wp_s hk rfl rfl ?_ | refine wp_goto hk rfl ?_ | refine wp_geti hk rfl rfl rfl rfl ?_ | refine wp_getr hk rfl rfl rfl rfl ?_)
  refine wp_callV hk rfl rfl rfl rfl rfl rfl ?_
  refine k_isMark ?_
  have hkk := fun M' => kk M'
  refine wp_ifneB hk rfl rfl (fun hc => ?_) (fun h => ?_)
  · simp only [opMark, ha, hb, hc, Bool.and_self, if_true] at hkk
    obtain ⟨ha1, ha2⟩ := i2n_of (by omega) ha
    obtain ⟨hb1, hb2⟩ := i2n_of (by omega) hb
    obtain ⟨hc1, hc2⟩ := i2n_of (by omega) hc
    rw [ha2, hb2, hc2]
    generalize i2n a = j at ha1 hkk ⊢
    generalize i2n b = s at hb1 hkk ⊢
    generalize i2n c = v at hc1 hkk ⊢
    repeat (first | refine wp_s hk rfl rfl ?_ | refine wp_goto hk rfl ?_ | refine wp_geti hk rfl rfl rfl rfl ?_ | refine wp_getr hk rfl rfl rfl rfl ?_)
    refine wp_callV hk rfl rfl rfl rfl rfl rfl ?_
    refine c_markOf CSh1 I.1 (by omega) (by omega) ?_
    repeat (first | refine wp_s hk rfl rfl ?_ | refine wp_goto hk rfl ?_ | refine wp_geti hk rfl rfl rfl rfl ?_ | refine wp_getr hk rfl rfl rfl rfl ?_)
    refine wp_callV hk rfl rfl rfl rfl rfl rfl ?_
    refine c_give CSh1 I.1 (by omega) (by omega) (fun M1 K1 C1 => ?_)
    repeat (first | refine wp_s hk rfl rfl ?_ | refine wp_goto hk rfl ?_ | refine wp_geti hk rfl rfl rfl rfl ?_ | refine wp_getr hk rfl rfl rfl rfl ?_)
    exact wp_ir hk rfl rfl (hkk M1 (I.card O (K1.mono (by decide)) C1) (Lo.kp K1))
  · simp only [opMark, ha, hb, h, Bool.and_self, if_true, Bool.false_eq_true, if_false] at hkk
    repeat (first | refine wp_s hk rfl rfl ?_ | refine wp_goto hk rfl ?_ | refine wp_geti hk rfl rfl rfl rfl ?_ | refine wp_getr hk rfl rfl rfl rfl ?_)
    exact wp_ir hk rfl rfl (hkk M I (Lo.rf M))
theorem k_card {a b : Int32} (I : ClsInv M S) (O : StOK S) (kk : ∀ M', ClsInv M' (opCard S a b).2 → Lo M M' → Q (some (.int (opCard S a b).1)) M') : Ca 91 [.ref 0, .int a, .int b] M Q := by
  have h7 := O.1.2.1
  have h4 := O.1.2.2.2.1
  have hrows := m_rows h4
  have hk : q_cd 91 = kd_X8_card := rfl
  show WP 91 0 [some (.ref 0), some (.int a), some (.int b), none] [] M Q
  have hkk := fun M' => kk M'
  repeat (first | refine wp_s hk rfl rfl ?_ | refine wp_goto hk rfl ?_ | refine wp_geti hk rfl rfl rfl rfl ?_ | refine wp_getr hk rfl rfl rfl rfl ?_)
  refine wp_callV hk rfl rfl rfl rfl rfl rfl ?_
  refine c_hasJudge CSh1 I.1 ?_
  refine wp_ifneB hk rfl rfl (fun ha => ?_) (fun h => ?_)
  · have bad : isN b (6 ^ vm (sV S)) = false → WP 91 14 [some (.ref 0), some (.int a), some (.int b), none] [] M Q := by
      intro h
      simp only [opCard, ha, h, if_true, Bool.false_eq_true, if_false] at hkk
      repeat (first | refine wp_s hk rfl rfl ?_ | refine wp_goto hk rfl ?_ | refine wp_geti hk rfl rfl rfl rfl ?_ | refine wp_getr hk rfl rfl rfl rfl ?_)
      exact wp_ir hk rfl rfl (hkk M I (Lo.rf M))
    repeat (first | refine wp_s hk rfl rfl ?_ | refine wp_goto hk rfl ?_ | refine wp_geti hk rfl rfl rfl rfl ?_ | refine wp_getr hk rfl rfl rfl rfl ?_)
    refine wp_iflt hk rfl (fun g => bad (isN_lo g)) (fun g1 => ?_)
    repeat (first | refine wp_s hk rfl rfl ?_ | refine wp_goto hk rfl ?_ | refine wp_geti hk rfl rfl rfl rfl ?_ | refine wp_getr hk rfl rfl rfl rfl ?_)
    refine wp_callV hk rfl rfl rfl rfl rfl rfl ?_
    refine c_rows CSh1 I.1 h4 ?_
    refine wp_iclt hk rfl (fun g2 => ?_) (fun g => bad (isN_hi (Int32.not_lt.mp g)))
    have hb := isN_in g1 (Int32.not_le.mpr g2)
    simp only [opCard, ha, hb, if_true] at hkk
    obtain ⟨ha1, ha2⟩ := i2n_of (by omega) ha
    obtain ⟨hb1, hb2⟩ := i2n_of (by omega) hb
    rw [ha2, hb2]
    generalize i2n a = j at ha1 hkk ⊢
    generalize i2n b = v at hb1 hkk ⊢
    repeat (first | refine wp_s hk rfl rfl ?_ | refine wp_goto hk rfl ?_ | refine wp_geti hk rfl rfl rfl rfl ?_ | refine wp_getr hk rfl rfl rfl rfl ?_)
    refine wp_callV hk rfl rfl rfl rfl rfl rfl ?_
    refine c_rowOf CSh1 I.1 (by omega) h4 ?_
    repeat (first | refine wp_s hk rfl rfl ?_ | refine wp_goto hk rfl ?_ | refine wp_geti hk rfl rfl rfl rfl ?_ | refine wp_getr hk rfl rfl rfl rfl ?_)
    refine wp_callV hk rfl rfl rfl rfl rfl rfl ?_
    refine c_giveRow CSh1 I.1 (by omega) h4 (by omega) (fun M1 K1 C1 => ?_)
    repeat (first | refine wp_s hk rfl rfl ?_ | refine wp_goto hk rfl ?_ | refine wp_geti hk rfl rfl rfl rfl ?_ | refine wp_getr hk rfl rfl rfl rfl ?_)
    exact wp_ir hk rfl rfl (hkk M1 (I.card O (K1.mono (by decide)) C1) (Lo.kp K1))
  · simp only [opCard, h, Bool.false_eq_true, if_false] at hkk
    repeat (first | refine wp_s hk rfl rfl ?_ | refine wp_goto hk rfl ?_ | refine wp_geti hk rfl rfl rfl rfl ?_ | refine wp_getr hk rfl rfl rfl rfl ?_)
    exact wp_ir hk rfl rfl (hkk M I (Lo.rf M))
theorem k_lose {a : Int32} {z : Bool} (I : ClsInv M S) (O : StOK S) (kk : ∀ M', ClsInv M' (opLose S a z).2 → Lo M M' → Q (some (.int (opLose S a z).1)) M') : Ca 92 [.ref 0, .int a, .int (nI (b2n z))] M Q := by
  have h7 := O.1.2.1
  have hL := O.1.2.2.2.2.1
  have hk : q_cd 92 = kd_X8_lose := rfl
  show WP 92 0 [some (.ref 0), some (.int a), some (.int (nI (b2n z))), none] [] M Q
  have hkk := fun M' => kk M'
  repeat (first | refine wp_s hk rfl rfl ?_ | refine wp_goto hk rfl ?_ | refine wp_geti hk rfl rfl rfl rfl ?_ | refine wp_getr hk rfl rfl rfl rfl ?_)
  refine wp_callV hk rfl rfl rfl rfl rfl rfl ?_
  refine c_hasJudge CSh1 I.1 ?_
  refine wp_ifneB hk rfl rfl (fun ha => ?_) (fun h => ?_)
  · simp only [opLose, ha, if_true] at hkk
    obtain ⟨ha1, ha2⟩ := i2n_of (by omega) ha
    rw [ha2]
    generalize i2n a = j at ha1 hkk ⊢
    have fin : ∀ x : Int32, x = nI (b2n ((vL (sV S)).testBit j)) → WP 92 15 [some (.ref 0), some (.int (nI j)), some (.int (nI (b2n z))), none] [.int x] M Q := by
      intro x hx
      subst hx
      repeat (first | refine wp_s hk rfl rfl ?_ | refine wp_goto hk rfl ?_ | refine wp_geti hk rfl rfl rfl rfl ?_ | refine wp_getr hk rfl rfl rfl rfl ?_)
      refine wp_callV hk rfl rfl rfl rfl rfl rfl ?_
      refine c_setLost CSh1 I.1 hL (by omega) (fun M1 K1 C1 => ?_)
      repeat (first | refine wp_s hk rfl rfl ?_ | refine wp_goto hk rfl ?_ | refine wp_geti hk rfl rfl rfl rfl ?_ | refine wp_getr hk rfl rfl rfl rfl ?_)
      exact wp_ir hk rfl rfl (hkk M1 (I.card O (K1.mono (by decide)) C1) (Lo.kp K1))
    repeat (first | refine wp_s hk rfl rfl ?_ | refine wp_goto hk rfl ?_ | refine wp_geti hk rfl rfl rfl rfl ?_ | refine wp_getr hk rfl rfl rfl rfl ?_)
    refine wp_callV hk rfl rfl rfl rfl rfl rfl ?_
    refine c_counts CSh1 I.1 hL h7 (by omega) ?_
    have hv := vc_b2n (V := sV S) ha1
    refine wp_ifeqB hk rfl rfl (fun y => ?_) (fun y => ?_)
    · rw [hv] at y
      refine wp_s hk rfl rfl ?_
      exact fin _ (by rw [show (vL (sV S)).testBit j = true by simpa using y]; rfl)
    · rw [hv] at y
      refine wp_s hk rfl rfl ?_
      refine wp_goto hk rfl ?_
      exact fin _ (by rw [show (vL (sV S)).testBit j = false by simpa using y]; rfl)
  · simp only [opLose, h, Bool.false_eq_true, if_false] at hkk
    repeat (first | refine wp_s hk rfl rfl ?_ | refine wp_goto hk rfl ?_ | refine wp_geti hk rfl rfl rfl rfl ?_ | refine wp_getr hk rfl rfl rfl rfl ?_)
    exact wp_ir hk rfl rfl (hkk M I (Lo.rf M))
theorem k_write {a : Int32} {x : Int64} (I : ClsInv M S) (O : StOK S) (kk : ∀ M', ClsInv M' (opWrite S a x).2 → Lo M M' → Q (some (.int (opWrite S a x).1)) M') : Ca 94 [.ref 0, .int a, .long x] M Q := by
  have hT := O.2.1.1
  have hk : q_cd 94 = kd_X8_write := rfl
  show WP 94 0 [some (.ref 0), some (.int a), some (.long x), none] [] M Q
  have hkk := fun M' => kk M'
  have bad : isR a 1 8 = false → WP 94 6 [some (.ref 0), some (.int a), some (.long x), none] [] M Q := by
    intro h
    simp only [opWrite, h, Bool.false_eq_true, if_false] at hkk
    repeat (first | refine wp_s hk rfl rfl ?_ | refine wp_goto hk rfl ?_ | refine wp_geti hk rfl rfl rfl rfl ?_ | refine wp_getr hk rfl rfl rfl rfl ?_)
    exact wp_ir hk rfl rfl (hkk M I (Lo.rf M))
  repeat (first | refine wp_s hk rfl rfl ?_ | refine wp_goto hk rfl ?_ | refine wp_geti hk rfl rfl rfl rfl ?_ | refine wp_getr hk rfl rfl rfl rfl ?_)
  refine wp_iclt hk rfl (fun g => bad (isR_lo (lo := 1) g)) (fun g1 => ?_)
  repeat (first | refine wp_s hk rfl rfl ?_ | refine wp_goto hk rfl ?_ | refine wp_geti hk rfl rfl rfl rfl ?_ | refine wp_getr hk rfl rfl rfl rfl ?_)
  refine wp_icle hk rfl (fun g2 => ?_) (fun g => bad (isR_hi (hi := 8) (Int32.not_le.mp g)))
  have h := isR_in (lo := 1) (hi := 8) g1 g2
  obtain ⟨a1, a2, a3⟩ := isR_of (by omega) (by omega) h
  simp only [opWrite, h, if_true] at hkk
  rw [a3]
  generalize i2n a = n at a1 a2 hkk ⊢
  repeat (first | refine wp_s hk rfl rfl ?_ | refine wp_goto hk rfl ?_ | refine wp_geti hk rfl rfl rfl rfl ?_ | refine wp_getr hk rfl rfl rfl rfl ?_)
  refine wp_callV hk rfl rfl rfl rfl rfl rfl ?_
  refine x_length (T := sT S) I.2.1 ?_
  repeat (first | refine wp_s hk rfl rfl ?_ | refine wp_goto hk rfl ?_ | refine wp_geti hk rfl rfl rfl rfl ?_ | refine wp_getr hk rfl rfl rfl rfl ?_)
  rw [q_nadd]
  refine wp_icleN (u := (sT S).1 + n) (v := 16) hk rfl rfl rfl (by omega) (by omega) (fun y => ?_) (fun y => ?_)
  · rw [if_pos y] at hkk
    repeat (first | refine wp_s hk rfl rfl ?_ | refine wp_goto hk rfl ?_ | refine wp_geti hk rfl rfl rfl rfl ?_ | refine wp_getr hk rfl rfl rfl rfl ?_)
    refine wp_callV hk rfl rfl rfl rfl rfl rfl ?_
    refine x_append (T := sT S) I.2.1 a2 y (fun M1 K1 T1 => ?_)
    exact wp_ir hk rfl rfl (hkk M1 (I.text O K1 T1) (Lo.kp K1))
  · rw [if_neg y] at hkk
    repeat (first | refine wp_s hk rfl rfl ?_ | refine wp_goto hk rfl ?_ | refine wp_geti hk rfl rfl rfl rfl ?_ | refine wp_getr hk rfl rfl rfl rfl ?_)
    exact wp_ir hk rfl rfl (hkk M I (Lo.rf M))
theorem k_wipe (I : ClsInv M S) (O : StOK S) (kk : ∀ M', ClsInv M' (opWipe S).2 → Lo M M' → Q (some (.int (opWipe S).1)) M') : Ca 95 [.ref 0] M Q := by
  have hk : q_cd 95 = kd_X8_wipe := rfl
  show WP 95 0 [some (.ref 0)] [] M Q
  repeat (first | refine wp_s hk rfl rfl ?_ | refine wp_goto hk rfl ?_ | refine wp_geti hk rfl rfl rfl rfl ?_ | refine wp_getr hk rfl rfl rfl rfl ?_)
  refine wp_callV hk rfl rfl rfl rfl rfl rfl ?_
  refine x_empty (T := sT S) I.2.1 ?_
  have K1 : Kp M (q_up M 9 (upd (M 9) 1 (nI 0))) [9, 10] := (Kp.rf _ _).up (by decide)
  exact wp_ir hk rfl rfl (kk _ (I.text O K1 ⟨by rw [qput, if_pos rfl], fun i hi => absurd hi (Nat.not_lt_zero _)⟩) (Lo.kp K1))
theorem k_rule {a : Int32} (I : ClsInv M S) (O : StOK S) (kk : ∀ M', ClsInv M' (opRule S a).2 → Lo M M' → Q (some (.int (opRule S a).1)) M') : Ca 98 [.ref 0, .int a] M Q := by
  have hk : q_cd 98 = kd_X8_rule := rfl
  show WP 98 0 [some (.ref 0), some (.int a)] [] M Q
  have hkk := fun M' => kk M'
  repeat (first | refine wp_s hk rfl rfl ?_ | refine wp_goto hk rfl ?_ | refine wp_geti hk rfl rfl rfl rfl ?_ | refine wp_getr hk rfl rfl rfl rfl ?_)
  refine wp_callV hk rfl rfl rfl rfl rfl rfl ?_
  refine k_isRule ?_
  refine wp_ifneB hk rfl rfl (fun ha => ?_) (fun h => ?_)
  · simp only [opRule, ha, if_true] at hkk
    obtain ⟨ha1, ha2⟩ := i2n_of (by omega) ha
    rw [ha2]
    generalize i2n a = r at ha1 hkk ⊢
    repeat (first | refine wp_s hk rfl rfl ?_ | refine wp_goto hk rfl ?_ | refine wp_geti hk rfl rfl rfl rfl ?_ | refine wp_getr hk rfl rfl rfl rfl ?_)
    refine wp_callV hk rfl rfl rfl rfl rfl rfl ?_
    refine c_judges CSh1 I.1 ?_
    repeat (first | refine wp_s hk rfl rfl ?_ | refine wp_goto hk rfl ?_ | refine wp_geti hk rfl rfl rfl rfl ?_ | refine wp_getr hk rfl rfl rfl rfl ?_)
    refine wp_callV hk rfl rfl rfl rfl rfl rfl ?_
    refine z_read (T := sT S) ZSh12 (by omega) I.2.1 O.2.1.1 O.2.1.2 O.1.2.1 (fun M1 K1 _ => ?_)
    have I1 := I.kp O (K1.mono (by decide))
    have hnon : fwV (rdW (sT S) (vn (sV S)) 3 0).1 = NON ↔ (rdW (sT S) (vn (sV S)) 3 0).1 = none := fwV_non (fun f hf => by have := rdW_lt O.1.2.1 hf; omega)
    repeat (first | refine wp_s hk rfl rfl ?_ | refine wp_goto hk rfl ?_ | refine wp_geti hk rfl rfl rfl rfl ?_ | refine wp_getr hk rfl rfl rfl rfl ?_)
    refine wp_iceq hk rfl (fun y => ?_) (fun y => ?_)
    · have y' := hnon.mp y
      rw [if_pos y'] at hkk
      have hsh := ZShR r ha1
      have hq1 := hsh.1
      repeat (first | refine wp_s hk rfl rfl ?_ | refine wp_goto hk rfl ?_ | refine wp_geti hk rfl rfl rfl rfl ?_ | refine wp_getr hk rfl rfl rfl rfl ?_)
      refine wp_qld (jx := r) hk rfl rfl rfl rfl (zcs_at r ha1) (by decide) ?_
      repeat (first | refine wp_s hk rfl rfl ?_ | refine wp_goto hk rfl ?_ | refine wp_geti hk rfl rfl rfl rfl ?_ | refine wp_getr hk rfl rfl rfl rfl ?_)
      refine wp_callV hk rfl rfl rfl rfl rfl rfl ?_
      refine c_judges CSh1 I1.1 ?_
      repeat (first | refine wp_s hk rfl rfl ?_ | refine wp_goto hk rfl ?_ | refine wp_geti hk rfl rfl rfl rfl ?_ | refine wp_getr hk rfl rfl rfl rfl ?_)
      refine wp_callV hk rfl rfl rfl rfl hq1 rfl ?_
      refine z_read (T := sT S) hsh (by omega) I1.2.1 O.2.1.1 O.2.1.2 O.1.2.1 (fun M2 K2 hs => ?_)
      repeat (first | refine wp_s hk rfl rfl ?_ | refine wp_goto hk rfl ?_ | refine wp_geti hk rfl rfl rfl rfl ?_ | refine wp_getr hk rfl rfl rfl rfl ?_)
      refine wp_qld (jx := r) hk rfl rfl rfl rfl (zcs_at r ha1) (by decide) ?_
      repeat (first | refine wp_s hk rfl rfl ?_ | refine wp_goto hk rfl ?_ | refine wp_geti hk rfl rfl rfl rfl ?_ | refine wp_getr hk rfl rfl rfl rfl ?_)
      refine wp_callV hk rfl rfl rfl rfl hq1 rfl ?_
      refine z_parts hsh (hs y') ?_
      exact wp_ir hk rfl rfl (hkk M2 (I1.rule O ha1 K2 (hs y')) ((Lo.kp K1).tr (Lo.kp K2 (fun i hi => by simp at hi; omega))))
    · rw [if_neg (fun z => y (hnon.mpr z))] at hkk
      repeat (first | refine wp_s hk rfl rfl ?_ | refine wp_goto hk rfl ?_ | refine wp_geti hk rfl rfl rfl rfl ?_ | refine wp_getr hk rfl rfl rfl rfl ?_)
      exact wp_ir hk rfl rfl (hkk M1 I1 (Lo.kp K1))
  · simp only [opRule, h, Bool.false_eq_true, if_false] at hkk
    repeat (first | refine wp_s hk rfl rfl ?_ | refine wp_goto hk rfl ?_ | refine wp_geti hk rfl rfl rfl rfl ?_ | refine wp_getr hk rfl rfl rfl rfl ?_)
    exact wp_ir hk rfl rfl (hkk M I (Lo.rf M))
theorem k_keep (I : ClsInv M S) (O : StOK S) (kk : ∀ M', ClsInv M' (opKeep S).2 → Lo M M' → Q (some (.int (opKeep S).1)) M') : Ca 122 [.ref 0] M Q := by
  have h8 := O.2.2.2.1
  have hk : q_cd 122 = kd_X8_keep := rfl
  show WP 122 0 [some (.ref 0)] [] M Q
  have hkk := fun M' => kk M'
  repeat (first | refine wp_s hk rfl rfl ?_ | refine wp_goto hk rfl ?_ | refine wp_geti hk rfl rfl rfl rfl ?_ | refine wp_getr hk rfl rfl rfl rfl ?_)
  refine wp_callV hk rfl rfl rfl rfl rfl rfl ?_
  refine p_hasRoom I.2.2.2 h8 ?_
  refine wp_ifeqB hk rfl rfl (fun y => ?_) (fun y => ?_)
  · have y' := of_decide_eq_false y
    simp only [opKeep, if_pos (show sN S = 8 by omega)] at hkk
    repeat (first | refine wp_s hk rfl rfl ?_ | refine wp_goto hk rfl ?_ | refine wp_geti hk rfl rfl rfl rfl ?_ | refine wp_getr hk rfl rfl rfl rfl ?_)
    exact wp_ir hk rfl rfl (hkk M I (Lo.rf M))
  · have y' := of_decide_eq_true y
    simp only [opKeep, if_neg (show ¬ sN S = 8 by omega)] at hkk
    repeat (first | refine wp_s hk rfl rfl ?_ | refine wp_goto hk rfl ?_ | refine wp_geti hk rfl rfl rfl rfl ?_ | refine wp_getr hk rfl rfl rfl rfl ?_)
    refine wp_callV hk rfl rfl rfl rfl rfl rfl ?_
    refine p_add I.2.2.2 y' I.1 (fun M1 K1 P1 => ?_)
    repeat (first | refine wp_s hk rfl rfl ?_ | refine wp_goto hk rfl ?_ | refine wp_geti hk rfl rfl rfl rfl ?_ | refine wp_getr hk rfl rfl rfl rfl ?_)
    exact wp_ir hk rfl rfl (hkk M1 (I.past K1 (fun i hi => by simp at hi; omega) P1) (Lo.kp K1 (fun i hi => by simp at hi; omega)))
theorem k_forget (I : ClsInv M S) (O : StOK S) (kk : ∀ M', ClsInv M' (opForget S).2 → Lo M M' → Q (some (.int (opForget S).1)) M') : Ca 123 [.ref 0] M Q := by
  have hk : q_cd 123 = kd_X8_forget := rfl
  show WP 123 0 [some (.ref 0)] [] M Q
  repeat (first | refine wp_s hk rfl rfl ?_ | refine wp_goto hk rfl ?_ | refine wp_geti hk rfl rfl rfl rfl ?_ | refine wp_getr hk rfl rfl rfl rfl ?_)
  refine wp_callV hk rfl rfl rfl rfl rfl rfl ?_
  refine p_empty I.2.2.2 ?_
  have K1 : Kp M (q_up M 35 (upd (M 35) 1 (nI 0))) [35] := (Kp.rf _ _).up (by decide)
  exact wp_ir hk rfl rfl (kk _ (I.past K1 (by decide) ⟨by rw [qput, if_pos rfl], fun i hi => absurd hi (Nat.not_lt_zero _)⟩) (Lo.kp K1))
theorem k_again {a : Int32} (I : ClsInv M S) (O : StOK S) (kk : ∀ M', ClsInv M' (opAgain S a).2 → Lo M M' → Q (some (.int (opAgain S a).1)) M') : Ca 127 [.ref 0, .int a] M Q := by
  have h8 := O.2.2.2.1
  have hk : q_cd 127 = kd_X8_again := rfl
  show WP 127 0 [some (.ref 0), some (.int a)] [] M Q
  have hkk := fun M' => kk M'
  have unk : isN a (sN S) = false → WP 127 7 [some (.ref 0), some (.int a)] [] M Q := by
    intro h
    simp only [opAgain, h, Bool.false_eq_true, if_false] at hkk
    repeat (first | refine wp_s hk rfl rfl ?_ | refine wp_goto hk rfl ?_ | refine wp_geti hk rfl rfl rfl rfl ?_ | refine wp_getr hk rfl rfl rfl rfl ?_)
    exact wp_ir hk rfl rfl (hkk M I (Lo.rf M))
  repeat (first | refine wp_s hk rfl rfl ?_ | refine wp_goto hk rfl ?_ | refine wp_geti hk rfl rfl rfl rfl ?_ | refine wp_getr hk rfl rfl rfl rfl ?_)
  refine wp_iflt hk rfl (fun g => unk (isN_lo g)) (fun g1 => ?_)
  repeat (first | refine wp_s hk rfl rfl ?_ | refine wp_goto hk rfl ?_ | refine wp_geti hk rfl rfl rfl rfl ?_ | refine wp_getr hk rfl rfl rfl rfl ?_)
  refine wp_callV hk rfl rfl rfl rfl rfl rfl ?_
  refine p_size I.2.2.2 ?_
  refine wp_iclt hk rfl (fun g2 => ?_) (fun g => unk (isN_hi (Int32.not_lt.mp g)))
  have ha := isN_in g1 (Int32.not_le.mpr g2)
  simp only [opAgain, ha, if_true] at hkk
  obtain ⟨ha1, ha2⟩ := i2n_of (by omega) ha
  rw [ha2]
  generalize i2n a = i at ha1 hkk ⊢
  repeat (first | refine wp_s hk rfl rfl ?_ | refine wp_goto hk rfl ?_ | refine wp_geti hk rfl rfl rfl rfl ?_ | refine wp_getr hk rfl rfl rfl rfl ?_)
  refine wp_callV hk rfl rfl rfl rfl rfl rfl ?_
  refine p_cardAt (by omega) ?_
  refine wp_callV hk rfl rfl rfl rfl rfl rfl ?_
  refine c_copyFrom CSh1 (CShP i (by omega)) (Or.inl (by omega)) (I.2.2.2.2 i ha1) (fun M1 K1 C1 => ?_)
  repeat (first | refine wp_s hk rfl rfl ?_ | refine wp_goto hk rfl ?_ | refine wp_geti hk rfl rfl rfl rfl ?_ | refine wp_getr hk rfl rfl rfl rfl ?_)
  refine wp_callV hk rfl rfl rfl rfl rfl rfl ?_
  refine c_size CSh1 C1 ?_
  exact wp_ir hk rfl rfl (hkk M1 (I.card O K1 C1) (Lo.kp K1))
end PUB2
