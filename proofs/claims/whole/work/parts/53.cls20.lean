/-! the class's own calls: what is shared -/
abbrev scr : List Nat := [5, 6, 7, 8, 12, 13, 14, 15, 16, 18, 19, 20, 22, 23, 24, 26, 27, 28, 29, 30, 31, 32, 33, 34, 70]
theorem ClsInv.kp {M M' : MM} {S : St} (I : ClsInv M S) (O : StOK S) (h : Kp M M' scr) : ClsInv M' S := by
  obtain ⟨a, b, c, d, e⟩ := I
  have h8 := O.2.2.2.1
  refine ⟨a.kp h (by decide) (by decide) (by decide) (by decide), TextIs.kp (T := sT S) b h (by decide) (by decide), fun r hr => (c r hr).kp h (by simp; omega) (by simp; omega) (by simp; omega) (by simp; omega), by rw [h 35 (by decide)]; exact d, fun i hi => (e i hi).kp h (by simp; omega) (by simp; omega) (by simp; omega) (by simp; omega)⟩
/-- below the reference's things -/
def Lo (M M' : MM) : Prop := ∀ i, 83 ≤ i → M' i = M i
theorem Lo.kp {M M' : MM} {ids : List Nat} (h : Kp M M' ids) (hs : ∀ i ∈ ids, i < 83 := by decide) : Lo M M' := fun i hi => h i (fun z => by have := hs i z; omega)
theorem Lo.tr {M M1 M2 : MM} (h1 : Lo M M1) (h2 : Lo M1 M2) : Lo M M2 := fun i hi => (h2 i hi).trans (h1 i hi)
def zcs : List (Option Nat) := [some 71, some 75, some 79]
theorem zcs_at : ∀ i, i < 3 → zcs[i]? = some (some (71 + 4 * i))
  | 0, _ => rfl
  | 1, _ => rfl
  | 2, _ => rfl
  | n + 3, h => absurd h (by omega)
theorem q_gt_ge {x : Int32} {n : Nat} (h : n + 1 < 2 ^ 31) : nI n < x ↔ nI (n + 1) ≤ x := by
  rw [Int32.lt_iff_toInt_lt, Int32.le_iff_toInt_le, q_toInt (by omega), q_toInt h]
  omega
theorem isR_lo {x : Int32} {lo hi : Nat} (h : x < nI lo) : isR x lo hi = false := by
  unfold isR
  rw [decide_eq_false (p := nI lo ≤ x) (Int32.not_le.mpr h), Bool.false_and]
theorem isR_hi {x : Int32} {lo hi : Nat} (h : nI hi < x) : isR x lo hi = false := by
  unfold isR
  rw [decide_eq_false (p := x ≤ nI hi) (Int32.not_le.mpr h), Bool.and_false]
theorem isR_in {x : Int32} {lo hi : Nat} (h0 : ¬ x < nI lo) (h : x ≤ nI hi) : isR x lo hi = true := by
  unfold isR
  rw [decide_eq_true (p := nI lo ≤ x) (Int32.not_lt.mp h0), decide_eq_true (p := x ≤ nI hi) h]
  rfl
section PUB
variable {M : MM} {S : St} {Q : Option Value → MM → Prop}
theorem k_isRule {x : Int32} (kk : Q (some (.int (nI (b2n (isN x 3))))) M) : Ca 97 [.ref 0, .int x] M Q := by
  have hk : q_cd 97 = kd_X8_isRule := rfl
  show WP 97 0 [some (.ref 0), some (.int x)] [] M Q
  repeat (first | refine wp_s hk rfl rfl ?_ | refine wp_goto hk rfl ?_ | refine wp_geti hk rfl rfl rfl rfl ?_ | refine wp_getr hk rfl rfl rfl rfl ?_)
  refine wp_iflt hk rfl (fun g => ?_) (fun g => ?_)
  · rw [isN_lo g] at kk
    repeat (first | refine wp_s hk rfl rfl ?_ | refine wp_goto hk rfl ?_ | refine wp_geti hk rfl rfl rfl rfl ?_ | refine wp_getr hk rfl rfl rfl rfl ?_)
    exact wp_ir hk rfl rfl kk
  · repeat (first | refine wp_s hk rfl rfl ?_ | refine wp_goto hk rfl ?_ | refine wp_geti hk rfl rfl rfl rfl ?_ | refine wp_getr hk rfl rfl rfl rfl ?_)
    refine wp_icge hk rfl (fun f => ?_) (fun f => ?_)
    · rw [isN_hi f] at kk
      repeat (first | refine wp_s hk rfl rfl ?_ | refine wp_goto hk rfl ?_ | refine wp_geti hk rfl rfl rfl rfl ?_ | refine wp_getr hk rfl rfl rfl rfl ?_)
      exact wp_ir hk rfl rfl kk
    · rw [isN_in g f] at kk
      repeat (first | refine wp_s hk rfl rfl ?_ | refine wp_goto hk rfl ?_ | refine wp_geti hk rfl rfl rfl rfl ?_ | refine wp_getr hk rfl rfl rfl rfl ?_)
      exact wp_ir hk rfl rfl kk
theorem k_isMark {x : Int32} (kk : Q (some (.int (nI (b2n (isN x 6))))) M) : Ca 89 [.ref 0, .int x] M Q := by
  have hk : q_cd 89 = kd_X8_isMark := rfl
  show WP 89 0 [some (.ref 0), some (.int x)] [] M Q
  repeat (first | refine wp_s hk rfl rfl ?_ | refine wp_goto hk rfl ?_ | refine wp_geti hk rfl rfl rfl rfl ?_ | refine wp_getr hk rfl rfl rfl rfl ?_)
  refine wp_iflt hk rfl (fun g => ?_) (fun g => ?_)
  · rw [isN_lo g] at kk
    repeat (first | refine wp_s hk rfl rfl ?_ | refine wp_goto hk rfl ?_ | refine wp_geti hk rfl rfl rfl rfl ?_ | refine wp_getr hk rfl rfl rfl rfl ?_)
    exact wp_ir hk rfl rfl kk
  · repeat (first | refine wp_s hk rfl rfl ?_ | refine wp_goto hk rfl ?_ | refine wp_geti hk rfl rfl rfl rfl ?_ | refine wp_getr hk rfl rfl rfl rfl ?_)
    refine wp_icgt hk rfl (fun f => ?_) (fun f => ?_)
    · rw [isN_hi ((q_gt_ge (n := 5) (by omega)).mp f)] at kk
      repeat (first | refine wp_s hk rfl rfl ?_ | refine wp_goto hk rfl ?_ | refine wp_geti hk rfl rfl rfl rfl ?_ | refine wp_getr hk rfl rfl rfl rfl ?_)
      exact wp_ir hk rfl rfl kk
    · rw [isN_in g (fun y => f ((q_gt_ge (n := 5) (by omega)).mpr y))] at kk
      repeat (first | refine wp_s hk rfl rfl ?_ | refine wp_goto hk rfl ?_ | refine wp_geti hk rfl rfl rfl rfl ?_ | refine wp_getr hk rfl rfl rfl rfl ?_)
      exact wp_ir hk rfl rfl kk
theorem k_isSet {x : Int32} (C : CardIs M 1 (sV S)) (h7 : vn (sV S) ≤ 7) (kk : Q (some (.int (nI (b2n (isN x (2 ^ vn (sV S))))))) M) : Ca 113 [.ref 0, .int x] M Q := by
  have hk : q_cd 113 = kd_X8_isJudgeSet := rfl
  show WP 113 0 [some (.ref 0), some (.int x)] [] M Q
  repeat (first | refine wp_s hk rfl rfl ?_ | refine wp_goto hk rfl ?_ | refine wp_geti hk rfl rfl rfl rfl ?_ | refine wp_getr hk rfl rfl rfl rfl ?_)
  refine wp_iflt hk rfl (fun g => ?_) (fun g => ?_)
  · rw [isN_lo g] at kk
    repeat (first | refine wp_s hk rfl rfl ?_ | refine wp_goto hk rfl ?_ | refine wp_geti hk rfl rfl rfl rfl ?_ | refine wp_getr hk rfl rfl rfl rfl ?_)
    exact wp_ir hk rfl rfl kk
  · repeat (first | refine wp_s hk rfl rfl ?_ | refine wp_goto hk rfl ?_ | refine wp_geti hk rfl rfl rfl rfl ?_ | refine wp_getr hk rfl rfl rfl rfl ?_)
    refine wp_callV hk rfl rfl rfl rfl rfl rfl ?_
    refine c_judgeSets CSh1 C h7 ?_
    refine wp_icge hk rfl (fun f => ?_) (fun f => ?_)
    · rw [isN_hi f] at kk
      repeat (first | refine wp_s hk rfl rfl ?_ | refine wp_goto hk rfl ?_ | refine wp_geti hk rfl rfl rfl rfl ?_ | refine wp_getr hk rfl rfl rfl rfl ?_)
      exact wp_ir hk rfl rfl kk
    · rw [isN_in g f] at kk
      repeat (first | refine wp_s hk rfl rfl ?_ | refine wp_goto hk rfl ?_ | refine wp_geti hk rfl rfl rfl rfl ?_ | refine wp_getr hk rfl rfl rfl rfl ?_)
      exact wp_ir hk rfl rfl kk
theorem k_at {a b : Int32} (I : ClsInv M S) (O : StOK S) (kk : ∀ M', Kp M M' scr → Q (some (.int (spAt S a b))) M') : Ca 93 [.ref 0, .int a, .int b] M Q := by
  have h7 := O.1.2.1
  have h4 := O.1.2.2.2.1
  unfold spAt at kk
  have hk : q_cd 93 = kd_X8_at := rfl
  show WP 93 0 [some (.ref 0), some (.int a), some (.int b)] [] M Q
  have no : (isN a (vn (sV S)) && isN b (vm (sV S))) = false → WP 93 10 [some (.ref 0), some (.int a), some (.int b)] [] M Q := by
    intro h
    rw [h] at kk
    repeat (first | refine wp_s hk rfl rfl ?_ | refine wp_goto hk rfl ?_ | refine wp_geti hk rfl rfl rfl rfl ?_ | refine wp_getr hk rfl rfl rfl rfl ?_)
    exact wp_ir hk rfl rfl (kk M (Kp.rf _ _))
  repeat (first | refine wp_s hk rfl rfl ?_ | refine wp_goto hk rfl ?_ | refine wp_geti hk rfl rfl rfl rfl ?_ | refine wp_getr hk rfl rfl rfl rfl ?_)
  refine wp_callV hk rfl rfl rfl rfl rfl rfl ?_
  refine c_hasJudge CSh1 I.1 ?_
  refine wp_ifeqB hk rfl rfl (fun h => no (by rw [h]; rfl)) (fun ha => ?_)
  repeat (first | refine wp_s hk rfl rfl ?_ | refine wp_goto hk rfl ?_ | refine wp_geti hk rfl rfl rfl rfl ?_ | refine wp_getr hk rfl rfl rfl rfl ?_)
  refine wp_callV hk rfl rfl rfl rfl rfl rfl ?_
  refine c_hasSkater CSh1 I.1 ?_
  refine wp_ifneB hk rfl rfl (fun hb => ?_) (fun h => no (by rw [h, Bool.and_false]))
  simp only [ha, hb, Bool.and_self, if_true] at kk
  obtain ⟨ha1, ha2⟩ := i2n_of (by omega) ha
  obtain ⟨hb1, hb2⟩ := i2n_of (by omega) hb
  rw [ha2, hb2]
  generalize i2n a = j at ha1 kk ⊢
  generalize i2n b = s at hb1 kk ⊢
  repeat (first | refine wp_s hk rfl rfl ?_ | refine wp_goto hk rfl ?_ | refine wp_geti hk rfl rfl rfl rfl ?_ | refine wp_getr hk rfl rfl rfl rfl ?_)
  refine wp_callV hk rfl rfl rfl rfl rfl rfl ?_
  refine c_markOf CSh1 I.1 (by omega) (by omega) ?_
  exact wp_ir hk rfl rfl (kk M (Kp.rf _ _))
theorem k_lean {a : Int32} (I : ClsInv M S) (O : StOK S) (kk : ∀ M', Kp M M' scr → Q (some (.int (spLean S a))) M') : Ca 124 [.ref 0, .int a] M Q := by
  unfold spLean at kk
  have hk : q_cd 124 = kd_X8_lean := rfl
  show WP 124 0 [some (.ref 0), some (.int a)] [] M Q
  have no : isN a 7 = false → WP 124 5 [some (.ref 0), some (.int a)] [] M Q := by
    intro h
    rw [h] at kk
    repeat (first | refine wp_s hk rfl rfl ?_ | refine wp_goto hk rfl ?_ | refine wp_geti hk rfl rfl rfl rfl ?_ | refine wp_getr hk rfl rfl rfl rfl ?_)
    exact wp_ir hk rfl rfl (kk M (Kp.rf _ _))
  repeat (first | refine wp_s hk rfl rfl ?_ | refine wp_goto hk rfl ?_ | refine wp_geti hk rfl rfl rfl rfl ?_ | refine wp_getr hk rfl rfl rfl rfl ?_)
  refine wp_iflt hk rfl (fun g => no (isN_lo g)) (fun g => ?_)
  repeat (first | refine wp_s hk rfl rfl ?_ | refine wp_goto hk rfl ?_ | refine wp_geti hk rfl rfl rfl rfl ?_ | refine wp_getr hk rfl rfl rfl rfl ?_)
  refine wp_iclt hk rfl (fun f => ?_) (fun f => no (isN_hi (Int32.not_lt.mp f)))
  have ha := isN_in (n := 7) g (Int32.not_le.mpr f)
  rw [if_pos ha] at kk
  obtain ⟨ha1, ha2⟩ := i2n_of (by omega) ha
  rw [ha2]
  generalize i2n a = j at ha1 kk ⊢
  repeat (first | refine wp_s hk rfl rfl ?_ | refine wp_goto hk rfl ?_ | refine wp_geti hk rfl rfl rfl rfl ?_ | refine wp_getr hk rfl rfl rfl rfl ?_)
  refine wp_callV hk rfl rfl rfl rfl rfl rfl ?_
  refine p_leanOf I.2.2.2 O (by omega) ?_
  exact wp_ir hk rfl rfl (kk M (Kp.rf _ _))
theorem k_seldom {a : Int32} (I : ClsInv M S) (O : StOK S) (kk : ∀ M', Kp M M' scr → Q (some (.int (spSeldom S a))) M') : Ca 125 [.ref 0, .int a] M Q := by
  unfold spSeldom at kk
  have hk : q_cd 125 = kd_X8_seldom := rfl
  show WP 125 0 [some (.ref 0), some (.int a)] [] M Q
  have no : isN a 7 = false → WP 125 5 [some (.ref 0), some (.int a)] [] M Q := by
    intro h
    rw [h] at kk
    repeat (first | refine wp_s hk rfl rfl ?_ | refine wp_goto hk rfl ?_ | refine wp_geti hk rfl rfl rfl rfl ?_ | refine wp_getr hk rfl rfl rfl rfl ?_)
    exact wp_ir hk rfl rfl (kk M (Kp.rf _ _))
  repeat (first | refine wp_s hk rfl rfl ?_ | refine wp_goto hk rfl ?_ | refine wp_geti hk rfl rfl rfl rfl ?_ | refine wp_getr hk rfl rfl rfl rfl ?_)
  refine wp_iflt hk rfl (fun g => no (isN_lo g)) (fun g => ?_)
  repeat (first | refine wp_s hk rfl rfl ?_ | refine wp_goto hk rfl ?_ | refine wp_geti hk rfl rfl rfl rfl ?_ | refine wp_getr hk rfl rfl rfl rfl ?_)
  refine wp_iclt hk rfl (fun f => ?_) (fun f => no (isN_hi (Int32.not_lt.mp f)))
  have ha := isN_in (n := 7) g (Int32.not_le.mpr f)
  rw [if_pos ha] at kk
  obtain ⟨ha1, ha2⟩ := i2n_of (by omega) ha
  rw [ha2]
  generalize i2n a = j at ha1 kk ⊢
  repeat (first | refine wp_s hk rfl rfl ?_ | refine wp_goto hk rfl ?_ | refine wp_geti hk rfl rfl rfl rfl ?_ | refine wp_getr hk rfl rfl rfl rfl ?_)
  refine wp_callV hk rfl rfl rfl rfl rfl rfl ?_
  refine p_asMuch I.2.2.2 O (by omega) ?_
  exact wp_ir hk rfl rfl (kk M (Kp.rf _ _))
theorem lnW_some {g : Nat → Int32} : ∀ k, ∃ b, lnW g (k + 1) = some b
  | 0 => ⟨0, rfl⟩
  | k + 1 => by
    obtain ⟨b, hb⟩ := lnW_some (g := g) k
    by_cases h : g b < g (k + 1)
    · exact ⟨k + 1, by rw [lnW, hb]; exact if_pos h⟩
    · exact ⟨b, by rw [lnW, hb]; exact if_neg h⟩
theorem k_leaner (I : ClsInv M S) (O : StOK S) (kk : ∀ M', Kp M M' scr → Q (some (.int (spLeaner S))) M') : Ca 126 [.ref 0] M Q := by
  have h8 := O.2.2.2.1
  unfold spLeaner at kk
  have hk : q_cd 126 = kd_X8_leaner := rfl
  show WP 126 0 [some (.ref 0), none, none] [] M Q
  have loop := q_dn (n := 7) (P := fun k => 1 ≤ k → ¬ sN S = 0 → ∀ b, lnW (leanA S) k = some b → WP 126 12 [some (.ref 0), some (.int (nI b)), some (.int (nI k))] [.int (nI 7), .int (nI k)] M Q) (by
    intro _ h0 b hb
    rw [if_neg h0, hb] at kk
    refine wp_icgeN (u := 7) (v := 7) hk rfl rfl rfl (by omega) (by omega) (fun _ => ?_) (fun g => absurd g (by omega))
    repeat (first | refine wp_s hk rfl rfl ?_ | refine wp_goto hk rfl ?_ | refine wp_geti hk rfl rfl rfl rfl ?_ | refine wp_getr hk rfl rfl rfl rfl ?_)
    exact wp_ir hk rfl rfl (kk M (Kp.rf _ _))) (by
    intro k hk7 ih h1 h0 b hb
    have hbk := lnW_lt hb
    refine wp_icgeN (u := k) (v := 7) hk rfl rfl rfl (by omega) (by omega) (fun g => absurd g (by omega)) (fun _ => ?_)
    repeat (first | refine wp_s hk rfl rfl ?_ | refine wp_goto hk rfl ?_ | refine wp_geti hk rfl rfl rfl rfl ?_ | refine wp_getr hk rfl rfl rfl rfl ?_)
    refine wp_callV hk rfl rfl rfl rfl rfl rfl ?_
    refine p_leanOf I.2.2.2 O (by omega) ?_
    repeat (first | refine wp_s hk rfl rfl ?_ | refine wp_goto hk rfl ?_ | refine wp_geti hk rfl rfl rfl rfl ?_ | refine wp_getr hk rfl rfl rfl rfl ?_)
    refine wp_callV hk rfl rfl rfl rfl rfl rfl ?_
    refine p_leanOf I.2.2.2 O (by omega) ?_
    refine wp_icle hk rfl (fun y => ?_) (fun y => ?_)
    · repeat (first | refine wp_s hk rfl rfl ?_ | refine wp_goto hk rfl ?_ | refine wp_geti hk rfl rfl rfl rfl ?_ | refine wp_getr hk rfl rfl rfl rfl ?_)
      rw [q_nadd k 1]
      exact ih (by omega) h0 b (by rw [lnW, hb]; exact if_neg (Int32.not_lt.mpr y))
    · repeat (first | refine wp_s hk rfl rfl ?_ | refine wp_goto hk rfl ?_ | refine wp_geti hk rfl rfl rfl rfl ?_ | refine wp_getr hk rfl rfl rfl rfl ?_)
      rw [q_nadd k 1]
      exact ih (by omega) h0 k (by rw [lnW, hb]; exact if_pos (Int32.not_le.mp y)))
  repeat (first | refine wp_s hk rfl rfl ?_ | refine wp_goto hk rfl ?_ | refine wp_geti hk rfl rfl rfl rfl ?_ | refine wp_getr hk rfl rfl rfl rfl ?_)
  refine wp_callV hk rfl rfl rfl rfl rfl rfl ?_
  refine p_size I.2.2.2 ?_
  refine wp_ifneN (u := sN S) hk rfl rfl (by omega) (fun y => ?_) (fun y => ?_)
  · repeat (first | refine wp_s hk rfl rfl ?_ | refine wp_goto hk rfl ?_ | refine wp_geti hk rfl rfl rfl rfl ?_ | refine wp_getr hk rfl rfl rfl rfl ?_)
    exact loop 1 (by omega) (Nat.le_refl _) y 0 rfl
  · rw [if_pos (Classical.not_not.mp y)] at kk
    repeat (first | refine wp_s hk rfl rfl ?_ | refine wp_goto hk rfl ?_ | refine wp_geti hk rfl rfl rfl rfl ?_ | refine wp_getr hk rfl rfl rfl rfl ?_)
    exact wp_ir hk rfl rfl (kk M (Kp.rf _ _))
theorem q_swo_at : ∀ n, n < 5 → q_swo 0 4 78 #[35, 43, 51, 62, 70] (nI n) = #[35, 43, 51, 62, 70][n]? := by decide +kernel
theorem k_count {a : Int32} (I : ClsInv M S) (O : StOK S) (kk : ∀ M', Kp M M' scr → Q (some (.int (spCount S a))) M') : Ca 132 [.ref 0, .int a] M Q := by
  have h7 := O.1.2.1
  have hL := O.1.2.2.2.2.1
  unfold spCount at kk
  have hk : q_cd 132 = kd_X8_count := rfl
  show WP 132 0 [some (.ref 0), some (.int a)] [] M Q
  repeat (first | refine wp_s hk rfl rfl ?_ | refine wp_goto hk rfl ?_ | refine wp_geti hk rfl rfl rfl rfl ?_ | refine wp_getr hk rfl rfl rfl rfl ?_)
  cases ha : isN a 5 with
  | false =>
    rw [ha] at kk
    refine wp_tab hk rfl (q_swo_no ha) rfl ?_
    repeat (first | refine wp_s hk rfl rfl ?_ | refine wp_goto hk rfl ?_ | refine wp_geti hk rfl rfl rfl rfl ?_ | refine wp_getr hk rfl rfl rfl rfl ?_)
    exact wp_ir hk rfl rfl (kk M (Kp.rf _ _))
  | true =>
    rw [if_pos ha] at kk
    obtain ⟨ha1, ha2⟩ := i2n_of (by omega) ha
    rw [ha2]
    generalize i2n a = n at ha1 kk ⊢
    have hcase : n = 0 ∨ n = 1 ∨ n = 2 ∨ n = 3 ∨ n = 4 := by omega
    rcases hcase with rfl | rfl | rfl | rfl | rfl
    · refine wp_tab hk rfl (q_swo_at 0 (by omega)) rfl ?_
      repeat (first | refine wp_s hk rfl rfl ?_ | refine wp_goto hk rfl ?_ | refine wp_geti hk rfl rfl rfl rfl ?_ | refine wp_getr hk rfl rfl rfl rfl ?_)
      refine wp_callV hk rfl rfl rfl rfl rfl rfl ?_
      refine c_judges CSh1 I.1 ?_
      exact wp_ir hk rfl rfl (kk M (Kp.rf _ _))
    · refine wp_tab hk rfl (q_swo_at 1 (by omega)) rfl ?_
      repeat (first | refine wp_s hk rfl rfl ?_ | refine wp_goto hk rfl ?_ | refine wp_geti hk rfl rfl rfl rfl ?_ | refine wp_getr hk rfl rfl rfl rfl ?_)
      refine wp_callV hk rfl rfl rfl rfl rfl rfl ?_
      refine c_skaters CSh1 I.1 ?_
      exact wp_ir hk rfl rfl (kk M (Kp.rf _ _))
    · refine wp_tab hk rfl (q_swo_at 2 (by omega)) rfl ?_
      repeat (first | refine wp_s hk rfl rfl ?_ | refine wp_goto hk rfl ?_ | refine wp_geti hk rfl rfl rfl rfl ?_ | refine wp_getr hk rfl rfl rfl rfl ?_)
      refine wp_callV hk rfl rfl rfl rfl rfl rfl ?_
      refine c_counting CSh1 I.1 hL h7 ?_
      refine wp_callS hk rfl rfl rfl rfl ?_
      refine c_bitCount (cg_pop _ h7 _ hL).2 ?_
      rw [cnt_cg hL h7]
      exact wp_ir hk rfl rfl (kk M (Kp.rf _ _))
    · refine wp_tab hk rfl (q_swo_at 3 (by omega)) rfl ?_
      repeat (first | refine wp_s hk rfl rfl ?_ | refine wp_goto hk rfl ?_ | refine wp_geti hk rfl rfl rfl rfl ?_ | refine wp_getr hk rfl rfl rfl rfl ?_)
      refine wp_callV hk rfl rfl rfl rfl rfl rfl ?_
      refine x_length (T := sT S) I.2.1 ?_
      exact wp_ir hk rfl rfl (kk M (Kp.rf _ _))
    · refine wp_tab hk rfl (q_swo_at 4 (by omega)) rfl ?_
      repeat (first | refine wp_s hk rfl rfl ?_ | refine wp_goto hk rfl ?_ | refine wp_geti hk rfl rfl rfl rfl ?_ | refine wp_getr hk rfl rfl rfl rfl ?_)
      refine wp_callV hk rfl rfl rfl rfl rfl rfl ?_
      refine p_size I.2.2.2 ?_
      exact wp_ir hk rfl rfl (kk M (Kp.rf _ _))
theorem k_fault (I : ClsInv M S) (O : StOK S) (kk : ∀ M', Kp M M' scr → Q (some (.int (spFault S))) M') : Ca 96 [.ref 0] M Q := by
  unfold spFault at kk
  have hk : q_cd 96 = kd_X8_fault := rfl
  show WP 96 0 [some (.ref 0)] [] M Q
  repeat (first | refine wp_s hk rfl rfl ?_ | refine wp_goto hk rfl ?_ | refine wp_geti hk rfl rfl rfl rfl ?_ | refine wp_getr hk rfl rfl rfl rfl ?_)
  refine wp_callV hk rfl rfl rfl rfl rfl rfl ?_
  refine c_judges CSh1 I.1 ?_
  repeat (first | refine wp_s hk rfl rfl ?_ | refine wp_goto hk rfl ?_ | refine wp_geti hk rfl rfl rfl rfl ?_ | refine wp_getr hk rfl rfl rfl rfl ?_)
  refine wp_callV hk rfl rfl rfl rfl rfl rfl ?_
  refine z_read (T := sT S) ZSh12 (by omega) I.2.1 O.2.1.1 O.2.1.2 O.1.2.1 (fun M1 K1 _ => ?_)
  exact wp_ir hk rfl rfl (kk M1 (K1.mono (by decide)))
theorem k_part {a b : Int32} (I : ClsInv M S) (O : StOK S) (kk : ∀ M', Kp M M' scr → Q (some (.int (spPart S a b))) M') : Ca 99 [.ref 0, .int a, .int b] M Q := by
  unfold spPart at kk
  have hk : q_cd 99 = kd_X8_part := rfl
  show WP 99 0 [some (.ref 0), some (.int a), some (.int b)] [] M Q
  repeat (first | refine wp_s hk rfl rfl ?_ | refine wp_goto hk rfl ?_ | refine wp_geti hk rfl rfl rfl rfl ?_ | refine wp_getr hk rfl rfl rfl rfl ?_)
  refine wp_callV hk rfl rfl rfl rfl rfl rfl ?_
  refine k_isRule ?_
  refine wp_ifneB hk rfl rfl (fun ha => ?_) (fun h => ?_)
  · rw [if_pos ha] at kk
    obtain ⟨ha1, ha2⟩ := i2n_of (by omega) ha
    rw [ha2]
    generalize i2n a = r at ha1 kk ⊢
    have hsh := ZShR r ha1
    have hq1 := hsh.1
    have ho3 := (O.2.2.1 r ha1).2.1
    repeat (first | refine wp_s hk rfl rfl ?_ | refine wp_goto hk rfl ?_ | refine wp_geti hk rfl rfl rfl rfl ?_ | refine wp_getr hk rfl rfl rfl rfl ?_)
    refine wp_qld (jx := r) hk rfl rfl rfl rfl (zcs_at r ha1) (by decide) ?_
    repeat (first | refine wp_s hk rfl rfl ?_ | refine wp_goto hk rfl ?_ | refine wp_geti hk rfl rfl rfl rfl ?_ | refine wp_getr hk rfl rfl rfl rfl ?_)
    refine wp_callV hk rfl rfl rfl rfl hq1 rfl ?_
    refine z_hasPart hsh (I.2.2.1 r ha1) ?_
    refine wp_ifeqB hk rfl rfl (fun h => ?_) (fun hb => ?_)
    · rw [h] at kk
      repeat (first | refine wp_s hk rfl rfl ?_ | refine wp_goto hk rfl ?_ | refine wp_geti hk rfl rfl rfl rfl ?_ | refine wp_getr hk rfl rfl rfl rfl ?_)
      exact wp_ir hk rfl rfl (kk M (Kp.rf _ _))
    · rw [if_pos hb] at kk
      obtain ⟨hb1, hb2⟩ := i2n_of (by omega) hb
      rw [hb2]
      generalize i2n b = i at hb1 kk ⊢
      repeat (first | refine wp_s hk rfl rfl ?_ | refine wp_goto hk rfl ?_ | refine wp_geti hk rfl rfl rfl rfl ?_ | refine wp_getr hk rfl rfl rfl rfl ?_)
      refine wp_qld (jx := r) hk rfl rfl rfl rfl (zcs_at r ha1) (by decide) ?_
      repeat (first | refine wp_s hk rfl rfl ?_ | refine wp_goto hk rfl ?_ | refine wp_geti hk rfl rfl rfl rfl ?_ | refine wp_getr hk rfl rfl rfl rfl ?_)
      refine wp_callV hk rfl rfl rfl rfl hq1 rfl ?_
      refine z_kindOf hsh (I.2.2.1 r ha1) (O.2.2.1 r ha1) hb1 ?_
      repeat (first | refine wp_s hk rfl rfl ?_ | refine wp_goto hk rfl ?_ | refine wp_geti hk rfl rfl rfl rfl ?_ | refine wp_getr hk rfl rfl rfl rfl ?_)
      exact wp_ir hk rfl rfl (kk M (Kp.rf _ _))
  · rw [h] at kk
    repeat (first | refine wp_s hk rfl rfl ?_ | refine wp_goto hk rfl ?_ | refine wp_geti hk rfl rfl rfl rfl ?_ | refine wp_getr hk rfl rfl rfl rfl ?_)
    exact wp_ir hk rfl rfl (kk M (Kp.rf _ _))
end PUB
