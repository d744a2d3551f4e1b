theorem q_ndiv {a b : Nat} (ha : a < 2 ^ 31) (h0 : 0 < b) (hb : b < 2 ^ 31) : nI a / nI b = nI (a / b) := by
  have hlt : a / b ≤ a := Nat.div_le_self a b
  rw [← Int32.toInt_inj, Int32.toInt_div, q_toInt ha, q_toInt hb, q_toInt (by omega)]
  have e : ((a : Int).tdiv (b : Int)) = ((a / b : Nat) : Int) := by rw [Int.ofNat_tdiv]
  rw [e]
  generalize a / b = c at hlt
  exact Int.bmod_eq_of_le (by omega) (by omega)
theorem q_nrem {a b : Nat} (ha : a < 2 ^ 31) (h0 : 0 < b) (hb : b < 2 ^ 31) : nI a - nI a / nI b * nI b = nI (a % b) := by
  have h : a / b * b ≤ a := Nat.div_mul_le_self a b
  rw [q_ndiv ha h0 hb, q_nmul, q_nsub h]
  congr 1
  have := Nat.div_add_mod a b
  rw [Nat.mul_comm] at this
  omega
theorem q_shl1 : ∀ n, n < 8 → nI 1 <<< (nI n &&& 31) = nI (2 ^ n) := by decide +kernel
theorem m_in {v lo hi : Int64} {M : MM} {Q : Option Value → MM → Prop} (kk : Q (some (.int (nI (b2n (decide (lo ≤ v) && decide (v ≤ hi)))))) M) : Ca 134 [.long v, .long lo, .long hi] M Q := by
  have hk : q_cd 134 = kd_X9_in := rfl
  show WP 134 0 [some (.long v), none, some (.long lo), none, some (.long hi), none] [] M Q
  repeat (first | refine wp_s hk rfl rfl ?_ | refine wp_goto hk rfl ?_ | refine wp_geti hk rfl rfl rfl rfl ?_ | refine wp_getr hk rfl rfl rfl rfl ?_)
  refine wp_iflt hk rfl (fun h => ?_) (fun h => ?_)
  · repeat (first | refine wp_s hk rfl rfl ?_ | refine wp_goto hk rfl ?_ | refine wp_geti hk rfl rfl rfl rfl ?_ | refine wp_getr hk rfl rfl rfl rfl ?_)
    refine wp_ir hk rfl rfl ?_
    rw [show decide (lo ≤ v) = false from decide_eq_false (Int64.not_le.mpr (lg_lt.mp h))] at kk
    exact kk
  · repeat (first | refine wp_s hk rfl rfl ?_ | refine wp_goto hk rfl ?_ | refine wp_geti hk rfl rfl rfl rfl ?_ | refine wp_getr hk rfl rfl rfl rfl ?_)
    refine wp_ifgt hk rfl (fun h1 => ?_) (fun h1 => ?_)
    · repeat (first | refine wp_s hk rfl rfl ?_ | refine wp_goto hk rfl ?_ | refine wp_geti hk rfl rfl rfl rfl ?_ | refine wp_getr hk rfl rfl rfl rfl ?_)
      refine wp_ir hk rfl rfl ?_
      rw [show decide (v ≤ hi) = false from decide_eq_false (Int64.not_le.mpr (lg_gt.mp h1)), Bool.and_false] at kk
      exact kk
    · repeat (first | refine wp_s hk rfl rfl ?_ | refine wp_goto hk rfl ?_ | refine wp_geti hk rfl rfl rfl rfl ?_ | refine wp_getr hk rfl rfl rfl rfl ?_)
      refine wp_ir hk rfl rfl ?_
      rw [show decide (lo ≤ v) = true from decide_eq_true (Int64.not_lt.mp (fun z => h (lg_lt.mpr z))), show decide (v ≤ hi) = true from decide_eq_true (Int64.not_lt.mp (fun z => h1 (lg_gt.mpr z)))] at kk
      exact kk
theorem m_noJudge {x : Int32} {n : Nat} {M : MM} {Q : Option Value → MM → Prop} (hn : M 83 1 = nI n) (h1 : 1 ≤ n) (h7 : n ≤ 7) (kk : Q (some (.int (nI (b2n (!isN x n))))) M) : Ca 135 [.ref 83, .int x] M Q := by
  have hk : q_cd 135 = kd_X9_noJudge := rfl
  show WP 135 0 [some (.ref 83), some (.int x)] [] M Q
  repeat (first | refine wp_s hk rfl rfl ?_ | refine wp_goto hk rfl ?_ | refine wp_geti hk rfl rfl rfl rfl ?_ | refine wp_getr hk rfl rfl rfl rfl ?_)
  rw [hn, q_nsub h1]
  refine wp_callS hk rfl rfl rfl rfl ?_
  refine m_in ?_
  refine wp_ifneB (u := isN x n) hk rfl (congrArg (fun z => nI (b2n z)) (q_in0 h1 (by omega))) (fun h => ?_) (fun h => ?_) <;> rw [h] at kk
  · repeat (first | refine wp_s hk rfl rfl ?_ | refine wp_goto hk rfl ?_ | refine wp_geti hk rfl rfl rfl rfl ?_ | refine wp_getr hk rfl rfl rfl rfl ?_)
    exact wp_ir hk rfl rfl kk
  · repeat (first | refine wp_s hk rfl rfl ?_ | refine wp_goto hk rfl ?_ | refine wp_geti hk rfl rfl rfl rfl ?_ | refine wp_getr hk rfl rfl rfl rfl ?_)
    exact wp_ir hk rfl rfl kk
theorem m_noSkater {x : Int32} {n : Nat} {M : MM} {Q : Option Value → MM → Prop} (hn : M 83 2 = nI n) (h1 : 1 ≤ n) (h7 : n ≤ 7) (kk : Q (some (.int (nI (b2n (!isN x n))))) M) : Ca 136 [.ref 83, .int x] M Q := by
  have hk : q_cd 136 = kd_X9_noSkater := rfl
  show WP 136 0 [some (.ref 83), some (.int x)] [] M Q
  repeat (first | refine wp_s hk rfl rfl ?_ | refine wp_goto hk rfl ?_ | refine wp_geti hk rfl rfl rfl rfl ?_ | refine wp_getr hk rfl rfl rfl rfl ?_)
  rw [hn, q_nsub h1]
  refine wp_callS hk rfl rfl rfl rfl ?_
  refine m_in ?_
  refine wp_ifneB (u := isN x n) hk rfl (congrArg (fun z => nI (b2n z)) (q_in0 h1 (by omega))) (fun h => ?_) (fun h => ?_) <;> rw [h] at kk
  · repeat (first | refine wp_s hk rfl rfl ?_ | refine wp_goto hk rfl ?_ | refine wp_geti hk rfl rfl rfl rfl ?_ | refine wp_getr hk rfl rfl rfl rfl ?_)
    exact wp_ir hk rfl rfl kk
  · repeat (first | refine wp_s hk rfl rfl ?_ | refine wp_goto hk rfl ?_ | refine wp_geti hk rfl rfl rfl rfl ?_ | refine wp_getr hk rfl rfl rfl rfl ?_)
    exact wp_ir hk rfl rfl kk
theorem m_noRule {x : Int32} {M : MM} {Q : Option Value → MM → Prop} (kk : Q (some (.int (nI (b2n (!isN x 3))))) M) : Ca 137 [.int x] M Q := by
  have hk : q_cd 137 = kd_X9_noRule := rfl
  show WP 137 0 [some (.int x)] [] M Q
  repeat (first | refine wp_s hk rfl rfl ?_ | refine wp_goto hk rfl ?_ | refine wp_geti hk rfl rfl rfl rfl ?_ | refine wp_getr hk rfl rfl rfl rfl ?_)
  refine wp_callS hk rfl rfl rfl rfl ?_
  refine m_in ?_
  refine wp_ifneB (u := isN x 3) hk rfl (congrArg (fun z => nI (b2n z)) ((q_in64 (by omega) (by omega)).trans (q_isN_le (n := 2) (by omega)))) (fun h => ?_) (fun h => ?_) <;> rw [h] at kk
  · repeat (first | refine wp_s hk rfl rfl ?_ | refine wp_goto hk rfl ?_ | refine wp_geti hk rfl rfl rfl rfl ?_ | refine wp_getr hk rfl rfl rfl rfl ?_)
    exact wp_ir hk rfl rfl kk
  · repeat (first | refine wp_s hk rfl rfl ?_ | refine wp_goto hk rfl ?_ | refine wp_geti hk rfl rfl rfl rfl ?_ | refine wp_getr hk rfl rfl rfl rfl ?_)
    exact wp_ir hk rfl rfl kk
theorem m_noSet {x : Int32} {n : Nat} {M : MM} {Q : Option Value → MM → Prop} (hn : M 83 1 = nI n) (h1 : 1 ≤ n) (h7 : n ≤ 7) (kk : Q (some (.int (nI (b2n (!isN x (2 ^ n)))))) M) : Ca 138 [.ref 83, .int x] M Q := by
  have hp : 1 ≤ 2 ^ n := Nat.one_le_two_pow
  have hp2 : 2 ^ n ≤ 2 ^ 7 := Nat.pow_le_pow_right (by omega) h7
  have hk : q_cd 138 = kd_X9_noSet := rfl
  show WP 138 0 [some (.ref 83), some (.int x)] [] M Q
  repeat (first | refine wp_s hk rfl rfl ?_ | refine wp_goto hk rfl ?_ | refine wp_geti hk rfl rfl rfl rfl ?_ | refine wp_getr hk rfl rfl rfl rfl ?_)
  rw [hn, q_shl1 n (by omega), q_nsub hp]
  refine wp_callS hk rfl rfl rfl rfl ?_
  refine m_in ?_
  refine wp_ifneB (u := isN x (2 ^ n)) hk rfl (congrArg (fun z => nI (b2n z)) (q_in0 hp (by omega))) (fun h => ?_) (fun h => ?_) <;> rw [h] at kk
  · repeat (first | refine wp_s hk rfl rfl ?_ | refine wp_goto hk rfl ?_ | refine wp_geti hk rfl rfl rfl rfl ?_ | refine wp_getr hk rfl rfl rfl rfl ?_)
    exact wp_ir hk rfl rfl kk
  · repeat (first | refine wp_s hk rfl rfl ?_ | refine wp_goto hk rfl ?_ | refine wp_geti hk rfl rfl rfl rfl ?_ | refine wp_getr hk rfl rfl rfl rfl ?_)
    exact wp_ir hk rfl rfl kk
theorem m_cards {m : Nat} {M : MM} {Q : Option Value → MM → Prop} (hm : M 83 2 = nI m) (h4 : m ≤ 4) (kk : Q (some (.int (nI (6 ^ m)))) M) : Ca 139 [.ref 83] M Q := by
  have hk : q_cd 139 = kd_X9_cards := rfl
  show WP 139 0 [some (.ref 83), none, none] [] M Q
  have loop := q_dn (n := m) (P := fun j => WP 139 7 [some (.ref 83), some (.int (nI (6 ^ j))), some (.int (nI j))] [.int (M 83 2), .int (nI j)] M Q) (by
    refine wp_icgeN hk rfl rfl hm (by first | omega | decide) (by first | omega | decide) (fun _ => ?_) (fun h => absurd h (by omega))
    repeat (first | refine wp_s hk rfl rfl ?_ | refine wp_goto hk rfl ?_ | refine wp_geti hk rfl rfl rfl rfl ?_ | refine wp_getr hk rfl rfl rfl rfl ?_)
    exact wp_ir hk rfl rfl kk) (by
    intro j hj ih
    refine wp_icgeN hk rfl rfl hm (by first | omega | decide) (by first | omega | decide) (fun h => absurd h (by omega)) (fun _ => ?_)
    repeat (first | refine wp_s hk rfl rfl ?_ | refine wp_goto hk rfl ?_ | refine wp_geti hk rfl rfl rfl rfl ?_ | refine wp_getr hk rfl rfl rfl rfl ?_)
    rw [q_nadd j 1, q_nmul, ← Nat.pow_succ]
    exact ih)
  repeat (first | refine wp_s hk rfl rfl ?_ | refine wp_goto hk rfl ?_ | refine wp_geti hk rfl rfl rfl rfl ?_ | refine wp_getr hk rfl rfl rfl rfl ?_)
  exact loop 0 (Nat.zero_le _)
/-- what the reference's own table of marks and of who counts holds -/
def RefV (M : MM) (n m : Nat) (cnt : Nat → Bool) (mk : Nat → Nat → Nat) : Prop := M 83 1 = nI n ∧ M 83 2 = nI m ∧ n ≤ 7 ∧ m ≤ 4 ∧ (∀ j, j < 7 → M 89 j = nI (b2n (cnt j))) ∧ (∀ j, j < 7 → ∀ s, s < 4 → M 88 (4 * j + s) = nI (mk j s)) ∧ ∀ j, j < 7 → ∀ s, s < 4 → mk j s ≤ 5
theorem m_ranks {M : MM} {n m : Nat} {cnt : Nat → Bool} {mk : Nat → Nat → Nat} {s : Nat} {Q : Option Value → MM → Prop} (H : RefV M n m cnt mk) (hs : s < m) (kk : Q (some (.int (nI (wRanks n m cnt mk s)))) M) : Ca 157 [.ref 83, .int (nI s)] M Q := by
  obtain ⟨hn, hm, hn7, hm4, hc, hq, hb⟩ := H
  have hk : q_cd 157 = kd_X9_ranks := rfl
  show WP 157 0 [some (.ref 83), some (.int (nI s)), none, none, none, none] [] M Q
  have inner : ∀ j, j < n → cnt j = true → ∀ acc0, (∀ acc x5, acc = nI (acc0 + sumN (fun o => if o = s then 0 else pt (mk j s) (mk j o)) m) → WP 157 56 [some (.ref 83), some (.int (nI s)), some (.int acc), some (.int (nI j)), some (.int (nI m)), x5] [] M Q) →
      ∀ d o acc x5, o + d = m → acc = nI (acc0 + sumN (fun o => if o = s then 0 else pt (mk j s) (mk j o)) o) → WP 157 13 [some (.ref 83), some (.int (nI s)), some (.int acc), some (.int (nI j)), some (.int (nI o)), x5] [.int (M 83 2), .int (nI o)] M Q := by
    intro j hj hcj acc0 kx d
    induction d with
    | zero =>
      intro o acc x5 ho ha
      obtain rfl : o = m := by omega
      exact wp_icgeN hk rfl rfl hm (by first | omega | decide) (by first | omega | decide) (fun _ => kx _ _ ha) (fun h => absurd (Nat.le_refl o) h)
    | succ d ih =>
      intro o acc x5 ho ha
      refine wp_icgeN hk rfl rfl hm (by first | omega | decide) (by first | omega | decide) (fun h => absurd h (by omega)) (fun _ => ?_)
      repeat (first | refine wp_s hk rfl rfl ?_ | refine wp_goto hk rfl ?_ | refine wp_geti hk rfl rfl rfl rfl ?_ | refine wp_getr hk rfl rfl rfl rfl ?_)
      refine wp_bld hk rfl rfl rfl (by omega) ?_
      refine wp_ifeqB hk rfl (hc j (by omega)) (fun h => by rw [hcj] at h; cases h) (fun _ => ?_)
      repeat (first | refine wp_s hk rfl rfl ?_ | refine wp_goto hk rfl ?_ | refine wp_geti hk rfl rfl rfl rfl ?_ | refine wp_getr hk rfl rfl rfl rfl ?_)
      refine wp_ald (jx := 4 * j + s) hk rfl rfl (by simp only [q_nadd, q_nmul]) (by omega) ?_
      rw [hq j (by omega) s (by omega)]
      repeat (first | refine wp_s hk rfl rfl ?_ | refine wp_goto hk rfl ?_ | refine wp_geti hk rfl rfl rfl rfl ?_ | refine wp_getr hk rfl rfl rfl rfl ?_)
      refine wp_ald (jx := 4 * j + o) hk rfl rfl (by simp only [q_nadd, q_nmul]) (by omega) ?_
      rw [hq j (by omega) o (by omega)]
      have b1 := hb j (by omega) s (by omega)
      have b2 := hb j (by omega) o (by omega)
      have fin : ∀ z : Nat, z = (if o = s then 0 else pt (mk j s) (mk j o)) → ∀ x5, WP 157 52 [some (.ref 83), some (.int (nI s)), some (.int acc), some (.int (nI j)), some (.int (nI o)), x5] [.int (nI z), .int acc] M Q := by
        intro z hz x5
        repeat (first | refine wp_s hk rfl rfl ?_ | refine wp_goto hk rfl ?_ | refine wp_geti hk rfl rfl rfl rfl ?_ | refine wp_getr hk rfl rfl rfl rfl ?_)
        rw [q_nadd o 1]
        refine ih (o + 1) _ _ (by omega) ?_
        rw [ha, q_nadd, hz]
        simp only [sumN]
        rw [Nat.add_assoc]
      repeat (first | refine wp_s hk rfl rfl ?_ | refine wp_goto hk rfl ?_ | refine wp_geti hk rfl rfl rfl rfl ?_ | refine wp_getr hk rfl rfl rfl rfl ?_)
      refine wp_icneN hk rfl rfl rfl (by first | omega | decide) (by first | omega | decide) (fun h => ?_) (fun h => ?_)
      · repeat (first | refine wp_s hk rfl rfl ?_ | refine wp_goto hk rfl ?_ | refine wp_geti hk rfl rfl rfl rfl ?_ | refine wp_getr hk rfl rfl rfl rfl ?_)
        refine wp_ifleD hk rfl rfl (by first | omega | decide) (by first | omega | decide) (fun h1 => ?_) (fun h1 => ?_)
        · repeat (first | refine wp_s hk rfl rfl ?_ | refine wp_goto hk rfl ?_ | refine wp_geti hk rfl rfl rfl rfl ?_ | refine wp_getr hk rfl rfl rfl rfl ?_)
          refine wp_ifneD hk rfl rfl (by first | omega | decide) (by first | omega | decide) (fun h2 => ?_) (fun h2 => ?_)
          · refine wp_s hk rfl rfl ?_
            exact fin 0 (by simp only [pt]; split <;> (try split) <;> (try split) <;> omega) _
          · refine wp_s hk rfl rfl ?_
            refine wp_goto hk rfl ?_
            exact fin 1 (by simp only [pt]; split <;> (try split) <;> (try split) <;> omega) _
        · refine wp_s hk rfl rfl ?_
          refine wp_goto hk rfl ?_
          exact fin 2 (by simp only [pt]; split <;> (try split) <;> (try split) <;> omega) _
      · refine wp_s hk rfl rfl ?_
        refine wp_goto hk rfl ?_
        exact fin 0 (by rw [if_pos (by omega)]) _
  have outer : ∀ d j acc x4 x5, j + d = n → acc = nI (sumN (fun j => if cnt j then sumN (fun o => if o = s then 0 else pt (mk j s) (mk j o)) m else 0) j) → WP 157 7 [some (.ref 83), some (.int (nI s)), some (.int acc), some (.int (nI j)), x4, x5] [.int (M 83 1), .int (nI j)] M Q := by
    intro d
    induction d with
    | zero =>
      intro j acc x4 x5 hj ha
      refine wp_icgeN hk rfl rfl hn (by first | omega | decide) (by first | omega | decide) (fun _ => ?_) (fun h => absurd h (by omega))
      repeat (first | refine wp_s hk rfl rfl ?_ | refine wp_goto hk rfl ?_ | refine wp_geti hk rfl rfl rfl rfl ?_ | refine wp_getr hk rfl rfl rfl rfl ?_)
      refine wp_ir hk rfl rfl ?_
      rw [ha, show j = n by omega]
      exact kk
    | succ d ih =>
      intro j acc x4 x5 hj ha
      refine wp_icgeN hk rfl rfl hn (by first | omega | decide) (by first | omega | decide) (fun h => absurd h (by omega)) (fun _ => ?_)
      repeat (first | refine wp_s hk rfl rfl ?_ | refine wp_goto hk rfl ?_ | refine wp_geti hk rfl rfl rfl rfl ?_ | refine wp_getr hk rfl rfl rfl rfl ?_)
      have nextj : ∀ acc x4 x5, acc = nI (sumN (fun j => if cnt j then sumN (fun o => if o = s then 0 else pt (mk j s) (mk j o)) m else 0) (j + 1)) → WP 157 56 [some (.ref 83), some (.int (nI s)), some (.int acc), some (.int (nI j)), x4, x5] [] M Q := by
        intro acc x4 x5 ha
        repeat (first | refine wp_s hk rfl rfl ?_ | refine wp_goto hk rfl ?_ | refine wp_geti hk rfl rfl rfl rfl ?_ | refine wp_getr hk rfl rfl rfl rfl ?_)
        rw [q_nadd j 1]
        exact ih (j + 1) _ _ _ (by omega) ha
      cases hcj : cnt j with
      | true =>
        refine inner j (by omega) hcj _ (fun acc' x5 h' => nextj _ _ _ ?_) m 0 _ _ (by omega) ha
        rw [h']
        simp only [sumN, hcj, if_pos]
      | false =>
        refine wp_icgeN hk rfl rfl hm (by first | omega | decide) (by first | omega | decide) (fun h => ?_) (fun _ => ?_)
        · exact nextj _ _ _ (by rw [ha]; simp [sumN, hcj])
        · repeat (first | refine wp_s hk rfl rfl ?_ | refine wp_goto hk rfl ?_ | refine wp_geti hk rfl rfl rfl rfl ?_ | refine wp_getr hk rfl rfl rfl rfl ?_)
          refine wp_bld hk rfl rfl rfl (by omega) ?_
          refine wp_ifeqB hk rfl (hc j (by omega)) (fun h => ?_) (fun h => by rw [hcj] at h; cases h)
          exact nextj _ _ _ (by rw [ha]; simp [sumN, hcj])
  repeat (first | refine wp_s hk rfl rfl ?_ | refine wp_goto hk rfl ?_ | refine wp_geti hk rfl rfl rfl rfl ?_ | refine wp_getr hk rfl rfl rfl rfl ?_)
  exact outer n 0 _ _ _ (by omega) rfl
theorem insA_le {v c : Nat} (hv : v ≤ c) : ∀ {a : Nat} {row : Nat → Nat}, (∀ i, row i ≤ c) → ∀ i, insA row a v i ≤ c
  | 0, row, h, i => by simp only [insA, updN]; split <;> first | exact hv | exact h i
  | a + 1, row, h, i => by
    simp only [insA]
    split
    · exact insA_le hv (fun i => by simp only [updN]; split <;> exact h _) i
    · simp only [updN]; split <;> first | exact hv | exact h i
theorem srt_le {cnt : Nat → Bool} {col : Nat → Nat} {c : Nat} : ∀ {j : Nat}, (∀ i, i < j → col i ≤ c) → ∀ i, (srt cnt col j).1 i ≤ c
  | 0, _, i => Nat.zero_le _
  | j + 1, h, i => by
    simp only [srt]
    split
    · exact insA_le (h j (by omega)) (srt_le (fun i hi => h i (by omega))) i
    · exact srt_le (fun i hi => h i (by omega)) i
theorem srt_n {cnt : Nat → Bool} {col : Nat → Nat} : ∀ {j : Nat}, (srt cnt col j).2 ≤ j
  | 0 => Nat.le_refl _
  | j + 1 => by
    have := srt_n (cnt := cnt) (col := col) (j := j)
    simp only [srt]
    split <;> omega
theorem RefV.kp {M M' : MM} {n m : Nat} {cnt : Nat → Bool} {mk : Nat → Nat → Nat} {ids : List Nat} (H : RefV M n m cnt mk) (h : Kp M M' ids) (h1 : 83 ∉ ids) (h2 : 88 ∉ ids) (h3 : 89 ∉ ids) : RefV M' n m cnt mk := by
  unfold RefV
  rw [h 83 h1, h 88 h2, h 89 h3]
  exact H
/-- the sorted marks lie in the row -/
theorem m_sort {M : MM} {n m : Nat} {cnt : Nat → Bool} {mk : Nat → Nat → Nat} {s : Nat} {Q : Option Value → MM → Prop} (H : RefV M n m cnt mk) (hs : s < 4)
    (kk : ∀ M', Kp M M' [99] → (∀ i, i < (srt cnt (fun j => mk j s) n).2 → M' 99 i = nI ((srt cnt (fun j => mk j s) n).1 i)) → Q (some (.int (nI (srt cnt (fun j => mk j s) n).2))) M') : Ca 154 [.ref 83, .int (nI s)] M Q := by
  obtain ⟨hn, hm, hn7, hm4, hc, hq, hb⟩ := H
  have hk : q_cd 154 = kd_X9_sort := rfl
  show WP 154 0 [some (.ref 83), some (.int (nI s)), none, none, none] [] M Q
  have outer := q_dn (n := n) (P := fun j => ∀ M1 x4, Kp M M1 [99] → (∀ i, i < (srt cnt (fun j => mk j s) j).2 → M1 99 i = nI ((srt cnt (fun j => mk j s) j).1 i)) → WP 154 7 [some (.ref 83), some (.int (nI s)), some (.int (nI (srt cnt (fun j => mk j s) j).2)), some (.int (nI j)), x4] [.int (M1 83 1), .int (nI j)] M1 Q) (by
    intro M1 x4 hK hr
    refine wp_icgeN hk rfl rfl ((congrFun (hK 83 (by decide)) 1).trans hn) (by first | omega | decide) (by first | omega | decide) (fun _ => ?_) (fun h => absurd h (by omega))
    repeat (first | refine wp_s hk rfl rfl ?_ | refine wp_goto hk rfl ?_ | refine wp_geti hk rfl rfl rfl rfl ?_ | refine wp_getr hk rfl rfl rfl rfl ?_)
    exact wp_ir hk rfl rfl (kk M1 hK hr)) (by
    intro j hj ih M1 x4 hK hr
    refine wp_icgeN hk rfl rfl ((congrFun (hK 83 (by decide)) 1).trans hn) (by first | omega | decide) (by first | omega | decide) (fun h => absurd h (by omega)) (fun _ => ?_)
    repeat (first | refine wp_s hk rfl rfl ?_ | refine wp_goto hk rfl ?_ | refine wp_geti hk rfl rfl rfl rfl ?_ | refine wp_getr hk rfl rfl rfl rfl ?_)
    refine wp_bld (jx := j) hk rfl rfl rfl (by omega) ?_
    rw [hK 89 (by decide)]
    have hsn := srt_n (cnt := cnt) (col := fun j => mk j s) (j := j)
    have hsl := srt_le (cnt := cnt) (col := fun j => mk j s) (c := 5) (j := j) (fun i hi => hb i (by omega) s hs)
    refine wp_ifeqB hk rfl (hc j (by omega)) (fun h => ?_) (fun h => ?_)
    · repeat (first | refine wp_s hk rfl rfl ?_ | refine wp_goto hk rfl ?_ | refine wp_geti hk rfl rfl rfl rfl ?_ | refine wp_getr hk rfl rfl rfl rfl ?_)
      rw [q_nadd j 1]
      have e : srt cnt (fun j => mk j s) (j + 1) = srt cnt (fun j => mk j s) j := by simp only [srt, h]; rfl
      have := ih M1 x4 hK
      rw [e] at this
      exact this hr
    · have e : srt cnt (fun j => mk j s) (j + 1) = (insA (srt cnt (fun j => mk j s) j).1 (srt cnt (fun j => mk j s) j).2 (mk j s), (srt cnt (fun j => mk j s) j).2 + 1) := by simp only [srt, h, if_true]
      have ih' := ih
      rw [e] at ih'
      generalize hrow : (srt cnt (fun j => mk j s) j).1 = row at hr hsl ih'
      generalize hmany : (srt cnt (fun j => mk j s) j).2 = many at hr hsn ih'
      have hbj := hb j (by omega) s hs
      have inner : ∀ a row' M2, a ≤ many → Kp M M2 [99] → (∀ i, row' i ≤ 5) → (∀ i, i ≤ many → i ≠ a → M2 99 i = nI (row' i)) → insA row' a (mk j s) = insA row many (mk j s) → WP 154 16 [some (.ref 83), some (.int (nI s)), some (.int (nI many)), some (.int (nI j)), some (.int (nI a))] [.int (nI a)] M2 Q := by
        intro a
        have stop : ∀ a row' M2, a ≤ many → Kp M M2 [99] → (∀ i, i ≤ many → i ≠ a → M2 99 i = nI (row' i)) → updN row' a (mk j s) = insA row many (mk j s) → WP 154 44 [some (.ref 83), some (.int (nI s)), some (.int (nI many)), some (.int (nI j)), some (.int (nI a))] [] M2 Q := by
          intro a row' M2 ha hK2 hr2 he
          repeat (first | refine wp_s hk rfl rfl ?_ | refine wp_goto hk rfl ?_ | refine wp_geti hk rfl rfl rfl rfl ?_ | refine wp_getr hk rfl rfl rfl rfl ?_)
          refine wp_ald (jx := 4 * j + s) hk rfl rfl (by simp only [q_nadd, q_nmul]) (by omega) ?_
          rw [show M2 88 (4 * j + s) = nI (mk j s) by rw [hK2 88 (by decide)]; exact hq j (by omega) s hs]
          refine wp_ast (jx := a) hk rfl rfl rfl (by omega) ?_
          repeat (first | refine wp_s hk rfl rfl ?_ | refine wp_goto hk rfl ?_ | refine wp_geti hk rfl rfl rfl rfl ?_ | refine wp_getr hk rfl rfl rfl rfl ?_)
          rw [q_nadd many 1, q_nadd j 1]
          refine ih' _ _ (hK2.up (by decide)) (fun i hi => ?_)
          rw [q_up_at, ← he]
          by_cases e1 : i = a
          · subst e1; rw [upd_at]; simp only [updN, if_true]
          · rw [upd_ne _ _ e1, hr2 i (by omega) e1]; simp only [updN, if_neg e1]
        induction a with
        | zero =>
          intro row' M2 ha hK2 hl hr2 he
          refine wp_ifleN hk rfl rfl (by first | omega | decide) (fun _ => ?_) (fun h => absurd rfl h)
          exact stop 0 row' M2 ha hK2 hr2 he
        | succ a iha =>
          intro row' M2 ha hK2 hl hr2 he
          refine wp_ifleN hk rfl rfl (by first | omega | decide) (fun h => absurd h (by omega)) (fun _ => ?_)
          repeat (first | refine wp_s hk rfl rfl ?_ | refine wp_goto hk rfl ?_ | refine wp_geti hk rfl rfl rfl rfl ?_ | refine wp_getr hk rfl rfl rfl rfl ?_)
          rw [q_nsub (Nat.le_add_left 1 a), Nat.add_sub_cancel]
          refine wp_ald (jx := a) hk rfl rfl rfl (by omega) ?_
          repeat (first | refine wp_s hk rfl rfl ?_ | refine wp_goto hk rfl ?_ | refine wp_geti hk rfl rfl rfl rfl ?_ | refine wp_getr hk rfl rfl rfl rfl ?_)
          refine wp_ald (jx := 4 * j + s) hk rfl rfl (by simp only [q_nadd, q_nmul]) (by omega) ?_
          have b1 := hl a
          refine wp_icleN (u := row' a) (v := mk j s) hk rfl (hr2 a (by omega) (by omega)) (by rw [hK2 88 (by decide)]; exact hq j (by omega) s hs) (by omega) (by omega) (fun h => ?_) (fun h => ?_)
          · refine stop (a + 1) row' M2 ha hK2 hr2 ?_
            rw [← he]
            simp only [insA]
            rw [if_neg (by omega)]
          · repeat (first | refine wp_s hk rfl rfl ?_ | refine wp_goto hk rfl ?_ | refine wp_geti hk rfl rfl rfl rfl ?_ | refine wp_getr hk rfl rfl rfl rfl ?_)
            rw [q_nsub (Nat.le_add_left 1 a), Nat.add_sub_cancel]
            refine wp_ald (jx := a) hk rfl rfl rfl (by omega) ?_
            refine wp_ast (jx := a + 1) hk rfl rfl rfl (by omega) ?_
            repeat (first | refine wp_s hk rfl rfl ?_ | refine wp_goto hk rfl ?_ | refine wp_geti hk rfl rfl rfl rfl ?_ | refine wp_getr hk rfl rfl rfl rfl ?_)
            rw [q_dec a]
            refine iha (updN row' (a + 1) (row' a)) _ (by omega) (hK2.up (by decide)) (fun i => by simp only [updN]; split <;> exact hl _) (fun i hi hia => ?_) ?_
            · rw [q_up_at]
              by_cases e1 : i = a + 1
              · subst e1; rw [upd_at, hr2 a (by omega) (by omega)]; simp only [updN, if_true]
              · rw [upd_ne _ _ e1, hr2 i hi e1]; simp only [updN, if_neg e1]
            · rw [← he]
              simp only [insA]
              rw [if_pos (by omega)]
      repeat (first | refine wp_s hk rfl rfl ?_ | refine wp_goto hk rfl ?_ | refine wp_geti hk rfl rfl rfl rfl ?_ | refine wp_getr hk rfl rfl rfl rfl ?_)
      exact inner many row M1 (Nat.le_refl _) hK hsl (fun i hi hia => hr i (by omega)) rfl)
  repeat (first | refine wp_s hk rfl rfl ?_ | refine wp_goto hk rfl ?_ | refine wp_geti hk rfl rfl rfl rfl ?_ | refine wp_getr hk rfl rfl rfl rfl ?_)
  exact outer 0 (Nat.zero_le _) M _ (Kp.rf _ _) (fun i hi => absurd hi (Nat.not_lt_zero _))
