theorem sumN_zero {f : Nat → Nat} : ∀ {n : Nat}, (∀ j, j < n → f j = 0) → sumN f n = 0
  | 0, _ => rfl
  | n + 1, h => by simp only [sumN, sumN_zero (n := n) (fun j hj => h j (by omega)), h n (by omega)]
theorem m_struck {M : MM} {n m : Nat} {cnt : Nat → Bool} {mk : Nat → Nat → Nat} {s k : Nat} {Q : Option Value → MM → Prop} (H : RefV M n m cnt mk) (hs : s < 4) (hk3 : k ≤ 3)
    (kk : ∀ M', Kp M M' [99] → Q (some (.int (nI (wStruck n cnt mk k s)))) M') : Ca 155 [.ref 83, .int (nI s), .int (nI k)] M Q := by
  have hn7 : n ≤ 7 := H.2.2.1
  have hk : q_cd 155 = kd_X9_struck := rfl
  show WP 155 0 [some (.ref 83), some (.int (nI s)), some (.int (nI k)), none, none, none] [] M Q
  repeat (first | refine wp_s hk rfl rfl ?_ | refine wp_goto hk rfl ?_ | refine wp_geti hk rfl rfl rfl rfl ?_ | refine wp_getr hk rfl rfl rfl rfl ?_)
  refine wp_callV hk rfl rfl rfl rfl rfl rfl ?_
  refine m_sort H hs (fun M1 hK hr => ?_)
  have hsn := srt_n (cnt := cnt) (col := fun j => mk j s) (j := n)
  have kk' := kk
  unfold wStruck at kk'
  generalize (srt cnt (fun j => mk j s) n).1 = row at hr kk'
  generalize (srt cnt (fun j => mk j s) n).2 = many at hr hsn kk'
  repeat (first | refine wp_s hk rfl rfl ?_ | refine wp_goto hk rfl ?_ | refine wp_geti hk rfl rfl rfl rfl ?_ | refine wp_getr hk rfl rfl rfl rfl ?_)
  by_cases hkm : k ≤ many
  · have loop := q_dn (n := many - k) (P := fun i => k ≤ i → WP 155 12 [some (.ref 83), some (.int (nI s)), some (.int (nI k)), some (.int (nI many)), some (.int (nI (sumN (fun i => if k ≤ i then row i else 0) i))), some (.int (nI i))] [.int (nI many - nI k), .int (nI i)] M1 Q) (by
      intro hi
      refine wp_icgeN hk rfl rfl (q_nsub hkm) (by first | omega | decide) (by first | omega | decide) (fun _ => ?_) (fun h => absurd h (by omega))
      repeat (first | refine wp_s hk rfl rfl ?_ | refine wp_goto hk rfl ?_ | refine wp_geti hk rfl rfl rfl rfl ?_ | refine wp_getr hk rfl rfl rfl rfl ?_)
      exact wp_ir hk rfl rfl (kk' M1 hK)) (by
      intro i hi ih hki
      refine wp_icgeN hk rfl rfl (q_nsub hkm) (by first | omega | decide) (by first | omega | decide) (fun h => absurd h (by omega)) (fun _ => ?_)
      repeat (first | refine wp_s hk rfl rfl ?_ | refine wp_goto hk rfl ?_ | refine wp_geti hk rfl rfl rfl rfl ?_ | refine wp_getr hk rfl rfl rfl rfl ?_)
      refine wp_ald (jx := i) hk rfl rfl rfl (by omega) ?_
      rw [hr i (by omega)]
      repeat (first | refine wp_s hk rfl rfl ?_ | refine wp_goto hk rfl ?_ | refine wp_geti hk rfl rfl rfl rfl ?_ | refine wp_getr hk rfl rfl rfl rfl ?_)
      rw [q_nadd, q_nadd i 1]
      have := ih (by omega)
      simp only [sumN, if_pos hki] at this
      exact this)
    by_cases hk2 : k ≤ many - k
    · have := loop k hk2 (Nat.le_refl _)
      rw [sumN_zero (fun j hj => by rw [if_neg (by omega)])] at this
      exact this
    · refine wp_icgeN hk rfl rfl (q_nsub hkm) (by first | omega | decide) (by first | omega | decide) (fun _ => ?_) (fun h => absurd h (by omega))
      repeat (first | refine wp_s hk rfl rfl ?_ | refine wp_goto hk rfl ?_ | refine wp_geti hk rfl rfl rfl rfl ?_ | refine wp_getr hk rfl rfl rfl rfl ?_)
      refine wp_ir hk rfl rfl ?_
      have := kk' M1 hK
      rw [sumN_zero (fun j hj => by rw [if_neg (by omega)])] at this
      exact this
  · refine wp_icge hk rfl (fun _ => ?_) (fun h => absurd ?_ h)
    · repeat (first | refine wp_s hk rfl rfl ?_ | refine wp_goto hk rfl ?_ | refine wp_geti hk rfl rfl rfl rfl ?_ | refine wp_getr hk rfl rfl rfl rfl ?_)
      refine wp_ir hk rfl rfl ?_
      have := kk' M1 hK
      rw [show many - k = 0 by omega] at this
      exact this
    · rw [Int32.le_iff_toInt_le, q_dInt (by omega) (by omega), q_toInt (by omega)]; omega
theorem m_middle {M : MM} {n m : Nat} {cnt : Nat → Bool} {mk : Nat → Nat → Nat} {s : Nat} {Q : Option Value → MM → Prop} (H : RefV M n m cnt mk) (hs : s < 4)
    (kk : ∀ M', Kp M M' [99] → Q (some (.int (nI (wMid n cnt mk s)))) M') : Ca 156 [.ref 83, .int (nI s)] M Q := by
  have hn7 : n ≤ 7 := H.2.2.1
  have hk : q_cd 156 = kd_X9_middle := rfl
  show WP 156 0 [some (.ref 83), some (.int (nI s)), none] [] M Q
  repeat (first | refine wp_s hk rfl rfl ?_ | refine wp_goto hk rfl ?_ | refine wp_geti hk rfl rfl rfl rfl ?_ | refine wp_getr hk rfl rfl rfl rfl ?_)
  refine wp_callV hk rfl rfl rfl rfl rfl rfl ?_
  refine m_sort H hs (fun M1 hK hr => ?_)
  have hsn := srt_n (cnt := cnt) (col := fun j => mk j s) (j := n)
  have kk' := kk
  unfold wMid at kk'
  generalize (srt cnt (fun j => mk j s) n).1 = row at hr kk'
  generalize (srt cnt (fun j => mk j s) n).2 = many at hr hsn kk'
  repeat (first | refine wp_s hk rfl rfl ?_ | refine wp_goto hk rfl ?_ | refine wp_geti hk rfl rfl rfl rfl ?_ | refine wp_getr hk rfl rfl rfl rfl ?_)
  refine wp_ifneN hk rfl rfl (by omega) (fun h => ?_) (fun h => ?_)
  · repeat (first | refine wp_s hk rfl rfl ?_ | refine wp_goto hk rfl ?_ | refine wp_geti hk rfl rfl rfl rfl ?_ | refine wp_getr hk rfl rfl rfl rfl ?_)
    rw [q_nsub (show 1 ≤ many by omega)]
    refine wp_div hk rfl (by decide) ?_
    rw [q_ndiv (b := 2) (by omega) (by omega) (by omega)]
    refine wp_ald (jx := (many - 1) / 2) hk rfl rfl rfl (by omega) ?_
    rw [hr _ (by omega)]
    repeat (first | refine wp_s hk rfl rfl ?_ | refine wp_goto hk rfl ?_ | refine wp_geti hk rfl rfl rfl rfl ?_ | refine wp_getr hk rfl rfl rfl rfl ?_)
    refine wp_div hk rfl (by decide) ?_
    rw [q_ndiv (b := 2) (by omega) (by omega) (by omega)]
    refine wp_ald (jx := many / 2) hk rfl rfl rfl (by omega) ?_
    rw [hr _ (by omega)]
    repeat (first | refine wp_s hk rfl rfl ?_ | refine wp_goto hk rfl ?_ | refine wp_geti hk rfl rfl rfl rfl ?_ | refine wp_getr hk rfl rfl rfl rfl ?_)
    rw [q_nadd]
    refine wp_ir hk rfl rfl ?_
    have := kk' M1 hK
    rw [if_neg h] at this
    exact this
  · repeat (first | refine wp_s hk rfl rfl ?_ | refine wp_goto hk rfl ?_ | refine wp_geti hk rfl rfl rfl rfl ?_ | refine wp_getr hk rfl rfl rfl rfl ?_)
    refine wp_ir hk rfl rfl ?_
    have := kk' M1 hK
    rw [if_pos (by omega)] at this
    exact this
theorem q_up1 (a b : Nat) : nI a - nI b + nI 1 = nI (a + 1) - nI b := by rw [← q_nadd]; grind
theorem q_dn1 (a b : Nat) : nI a - nI b + Int32.ofInt (.negSucc 0) = nI a - nI (b + 1) := by
  rw [← q_nadd, show Int32.ofInt (.negSucc 0) = -1 by decide, show nI 1 = 1 by decide]; grind
theorem m_pairs {M : MM} {n m : Nat} {cnt : Nat → Bool} {mk : Nat → Nat → Nat} {s : Nat} {Q : Option Value → MM → Prop} (H : RefV M n m cnt mk) (hs : s < m) (kk : Q (some (.int (nI (wPairs n m cnt mk s)))) M) : Ca 158 [.ref 83, .int (nI s)] M Q := by
  obtain ⟨hn, hm, hn7, hm4, hc, hq, hb⟩ := H
  have hk : q_cd 158 = kd_X9_pairs := rfl
  show WP 158 0 [some (.ref 83), some (.int (nI s)), none, none, none, none, none] [] M Q
  have outer := q_dn (n := m) (P := fun o => ∀ x4 x5 x6, WP 158 7 [some (.ref 83), some (.int (nI s)), some (.int (nI (sumN (fun o => if o = s then 0 else pt (wMore n cnt mk s o) (wMore n cnt mk o s)) o))), some (.int (nI o)), x4, x5, x6] [.int (M 83 2), .int (nI o)] M Q) (by
    intro x4 x5 x6
    refine wp_icgeN hk rfl rfl hm (by first | omega | decide) (by first | omega | decide) (fun _ => ?_) (fun h => absurd h (by omega))
    repeat (first | refine wp_s hk rfl rfl ?_ | refine wp_goto hk rfl ?_ | refine wp_geti hk rfl rfl rfl rfl ?_ | refine wp_getr hk rfl rfl rfl rfl ?_)
    exact wp_ir hk rfl rfl kk) (by
    intro o ho ih x4 x5 x6
    refine wp_icgeN hk rfl rfl hm (by first | omega | decide) (by first | omega | decide) (fun h => absurd h (by omega)) (fun _ => ?_)
    repeat (first | refine wp_s hk rfl rfl ?_ | refine wp_goto hk rfl ?_ | refine wp_geti hk rfl rfl rfl rfl ?_ | refine wp_getr hk rfl rfl rfl rfl ?_)
    have inner := q_dn (n := n) (P := fun j => ∀ x6, WP 158 15 [some (.ref 83), some (.int (nI s)), some (.int (nI (sumN (fun o => if o = s then 0 else pt (wMore n cnt mk s o) (wMore n cnt mk o s)) o))), some (.int (nI o)), some (.int (nI (wMore j cnt mk s o) - nI (wMore j cnt mk o s))), some (.int (nI j)), x6] [.int (M 83 1), .int (nI j)] M Q) (by
      intro x6
      refine wp_icgeN hk rfl rfl hn (by first | omega | decide) (by first | omega | decide) (fun _ => ?_) (fun h => absurd h (by omega))
      have fin : ∀ z : Nat, z = (if o = s then 0 else pt (wMore n cnt mk s o) (wMore n cnt mk o s)) → WP 158 70 [some (.ref 83), some (.int (nI s)), some (.int (nI (sumN (fun o => if o = s then 0 else pt (wMore n cnt mk s o) (wMore n cnt mk o s)) o))), some (.int (nI o)), some (.int (nI (wMore n cnt mk s o) - nI (wMore n cnt mk o s))), some (.int (nI n)), x6] [.int (nI z), .int (nI (sumN (fun o => if o = s then 0 else pt (wMore n cnt mk s o) (wMore n cnt mk o s)) o))] M Q := by
        intro z hz
        repeat (first | refine wp_s hk rfl rfl ?_ | refine wp_goto hk rfl ?_ | refine wp_geti hk rfl rfl rfl rfl ?_ | refine wp_getr hk rfl rfl rfl rfl ?_)
        rw [q_nadd, q_nadd o 1, hz]
        exact ih _ _ _
      have l1 : wMore n cnt mk s o ≤ n * 1 := sumN_le (fun j hj => by split <;> omega)
      have l2 : wMore n cnt mk o s ≤ n * 1 := sumN_le (fun j hj => by split <;> omega)
      generalize wMore n cnt mk s o = p1 at l1 fin ⊢
      generalize wMore n cnt mk o s = p2 at l2 fin ⊢
      repeat (first | refine wp_s hk rfl rfl ?_ | refine wp_goto hk rfl ?_ | refine wp_geti hk rfl rfl rfl rfl ?_ | refine wp_getr hk rfl rfl rfl rfl ?_)
      refine wp_icneN hk rfl rfl rfl (by first | omega | decide) (by first | omega | decide) (fun h => ?_) (fun h => ?_)
      · repeat (first | refine wp_s hk rfl rfl ?_ | refine wp_goto hk rfl ?_ | refine wp_geti hk rfl rfl rfl rfl ?_ | refine wp_getr hk rfl rfl rfl rfl ?_)
        refine wp_ifleD hk rfl rfl (by omega) (by omega) (fun h1 => ?_) (fun h1 => ?_)
        · repeat (first | refine wp_s hk rfl rfl ?_ | refine wp_goto hk rfl ?_ | refine wp_geti hk rfl rfl rfl rfl ?_ | refine wp_getr hk rfl rfl rfl rfl ?_)
          refine wp_ifneD hk rfl rfl (by omega) (by omega) (fun h2 => ?_) (fun h2 => ?_)
          · refine wp_s hk rfl rfl ?_
            exact fin 0 (by simp only [pt]; split <;> (try split) <;> (try split) <;> omega)
          · refine wp_s hk rfl rfl ?_
            refine wp_goto hk rfl ?_
            exact fin 1 (by simp only [pt]; split <;> (try split) <;> (try split) <;> omega)
        · refine wp_s hk rfl rfl ?_
          refine wp_goto hk rfl ?_
          exact fin 2 (by simp only [pt]; split <;> (try split) <;> (try split) <;> omega)
      · refine wp_s hk rfl rfl ?_
        refine wp_goto hk rfl ?_
        exact fin 0 (by rw [if_pos (by omega)])) (by
      intro j hj ihj x6
      refine wp_icgeN hk rfl rfl hn (by first | omega | decide) (by first | omega | decide) (fun h => absurd h (by omega)) (fun _ => ?_)
      repeat (first | refine wp_s hk rfl rfl ?_ | refine wp_goto hk rfl ?_ | refine wp_geti hk rfl rfl rfl rfl ?_ | refine wp_getr hk rfl rfl rfl rfl ?_)
      refine wp_ald (jx := 4 * j + s) hk rfl rfl (by simp only [q_nadd, q_nmul]) (by omega) ?_
      rw [hq j (by omega) s (by omega)]
      repeat (first | refine wp_s hk rfl rfl ?_ | refine wp_goto hk rfl ?_ | refine wp_geti hk rfl rfl rfl rfl ?_ | refine wp_getr hk rfl rfl rfl rfl ?_)
      refine wp_ald (jx := 4 * j + o) hk rfl rfl (by simp only [q_nadd, q_nmul]) (by omega) ?_
      rw [hq j (by omega) o (by omega)]
      have b1 := hb j (by omega) s (by omega)
      have b2 := hb j (by omega) o (by omega)
      repeat (first | refine wp_s hk rfl rfl ?_ | refine wp_goto hk rfl ?_ | refine wp_geti hk rfl rfl rfl rfl ?_ | refine wp_getr hk rfl rfl rfl rfl ?_)
      refine wp_bld (jx := j) hk rfl rfl rfl (by omega) ?_
      have e1 : wMore (j + 1) cnt mk s o = wMore j cnt mk s o + (if cnt j = true ∧ mk j o < mk j s then 1 else 0) := rfl
      have e2 : wMore (j + 1) cnt mk o s = wMore j cnt mk o s + (if cnt j = true ∧ mk j s < mk j o then 1 else 0) := rfl
      rw [e1, e2] at ihj
      refine wp_ifneB hk rfl (hc j (by omega)) (fun h => ?_) (fun h => ?_)
      · simp only [h, true_and] at ihj
        repeat (first | refine wp_s hk rfl rfl ?_ | refine wp_goto hk rfl ?_ | refine wp_geti hk rfl rfl rfl rfl ?_ | refine wp_getr hk rfl rfl rfl rfl ?_)
        refine wp_ifleD hk rfl rfl (by omega) (by omega) (fun h1 => ?_) (fun h1 => ?_)
        · repeat (first | refine wp_s hk rfl rfl ?_ | refine wp_goto hk rfl ?_ | refine wp_geti hk rfl rfl rfl rfl ?_ | refine wp_getr hk rfl rfl rfl rfl ?_)
          refine wp_ifgeD hk rfl rfl (by omega) (by omega) (fun h2 => ?_) (fun h2 => ?_)
          · rw [if_neg (by omega), if_neg (by omega)] at ihj
            repeat (first | refine wp_s hk rfl rfl ?_ | refine wp_goto hk rfl ?_ | refine wp_geti hk rfl rfl rfl rfl ?_ | refine wp_getr hk rfl rfl rfl rfl ?_)
            rw [q_nadd j 1, nI_0, Int32.add_zero]
            exact ihj _
          · rw [if_neg (by omega), if_pos (by omega)] at ihj
            repeat (first | refine wp_s hk rfl rfl ?_ | refine wp_goto hk rfl ?_ | refine wp_geti hk rfl rfl rfl rfl ?_ | refine wp_getr hk rfl rfl rfl rfl ?_)
            rw [q_nadd j 1, q_dn1]
            exact ihj _
        · rw [if_pos (by omega), if_neg (by omega)] at ihj
          repeat (first | refine wp_s hk rfl rfl ?_ | refine wp_goto hk rfl ?_ | refine wp_geti hk rfl rfl rfl rfl ?_ | refine wp_getr hk rfl rfl rfl rfl ?_)
          rw [q_nadd j 1, q_up1]
          exact ihj _
      · simp only [h, Bool.false_eq_true, false_and, if_false] at ihj
        repeat (first | refine wp_s hk rfl rfl ?_ | refine wp_goto hk rfl ?_ | refine wp_geti hk rfl rfl rfl rfl ?_ | refine wp_getr hk rfl rfl rfl rfl ?_)
        rw [q_nadd j 1, nI_0, Int32.add_zero]
        exact ihj _)
    have e0 : nI (wMore 0 cnt mk s o) - nI (wMore 0 cnt mk o s) = nI 0 := by show nI 0 - nI 0 = nI 0; decide
    have hin := inner 0 (Nat.zero_le _) x6
    rw [e0] at hin
    exact hin)
  repeat (first | refine wp_s hk rfl rfl ?_ | refine wp_goto hk rfl ?_ | refine wp_geti hk rfl rfl rfl rfl ?_ | refine wp_getr hk rfl rfl rfl rfl ?_)
  exact outer 0 (Nat.zero_le _) _ _ _
theorem m_weighed {M : MM} {n m : Nat} {cnt : Nat → Bool} {mk : Nat → Nat → Nat} {s at_ : Nat} {fig : Nat → Nat} {Q : Option Value → MM → Prop} (H : RefV M n m cnt mk) (hs : s < 4) (ha : at_ < 12) (hf : ∀ j, j < 7 → M 97 (7 * at_ + j) = nI (fig j)) (kk : Q (some (.int (nI (wWei n cnt mk fig s)))) M) : Ca 159 [.ref 83, .int (nI s), .int (nI at_)] M Q := by
  obtain ⟨hn, hm, hn7, hm4, hc, hq, hb⟩ := H
  have hk : q_cd 159 = kd_X9_weighed := rfl
  show WP 159 0 [some (.ref 83), some (.int (nI s)), some (.int (nI at_)), none, none] [] M Q
  have outer := q_dn (n := n) (P := fun j => WP 159 7 [some (.ref 83), some (.int (nI s)), some (.int (nI at_)), some (.int (nI (wWei j cnt mk fig s))), some (.int (nI j))] [.int (M 83 1), .int (nI j)] M Q) (by
    refine wp_icgeN hk rfl rfl hn (by first | omega | decide) (by first | omega | decide) (fun _ => ?_) (fun h => absurd h (by omega))
    repeat (first | refine wp_s hk rfl rfl ?_ | refine wp_goto hk rfl ?_ | refine wp_geti hk rfl rfl rfl rfl ?_ | refine wp_getr hk rfl rfl rfl rfl ?_)
    exact wp_ir hk rfl rfl kk) (by
    intro j hj ih
    refine wp_icgeN hk rfl rfl hn (by first | omega | decide) (by first | omega | decide) (fun h => absurd h (by omega)) (fun _ => ?_)
    repeat (first | refine wp_s hk rfl rfl ?_ | refine wp_goto hk rfl ?_ | refine wp_geti hk rfl rfl rfl rfl ?_ | refine wp_getr hk rfl rfl rfl rfl ?_)
    refine wp_bld (jx := j) hk rfl rfl rfl (by omega) ?_
    have e1 : wWei (j + 1) cnt mk fig s = wWei j cnt mk fig s + (if cnt j = true then mk j s * fig j else 0) := rfl
    rw [e1] at ih
    refine wp_ifeqB hk rfl (hc j (by omega)) (fun h => ?_) (fun h => ?_)
    · rw [if_neg (by rw [h]; exact Bool.false_ne_true)] at ih
      repeat (first | refine wp_s hk rfl rfl ?_ | refine wp_goto hk rfl ?_ | refine wp_geti hk rfl rfl rfl rfl ?_ | refine wp_getr hk rfl rfl rfl rfl ?_)
      rw [q_nadd j 1, q_nadd]
      exact ih
    · rw [if_pos h] at ih
      repeat (first | refine wp_s hk rfl rfl ?_ | refine wp_goto hk rfl ?_ | refine wp_geti hk rfl rfl rfl rfl ?_ | refine wp_getr hk rfl rfl rfl rfl ?_)
      refine wp_ald (jx := 4 * j + s) hk rfl rfl (by simp only [q_nadd, q_nmul]) (by omega) ?_
      rw [hq j (by omega) s (by omega)]
      repeat (first | refine wp_s hk rfl rfl ?_ | refine wp_goto hk rfl ?_ | refine wp_geti hk rfl rfl rfl rfl ?_ | refine wp_getr hk rfl rfl rfl rfl ?_)
      refine wp_ald (jx := 7 * at_ + j) hk rfl rfl (by simp only [q_nadd, q_nmul]) (by omega) ?_
      rw [hf j (by omega)]
      repeat (first | refine wp_s hk rfl rfl ?_ | refine wp_goto hk rfl ?_ | refine wp_geti hk rfl rfl rfl rfl ?_ | refine wp_getr hk rfl rfl rfl rfl ?_)
      rw [q_nmul, q_nadd j 1, q_nadd]
      exact ih)
  repeat (first | refine wp_s hk rfl rfl ?_ | refine wp_goto hk rfl ?_ | refine wp_geti hk rfl rfl rfl rfl ?_ | refine wp_getr hk rfl rfl rfl rfl ?_)
  exact outer 0 (Nat.zero_le _)
