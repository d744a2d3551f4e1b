/-- what the reference's own table of marks and of who counts holds -/
def RefV (M : MM) (n m : Nat) (cnt : Nat → Bool) (mk : Nat → Nat → Nat) : Prop := M 83 1 = nI n ∧ M 83 2 = nI m ∧ n ≤ 7 ∧ m ≤ 4 ∧ (∀ j, j < 7 → M 89 j = nI (b2n (cnt j))) ∧ (∀ j, j < 7 → ∀ s, s < 4 → M 88 (4 * j + s) = nI (mk j s)) ∧ ∀ j, j < 7 → ∀ s, s < 4 → mk j s ≤ 5
theorem m_ranks {M : MM} {n m : Nat} {cnt : Nat → Bool} {mk : Nat → Nat → Nat} {s : Nat} {Q : Option Value → MM → Prop} (H : RefV M n m cnt mk) (hs : s < m) (kk : Q (some (.int (nI (wRanks n m cnt mk s)))) M) : Ca 157 [.ref 83, .int (nI s)] M Q := by
  obtain ⟨hn, hm, hn7, hm4, hc, hq, hb⟩ := H
  have hk : q_cd 157 = kd_X9_ranks := rfl
  show WP 157 0 [some (.ref 83), some (.int (nI s)), none, none, none, none] [] M Q
  have inner : ∀ j, j < n → cnt j = true → ∀ acc0, (∀ acc x5, acc = nI (acc0 + sumN (fun o => if o = s then 0 else pt (mk j s) (mk j o)) m) → WP 157 56 [some (.ref 83), some (.int (nI s)), some (.int acc), some (.int (nI j)), some (.int (nI m)), x5] [] M Q) →
      ∀ d o acc x5, o + d = m → acc = nI (acc0 + sumN (fun o => if o = s then 0 else pt (mk j s) (mk j o)) o) → WP 157 13 [some (.ref 83), some (.int (nI s)), some (.int acc), some (.int (nI j)), some (.int (nI o)), x5] [.int (M 83 2), .int (nI o)] M Q := by
    intro j hj hcj acc0 kx d
    induction d with
    | zero =>
      intro o acc x5 ho ha
      obtain rfl : o = m := by omega
      exact wp_icgeN hk rfl rfl hm (by first | omega | decide) (by first | omega | decide) (fun _ => kx _ _ ha) (fun h => absurd (Nat.le_refl o) h)
    | succ d ih =>
      intro o acc x5 ho ha
      refine wp_icgeN hk rfl rfl hm (by first | omega | decide) (by first | omega | decide) (fun h => absurd h (by omega)) (fun _ => ?_)
      repeat (first | refine wp_s hk rfl rfl ?_ | refine wp_goto hk rfl ?_ | refine wp_geti hk rfl rfl rfl rfl ?_ | refine wp_getr hk rfl rfl rfl rfl ?_)
      refine wp_bld hk rfl rfl rfl (by omega) ?_
      refine wp_ifeqB hk rfl (hc j (by omega)) (fun h => by rw [hcj] at h; cases h) (fun _ => ?_)
      repeat (first | refine wp_s hk rfl rfl ?_ | refine wp_goto hk rfl ?_ | refine wp_geti hk rfl rfl rfl rfl ?_ | refine wp_getr hk rfl rfl rfl rfl ?_)
      refine wp_ald (jx := 4 * j + s) hk rfl rfl (by simp only [q_nadd, q_nmul]) (by omega) ?_
      rw [hq j (by omega) s (by omega)]
      repeat (first | refine wp_s hk rfl rfl ?_ | refine wp_goto hk rfl ?_ | refine wp_geti hk rfl rfl rfl rfl ?_ | refine wp_getr hk rfl rfl rfl rfl ?_)
      refine wp_ald (jx := 4 * j + o) hk rfl rfl (by simp only [q_nadd, q_nmul]) (by omega) ?_
      rw [hq j (by omega) o (by omega)]
      have b1 := hb j (by omega) s (by omega)
      have b2 := hb j (by omega) o (by omega)
      have fin : ∀ z : Nat, z = (if o = s then 0 else pt (mk j s) (mk j o)) → ∀ x5, WP 157 52 [some (.ref 83), some (.int (nI s)), some (.int acc), some (.int (nI j)), some (.int (nI o)), x5] [.int (nI z), .int acc] M Q := by
        intro z hz x5
        repeat (first | refine wp_s hk rfl rfl ?_ | refine wp_goto hk rfl ?_ | refine wp_geti hk rfl rfl rfl rfl ?_ | refine wp_getr hk rfl rfl rfl rfl ?_)
        rw [q_nadd o 1]
        refine ih (o + 1) _ _ (by omega) ?_
        rw [ha, q_nadd, hz]
        simp only [sumN]
        rw [Nat.add_assoc]
      repeat (first | refine wp_s hk rfl rfl ?_ | refine wp_goto hk rfl ?_ | refine wp_geti hk rfl rfl rfl rfl ?_ | refine wp_getr hk rfl rfl rfl rfl ?_)
      refine wp_icneN hk rfl rfl rfl (by first | omega | decide) (by first | omega | decide) (fun h => ?_) (fun h => ?_)
      · repeat (first | refine wp_s hk rfl rfl ?_ | refine wp_goto hk rfl ?_ | refine wp_geti hk rfl rfl rfl rfl ?_ | refine wp_getr hk rfl rfl rfl rfl ?_)
        refine wp_ifleD hk rfl rfl (by first | omega | decide) (by first | omega | decide) (fun h1 => ?_) (fun h1 => ?_)
        · repeat (first | refine wp_s hk rfl rfl ?_ | refine wp_goto hk rfl ?_ | refine wp_geti hk rfl rfl rfl rfl ?_ | refine wp_getr hk rfl rfl rfl rfl ?_)
          refine wp_ifneD hk rfl rfl (by first | omega | decide) (by first | omega | decide) (fun h2 => ?_) (fun h2 => ?_)
          · refine wp_s hk rfl rfl ?_
            exact fin 0 (by simp only [pt]; split <;> (try split) <;> (try split) <;> omega) _
          · refine wp_s hk rfl rfl ?_
            refine wp_goto hk rfl ?_
            exact fin 1 (by simp only [pt]; split <;> (try split) <;> (try split) <;> omega) _
        · refine wp_s hk rfl rfl ?_
          refine wp_goto hk rfl ?_
          exact fin 2 (by simp only [pt]; split <;> (try split) <;> (try split) <;> omega) _
      · refine wp_s hk rfl rfl ?_
        refine wp_goto hk rfl ?_
        exact fin 0 (by rw [if_pos (by omega)]) _
  have outer : ∀ d j acc x4 x5, j + d = n → acc = nI (sumN (fun j => if cnt j then sumN (fun o => if o = s then 0 else pt (mk j s) (mk j o)) m else 0) j) → WP 157 7 [some (.ref 83), some (.int (nI s)), some (.int acc), some (.int (nI j)), x4, x5] [.int (M 83 1), .int (nI j)] M Q := by
    intro d
    induction d with
    | zero =>
      intro j acc x4 x5 hj ha
      refine wp_icgeN hk rfl rfl hn (by first | omega | decide) (by first | omega | decide) (fun _ => ?_) (fun h => absurd h (by omega))
      repeat (first | refine wp_s hk rfl rfl ?_ | refine wp_goto hk rfl ?_ | refine wp_geti hk rfl rfl rfl rfl ?_ | refine wp_getr hk rfl rfl rfl rfl ?_)
      refine wp_ir hk rfl rfl ?_
      rw [ha, show j = n by omega]
      exact kk
    | succ d ih =>
      intro j acc x4 x5 hj ha
      refine wp_icgeN hk rfl rfl hn (by first | omega | decide) (by first | omega | decide) (fun h => absurd h (by omega)) (fun _ => ?_)
      repeat (first | refine wp_s hk rfl rfl ?_ | refine wp_goto hk rfl ?_ | refine wp_geti hk rfl rfl rfl rfl ?_ | refine wp_getr hk rfl rfl rfl rfl ?_)
      have nextj : ∀ acc x4 x5, acc = nI (sumN (fun j => if cnt j then sumN (fun o => if o = s then 0 else pt (mk j s) (mk j o)) m else 0) (j + 1)) → WP 157 56 [some (.ref 83), some (.int (nI s)), some (.int acc), some (.int (nI j)), x4, x5] [] M Q := by
        intro acc x4 x5 ha
        repeat (first | refine wp_s hk rfl rfl ?_ | refine wp_goto hk rfl ?_ | refine wp_geti hk rfl rfl rfl rfl ?_ | refine wp_getr hk rfl rfl rfl rfl ?_)
        rw [q_nadd j 1]
        exact ih (j + 1) _ _ _ (by omega) ha
      cases hcj : cnt j with
      | true =>
        refine inner j (by omega) hcj _ (fun acc' x5 h' => nextj _ _ _ ?_) m 0 _ _ (by omega) ha
        rw [h']
        simp only [sumN, hcj, if_pos]
      | false =>
        refine wp_icgeN hk rfl rfl hm (by first | omega | decide) (by first | omega | decide) (fun h => ?_) (fun _ => ?_)
        · exact nextj _ _ _ (by rw [ha]; simp [sumN, hcj])
        · repeat (first | refine wp_s hk rfl rfl ?_ | refine wp_goto hk rfl ?_ | refine wp_geti hk rfl rfl rfl rfl ?_ | refine wp_getr hk rfl rfl rfl rfl ?_)
          refine wp_bld hk rfl rfl rfl (by omega) ?_
          refine wp_ifeqB hk rfl (hc j (by omega)) (fun h => ?_) (fun h => by rw [hcj] at h; cases h)
          exact nextj _ _ _ (by rw [ha]; simp [sumN, hcj])
  repeat (first | refine wp_s hk rfl rfl ?_ | refine wp_goto hk rfl ?_ | refine wp_geti hk rfl rfl rfl rfl ?_ | refine wp_getr hk rfl rfl rfl rfl ?_)
  exact outer n 0 _ _ _ (by omega) rfl
