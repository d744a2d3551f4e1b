def dig (m v s : Nat) : Nat := v / 6 ^ (m - 1 - s) % 6
def mkG (mk : Nat → Nat → Nat) (m j v : Nat) : Nat → Nat → Nat := fun j' s' => if j' = j ∧ s' < m then dig m v s' else mk j' s'
def cntG (cnt : Nat → Bool) (j : Nat) : Nat → Bool := fun j' => if j' = j then true else cnt j'
theorem q_dec2 (t : Nat) : nI t + Int32.ofInt (.negSucc 0) = nI t - nI 1 := by
  rw [show Int32.ofInt (.negSucc 0) = -1 by decide, show nI 1 = 1 by decide]; grind
theorem m_give {M : MM} {n m : Nat} {cnt : Nat → Bool} {mk : Nat → Nat → Nat} {j v : Nat} {Q : Option Value → MM → Prop} (H : RefV M n m cnt mk) (h1 : 1 ≤ m) (hj : j < 7) (hv : v < 2000) (kk : ∀ M', Kp M M' [88, 89] → RefV M' n m (cntG cnt j) (mkG mk m j v) → Q none M') : Ca 170 [.ref 83, .int (nI j), .int (nI v)] M Q := by
  obtain ⟨hn, hm, hn7, hm4, hc, hq, hb⟩ := H
  have hk : q_cd 170 = kd_X9_give := rfl
  show WP 170 0 [some (.ref 83), some (.int (nI j)), some (.int (nI v)), none, none] [] M Q
  have loop : ∀ t, t ≤ m → ∀ M1, Kp M M1 [88, 89] → (∀ j', j' < 7 → M1 89 j' = nI (b2n (cnt j'))) → (∀ j', j' < 7 → ∀ s', s' < 4 → M1 88 (4 * j' + s') = nI (if j' = j ∧ t ≤ s' ∧ s' < m then dig m v s' else mk j' s')) → WP 170 8 [some (.ref 83), some (.int (nI j)), some (.int (nI v)), some (.int (nI (v / 6 ^ (m - t)))), some (.int (nI t - nI 1))] [.int (nI t - nI 1)] M1 Q := by
    intro t
    induction t with
    | zero =>
      intro ht M1 hK hc1 hq1
      refine wp_ifltD (u := 0) (v := 1) hk rfl rfl (by omega) (by omega) (fun _ => ?_) (fun h => absurd h (by omega))
      repeat (first | refine wp_s hk rfl rfl ?_ | refine wp_goto hk rfl ?_ | refine wp_geti hk rfl rfl rfl rfl ?_ | refine wp_getr hk rfl rfl rfl rfl ?_)
      refine wp_bst (jx := j) hk rfl rfl rfl (by omega) (Or.inr (by decide)) ?_
      refine wp_vr hk rfl (kk _ (hK.up (by decide)) ⟨?_, ?_, hn7, hm4, fun j' hj' => ?_, fun j' hj' s' hs' => ?_, fun j' hj' s' hs' => ?_⟩)
      · rw [q_up_ne _ _ (by decide)]; exact (congrFun (hK 83 (by decide)) 1).trans hn
      · rw [q_up_ne _ _ (by decide)]; exact (congrFun (hK 83 (by decide)) 2).trans hm
      · rw [q_up_at]
        by_cases e : j' = j
        · subst e; rw [upd_at]; simp [cntG, b2n]
        · rw [upd_ne _ _ e, hc1 j' hj']; simp [cntG, e]
      · rw [q_up_ne _ _ (by decide), hq1 j' hj' s' hs']
        simp only [mkG, Nat.zero_le, true_and]
      · simp only [mkG]
        split
        · have := Nat.mod_lt (v / 6 ^ (m - 1 - s')) (show 0 < 6 by omega); unfold dig; omega
        · exact hb j' hj' s' hs'
    | succ t ih =>
      intro ht M1 hK hc1 hq1
      refine wp_ifltD (u := t + 1) (v := 1) hk rfl rfl (by omega) (by omega) (fun h => absurd h (by omega)) (fun _ => ?_)
      rw [q_nsub (Nat.le_add_left 1 t), Nat.add_sub_cancel]
      have hlt : v / 6 ^ (m - (t + 1)) < 2000 := Nat.lt_of_le_of_lt (Nat.div_le_self _ _) hv
      repeat (first | refine wp_s hk rfl rfl ?_ | refine wp_goto hk rfl ?_ | refine wp_geti hk rfl rfl rfl rfl ?_ | refine wp_getr hk rfl rfl rfl rfl ?_)
      refine wp_rem hk rfl (by decide) ?_
      rw [q_nrem (b := 6) (by omega) (by omega) (by omega)]
      refine wp_ast (jx := 4 * j + t) hk rfl rfl (by simp only [q_nadd, q_nmul]) (by omega) ?_
      repeat (first | refine wp_s hk rfl rfl ?_ | refine wp_goto hk rfl ?_ | refine wp_geti hk rfl rfl rfl rfl ?_ | refine wp_getr hk rfl rfl rfl rfl ?_)
      refine wp_div hk rfl (by decide) ?_
      rw [q_ndiv (b := 6) (by omega) (by omega) (by omega)]
      repeat (first | refine wp_s hk rfl rfl ?_ | refine wp_goto hk rfl ?_ | refine wp_geti hk rfl rfl rfl rfl ?_ | refine wp_getr hk rfl rfl rfl rfl ?_)
      rw [q_dec2]
      have e6 : v / 6 ^ (m - (t + 1)) / 6 = v / 6 ^ (m - t) := by
        rw [Nat.div_div_eq_div_mul, ← Nat.pow_succ, show (m - (t + 1)).succ = m - t by omega]
      rw [e6]
      refine ih (by omega) _ (hK.up (by decide)) (fun j' hj' => by rw [q_up_ne _ _ (by decide)]; exact hc1 j' hj') (fun j' hj' s' hs' => ?_)
      rw [q_up_at]
      by_cases e : j' = j ∧ s' = t
      · obtain ⟨rfl, rfl⟩ := e
        rw [upd_at, if_pos ⟨rfl, Nat.le_refl _, by omega⟩]
        unfold dig
        rw [show m - 1 - s' = m - (s' + 1) by omega]
      · rw [upd_ne _ _ (by omega), hq1 j' hj' s' hs']
        congr 1
        by_cases e2 : j' = j ∧ t + 1 ≤ s' ∧ s' < m
        · rw [if_pos e2, if_pos (by omega)]
        · rw [if_neg e2, if_neg (by omega)]
  repeat (first | refine wp_s hk rfl rfl ?_ | refine wp_goto hk rfl ?_ | refine wp_geti hk rfl rfl rfl rfl ?_ | refine wp_getr hk rfl rfl rfl rfl ?_)
  rw [hm]
  have := loop m (Nat.le_refl _) M (Kp.rf _ _) hc (fun j' hj' s' hs' => by rw [hq j' hj' s' hs', if_neg (by omega)])
  rw [Nat.sub_self, Nat.pow_zero, Nat.div_one] at this
  exact this
/-- the first least of a row -/
def fbW (pl : Nat → Nat) : Nat → Nat × Nat
  | 0 => (5, 0)
  | v + 1 => if pl v < (fbW pl v).1 then (pl v, v) else fbW pl v
theorem fbW_le {pl : Nat → Nat} : ∀ {v : Nat}, (fbW pl v).1 ≤ 5 ∧ (fbW pl v).2 ≤ v
  | 0 => ⟨Nat.le_refl _, Nat.le_refl _⟩
  | v + 1 => by
    have := fbW_le (pl := pl) (v := v)
    simp only [fbW]
    by_cases h : pl v < (fbW pl v).1
    · rw [if_pos h]; exact ⟨by show pl v ≤ 5; omega, by show v ≤ v + 1; omega⟩
    · rw [if_neg h]; exact ⟨this.1, by omega⟩
/-- a skater's place by a judge's row -/
def plG (n m : Nat) (cnt : Nat → Bool) (mk : Nat → Nat → Nat) (R : Ru) (j v s : Nat) : Nat := placeW (worthW n m (cntG cnt j) (mkG mk m j v) R) R.1 m s
theorem m_rows {m : Nat} (h : m ≤ 4) : 6 ^ m ≤ 1296 := by
  have := Nat.pow_le_pow_right (show 0 < 6 by omega) h
  omega
theorem mkG_mk {mk k1 : Nat → Nat → Nat} {m j v : Nat} (h : ∀ j' s', ¬ (j' = j ∧ s' < m) → k1 j' s' = mk j' s') : mkG k1 m j v = mkG mk m j v := by
  funext j' s'
  simp only [mkG]
  split
  · rfl
  · rename_i e; exact h j' s' e
theorem cntG_c {cnt c1 : Nat → Bool} {j : Nat} (h : ∀ j', j' ≠ j → c1 j' = cnt j') : cntG c1 j = cntG cnt j := by
  funext j'
  simp only [cntG]
  split
  · rfl
  · rename_i e; exact h j' e
theorem m_findBest {M : MM} {V : Vw} {R : Ru} {r j s : Nat} {told : Bool} {Q : Option Value → MM → Prop} (I : RefCard M V) (O : VOK V) (hr : r ≤ 3) (hR : RefRu M r R) (hO : RuOK R) (hj : j < 7) (hs : s < vm V)
    (kk : ∀ M', Kp M M' [88, 89, 98, 99] → Q (some (.int (nI (if told then (fbW (fun v => plG (vn V) (vm V) (vc V) (vk V) R j v s) (6 ^ vm V)).2 else (fbW (fun v => plG (vn V) (vm V) (vc V) (vk V) R j v s) (6 ^ vm V)).1)))) M') :
    Ca 171 [.ref 83, .int (nI r), .int (nI j), .int (nI s), .int (nI (b2n told))] M Q := by
  have ho4 := O.2.2.2.1
  have ho1 := O.2.2.1
  have hrows := m_rows ho4
  have hk : q_cd 171 = kd_X9_findBest := rfl
  show WP 171 0 [some (.ref 83), some (.int (nI r)), some (.int (nI j)), some (.int (nI s)), some (.int (nI (b2n told))), none, none, none, none] [] M Q
  repeat (first | refine wp_s hk rfl rfl ?_ | refine wp_goto hk rfl ?_ | refine wp_geti hk rfl rfl rfl rfl ?_ | refine wp_getr hk rfl rfl rfl rfl ?_)
  refine wp_callV hk rfl rfl rfl rfl rfl rfl ?_
  refine m_take I O (fun M0 K0 V0 => ?_)
  repeat (first | refine wp_s hk rfl rfl ?_ | refine wp_goto hk rfl ?_ | refine wp_geti hk rfl rfl rfl rfl ?_ | refine wp_getr hk rfl rfl rfl rfl ?_)
  have loop := q_dn (n := 6 ^ vm V) (P := fun v => ∀ M1 c1 k1 x8, Kp M M1 [88, 89, 98, 99] → RefV M1 (vn V) (vm V) c1 k1 → (∀ j' s', ¬ (j' = j ∧ s' < vm V) → k1 j' s' = vk V j' s') → (∀ j', j' ≠ j → c1 j' = vc V j') →
      WP 171 11 [some (.ref 83), some (.int (nI r)), some (.int (nI j)), some (.int (nI s)), some (.int (nI (b2n told))), some (.int (nI (fbW (fun v => plG (vn V) (vm V) (vc V) (vk V) R j v s) v).1)), some (.int (nI (fbW (fun v => plG (vn V) (vm V) (vc V) (vk V) R j v s) v).2)), some (.int (nI v)), x8] [.int (nI (6 ^ vm V)), .int (nI v)] M1 Q) (by
    intro M1 c1 k1 x8 K1 V1 hk1 hc1
    refine wp_icgeN hk rfl rfl rfl (by first | omega | decide) (by first | omega | decide) (fun _ => ?_) (fun h => absurd h (by omega))
    repeat (first | refine wp_s hk rfl rfl ?_ | refine wp_goto hk rfl ?_ | refine wp_geti hk rfl rfl rfl rfl ?_ | refine wp_getr hk rfl rfl rfl rfl ?_)
    have := kk M1 K1
    refine wp_ifeqB (u := told) hk rfl rfl (fun h => ?_) (fun h => ?_)
    · subst h
      repeat (first | refine wp_s hk rfl rfl ?_ | refine wp_goto hk rfl ?_ | refine wp_geti hk rfl rfl rfl rfl ?_ | refine wp_getr hk rfl rfl rfl rfl ?_)
      exact wp_ir hk rfl rfl this
    · subst h
      repeat (first | refine wp_s hk rfl rfl ?_ | refine wp_goto hk rfl ?_ | refine wp_geti hk rfl rfl rfl rfl ?_ | refine wp_getr hk rfl rfl rfl rfl ?_)
      exact wp_ir hk rfl rfl this) (by
    intro v hv ih M1 c1 k1 x8 K1 V1 hk1 hc1
    refine wp_icgeN hk rfl rfl rfl (by first | omega | decide) (by first | omega | decide) (fun h => absurd h (by omega)) (fun _ => ?_)
    repeat (first | refine wp_s hk rfl rfl ?_ | refine wp_goto hk rfl ?_ | refine wp_geti hk rfl rfl rfl rfl ?_ | refine wp_getr hk rfl rfl rfl rfl ?_)
    refine wp_callV hk rfl rfl rfl rfl rfl rfl ?_
    refine m_give V1 ho1 hj (by omega) (fun M2 K2 V2 => ?_)
    rw [mkG_mk hk1, cntG_c hc1] at V2
    repeat (first | refine wp_s hk rfl rfl ?_ | refine wp_goto hk rfl ?_ | refine wp_geti hk rfl rfl rfl rfl ?_ | refine wp_getr hk rfl rfl rfl rfl ?_)
    refine wp_callV hk rfl rfl rfl rfl rfl rfl ?_
    have K12 : Kp M M2 [88, 89, 98, 99] := K1.tr (K2.mono (by decide))
    refine m_lay V2 hr (hR.kp K12 (by decide) (by decide) (by decide) (by decide)) hO (fun M3 K3 W3 => ?_)
    have K13 : Kp M M3 [88, 89, 98, 99] := K12.tr (K3.mono (by decide))
    repeat (first | refine wp_s hk rfl rfl ?_ | refine wp_goto hk rfl ?_ | refine wp_geti hk rfl rfl rfl rfl ?_ | refine wp_getr hk rfl rfl rfl rfl ?_)
    refine wp_callV hk rfl rfl rfl rfl rfl rfl ?_
    refine m_placeOf W3 hr hs ?_
    repeat (first | refine wp_s hk rfl rfl ?_ | refine wp_goto hk rfl ?_ | refine wp_geti hk rfl rfl rfl rfl ?_ | refine wp_getr hk rfl rfl rfl rfl ?_)
    have hcards : ∀ x, WP 171 8 x [] M3 Q → WP 171 8 x [] M3 Q := fun _ h => h
    have l1 := (fbW_le (pl := fun v => plG (vn V) (vm V) (vc V) (vk V) R j v s) (v := v)).1
    have l2 := placeW_le (w := worthW (vn V) (vm V) (cntG (vc V) j) (mkG (vk V) (vm V) j v) R) (parts := R.1) (m := vm V) (s := s)
    have ih' := fun x8 => ih M3 (cntG (vc V) j) (mkG (vk V) (vm V) j v) x8 K13 (V2.kp K3 (by decide) (by decide) (by decide)) (fun j' s' h => by simp only [mkG]; rw [if_neg h]) (fun j' h => by simp only [cntG]; rw [if_neg h])
    simp only [fbW] at ih'
    refine wp_icgeN (v := (fbW (fun v => plG (vn V) (vm V) (vc V) (vk V) R j v s) v).1) hk rfl rfl rfl (by omega) (by omega) (fun g => ?_) (fun g => ?_)
    · rw [if_neg (show ¬ plG (vn V) (vm V) (vc V) (vk V) R j v s < _ from Nat.not_lt.mpr g)] at ih'
      repeat (first | refine wp_s hk rfl rfl ?_ | refine wp_goto hk rfl ?_ | refine wp_geti hk rfl rfl rfl rfl ?_ | refine wp_getr hk rfl rfl rfl rfl ?_)
      rw [q_nadd v 1]
      refine wp_callV hk rfl rfl rfl rfl rfl rfl ?_
      refine m_cards (V2.kp K3 (by decide) (by decide) (by decide)).2.1 ho4 ?_
      exact ih' _
    · rw [if_pos (show plG (vn V) (vm V) (vc V) (vk V) R j v s < _ from Nat.lt_of_not_le g)] at ih'
      repeat (first | refine wp_s hk rfl rfl ?_ | refine wp_goto hk rfl ?_ | refine wp_geti hk rfl rfl rfl rfl ?_ | refine wp_getr hk rfl rfl rfl rfl ?_)
      rw [q_nadd v 1]
      refine wp_callV hk rfl rfl rfl rfl rfl rfl ?_
      refine m_cards (V2.kp K3 (by decide) (by decide) (by decide)).2.1 ho4 ?_
      exact ih' _)
  refine wp_callV hk rfl rfl rfl rfl rfl rfl ?_
  refine m_cards V0.2.1 ho4 ?_
  exact loop 0 (Nat.zero_le _) M0 _ _ _ (K0.mono (by decide)) V0 (fun _ _ _ => rfl) (fun _ _ => rfl)
def spFB (S : St) (told : Bool) (a b c : Int32) : Int32 := if isN a 3 && (isN b (vn (sV S)) && isN c (vm (sV S))) then nI (if told then (fbW (fun v => plG (vn (sV S)) (vm (sV S)) (vc (sV S)) (vk (sV S)) (sR S (i2n a)) (i2n b) v (i2n c)) (6 ^ vm (sV S))).2 else (fbW (fun v => plG (vn (sV S)) (vm (sV S)) (vc (sV S)) (vk (sV S)) (sR S (i2n a)) (i2n b) v (i2n c)) (6 ^ vm (sV S))).1) else UNK
theorem m_could {M : MM} {S : St} {a b c : Int32} {Q : Option Value → MM → Prop} (I : RefInv M S) (O : StOK S) (kk : ∀ M', RFr M M' → Q (some (.int (spFB S false a b c))) M') : Ca 172 [.ref 83, .int a, .int b, .int c] M Q := by
  have hk : q_cd 172 = kd_X9_could := rfl
  show WP 172 0 [some (.ref 83), some (.int a), some (.int b), some (.int c)] [] M Q
  have ho4 := O.1.2.2.2.1
  have ho7 := O.1.2.1
  repeat (first | refine wp_s hk rfl rfl ?_ | refine wp_goto hk rfl ?_ | refine wp_geti hk rfl rfl rfl rfl ?_ | refine wp_getr hk rfl rfl rfl rfl ?_)
  refine wp_th hk rfl (fun M0 F0 => ?_)
  have I0 := I.fr O F0
  repeat (first | refine wp_s hk rfl rfl ?_ | refine wp_goto hk rfl ?_ | refine wp_geti hk rfl rfl rfl rfl ?_ | refine wp_getr hk rfl rfl rfl rfl ?_)
  refine wp_callS hk rfl rfl rfl rfl ?_
  refine m_noRule ?_
  refine wp_ifneB (u := !isN a 3) hk rfl rfl (fun h => ?_) (fun h => ?_)
  · have h' : isN a 3 = false := by simpa using h
    repeat (first | refine wp_s hk rfl rfl ?_ | refine wp_goto hk rfl ?_ | refine wp_geti hk rfl rfl rfl rfl ?_ | refine wp_getr hk rfl rfl rfl rfl ?_)
    refine wp_ir hk rfl rfl ?_
    have hkk := kk M0 F0
    simp only [spFB, h', Bool.and_self, Bool.true_and, Bool.and_true, Bool.false_and, Bool.and_false, if_true, Bool.false_eq_true, if_false, Bool.not_true, Bool.not_false] at hkk
    exact hkk
  have h' : isN a 3 = true := by simpa using h
  repeat (first | refine wp_s hk rfl rfl ?_ | refine wp_goto hk rfl ?_ | refine wp_geti hk rfl rfl rfl rfl ?_ | refine wp_getr hk rfl rfl rfl rfl ?_)
  refine wp_callV hk rfl rfl rfl rfl rfl rfl ?_
  refine m_noJudge I0.1.1 O.1.1 ho7 ?_
  refine wp_ifneB (u := !isN b (vn (sV S))) hk rfl rfl (fun g => ?_) (fun g => ?_)
  · have g' : isN b (vn (sV S)) = false := by simpa using g
    repeat (first | refine wp_s hk rfl rfl ?_ | refine wp_goto hk rfl ?_ | refine wp_geti hk rfl rfl rfl rfl ?_ | refine wp_getr hk rfl rfl rfl rfl ?_)
    refine wp_ir hk rfl rfl ?_
    have hkk := kk M0 F0
    simp only [spFB, h', g', Bool.and_self, Bool.true_and, Bool.and_true, Bool.false_and, Bool.and_false, if_true, Bool.false_eq_true, if_false, Bool.not_true, Bool.not_false] at hkk
    exact hkk
  have g' : isN b (vn (sV S)) = true := by simpa using g
  repeat (first | refine wp_s hk rfl rfl ?_ | refine wp_goto hk rfl ?_ | refine wp_geti hk rfl rfl rfl rfl ?_ | refine wp_getr hk rfl rfl rfl rfl ?_)
  refine wp_callV hk rfl rfl rfl rfl rfl rfl ?_
  refine m_noSkater I0.1.2.1 O.1.2.2.1 (by omega) ?_
  refine wp_ifeqB (u := !isN c (vm (sV S))) hk rfl rfl (fun k => ?_) (fun k => ?_)
  · have k' : isN c (vm (sV S)) = true := by simpa using k
    obtain ⟨hr, ea⟩ := i2n_of (by omega) h'
    obtain ⟨hj, eb⟩ := i2n_of (by omega) g'
    obtain ⟨hs, ec⟩ := i2n_of (by omega) k'
    repeat (first | refine wp_s hk rfl rfl ?_ | refine wp_goto hk rfl ?_ | refine wp_geti hk rfl rfl rfl rfl ?_ | refine wp_getr hk rfl rfl rfl rfl ?_)
    rw [ea, eb, ec]
    refine wp_callV hk rfl rfl rfl rfl rfl rfl ?_
    refine m_findBest (told := false) I0.1 O.1 (by omega) (I0.2.2.1.1 _ hr) (O.2.2.1 _ hr) (by omega) hs (fun M1 K1 => ?_)
    refine wp_ir hk rfl rfl ?_
    have hkk := kk M1 (F0.tr (RFr.kp K1))
    simp only [spFB, h', g', k', Bool.and_self, Bool.true_and, Bool.and_true, Bool.false_and, Bool.and_false, if_true, Bool.false_eq_true, if_false, Bool.not_true, Bool.not_false] at hkk
    exact hkk
  · have k' : isN c (vm (sV S)) = false := by simpa using k
    repeat (first | refine wp_s hk rfl rfl ?_ | refine wp_goto hk rfl ?_ | refine wp_geti hk rfl rfl rfl rfl ?_ | refine wp_getr hk rfl rfl rfl rfl ?_)
    refine wp_ir hk rfl rfl ?_
    have hkk := kk M0 F0
    simp only [spFB, h', g', k', Bool.and_self, Bool.true_and, Bool.and_true, Bool.false_and, Bool.and_false, if_true, Bool.false_eq_true, if_false, Bool.not_true, Bool.not_false] at hkk
    exact hkk
theorem m_best {M : MM} {S : St} {a b c : Int32} {Q : Option Value → MM → Prop} (I : RefInv M S) (O : StOK S) (kk : ∀ M', RFr M M' → Q (some (.int (spFB S true a b c))) M') : Ca 173 [.ref 83, .int a, .int b, .int c] M Q := by
  have hk : q_cd 173 = kd_X9_best := rfl
  show WP 173 0 [some (.ref 83), some (.int a), some (.int b), some (.int c)] [] M Q
  have ho4 := O.1.2.2.2.1
  have ho7 := O.1.2.1
  repeat (first | refine wp_s hk rfl rfl ?_ | refine wp_goto hk rfl ?_ | refine wp_geti hk rfl rfl rfl rfl ?_ | refine wp_getr hk rfl rfl rfl rfl ?_)
  refine wp_th hk rfl (fun M0 F0 => ?_)
  have I0 := I.fr O F0
  repeat (first | refine wp_s hk rfl rfl ?_ | refine wp_goto hk rfl ?_ | refine wp_geti hk rfl rfl rfl rfl ?_ | refine wp_getr hk rfl rfl rfl rfl ?_)
  refine wp_callS hk rfl rfl rfl rfl ?_
  refine m_noRule ?_
  refine wp_ifneB (u := !isN a 3) hk rfl rfl (fun h => ?_) (fun h => ?_)
  · have h' : isN a 3 = false := by simpa using h
    repeat (first | refine wp_s hk rfl rfl ?_ | refine wp_goto hk rfl ?_ | refine wp_geti hk rfl rfl rfl rfl ?_ | refine wp_getr hk rfl rfl rfl rfl ?_)
    refine wp_ir hk rfl rfl ?_
    have hkk := kk M0 F0
    simp only [spFB, h', Bool.and_self, Bool.true_and, Bool.and_true, Bool.false_and, Bool.and_false, if_true, Bool.false_eq_true, if_false, Bool.not_true, Bool.not_false] at hkk
    exact hkk
  have h' : isN a 3 = true := by simpa using h
  repeat (first | refine wp_s hk rfl rfl ?_ | refine wp_goto hk rfl ?_ | refine wp_geti hk rfl rfl rfl rfl ?_ | refine wp_getr hk rfl rfl rfl rfl ?_)
  refine wp_callV hk rfl rfl rfl rfl rfl rfl ?_
  refine m_noJudge I0.1.1 O.1.1 ho7 ?_
  refine wp_ifneB (u := !isN b (vn (sV S))) hk rfl rfl (fun g => ?_) (fun g => ?_)
  · have g' : isN b (vn (sV S)) = false := by simpa using g
    repeat (first | refine wp_s hk rfl rfl ?_ | refine wp_goto hk rfl ?_ | refine wp_geti hk rfl rfl rfl rfl ?_ | refine wp_getr hk rfl rfl rfl rfl ?_)
    refine wp_ir hk rfl rfl ?_
    have hkk := kk M0 F0
    simp only [spFB, h', g', Bool.and_self, Bool.true_and, Bool.and_true, Bool.false_and, Bool.and_false, if_true, Bool.false_eq_true, if_false, Bool.not_true, Bool.not_false] at hkk
    exact hkk
  have g' : isN b (vn (sV S)) = true := by simpa using g
  repeat (first | refine wp_s hk rfl rfl ?_ | refine wp_goto hk rfl ?_ | refine wp_geti hk rfl rfl rfl rfl ?_ | refine wp_getr hk rfl rfl rfl rfl ?_)
  refine wp_callV hk rfl rfl rfl rfl rfl rfl ?_
  refine m_noSkater I0.1.2.1 O.1.2.2.1 (by omega) ?_
  refine wp_ifeqB (u := !isN c (vm (sV S))) hk rfl rfl (fun k => ?_) (fun k => ?_)
  · have k' : isN c (vm (sV S)) = true := by simpa using k
    obtain ⟨hr, ea⟩ := i2n_of (by omega) h'
    obtain ⟨hj, eb⟩ := i2n_of (by omega) g'
    obtain ⟨hs, ec⟩ := i2n_of (by omega) k'
    repeat (first | refine wp_s hk rfl rfl ?_ | refine wp_goto hk rfl ?_ | refine wp_geti hk rfl rfl rfl rfl ?_ | refine wp_getr hk rfl rfl rfl rfl ?_)
    rw [ea, eb, ec]
    refine wp_callV hk rfl rfl rfl rfl rfl rfl ?_
    refine m_findBest (told := true) I0.1 O.1 (by omega) (I0.2.2.1.1 _ hr) (O.2.2.1 _ hr) (by omega) hs (fun M1 K1 => ?_)
    refine wp_ir hk rfl rfl ?_
    have hkk := kk M1 (F0.tr (RFr.kp K1))
    simp only [spFB, h', g', k', Bool.and_self, Bool.true_and, Bool.and_true, Bool.false_and, Bool.and_false, if_true, Bool.false_eq_true, if_false, Bool.not_true, Bool.not_false] at hkk
    exact hkk
  · have k' : isN c (vm (sV S)) = false := by simpa using k
    repeat (first | refine wp_s hk rfl rfl ?_ | refine wp_goto hk rfl ?_ | refine wp_geti hk rfl rfl rfl rfl ?_ | refine wp_getr hk rfl rfl rfl rfl ?_)
    refine wp_ir hk rfl rfl ?_
    have hkk := kk M0 F0
    simp only [spFB, h', g', k', Bool.and_self, Bool.true_and, Bool.and_true, Bool.false_and, Bool.and_false, if_true, Bool.false_eq_true, if_false, Bool.not_true, Bool.not_false] at hkk
    exact hkk
