/-! the class's own calls: places -/
section PUB3
variable {M : MM} {S : St} {Q : Option Value → MM → Prop}
theorem k_place {a b : Int32} (I : ClsInv M S) (O : StOK S) (kk : ∀ M', Kp M M' scr → Q (some (.int (spPlace S a b))) M') : Ca 101 [.ref 0, .int a, .int b] M Q := by
  have h4 := O.1.2.2.2.1
  unfold spPlace at kk
  have hk : q_cd 101 = kd_X8_place := rfl
  show WP 101 0 [some (.ref 0), some (.int a), some (.int b)] [] M Q
  have no : (isN a 3 && isN b (vm (sV S))) = false → WP 101 9 [some (.ref 0), some (.int a), some (.int b)] [] M Q := by
    intro h
    rw [h] at kk
    repeat (first | refine wp_s hk rfl rfl ?_ | refine wp_goto hk rfl ?_ | refine wp_geti hk rfl rfl rfl rfl ?_ | refine wp_getr hk rfl rfl rfl rfl ?_)
    exact wp_ir hk rfl rfl (kk M (Kp.rf _ _))
  repeat (first | refine wp_s hk rfl rfl ?_ | refine wp_goto hk rfl ?_ | refine wp_geti hk rfl rfl rfl rfl ?_ | refine wp_getr hk rfl rfl rfl rfl ?_)
  refine wp_callV hk rfl rfl rfl rfl rfl rfl ?_
  refine k_isRule ?_
  refine wp_ifeqB hk rfl rfl (fun h => no (by rw [h]; rfl)) (fun ha => ?_)
  repeat (first | refine wp_s hk rfl rfl ?_ | refine wp_goto hk rfl ?_ | refine wp_geti hk rfl rfl rfl rfl ?_ | refine wp_getr hk rfl rfl rfl rfl ?_)
  refine wp_callV hk rfl rfl rfl rfl rfl rfl ?_
  refine c_hasSkater CSh1 I.1 ?_
  refine wp_ifneB hk rfl rfl (fun hb => ?_) (fun h => no (by rw [h, Bool.and_false]))
  simp only [ha, hb, Bool.and_self, if_true] at kk
  obtain ⟨ha1, ha2⟩ := i2n_of (by omega) ha
  obtain ⟨hb1, hb2⟩ := i2n_of (by omega) hb
  rw [ha2, hb2]
  generalize i2n a = r at ha1 kk ⊢
  generalize i2n b = s at hb1 kk ⊢
  repeat (first | refine wp_s hk rfl rfl ?_ | refine wp_goto hk rfl ?_ | refine wp_geti hk rfl rfl rfl rfl ?_ | refine wp_getr hk rfl rfl rfl rfl ?_)
  refine wp_qld (jx := r) hk rfl rfl rfl rfl (zcs_at r ha1) (by decide) ?_
  repeat (first | refine wp_s hk rfl rfl ?_ | refine wp_goto hk rfl ?_ | refine wp_geti hk rfl rfl rfl rfl ?_ | refine wp_getr hk rfl rfl rfl rfl ?_)
  refine wp_callV hk rfl rfl rfl rfl rfl rfl ?_
  refine t_take CSh1 TSh16 (ZShR r ha1) (by omega) (Or.inr (by omega)) I.1 O.1 (I.2.2.1 r ha1) (O.2.2.1 r ha1) (fun M1 K1 W1 => ?_)
  repeat (first | refine wp_s hk rfl rfl ?_ | refine wp_goto hk rfl ?_ | refine wp_geti hk rfl rfl rfl rfl ?_ | refine wp_getr hk rfl rfl rfl rfl ?_)
  refine wp_callV hk rfl rfl rfl rfl rfl rfl ?_
  refine t_placeOf TSh16 W1 hb1 ?_
  exact wp_ir hk rfl rfl (kk M1 (K1.mono (by decide)))
theorem k_first {a : Int32} (I : ClsInv M S) (O : StOK S) (kk : ∀ M', Kp M M' scr → Q (some (.int (spFirst S a))) M') : Ca 103 [.ref 0, .int a] M Q := by
  unfold spFirst at kk
  have hk : q_cd 103 = kd_X8_first := rfl
  show WP 103 0 [some (.ref 0), some (.int a)] [] M Q
  repeat (first | refine wp_s hk rfl rfl ?_ | refine wp_goto hk rfl ?_ | refine wp_geti hk rfl rfl rfl rfl ?_ | refine wp_getr hk rfl rfl rfl rfl ?_)
  refine wp_callV hk rfl rfl rfl rfl rfl rfl ?_
  refine k_isRule ?_
  refine wp_ifneB hk rfl rfl (fun ha => ?_) (fun h => ?_)
  · rw [if_pos ha] at kk
    obtain ⟨ha1, ha2⟩ := i2n_of (by omega) ha
    rw [ha2]
    generalize i2n a = r at ha1 kk ⊢
    repeat (first | refine wp_s hk rfl rfl ?_ | refine wp_goto hk rfl ?_ | refine wp_geti hk rfl rfl rfl rfl ?_ | refine wp_getr hk rfl rfl rfl rfl ?_)
    refine wp_qld (jx := r) hk rfl rfl rfl rfl (zcs_at r ha1) (by decide) ?_
    repeat (first | refine wp_s hk rfl rfl ?_ | refine wp_goto hk rfl ?_ | refine wp_geti hk rfl rfl rfl rfl ?_ | refine wp_getr hk rfl rfl rfl rfl ?_)
    refine wp_callV hk rfl rfl rfl rfl rfl rfl ?_
    refine t_take CSh1 TSh16 (ZShR r ha1) (by omega) (Or.inr (by omega)) I.1 O.1 (I.2.2.1 r ha1) (O.2.2.1 r ha1) (fun M1 K1 W1 => ?_)
    repeat (first | refine wp_s hk rfl rfl ?_ | refine wp_goto hk rfl ?_ | refine wp_geti hk rfl rfl rfl rfl ?_ | refine wp_getr hk rfl rfl rfl rfl ?_)
    refine wp_callV hk rfl rfl rfl rfl rfl rfl ?_
    refine t_leaders TSh16 W1 ?_
    exact wp_ir hk rfl rfl (kk M1 (K1.mono (by decide)))
  · rw [h] at kk
    repeat (first | refine wp_s hk rfl rfl ?_ | refine wp_goto hk rfl ?_ | refine wp_geti hk rfl rfl rfl rfl ?_ | refine wp_getr hk rfl rfl rfl rfl ?_)
    exact wp_ir hk rfl rfl (kk M (Kp.rf _ _))
theorem k_worth {a b c : Int32} (I : ClsInv M S) (O : StOK S) (kk : ∀ M', Kp M M' scr → Q (some (.int (spWorth S a b c))) M') : Ca 100 [.ref 0, .int a, .int b, .int c] M Q := by
  have h4 := O.1.2.2.2.1
  unfold spWorth at kk
  have hk : q_cd 100 = kd_X8_worth := rfl
  show WP 100 0 [some (.ref 0), some (.int a), some (.int b), some (.int c)] [] M Q
  have no : (isN a 3 && isN b (vm (sV S))) = false → WP 100 9 [some (.ref 0), some (.int a), some (.int b), some (.int c)] [] M Q := by
    intro h
    rw [h] at kk
    repeat (first | refine wp_s hk rfl rfl ?_ | refine wp_goto hk rfl ?_ | refine wp_geti hk rfl rfl rfl rfl ?_ | refine wp_getr hk rfl rfl rfl rfl ?_)
    exact wp_ir hk rfl rfl (kk M (Kp.rf _ _))
  repeat (first | refine wp_s hk rfl rfl ?_ | refine wp_goto hk rfl ?_ | refine wp_geti hk rfl rfl rfl rfl ?_ | refine wp_getr hk rfl rfl rfl rfl ?_)
  refine wp_callV hk rfl rfl rfl rfl rfl rfl ?_
  refine k_isRule ?_
  refine wp_ifeqB hk rfl rfl (fun h => no (by rw [h]; rfl)) (fun ha => ?_)
  repeat (first | refine wp_s hk rfl rfl ?_ | refine wp_goto hk rfl ?_ | refine wp_geti hk rfl rfl rfl rfl ?_ | refine wp_getr hk rfl rfl rfl rfl ?_)
  refine wp_callV hk rfl rfl rfl rfl rfl rfl ?_
  refine c_hasSkater CSh1 I.1 ?_
  refine wp_ifneB hk rfl rfl (fun hb => ?_) (fun h => no (by rw [h, Bool.and_false]))
  simp only [ha, hb, Bool.and_self, if_true] at kk
  obtain ⟨ha1, ha2⟩ := i2n_of (by omega) ha
  obtain ⟨hb1, hb2⟩ := i2n_of (by omega) hb
  rw [ha2, hb2]
  generalize i2n a = r at ha1 kk ⊢
  generalize i2n b = s at hb1 kk ⊢
  have hsh := ZShR r ha1
  have hq1 := hsh.1
  have ho3 := (O.2.2.1 r ha1).2.1
  repeat (first | refine wp_s hk rfl rfl ?_ | refine wp_goto hk rfl ?_ | refine wp_geti hk rfl rfl rfl rfl ?_ | refine wp_getr hk rfl rfl rfl rfl ?_)
  refine wp_qld (jx := r) hk rfl rfl rfl rfl (zcs_at r ha1) (by decide) ?_
  repeat (first | refine wp_s hk rfl rfl ?_ | refine wp_goto hk rfl ?_ | refine wp_geti hk rfl rfl rfl rfl ?_ | refine wp_getr hk rfl rfl rfl rfl ?_)
  refine wp_callV hk rfl rfl rfl rfl hq1 rfl ?_
  refine z_hasPart hsh (I.2.2.1 r ha1) ?_
  refine wp_ifneB hk rfl rfl (fun hc => ?_) (fun h => ?_)
  · rw [if_pos hc] at kk
    obtain ⟨hc1, hc2⟩ := i2n_of (by omega) hc
    rw [hc2]
    generalize i2n c = i at hc1 kk ⊢
    repeat (first | refine wp_s hk rfl rfl ?_ | refine wp_goto hk rfl ?_ | refine wp_geti hk rfl rfl rfl rfl ?_ | refine wp_getr hk rfl rfl rfl rfl ?_)
    refine wp_qld (jx := r) hk rfl rfl rfl rfl (zcs_at r ha1) (by decide) ?_
    repeat (first | refine wp_s hk rfl rfl ?_ | refine wp_goto hk rfl ?_ | refine wp_geti hk rfl rfl rfl rfl ?_ | refine wp_getr hk rfl rfl rfl rfl ?_)
    refine wp_callV hk rfl rfl rfl rfl rfl rfl ?_
    refine t_take CSh1 TSh16 hsh (by omega) (Or.inr (by omega)) I.1 O.1 (I.2.2.1 r ha1) (O.2.2.1 r ha1) (fun M1 K1 W1 => ?_)
    repeat (first | refine wp_s hk rfl rfl ?_ | refine wp_goto hk rfl ?_ | refine wp_geti hk rfl rfl rfl rfl ?_ | refine wp_getr hk rfl rfl rfl rfl ?_)
    refine wp_callV hk rfl rfl rfl rfl rfl rfl ?_
    refine t_worthOf TSh16 W1 hc1 hb1 ?_
    exact wp_ir hk rfl rfl (kk M1 (K1.mono (by decide)))
  · rw [h] at kk
    repeat (first | refine wp_s hk rfl rfl ?_ | refine wp_goto hk rfl ?_ | refine wp_geti hk rfl rfl rfl rfl ?_ | refine wp_getr hk rfl rfl rfl rfl ?_)
    exact wp_ir hk rfl rfl (kk M (Kp.rf _ _))
theorem b2n_inj {a b : Bool} : b2n a = b2n b ↔ a = b := by cases a <;> cases b <;> decide
theorem b2n_le (a : Bool) : b2n a ≤ 1 := by cases a <;> decide
theorem sgW_eq {a b c d : Bool} (h1 : ¬ (a = true ∧ b = true)) (h2 : ¬ (c = true ∧ d = true)) : sgW a b = sgW c d ↔ (a = c ∧ b = d) := by
  cases a <;> cases b <;> cases c <;> cases d <;> first | (exfalso; exact h1 ⟨rfl, rfl⟩) | (exfalso; exact h2 ⟨rfl, rfl⟩) | decide
/-- pairs below m with a before b -/
def upW (h : Nat → Nat → Nat) (m a : Nat) : Nat := sumN (fun b => if a < b then h a b else 0) m
theorem upW_sum {h : Nat → Nat → Nat} : ∀ m, m ≤ 4 → sumN (upW h m) m = sumN (fun a => sumN (fun b => h b a) a) m := by
  intro m hm
  have hc : m = 0 ∨ m = 1 ∨ m = 2 ∨ m = 3 ∨ m = 4 := by omega
  rcases hc with rfl | rfl | rfl | rfl | rfl <;> simp [sumN, upW] <;> omega
theorem apW_eq {f g : Nat → Nat → Int32} {h : Nat → Nat → Nat} {m : Nat} (hm : m ≤ 4) (e : ∀ a b, a < b → b < m → h a b = if f b a = g b a then 0 else 1) : sumN (upW h m) m = apW f g m := by
  rw [upW_sum m hm]
  unfold apW
  refine sumN_congr (fun a ha => sumN_congr (fun b hb => e b a hb ha))
theorem k_apart {a b : Int32} (I : ClsInv M S) (O : StOK S) (kk : ∀ M', Kp M M' scr → Q (some (.int (spApart S a b))) M') : Ca 104 [.ref 0, .int a, .int b] M Q := by
  have h4 := O.1.2.2.2.1
  unfold spApart at kk
  have hk : q_cd 104 = kd_X8_apart := rfl
  show WP 104 0 [some (.ref 0), some (.int a), some (.int b), none, none, none] [] M Q
  have no : (isN a 3 && isN b 3) = false → WP 104 8 [some (.ref 0), some (.int a), some (.int b), none, none, none] [] M Q := by
    intro h
    rw [h] at kk
    repeat (first | refine wp_s hk rfl rfl ?_ | refine wp_goto hk rfl ?_ | refine wp_geti hk rfl rfl rfl rfl ?_ | refine wp_getr hk rfl rfl rfl rfl ?_)
    exact wp_ir hk rfl rfl (kk M (Kp.rf _ _))
  repeat (first | refine wp_s hk rfl rfl ?_ | refine wp_goto hk rfl ?_ | refine wp_geti hk rfl rfl rfl rfl ?_ | refine wp_getr hk rfl rfl rfl rfl ?_)
  refine wp_callV hk rfl rfl rfl rfl rfl rfl ?_
  refine k_isRule ?_
  refine wp_ifeqB hk rfl rfl (fun h => no (by rw [h]; rfl)) (fun ha => ?_)
  repeat (first | refine wp_s hk rfl rfl ?_ | refine wp_goto hk rfl ?_ | refine wp_geti hk rfl rfl rfl rfl ?_ | refine wp_getr hk rfl rfl rfl rfl ?_)
  refine wp_callV hk rfl rfl rfl rfl rfl rfl ?_
  refine k_isRule ?_
  refine wp_ifneB hk rfl rfl (fun hb => ?_) (fun h => no (by rw [h, Bool.and_false]))
  simp only [ha, hb, Bool.and_self, if_true] at kk
  obtain ⟨ha1, ha2⟩ := i2n_of (by omega) ha
  obtain ⟨hb1, hb2⟩ := i2n_of (by omega) hb
  rw [ha2, hb2]
  generalize i2n a = r at ha1 kk ⊢
  generalize i2n b = s at hb1 kk ⊢
  repeat (first | refine wp_s hk rfl rfl ?_ | refine wp_goto hk rfl ?_ | refine wp_geti hk rfl rfl rfl rfl ?_ | refine wp_getr hk rfl rfl rfl rfl ?_)
  refine wp_qld (jx := r) hk rfl rfl rfl rfl (zcs_at r ha1) (by decide) ?_
  repeat (first | refine wp_s hk rfl rfl ?_ | refine wp_goto hk rfl ?_ | refine wp_geti hk rfl rfl rfl rfl ?_ | refine wp_getr hk rfl rfl rfl rfl ?_)
  refine wp_callV hk rfl rfl rfl rfl rfl rfl ?_
  refine t_take CSh1 TSh16 (ZShR r ha1) (by omega) (Or.inr (by omega)) I.1 O.1 (I.2.2.1 r ha1) (O.2.2.1 r ha1) (fun M1 K1 W1 => ?_)
  have I1 := I.kp O (K1.mono (by decide))
  repeat (first | refine wp_s hk rfl rfl ?_ | refine wp_goto hk rfl ?_ | refine wp_geti hk rfl rfl rfl rfl ?_ | refine wp_getr hk rfl rfl rfl rfl ?_)
  refine wp_qld (jx := s) hk rfl rfl rfl rfl (zcs_at s hb1) (by decide) ?_
  repeat (first | refine wp_s hk rfl rfl ?_ | refine wp_goto hk rfl ?_ | refine wp_geti hk rfl rfl rfl rfl ?_ | refine wp_getr hk rfl rfl rfl rfl ?_)
  refine wp_callV hk rfl rfl rfl rfl rfl rfl ?_
  refine t_take CSh1 TSh20 (ZShR s hb1) (by omega) (Or.inr (by omega)) I1.1 O.1 (I1.2.2.1 s hb1) (O.2.2.1 s hb1) (fun M2 K2 W2 => ?_)
  have I2 := I1.kp O (K2.mono (by decide))
  have V1 := W1.kp K2 (by decide) (by decide)
  have hM2 := kk M2 ((K1.mono (by decide)).tr (K2.mono (by decide)))
  obtain ⟨hh, hhd⟩ : ∃ h : Nat → Nat → Nat, h = fun x y => if sgR (sV S) (sR S r) y x = sgR (sV S) (sR S s) y x then 0 else 1 := ⟨_, rfl⟩
  rw [← apW_eq (h := hh) h4 (fun x y _ _ => by rw [hhd])] at hM2
  have outer := q_dn (n := vm (sV S)) (P := fun x => ∀ x5, WP 104 32 [some (.ref 0), some (.int (nI r)), some (.int (nI s)), some (.int (nI (sumN (upW hh (vm (sV S))) x))), some (.int (nI x)), x5] [] M2 Q) (by
    intro x5
    repeat (first | refine wp_s hk rfl rfl ?_ | refine wp_goto hk rfl ?_ | refine wp_geti hk rfl rfl rfl rfl ?_ | refine wp_getr hk rfl rfl rfl rfl ?_)
    refine wp_callV hk rfl rfl rfl rfl rfl rfl ?_
    refine c_skaters CSh1 I2.1 ?_
    refine wp_icgeN (u := vm (sV S)) (v := vm (sV S)) hk rfl rfl rfl (by omega) (by omega) (fun _ => ?_) (fun h => absurd h (by omega))
    repeat (first | refine wp_s hk rfl rfl ?_ | refine wp_goto hk rfl ?_ | refine wp_geti hk rfl rfl rfl rfl ?_ | refine wp_getr hk rfl rfl rfl rfl ?_)
    exact wp_ir hk rfl rfl hM2) (by
    intro x hx ih x5
    rw [show sumN (upW hh (vm (sV S))) (x + 1) = sumN (upW hh (vm (sV S))) x + upW hh (vm (sV S)) x from rfl] at ih
    generalize sumN (upW hh (vm (sV S))) x = A at ih ⊢
    have inner := q_dn (n := vm (sV S)) (P := fun y => x < y → WP 104 41 [some (.ref 0), some (.int (nI r)), some (.int (nI s)), some (.int (nI (A + sumN (fun b => if x < b then hh x b else 0) y))), some (.int (nI x)), some (.int (nI y))] [] M2 Q) (by
      intro _
      repeat (first | refine wp_s hk rfl rfl ?_ | refine wp_goto hk rfl ?_ | refine wp_geti hk rfl rfl rfl rfl ?_ | refine wp_getr hk rfl rfl rfl rfl ?_)
      refine wp_callV hk rfl rfl rfl rfl rfl rfl ?_
      refine c_skaters CSh1 I2.1 ?_
      refine wp_icgeN (u := vm (sV S)) (v := vm (sV S)) hk rfl rfl rfl (by omega) (by omega) (fun _ => ?_) (fun h => absurd h (by omega))
      refine wp_s hk rfl rfl ?_
      refine wp_goto hk rfl ?_
      rw [q_nadd x 1]
      exact ih _) (by
      intro y hy ihy hxy
      rw [show sumN (fun b => if x < b then hh x b else 0) (y + 1) = sumN (fun b => if x < b then hh x b else 0) y + (if x < y then hh x y else 0) from rfl, if_pos hxy, ← Nat.add_assoc] at ihy
      generalize A + sumN (fun b => if x < b then hh x b else 0) y = B at ihy ⊢
      have n1 : ∀ (R : Ru) (u v : Nat), ¬ (aheadW (wS (sV S) R) u v 0 R.1 = true ∧ aheadW (wS (sV S) R) v u 0 R.1 = true) := fun R u v z => by
        have := aheadW_irr z.1
        rw [z.2] at this
        cases this
      have hq : hh x y = if (aheadW (wS (sV S) (sR S r)) x y 0 (sR S r).1 = aheadW (wS (sV S) (sR S s)) x y 0 (sR S s).1 ∧ aheadW (wS (sV S) (sR S r)) y x 0 (sR S r).1 = aheadW (wS (sV S) (sR S s)) y x 0 (sR S s).1) then 0 else 1 := by
        rw [hhd]
        show (if sgR (sV S) (sR S r) y x = sgR (sV S) (sR S s) y x then 0 else 1) = _
        unfold sgR
        by_cases e : aheadW (wS (sV S) (sR S r)) x y 0 (sR S r).1 = aheadW (wS (sV S) (sR S s)) x y 0 (sR S s).1 ∧ aheadW (wS (sV S) (sR S r)) y x 0 (sR S r).1 = aheadW (wS (sV S) (sR S s)) y x 0 (sR S s).1
        · rw [if_pos e, if_pos ((sgW_eq (n1 _ _ _) (n1 _ _ _)).mpr ⟨e.2, e.1⟩)]
        · rw [if_neg e, if_neg (fun z => e (by have := (sgW_eq (n1 _ _ _) (n1 _ _ _)).mp z; exact ⟨this.2, this.1⟩))]
      have yes : ¬ (aheadW (wS (sV S) (sR S r)) x y 0 (sR S r).1 = aheadW (wS (sV S) (sR S s)) x y 0 (sR S s).1 ∧ aheadW (wS (sV S) (sR S r)) y x 0 (sR S r).1 = aheadW (wS (sV S) (sR S s)) y x 0 (sR S s).1) → WP 104 68 [some (.ref 0), some (.int (nI r)), some (.int (nI s)), some (.int (nI B)), some (.int (nI x)), some (.int (nI y))] [] M2 Q := by
        intro e
        rw [hq, if_neg e] at ihy
        refine wp_s hk rfl rfl ?_
        refine wp_s hk rfl rfl ?_
        refine wp_goto hk rfl ?_
        rw [q_nadd y 1, q_nadd B 1]
        exact ihy (by omega)
      repeat (first | refine wp_s hk rfl rfl ?_ | refine wp_goto hk rfl ?_ | refine wp_geti hk rfl rfl rfl rfl ?_ | refine wp_getr hk rfl rfl rfl rfl ?_)
      refine wp_callV hk rfl rfl rfl rfl rfl rfl ?_
      refine c_skaters CSh1 I2.1 ?_
      refine wp_icgeN (u := y) (v := vm (sV S)) hk rfl rfl rfl (by omega) (by omega) (fun h => absurd h (by omega)) (fun _ => ?_)
      repeat (first | refine wp_s hk rfl rfl ?_ | refine wp_goto hk rfl ?_ | refine wp_geti hk rfl rfl rfl rfl ?_ | refine wp_getr hk rfl rfl rfl rfl ?_)
      refine wp_callV hk rfl rfl rfl rfl rfl rfl ?_
      refine t_ahead TSh16 V1 hx hy ?_
      repeat (first | refine wp_s hk rfl rfl ?_ | refine wp_goto hk rfl ?_ | refine wp_geti hk rfl rfl rfl rfl ?_ | refine wp_getr hk rfl rfl rfl rfl ?_)
      refine wp_callV hk rfl rfl rfl rfl rfl rfl ?_
      refine t_ahead TSh20 W2 hx hy ?_
      have bl := b2n_le
      refine wp_icneN hk rfl rfl rfl (by have := bl (aheadW (wS (sV S) (sR S r)) x y 0 (sR S r).1); exact Nat.lt_of_le_of_lt this (by omega)) (by have := bl (aheadW (wS (sV S) (sR S s)) x y 0 (sR S s).1); exact Nat.lt_of_le_of_lt this (by omega)) (fun h => yes (fun z => h (b2n_inj.mpr z.1))) (fun h => ?_)
      have h1 := b2n_inj.mp (Classical.not_not.mp h)
      repeat (first | refine wp_s hk rfl rfl ?_ | refine wp_goto hk rfl ?_ | refine wp_geti hk rfl rfl rfl rfl ?_ | refine wp_getr hk rfl rfl rfl rfl ?_)
      refine wp_callV hk rfl rfl rfl rfl rfl rfl ?_
      refine t_ahead TSh16 V1 hy hx ?_
      repeat (first | refine wp_s hk rfl rfl ?_ | refine wp_goto hk rfl ?_ | refine wp_geti hk rfl rfl rfl rfl ?_ | refine wp_getr hk rfl rfl rfl rfl ?_)
      refine wp_callV hk rfl rfl rfl rfl rfl rfl ?_
      refine t_ahead TSh20 W2 hy hx ?_
      refine wp_iceqN hk rfl rfl rfl (by have := bl (aheadW (wS (sV S) (sR S r)) y x 0 (sR S r).1); exact Nat.lt_of_le_of_lt this (by omega)) (by have := bl (aheadW (wS (sV S) (sR S s)) y x 0 (sR S s).1); exact Nat.lt_of_le_of_lt this (by omega)) (fun h => ?_) (fun h => yes (fun z => h (b2n_inj.mpr z.2)))
      rw [hq, if_pos ⟨h1, b2n_inj.mp h⟩, Nat.add_zero] at ihy
      refine wp_s hk rfl rfl ?_
      refine wp_goto hk rfl ?_
      rw [q_nadd y 1]
      exact ihy (by omega))
    repeat (first | refine wp_s hk rfl rfl ?_ | refine wp_goto hk rfl ?_ | refine wp_geti hk rfl rfl rfl rfl ?_ | refine wp_getr hk rfl rfl rfl rfl ?_)
    refine wp_callV hk rfl rfl rfl rfl rfl rfl ?_
    refine c_skaters CSh1 I2.1 ?_
    refine wp_icgeN (u := x) (v := vm (sV S)) hk rfl rfl rfl (by omega) (by omega) (fun h => absurd h (by omega)) (fun _ => ?_)
    refine wp_s hk rfl rfl ?_
    refine wp_s hk rfl rfl ?_
    refine wp_s hk rfl rfl ?_
    refine wp_s hk rfl rfl ?_
    rw [q_nadd x 1]
    have h0 : sumN (fun b => if x < b then hh x b else 0) (x + 1) = 0 := sumN_zero (fun b hb => if_neg (by omega))
    have := inner (x + 1) (by omega) (by omega)
    rw [h0, Nat.add_zero] at this
    exact this)
  refine wp_s hk rfl rfl ?_
  refine wp_s hk rfl rfl ?_
  refine wp_s hk rfl rfl ?_
  refine wp_s hk rfl rfl ?_
  exact outer 0 (Nat.zero_le _) _
end PUB3
