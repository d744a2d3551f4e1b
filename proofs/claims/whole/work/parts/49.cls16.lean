/-! the class's reach: its tables, a worth, a place -/
def RchIs (M : MM) (V : Vw) (R : Ru) (j : Nat) : Prop := M 24 6 = nI R.1 ∧ M 24 7 = nI (vm V) ∧ M 27 4 = nI (vm V) ∧ (∀ p, p < R.1 → M 33 p = nI (b2n (prd (R.2.1 p)))) ∧ (∀ p, p < R.1 → ∀ s, s < vm V → ∀ d, d < 6 → M 31 (24 * p + 6 * s + d) = nI (rA V R j p s d)) ∧ ∀ p, p < R.1 → prd (R.2.1 p) = true → ∀ s, s < vm V → ∀ o, o < vm V → ∀ x, x < 3 → M 32 (48 * p + 12 * s + 3 * o + x) = nI (rB V R j p s o x)
section REACH
variable {M : MM} {V : Vw} {R : Ru} {j : Nat} {Q : Option Value → MM → Prop}
theorem RchIs.kp {M' : MM} {ids : List Nat} (H : RchIs M V R j) (h : Kp M M' ids) (h0 : 24 ∉ ids) (h1 : 27 ∉ ids) (h2 : 31 ∉ ids) (h3 : 32 ∉ ids) (h4 : 33 ∉ ids) : RchIs M' V R j := by
  unfold RchIs
  rw [h 24 h0, h 27 h1, h 31 h2, h 32 h3, h 33 h4]
  exact H
theorem r_aloneAt {p s d : Nat} (kk : Q (some (.int (nI (24 * p + 6 * s + d)))) M) : Ca 51 [.int (nI p), .int (nI s), .int (nI d)] M Q := by
  have hk : q_cd 51 = kd_X3_aloneAt := rfl
  show WP 51 0 [some (.int (nI p)), some (.int (nI s)), some (.int (nI d))] [] M Q
  repeat (first | refine wp_s hk rfl rfl ?_ | refine wp_goto hk rfl ?_ | refine wp_geti hk rfl rfl rfl rfl ?_ | refine wp_getr hk rfl rfl rfl rfl ?_)
  rw [q_nmul, q_nadd, q_nmul, q_nadd, show (p * 4 + s) * 6 + d = 24 * p + 6 * s + d by omega]
  exact wp_ir hk rfl rfl kk
theorem r_besideAt {p s o x : Nat} (kk : Q (some (.int (nI (48 * p + 12 * s + 3 * o + x)))) M) : Ca 53 [.int (nI p), .int (nI s), .int (nI o), .int (nI x)] M Q := by
  have hk : q_cd 53 = kd_X3_besideAt := rfl
  show WP 53 0 [some (.int (nI p)), some (.int (nI s)), some (.int (nI o)), some (.int (nI x))] [] M Q
  repeat (first | refine wp_s hk rfl rfl ?_ | refine wp_goto hk rfl ?_ | refine wp_geti hk rfl rfl rfl rfl ?_ | refine wp_getr hk rfl rfl rfl rfl ?_)
  rw [q_nmul, q_nadd, q_nmul, q_nadd, q_nmul, q_nadd, show ((p * 4 + s) * 4 + o) * 3 + x = 48 * p + 12 * s + 3 * o + x by omega]
  exact wp_ir hk rfl rfl kk
theorem r_worthNow {p s : Nat} {g : Nat → Nat} (H : RchIs M V R j) (O : VOK V) (OR : RuOK R) (hj : j < vn V) (hp : p < R.1) (hs : s < vm V) (hg : ∀ t, t < vm V → M 34 t = nI (g t) ∧ g t ≤ 5) (kk : Q (some (.int (nI (rW V R j g p s)))) M) : Ca 65 [.ref 24, .int (nI p), .int (nI s)] M Q := by
  obtain ⟨h6, h7, h4, hP, hA, hB⟩ := H
  have hm4 := O.2.2.2.1
  have hp3 := OR.2.1
  have hgs := hg s hs
  rw [rW_eq hj hs] at kk
  have hk : q_cd 65 = kd_X3_worthNow := rfl
  show WP 65 0 [some (.ref 24), some (.int (nI p)), some (.int (nI s)), none, none, none] [] M Q
  repeat (first | refine wp_s hk rfl rfl ?_ | refine wp_goto hk rfl ?_ | refine wp_geti hk rfl rfl rfl rfl ?_ | refine wp_getr hk rfl rfl rfl rfl ?_)
  refine wp_ald (jx := s) hk rfl rfl rfl (by omega) ?_
  rw [hgs.1]
  refine wp_callS hk rfl rfl rfl rfl ?_
  refine r_aloneAt ?_
  refine wp_ald (jx := 24 * p + 6 * s + g s) hk rfl rfl rfl (by omega) ?_
  rw [hA p hp s hs (g s) (by omega)]
  repeat (first | refine wp_s hk rfl rfl ?_ | refine wp_goto hk rfl ?_ | refine wp_geti hk rfl rfl rfl rfl ?_ | refine wp_getr hk rfl rfl rfl rfl ?_)
  refine wp_bld (jx := p) hk rfl rfl rfl (by omega) ?_
  rw [hP p hp]
  refine wp_ifeqB hk rfl rfl (fun z => ?_) (fun z => ?_)
  · rw [if_neg (by rw [z]; exact Bool.false_ne_true), Nat.add_zero] at kk
    repeat (first | refine wp_s hk rfl rfl ?_ | refine wp_goto hk rfl ?_ | refine wp_geti hk rfl rfl rfl rfl ?_ | refine wp_getr hk rfl rfl rfl rfl ?_)
    exact wp_ir hk rfl rfl kk
  · rw [if_pos z] at kk
    have loop := q_dn (n := vm V) (P := fun o => ∀ x5, WP 65 21 [some (.ref 24), some (.int (nI p)), some (.int (nI s)), some (.int (nI (rA V R j p s (g s) + sumN (fun o => if o = s then 0 else rB V R j p s o (pt (g s) (g o))) o))), some (.int (nI o)), x5] [.int (M 24 7), .int (nI o)] M Q) (by
      intro x5
      refine wp_icgeN (u := vm V) (v := vm V) hk rfl rfl h7 (by omega) (by omega) (fun _ => ?_) (fun h => absurd h (by omega))
      repeat (first | refine wp_s hk rfl rfl ?_ | refine wp_goto hk rfl ?_ | refine wp_geti hk rfl rfl rfl rfl ?_ | refine wp_getr hk rfl rfl rfl rfl ?_)
      exact wp_ir hk rfl rfl kk) (by
      intro o ho ih x5
      have hgo := hg o ho
      rw [show sumN (fun o => if o = s then 0 else rB V R j p s o (pt (g s) (g o))) (o + 1) = sumN (fun o => if o = s then 0 else rB V R j p s o (pt (g s) (g o))) o + (if o = s then 0 else rB V R j p s o (pt (g s) (g o))) from rfl, ← Nat.add_assoc] at ih
      refine wp_icgeN (u := o) (v := vm V) hk rfl rfl h7 (by omega) (by omega) (fun h => absurd h (by omega)) (fun _ => ?_)
      repeat (first | refine wp_s hk rfl rfl ?_ | refine wp_goto hk rfl ?_ | refine wp_geti hk rfl rfl rfl rfl ?_ | refine wp_getr hk rfl rfl rfl rfl ?_)
      refine wp_iceqN (u := o) (v := s) hk rfl rfl rfl (by omega) (by omega) (fun e => ?_) (fun e => ?_)
      · rw [if_pos e, Nat.add_zero] at ih
        repeat (first | refine wp_s hk rfl rfl ?_ | refine wp_goto hk rfl ?_ | refine wp_geti hk rfl rfl rfl rfl ?_ | refine wp_getr hk rfl rfl rfl rfl ?_)
        rw [q_nadd o 1]
        exact ih _
      · rw [if_neg e] at ih
        repeat (first | refine wp_s hk rfl rfl ?_ | refine wp_goto hk rfl ?_ | refine wp_geti hk rfl rfl rfl rfl ?_ | refine wp_getr hk rfl rfl rfl rfl ?_)
        refine wp_ald (jx := s) hk rfl rfl rfl (by omega) ?_
        rw [hgs.1]
        repeat (first | refine wp_s hk rfl rfl ?_ | refine wp_goto hk rfl ?_ | refine wp_geti hk rfl rfl rfl rfl ?_ | refine wp_getr hk rfl rfl rfl rfl ?_)
        refine wp_ald (jx := o) hk rfl rfl rfl (by omega) ?_
        rw [hgo.1]
        repeat (first | refine wp_s hk rfl rfl ?_ | refine wp_goto hk rfl ?_ | refine wp_geti hk rfl rfl rfl rfl ?_ | refine wp_getr hk rfl rfl rfl rfl ?_)
        refine wp_callS hk rfl rfl rfl rfl ?_
        refine c_points (by omega) (by omega) ?_
        have hpt := pt_le (g s) (g o)
        repeat (first | refine wp_s hk rfl rfl ?_ | refine wp_goto hk rfl ?_ | refine wp_geti hk rfl rfl rfl rfl ?_ | refine wp_getr hk rfl rfl rfl rfl ?_)
        refine wp_callS hk rfl rfl rfl rfl ?_
        refine r_besideAt ?_
        refine wp_ald (jx := 48 * p + 12 * s + 3 * o + pt (g s) (g o)) hk rfl rfl rfl (by omega) ?_
        rw [hB p hp z s hs o ho _ (by omega)]
        repeat (first | refine wp_s hk rfl rfl ?_ | refine wp_goto hk rfl ?_ | refine wp_geti hk rfl rfl rfl rfl ?_ | refine wp_getr hk rfl rfl rfl rfl ?_)
        rw [q_nadd, q_nadd o 1]
        exact ih _)
    repeat (first | refine wp_s hk rfl rfl ?_ | refine wp_goto hk rfl ?_ | refine wp_geti hk rfl rfl rfl rfl ?_ | refine wp_getr hk rfl rfl rfl rfl ?_)
    exact loop 0 (Nat.zero_le _) _
theorem rW_le {p s : Nat} {g : Nat → Nat} (O : VOK V) (OR : RuOK R) (hp : p < R.1) (hs : s < vm V) (hg : ∀ t, t < vm V → g t ≤ 5) : rW V R j g p s ≤ 400 := by
  unfold rW
  refine worth_le O.2.1 O.2.2.2.1 (by have := O.2.2.2.1; omega) (fun i hi t ht => ?_) OR hp
  unfold mkR
  by_cases e : i = j ∧ t < vm V
  · rw [if_pos e]; exact hg t e.2
  · rw [if_neg e]; exact O.2.2.2.2.2.1 i hi t ht
theorem r_placeNow {s : Nat} {g : Nat → Nat} (H : RchIs M V R j) (O : VOK V) (OR : RuOK R) (hj : j < vn V) (hs : s < vm V) (hg : ∀ t, t < vm V → M 34 t = nI (g t) ∧ g t ≤ 5) (kk : Q (some (.int (nI (placeW (rW V R j g) R.1 (vm V) s)))) M) : Ca 66 [.ref 24, .int (nI s)] M Q := by
  have h6 := H.1
  have h7 := H.2.1
  have hm4 := O.2.2.2.1
  have hp3 := OR.2.1
  have hle : ∀ p, p < R.1 → ∀ t, t < vm V → rW V R j g p t ≤ 400 := fun p hp t ht => rW_le O OR hp ht (fun t ht => (hg t ht).2)
  have hk : q_cd 66 = kd_X3_placeNow := rfl
  show WP 66 0 [some (.ref 24), some (.int (nI s)), none, none, none, none] [] M Q
  have outer := q_dn (n := vm V) (P := fun o => ∀ x4 x5, WP 66 7 [some (.ref 24), some (.int (nI s)), some (.int (nI (placeW (rW V R j g) R.1 o s))), some (.int (nI o)), x4, x5] [.int (M 24 7), .int (nI o)] M Q) (by
    intro x4 x5
    refine wp_icgeN (u := vm V) (v := vm V) hk rfl rfl h7 (by omega) (by omega) (fun _ => ?_) (fun h => absurd h (by omega))
    repeat (first | refine wp_s hk rfl rfl ?_ | refine wp_goto hk rfl ?_ | refine wp_geti hk rfl rfl rfl rfl ?_ | refine wp_getr hk rfl rfl rfl rfl ?_)
    exact wp_ir hk rfl rfl kk) (by
    intro o ho ih x4 x5
    refine wp_icgeN (u := o) (v := vm V) hk rfl rfl h7 (by omega) (by omega) (fun h => absurd h (by omega)) (fun _ => ?_)
    have e1 : placeW (rW V R j g) R.1 (o + 1) s = placeW (rW V R j g) R.1 o s + (if aheadW (rW V R j g) o s 0 R.1 = true then 1 else 0) := by simp only [placeW, sumN, Nat.add_assoc]
    rw [e1] at ih
    have fin : ∀ (a b : Nat) (y : Option Value), a ≤ 400 → b ≤ 400 → decide (b < a) = aheadW (rW V R j g) o s 0 R.1 → WP 66 30 [some (.ref 24), some (.int (nI s)), some (.int (nI (placeW (rW V R j g) R.1 o s))), some (.int (nI o)), some (.int (nI a - nI b)), y] [] M Q := by
      intro a b y ha hb hab
      rw [← hab] at ih
      repeat (first | refine wp_s hk rfl rfl ?_ | refine wp_goto hk rfl ?_ | refine wp_geti hk rfl rfl rfl rfl ?_ | refine wp_getr hk rfl rfl rfl rfl ?_)
      refine wp_ifleD (u := a) (v := b) hk rfl rfl (by omega) (by omega) (fun h => ?_) (fun h => ?_)
      · rw [if_neg (by rw [decide_eq_false (by omega)]; exact Bool.false_ne_true), Nat.add_zero] at ih
        repeat (first | refine wp_s hk rfl rfl ?_ | refine wp_goto hk rfl ?_ | refine wp_geti hk rfl rfl rfl rfl ?_ | refine wp_getr hk rfl rfl rfl rfl ?_)
        rw [q_nadd o 1]
        exact ih _ _
      · rw [if_pos (decide_eq_true (by omega))] at ih
        repeat (first | refine wp_s hk rfl rfl ?_ | refine wp_goto hk rfl ?_ | refine wp_geti hk rfl rfl rfl rfl ?_ | refine wp_getr hk rfl rfl rfl rfl ?_)
        rw [q_nadd o 1, q_nadd]
        exact ih _ _
    have inner := q_dn (n := R.1) (P := fun p => aheadW (rW V R j g) o s p (R.1 - p) = aheadW (rW V R j g) o s 0 R.1 → WP 66 15 [some (.ref 24), some (.int (nI s)), some (.int (nI (placeW (rW V R j g) R.1 o s))), some (.int (nI o)), some (.int (nI 0)), some (.int (nI p))] [.int (M 24 6), .int (nI p)] M Q) (by
      intro hq
      rw [Nat.sub_self] at hq
      refine wp_icgeN (u := R.1) (v := R.1) hk rfl rfl h6 (by omega) (by omega) (fun _ => ?_) (fun h => absurd h (by omega))
      exact fin 0 0 _ (by omega) (by omega) hq) (by
      intro p hp ihp hq
      rw [show R.1 - p = (R.1 - (p + 1)) + 1 by omega] at hq
      simp only [aheadW] at hq
      have b1 := hle p hp o ho
      have b2 := hle p hp s hs
      refine wp_icgeN (u := p) (v := R.1) hk rfl rfl h6 (by omega) (by omega) (fun h => absurd h (by omega)) (fun _ => ?_)
      repeat (first | refine wp_s hk rfl rfl ?_ | refine wp_goto hk rfl ?_ | refine wp_geti hk rfl rfl rfl rfl ?_ | refine wp_getr hk rfl rfl rfl rfl ?_)
      refine wp_ifneN (u := 0) hk rfl rfl (by omega) (fun z => absurd rfl z) (fun _ => ?_)
      repeat (first | refine wp_s hk rfl rfl ?_ | refine wp_goto hk rfl ?_ | refine wp_geti hk rfl rfl rfl rfl ?_ | refine wp_getr hk rfl rfl rfl rfl ?_)
      refine wp_callV hk rfl rfl rfl rfl rfl rfl ?_
      refine r_worthNow H O OR hj hp ho hg ?_
      repeat (first | refine wp_s hk rfl rfl ?_ | refine wp_goto hk rfl ?_ | refine wp_geti hk rfl rfl rfl rfl ?_ | refine wp_getr hk rfl rfl rfl rfl ?_)
      refine wp_callV hk rfl rfl rfl rfl rfl rfl ?_
      refine r_worthNow H O OR hj hp hs hg ?_
      repeat (first | refine wp_s hk rfl rfl ?_ | refine wp_goto hk rfl ?_ | refine wp_geti hk rfl rfl rfl rfl ?_ | refine wp_getr hk rfl rfl rfl rfl ?_)
      rw [q_nadd p 1]
      by_cases e : rW V R j g p o = rW V R j g p s
      · rw [if_pos e] at hq
        rw [e, show ∀ x : Int32, x - x = nI 0 from fun x => by rw [Int32.sub_self]; rfl]
        exact ihp hq
      · rw [if_neg e] at hq
        by_cases e2 : p + 1 < R.1
        · refine wp_icgeN (u := p + 1) (v := R.1) hk rfl rfl h6 (by omega) (by omega) (fun h => absurd h (by omega)) (fun _ => ?_)
          refine wp_s hk rfl rfl ?_
          refine wp_ifneD (u := rW V R j g p o) (v := rW V R j g p s) hk rfl rfl (by omega) (by omega) (fun _ => ?_) (fun z => absurd (Classical.not_not.mp z) e)
          exact fin _ _ _ b1 b2 hq
        · refine wp_icgeN (u := p + 1) (v := R.1) hk rfl rfl h6 (by omega) (by omega) (fun _ => ?_) (fun h => absurd h (by omega))
          exact fin _ _ _ b1 b2 hq)
    repeat (first | refine wp_s hk rfl rfl ?_ | refine wp_goto hk rfl ?_ | refine wp_geti hk rfl rfl rfl rfl ?_ | refine wp_getr hk rfl rfl rfl rfl ?_)
    exact inner 0 (Nat.zero_le _) rfl)
  repeat (first | refine wp_s hk rfl rfl ?_ | refine wp_goto hk rfl ?_ | refine wp_geti hk rfl rfl rfl rfl ?_ | refine wp_getr hk rfl rfl rfl rfl ?_)
  exact outer 0 (Nat.zero_le _) _ _
end REACH
