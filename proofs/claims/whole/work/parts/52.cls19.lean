/-! the class's reach: the best row -/
theorem aheadW_self {w : Nat → Nat → Nat} {a : Nat} : ∀ {d i : Nat}, aheadW w a a i d = false
  | 0, _ => rfl
  | d + 1, i => by simp only [aheadW, if_true]; exact aheadW_self
theorem sumN_lt {f : Nat → Nat} {s : Nat} : ∀ {n : Nat}, (∀ j, j < n → f j ≤ 1) → s < n → f s = 0 → sumN f n + 1 ≤ n
  | 0, _, h, _ => absurd h (Nat.not_lt_zero _)
  | n + 1, h1, h2, h3 => by
    simp only [sumN]
    by_cases e : s = n
    · subst e
      have := sumN_le (f := f) (c := 1) (n := s) (fun j hj => h1 j (by omega))
      omega
    · have := sumN_lt (f := f) (s := s) (n := n) (fun j hj => h1 j (by omega)) (by omega) h3
      have := h1 n (by omega)
      omega
theorem placeW_m {w : Nat → Nat → Nat} {parts m s : Nat} (hs : s < m) : placeW w parts m s ≤ m := by
  have := sumN_lt (f := fun o => if aheadW w o s 0 parts then 1 else 0) (s := s) (n := m) (fun j hj => by show (if _ then 1 else 0) ≤ 1; split <;> omega) hs (by show (if _ then 1 else 0) = 0; rw [aheadW_self]; rfl)
  unfold placeW
  omega
theorem placeW_1 {w : Nat → Nat → Nat} {parts m s : Nat} : 1 ≤ placeW w parts m s := by unfold placeW; omega
/-- what the first least is -/
theorem fbW_at {pl : Nat → Nat} (h0 : pl 0 < 5) : ∀ {v : Nat}, 0 < v → pl (fbW pl v).2 = (fbW pl v).1 ∧ (∀ x, x < v → (fbW pl v).1 ≤ pl x) ∧ (fbW pl v).2 < v
  | 0, h => absurd h (Nat.lt_irrefl 0)
  | v + 1, _ => by
    simp only [fbW]
    by_cases e : v = 0
    · subst e
      rw [if_pos (show pl 0 < (fbW pl 0).1 from h0)]
      exact ⟨rfl, fun x hx => by rw [show x = 0 by omega]; exact Nat.le_refl _, by show 0 < 1; omega⟩
    · obtain ⟨i1, i2, i3⟩ := fbW_at h0 (v := v) (by omega)
      by_cases h : pl v < (fbW pl v).1
      · rw [if_pos h]
        refine ⟨rfl, fun x hx => ?_, by show v < v + 1; omega⟩
        show pl v ≤ pl x
        by_cases e2 : x = v
        · subst e2; exact Nat.le_refl _
        · have := i2 x (by omega); omega
      · rw [if_neg h]
        refine ⟨i1, fun x hx => ?_, by omega⟩
        by_cases e2 : x = v
        · subst e2; omega
        · exact i2 x (by omega)
theorem fbW_stop {pl : Nat → Nat} (h1 : ∀ v, 1 ≤ pl v) {v : Nat} (h : (fbW pl v).1 ≤ 1) : ∀ d, fbW pl (v + d) = fbW pl v
  | 0 => rfl
  | d + 1 => by
    show (if pl (v + d) < (fbW pl (v + d)).1 then (pl (v + d), v + d) else fbW pl (v + d)) = fbW pl v
    rw [fbW_stop h1 h d, if_neg (by have := h1 (v + d); omega)]
theorem dig_le {m v s : Nat} : dig m v s ≤ 5 := by
  have : dig m v s < 6 := Nat.mod_lt _ (by omega)
  omega
/-- a skater's place by a judge's row, in a state -/
def plJ (V : Vw) (R : Ru) (j s v : Nat) : Nat := plG (vn V) (vm V) (vc V) (vk V) R j v s
theorem plJ_eq (V : Vw) (R : Ru) (j s v : Nat) : plJ V R j s v = placeW (rW V R j (dig (vm V) v)) R.1 (vm V) s := rfl
theorem r_rows {M : MM} {m : Nat} {Q : Option Value → MM → Prop} (H : M 27 4 = nI m) (h4 : m ≤ 4) (kk : Q (some (.int (nI (6 ^ m)))) M) : Ca 7 [.ref 27] M Q := by
  have hk : q_cd 7 = kd_X0_rows := rfl
  show WP 7 0 [some (.ref 27), none, none] [] M Q
  have loop := q_dn (n := m) (P := fun j => WP 7 7 [some (.ref 27), some (.int (nI (6 ^ j))), some (.int (nI j))] [.int (M 27 4), .int (nI j)] M Q) (by
    refine wp_icgeN (u := m) (v := m) hk rfl rfl H (by omega) (by omega) (fun _ => ?_) (fun h => absurd h (by omega))
    repeat (first | refine wp_s hk rfl rfl ?_ | refine wp_goto hk rfl ?_ | refine wp_geti hk rfl rfl rfl rfl ?_ | refine wp_getr hk rfl rfl rfl rfl ?_)
    exact wp_ir hk rfl rfl kk) (by
    intro j hj ih
    refine wp_icgeN (u := j) (v := m) hk rfl rfl H (by omega) (by omega) (fun h => absurd h (by omega)) (fun _ => ?_)
    repeat (first | refine wp_s hk rfl rfl ?_ | refine wp_goto hk rfl ?_ | refine wp_geti hk rfl rfl rfl rfl ?_ | refine wp_getr hk rfl rfl rfl rfl ?_)
    rw [q_nadd j 1, q_nmul, ← Nat.pow_succ]
    exact ih)
  repeat (first | refine wp_s hk rfl rfl ?_ | refine wp_goto hk rfl ?_ | refine wp_geti hk rfl rfl rfl rfl ?_ | refine wp_getr hk rfl rfl rfl rfl ?_)
  exact loop 0 (Nat.zero_le _)
section BEST
variable {M : MM} {V : Vw} {R : Ru} {j : Nat} {Q : Option Value → MM → Prop}
theorem r_placeBy {s v : Nat} (H : RchIs M V R j) (O : VOK V) (OR : RuOK R) (hj : j < vn V) (hs : s < vm V) (hv : v < 2000) (kk : ∀ M', Kp M M' [34] → Q (some (.int (nI (plJ V R j s v)))) M') : Ca 69 [.ref 24, .int (nI v), .int (nI s)] M Q := by
  have hk : q_cd 69 = kd_X3_placeBy := rfl
  show WP 69 0 [some (.ref 24), some (.int (nI v)), some (.int (nI s))] [] M Q
  repeat (first | refine wp_s hk rfl rfl ?_ | refine wp_goto hk rfl ?_ | refine wp_geti hk rfl rfl rfl rfl ?_ | refine wp_getr hk rfl rfl rfl rfl ?_)
  refine wp_callV hk rfl rfl rfl rfl rfl rfl ?_
  refine r_giveAll H.2.1 O.2.2.2.1 hv (fun M1 K1 hd => ?_)
  repeat (first | refine wp_s hk rfl rfl ?_ | refine wp_goto hk rfl ?_ | refine wp_geti hk rfl rfl rfl rfl ?_ | refine wp_getr hk rfl rfl rfl rfl ?_)
  refine wp_callV hk rfl rfl rfl rfl rfl rfl ?_
  refine r_placeNow (g := dig (vm V) v) (H.kp K1 (by decide) (by decide) (by decide) (by decide) (by decide)) O OR hj hs (fun t ht => ⟨hd t ht, dig_le⟩) ?_
  exact wp_ir hk rfl rfl (kk M1 K1)
theorem r_bestRow {s e : Nat} (H : RchIs M V R j) (O : VOK V) (OR : RuOK R) (hj : j < vn V) (hs : s < vm V) (he : e < 100) (kk : ∀ M' v, Kp M M' [34] → v ≤ 6 ^ vm V → (v = 6 ^ vm V ∨ (fbW (plJ V R j s) v).1 ≤ e) → Q (some (.int (nI (fbW (plJ V R j s) v).2))) M') : Ca 68 [.ref 24, .int (nI s), .int (nI e)] M Q := by
  have hm4 := O.2.2.2.1
  have hrows := m_rows hm4
  have hk : q_cd 68 = kd_X3_bestRow := rfl
  show WP 68 0 [some (.ref 24), some (.int (nI s)), some (.int (nI e)), none, none, none, none, none] [] M Q
  have loop := q_dn (n := 6 ^ vm V) (P := fun v => ∀ M1 x7, Kp M M1 [34] → (v < 6 ^ vm V → ∀ t, t < vm V → M1 34 t = nI (dig (vm V) v t)) → WP 68 15 [some (.ref 24), some (.int (nI s)), some (.int (nI e)), some (.int (nI (6 ^ vm V))), some (.int (nI (fbW (plJ V R j s) v).2)), some (.int (nI (fbW (plJ V R j s) v).1)), some (.int (nI v)), x7] [.int (nI (6 ^ vm V)), .int (nI v)] M1 Q) (by
    intro M1 x7 K1 hd
    refine wp_icgeN (u := 6 ^ vm V) (v := 6 ^ vm V) hk rfl rfl rfl (by omega) (by omega) (fun _ => ?_) (fun h => absurd h (by omega))
    repeat (first | refine wp_s hk rfl rfl ?_ | refine wp_goto hk rfl ?_ | refine wp_geti hk rfl rfl rfl rfl ?_ | refine wp_getr hk rfl rfl rfl rfl ?_)
    exact wp_ir hk rfl rfl (kk M1 _ K1 (Nat.le_refl _) (Or.inl rfl))) (by
    intro v hv ih M1 x7 K1 hd
    obtain ⟨l1, l2⟩ := fbW_le (pl := plJ V R j s) (v := v)
    have hpl : plJ V R j s v ≤ 1 + vm V := placeW_le
    refine wp_icgeN (u := v) (v := 6 ^ vm V) hk rfl rfl rfl (by omega) (by omega) (fun h => absurd h (by omega)) (fun _ => ?_)
    repeat (first | refine wp_s hk rfl rfl ?_ | refine wp_goto hk rfl ?_ | refine wp_geti hk rfl rfl rfl rfl ?_ | refine wp_getr hk rfl rfl rfl rfl ?_)
    refine wp_icleN (u := (fbW (plJ V R j s) v).1) (v := e) hk rfl rfl rfl (by omega) (by omega) (fun y => ?_) (fun y => ?_)
    · repeat (first | refine wp_s hk rfl rfl ?_ | refine wp_goto hk rfl ?_ | refine wp_geti hk rfl rfl rfl rfl ?_ | refine wp_getr hk rfl rfl rfl rfl ?_)
      exact wp_ir hk rfl rfl (kk M1 _ K1 (by omega) (Or.inr y))
    · repeat (first | refine wp_s hk rfl rfl ?_ | refine wp_goto hk rfl ?_ | refine wp_geti hk rfl rfl rfl rfl ?_ | refine wp_getr hk rfl rfl rfl rfl ?_)
      refine wp_callV hk rfl rfl rfl rfl rfl rfl ?_
      refine r_placeNow (g := dig (vm V) v) (H.kp K1 (by decide) (by decide) (by decide) (by decide) (by decide)) O OR hj hs (fun t ht => ⟨hd hv t ht, dig_le⟩) ?_
      rw [← plJ_eq]
      have goon : ∀ a b : Nat, fbW (plJ V R j s) (v + 1) = (a, b) → WP 68 30 [some (.ref 24), some (.int (nI s)), some (.int (nI e)), some (.int (nI (6 ^ vm V))), some (.int (nI b)), some (.int (nI a)), some (.int (nI v)), some (.int (nI (plJ V R j s v)))] [] M1 Q := by
        intro a b hab
        rw [hab] at ih
        repeat (first | refine wp_s hk rfl rfl ?_ | refine wp_goto hk rfl ?_ | refine wp_geti hk rfl rfl rfl rfl ?_ | refine wp_getr hk rfl rfl rfl rfl ?_)
        refine wp_callV hk rfl rfl rfl rfl rfl rfl ?_
        refine r_giveNext (by rw [K1 24 (by decide)]; exact H.2.1) hm4 hv (hd hv) (fun M2 K2 hd2 => ?_)
        repeat (first | refine wp_s hk rfl rfl ?_ | refine wp_goto hk rfl ?_ | refine wp_geti hk rfl rfl rfl rfl ?_ | refine wp_getr hk rfl rfl rfl rfl ?_)
        rw [q_nadd v 1]
        exact ih M2 _ (K1.tr K2) hd2
      repeat (first | refine wp_s hk rfl rfl ?_ | refine wp_goto hk rfl ?_ | refine wp_geti hk rfl rfl rfl rfl ?_ | refine wp_getr hk rfl rfl rfl rfl ?_)
      refine wp_icgeN (u := plJ V R j s v) (v := (fbW (plJ V R j s) v).1) hk rfl rfl rfl (by omega) (by omega) (fun y => ?_) (fun y => ?_)
      · exact goon _ _ (by simp only [fbW]; rw [if_neg (by omega)])
      · refine wp_s hk rfl rfl ?_
        refine wp_s hk rfl rfl ?_
        refine wp_s hk rfl rfl ?_
        refine wp_s hk rfl rfl ?_
        exact goon _ _ (by simp only [fbW]; rw [if_pos (by omega)]))
  repeat (first | refine wp_s hk rfl rfl ?_ | refine wp_goto hk rfl ?_ | refine wp_geti hk rfl rfl rfl rfl ?_ | refine wp_getr hk rfl rfl rfl rfl ?_)
  refine wp_callV hk rfl rfl rfl rfl rfl rfl ?_
  refine r_rows H.2.2.1 hm4 ?_
  repeat (first | refine wp_s hk rfl rfl ?_ | refine wp_goto hk rfl ?_ | refine wp_geti hk rfl rfl rfl rfl ?_ | refine wp_getr hk rfl rfl rfl rfl ?_)
  refine wp_callV hk rfl rfl rfl rfl rfl rfl ?_
  refine r_giveAll (v := 0) H.2.1 hm4 (by omega) (fun M1 K1 hd => ?_)
  repeat (first | refine wp_s hk rfl rfl ?_ | refine wp_goto hk rfl ?_ | refine wp_geti hk rfl rfl rfl rfl ?_ | refine wp_getr hk rfl rfl rfl rfl ?_)
  exact loop 0 (Nat.zero_le _) M1 _ K1 (fun _ t ht => hd t ht)
end BEST
