/-! the class's reach: the row that is tried -/
section ROWS
variable {M : MM} {m : Nat} {Q : Option Value → MM → Prop}
theorem r_giveAll {v : Nat} (h : M 24 7 = nI m) (hm : m ≤ 4) (hv : v < 2000) (kk : ∀ M', Kp M M' [34] → (∀ s, s < m → M' 34 s = nI (dig m v s)) → Q none M') : Ca 64 [.ref 24, .int (nI v)] M Q := by
  have hk : q_cd 64 = kd_X3_giveAll := rfl
  show WP 64 0 [some (.ref 24), some (.int (nI v)), none, none] [] M Q
  have loop : ∀ t, t ≤ m → ∀ M1, Kp M M1 [34] → (∀ s, t ≤ s → s < m → M1 34 s = nI (dig m v s)) → WP 64 8 [some (.ref 24), some (.int (nI v)), some (.int (nI (v / 6 ^ (m - t)))), some (.int (nI t - nI 1))] [.int (nI t - nI 1)] M1 Q := by
    intro t
    induction t with
    | zero =>
      intro ht M1 K1 hd
      refine wp_ifltD (u := 0) (v := 1) hk rfl rfl (by omega) (by omega) (fun _ => ?_) (fun y => absurd y (by omega))
      exact wp_vr hk rfl (kk M1 K1 (fun s hs => hd s (Nat.zero_le _) hs))
    | succ t ih =>
      intro ht M1 K1 hd
      refine wp_ifltD (u := t + 1) (v := 1) hk rfl rfl (by omega) (by omega) (fun y => absurd y (by omega)) (fun _ => ?_)
      rw [q_nsub (Nat.le_add_left 1 t), Nat.add_sub_cancel]
      have hlt : v / 6 ^ (m - (t + 1)) < 2000 := Nat.lt_of_le_of_lt (Nat.div_le_self _ _) hv
      repeat (first | refine wp_s hk rfl rfl ?_ | refine wp_goto hk rfl ?_ | refine wp_geti hk rfl rfl rfl rfl ?_ | refine wp_getr hk rfl rfl rfl rfl ?_)
      refine wp_rem hk rfl (by decide) ?_
      rw [q_nrem (b := 6) (by omega) (by omega) (by omega)]
      refine wp_ast (jx := t) hk rfl rfl rfl (by omega) ?_
      repeat (first | refine wp_s hk rfl rfl ?_ | refine wp_goto hk rfl ?_ | refine wp_geti hk rfl rfl rfl rfl ?_ | refine wp_getr hk rfl rfl rfl rfl ?_)
      refine wp_div hk rfl (by decide) ?_
      rw [q_ndiv (b := 6) (by omega) (by omega) (by omega)]
      repeat (first | refine wp_s hk rfl rfl ?_ | refine wp_goto hk rfl ?_ | refine wp_geti hk rfl rfl rfl rfl ?_ | refine wp_getr hk rfl rfl rfl rfl ?_)
      rw [q_dec2]
      have e6 : v / 6 ^ (m - (t + 1)) / 6 = v / 6 ^ (m - t) := by
        rw [Nat.div_div_eq_div_mul, ← Nat.pow_succ, show (m - (t + 1)).succ = m - t by omega]
      rw [e6]
      refine ih (by omega) _ (K1.up (by decide)) (fun s hs1 hs2 => ?_)
      rw [q_up_at]
      by_cases e : s = t
      · subst e
        rw [upd_at]
        unfold dig
        rw [show m - 1 - s = m - (s + 1) by omega]
      · rw [upd_ne _ _ e]; exact hd s (by omega) hs2
  have := loop m (Nat.le_refl _) M (Kp.rf _ _) (fun s hs1 hs2 => absurd hs2 (by omega))
  rw [Nat.sub_self, Nat.pow_zero, Nat.div_one] at this
  repeat (first | refine wp_s hk rfl rfl ?_ | refine wp_goto hk rfl ?_ | refine wp_geti hk rfl rfl rfl rfl ?_ | refine wp_getr hk rfl rfl rfl rfl ?_)
  rw [h]
  exact this
theorem dig5 {m v t : Nat} (ht : t < m) (h : v % 6 ^ (m - 1 - t) + 1 = 6 ^ (m - 1 - t)) (h5 : dig m v t = 5) : v % 6 ^ (m - t) + 1 = 6 ^ (m - t) := by
  unfold dig at h5
  rw [show m - t = (m - 1 - t) + 1 by omega, Nat.pow_succ, Nat.mod_mul, h5]
  generalize 6 ^ (m - 1 - t) = q at h ⊢
  generalize v % q = r at h ⊢
  omega
theorem r_giveNext {v : Nat} (h : M 24 7 = nI m) (hm : m ≤ 4) (hv : v < 6 ^ m) (hd : ∀ s, s < m → M 34 s = nI (dig m v s)) (kk : ∀ M', Kp M M' [34] → (v + 1 < 6 ^ m → ∀ s, s < m → M' 34 s = nI (dig m (v + 1) s)) → Q none M') : Ca 67 [.ref 24] M Q := by
  have hrow := m_rows hm
  have hk : q_cd 67 = kd_X3_giveNext := rfl
  show WP 67 0 [some (.ref 24), none] [] M Q
  have loop : ∀ t, t ≤ m → v % 6 ^ (m - t) + 1 = 6 ^ (m - t) → ∀ M1, Kp M M1 [34] → (∀ s, s < m → M1 34 s = nI (if t ≤ s then 0 else dig m v s)) → WP 67 6 [some (.ref 24), some (.int (nI t - nI 1))] [.int (nI t - nI 1)] M1 Q := by
    intro t
    induction t with
    | zero =>
      intro ht hq M1 K1 hd1
      rw [Nat.sub_zero, Nat.mod_eq_of_lt hv] at hq
      refine wp_ifltD (u := 0) (v := 1) hk rfl rfl (by omega) (by omega) (fun _ => ?_) (fun y => absurd y (by omega))
      exact wp_vr hk rfl (kk M1 K1 (fun y => absurd y (by omega)))
    | succ t ih =>
      intro ht hq M1 K1 hd1
      refine wp_ifltD (u := t + 1) (v := 1) hk rfl rfl (by omega) (by omega) (fun y => absurd y (by omega)) (fun _ => ?_)
      rw [q_nsub (Nat.le_add_left 1 t), Nat.add_sub_cancel]
      have hq' : v % 6 ^ (m - 1 - t) + 1 = 6 ^ (m - 1 - t) := by rw [show m - 1 - t = m - (t + 1) by omega]; exact hq
      have h6 : dig m v t < 6 := Nat.mod_lt _ (by omega)
      have e0 : M1 34 t = nI (dig m v t) := by rw [hd1 t (by omega), if_neg (by omega)]
      repeat (first | refine wp_s hk rfl rfl ?_ | refine wp_goto hk rfl ?_ | refine wp_geti hk rfl rfl rfl rfl ?_ | refine wp_getr hk rfl rfl rfl rfl ?_)
      refine wp_ald (jx := t) hk rfl rfl rfl (by omega) ?_
      rw [e0]
      repeat (first | refine wp_s hk rfl rfl ?_ | refine wp_goto hk rfl ?_ | refine wp_geti hk rfl rfl rfl rfl ?_ | refine wp_getr hk rfl rfl rfl rfl ?_)
      refine wp_icgeN (u := dig m v t) (v := 5) hk rfl rfl rfl (by omega) (by omega) (fun y => ?_) (fun y => ?_)
      · repeat (first | refine wp_s hk rfl rfl ?_ | refine wp_goto hk rfl ?_ | refine wp_geti hk rfl rfl rfl rfl ?_ | refine wp_getr hk rfl rfl rfl rfl ?_)
        refine wp_ast (jx := t) hk rfl rfl rfl (by omega) ?_
        repeat (first | refine wp_s hk rfl rfl ?_ | refine wp_goto hk rfl ?_ | refine wp_geti hk rfl rfl rfl rfl ?_ | refine wp_getr hk rfl rfl rfl rfl ?_)
        rw [q_dec2]
        refine ih (by omega) (dig5 (by omega) hq' (by omega)) _ (K1.up (by decide)) (fun s hs => ?_)
        rw [q_up_at]
        by_cases e : s = t
        · subst e; rw [upd_at, if_pos (Nat.le_refl _)]
        · rw [upd_ne _ _ e, hd1 s hs]
          by_cases e2 : t + 1 ≤ s
          · rw [if_pos e2, if_pos (by omega)]
          · rw [if_neg e2, if_neg (by omega)]
      · repeat (first | refine wp_s hk rfl rfl ?_ | refine wp_goto hk rfl ?_ | refine wp_geti hk rfl rfl rfl rfl ?_ | refine wp_getr hk rfl rfl rfl rfl ?_)
        refine wp_ald (jx := t) hk rfl rfl rfl (by omega) ?_
        rw [e0]
        repeat (first | refine wp_s hk rfl rfl ?_ | refine wp_goto hk rfl ?_ | refine wp_geti hk rfl rfl rfl rfl ?_ | refine wp_getr hk rfl rfl rfl rfl ?_)
        rw [q_nadd]
        refine wp_ast (jx := t) hk rfl rfl rfl (by omega) ?_
        refine wp_vr hk rfl (kk _ (K1.up (by decide)) (fun _ s hs => ?_))
        rw [q_up_at, dig_next hm (by omega) (by omega) hq' (by omega) hs]
        by_cases e : s = t
        · subst e; rw [upd_at, if_pos rfl]
        · rw [upd_ne _ _ e, if_neg e, hd1 s hs]
          by_cases e2 : t < s
          · rw [if_pos e2, if_pos (by omega)]
          · rw [if_neg e2, if_neg (by omega)]
  have := loop m (Nat.le_refl _) (by rw [Nat.sub_self, Nat.pow_zero, Nat.mod_one]) M (Kp.rf _ _) (fun s hs => by rw [if_neg (by omega)]; exact hd s hs)
  repeat (first | refine wp_s hk rfl rfl ?_ | refine wp_goto hk rfl ?_ | refine wp_geti hk rfl rfl rfl rfl ?_ | refine wp_getr hk rfl rfl rfl rfl ?_)
  rw [h]
  exact this
end ROWS
