/-! the class's own calls: order -/
theorem sumN_le2 {f g : Nat → Nat} : ∀ {n : Nat}, (∀ j, j < n → f j ≤ g j) → sumN f n ≤ sumN g n
  | 0, _ => Nat.le_refl _
  | n + 1, h => by
    have h1 := sumN_le2 (f := f) (g := g) (n := n) (fun j hj => h j (by omega))
    have h2 := h n (by omega)
    simp only [sumN]
    omega
theorem sumN_lt2 {f g : Nat → Nat} {s : Nat} : ∀ {n : Nat}, (∀ j, j < n → f j ≤ g j) → s < n → f s < g s → sumN f n < sumN g n
  | 0, _, h, _ => absurd h (Nat.not_lt_zero _)
  | n + 1, h, hs, h3 => by
    simp only [sumN]
    have h2 := h n (by omega)
    by_cases e : s = n
    · subst e
      have h1 := sumN_le2 (f := f) (g := g) (n := s) (fun j hj => h j (by omega))
      omega
    · have h1 := sumN_lt2 (f := f) (g := g) (s := s) (n := n) (fun j hj => h j (by omega)) (by omega) h3
      omega
def cntP (pl : Nat → Nat) (m p t : Nat) : Nat := sumN (fun o => if pl o < p ∨ (pl o = p ∧ o < t) then 1 else 0) m
theorem cntP_rk (pl : Nat → Nat) (m s : Nat) : rkW pl m s = cntP pl m (pl s) s := rfl
theorem cntP_le {pl : Nat → Nat} {m p t : Nat} : cntP pl m p t ≤ m := by
  have := sumN_le (f := fun o => if pl o < p ∨ (pl o = p ∧ o < t) then 1 else 0) (c := 1) (n := m) (fun j _ => by split <;> omega)
  unfold cntP
  omega
theorem cntP_in {pl : Nat → Nat} {m p t : Nat} (ht : t < m) (h : pl t = p) : cntP pl m p (t + 1) = cntP pl m p t + 1 := by
  unfold cntP
  rw [sumN_split (f := fun o => if pl o < p ∨ (pl o = p ∧ o < t + 1) then 1 else 0) (g := fun o => if pl o < p ∨ (pl o = p ∧ o < t) then 1 else 0) (j := t) (fun i hi => ?_) ?_ m, if_pos ht]
  · congr 1
    show (if pl t < p ∨ (pl t = p ∧ t < t + 1) then 1 else 0) = 1
    rw [if_pos (Or.inr ⟨h, by omega⟩)]
  · show (if pl t < p ∨ (pl t = p ∧ t < t) then 1 else 0) = 0
    rw [if_neg (by omega)]
  · by_cases z : pl i < p ∨ (pl i = p ∧ i < t)
    · rw [if_pos z, if_pos (by omega)]
    · rw [if_neg z, if_neg (by omega)]
theorem cntP_out {pl : Nat → Nat} {m p t : Nat} (h : ¬ pl t = p) : cntP pl m p (t + 1) = cntP pl m p t := by
  unfold cntP
  refine sumN_congr (fun i _ => ?_)
  by_cases e : i = t
  · subst e
    by_cases z : pl i < p
    · rw [if_pos (Or.inl z), if_pos (Or.inl z)]
    · rw [if_neg (by omega), if_neg (by omega)]
  · by_cases z : pl i < p ∨ (pl i = p ∧ i < t)
    · rw [if_pos z, if_pos (by omega)]
    · rw [if_neg z, if_neg (by omega)]
theorem cntP_nx {pl : Nat → Nat} {m p : Nat} : cntP pl m (p + 1) 0 = cntP pl m p m := by
  unfold cntP
  refine sumN_congr (fun i hi => ?_)
  by_cases z : pl i < p + 1
  · rw [if_pos (Or.inl z), if_pos (by omega)]
  · rw [if_neg (by omega), if_neg (by omega)]
theorem cntP_0 {pl : Nat → Nat} {m : Nat} (h : ∀ s, s < m → 1 ≤ pl s) : cntP pl m 1 0 = 0 := by
  unfold cntP
  exact sumN_zero (fun j hj => by have := h j hj; rw [if_neg (by omega)])
theorem rkW_lt {pl : Nat → Nat} {m s s' : Nat} (hs : s < m) (h : pl s < pl s' ∨ (pl s = pl s' ∧ s < s')) : rkW pl m s < rkW pl m s' := by
  unfold rkW
  refine sumN_lt2 (s := s) (fun j _ => ?_) hs ?_
  · by_cases z : pl j < pl s ∨ (pl j = pl s ∧ j < s)
    · rw [if_pos z, if_pos (by omega)]; omega
    · rw [if_neg z]; omega
  · show (if pl s < pl s ∨ (pl s = pl s ∧ s < s) then 1 else 0) < (if pl s < pl s' ∨ (pl s = pl s' ∧ s < s') then 1 else 0)
    rw [if_neg (by omega), if_pos h]; omega
theorem rkW_inj {pl : Nat → Nat} {m s s' : Nat} (hs : s < m) (hs' : s' < m) (h : rkW pl m s = rkW pl m s') : s = s' := by
  by_cases e : s = s'
  · exact e
  · exfalso
    by_cases c1 : pl s < pl s' ∨ (pl s = pl s' ∧ s < s')
    · have := rkW_lt hs c1; omega
    · have := rkW_lt (pl := pl) (s := s') (s' := s) hs' (by omega); omega
theorem ordW_none {pl : Nat → Nat} {m : Nat} {x : Int32} (h : ∀ s, s < m → ¬ nI (rkW pl m s) = x) : ∀ d s, s + d = m → ordW pl m x s d = NON
  | 0, _, _ => rfl
  | d + 1, s, e => by
    simp only [ordW]
    rw [if_neg (h s (by omega)), ordW_none h d (s + 1) (by omega)]
theorem ordW_some {pl : Nat → Nat} {m t : Nat} {x : Int32} (hm : m ≤ 4) (ht : t < m) (h : nI (rkW pl m t) = x) : ∀ d s, s + d = m → s ≤ t → ordW pl m x s d = nI t
  | 0, s, e, hs => absurd ht (by omega)
  | d + 1, s, e, hs => by
    simp only [ordW]
    by_cases c : nI (rkW pl m s) = x
    · rw [if_pos c]
      have l1 : rkW pl m s ≤ m := cntP_le
      have l2 : rkW pl m t ≤ m := cntP_le
      rw [← h, q_ninj (by omega) (by omega)] at c
      rw [rkW_inj (by omega) ht c]
    · rw [if_neg c]
      refine ordW_some hm ht h d (s + 1) (by omega) ?_
      by_cases e2 : s = t
      · subst e2; exact absurd h c
      · omega
section PUB4
variable {M : MM} {S : St} {Q : Option Value → MM → Prop}
theorem k_order {a x : Int32} (I : ClsInv M S) (O : StOK S) (kk : ∀ M', Kp M M' scr → Q (some (.int (spOrder S a x))) M') : Ca 102 [.ref 0, .int a, .int x] M Q := by
  have h4 := O.1.2.2.2.1
  unfold spOrder at kk
  have hk : q_cd 102 = kd_X8_order := rfl
  show WP 102 0 [some (.ref 0), some (.int a), some (.int x), none, none, none] [] M Q
  repeat (first | refine wp_s hk rfl rfl ?_ | refine wp_goto hk rfl ?_ | refine wp_geti hk rfl rfl rfl rfl ?_ | refine wp_getr hk rfl rfl rfl rfl ?_)
  refine wp_callV hk rfl rfl rfl rfl rfl rfl ?_
  refine k_isRule ?_
  refine wp_ifneB hk rfl rfl (fun ha => ?_) (fun h => ?_)
  · rw [if_pos ha] at kk
    obtain ⟨ha1, ha2⟩ := i2n_of (by omega) ha
    rw [ha2]
    generalize i2n a = r at ha1 kk ⊢
    repeat (first | refine wp_s hk rfl rfl ?_ | refine wp_goto hk rfl ?_ | refine wp_geti hk rfl rfl rfl rfl ?_ | refine wp_getr hk rfl rfl rfl rfl ?_)
    refine wp_qld (jx := r) hk rfl rfl rfl rfl (zcs_at r ha1) (by decide) ?_
    repeat (first | refine wp_s hk rfl rfl ?_ | refine wp_goto hk rfl ?_ | refine wp_geti hk rfl rfl rfl rfl ?_ | refine wp_getr hk rfl rfl rfl rfl ?_)
    refine wp_callV hk rfl rfl rfl rfl rfl rfl ?_
    refine t_take CSh1 TSh16 (ZShR r ha1) (by omega) (Or.inr (by omega)) I.1 O.1 (I.2.2.1 r ha1) (O.2.2.1 r ha1) (fun M1 K1 W1 => ?_)
    have I1 := I.kp O (K1.mono (by decide))
    have hkk := kk M1 (K1.mono (by decide))
    have p1 : ∀ s, 1 ≤ placeW (wS (sV S) (sR S r)) (sR S r).1 (vm (sV S)) s := fun s => placeW_1
    have p2 : ∀ s, s < vm (sV S) → placeW (wS (sV S) (sR S r)) (sR S r).1 (vm (sV S)) s ≤ vm (sV S) := fun s hs => placeW_m hs
    have hpl : ∀ s, s < vm (sV S) → ∀ (Q2 : Option Value → MM → Prop), Q2 (some (.int (nI (placeW (wS (sV S) (sR S r)) (sR S r).1 (vm (sV S)) s)))) M1 → Ca 31 [.ref 16, .int (nI s)] M1 Q2 := fun s hs Q2 k2 => t_placeOf TSh16 W1 hs k2
    generalize placeW (wS (sV S) (sR S r)) (sR S r).1 (vm (sV S)) = pl at hkk p1 p2 hpl
    have outer := q_dn (n := vm (sV S) + 1) (P := fun p => 1 ≤ p → ∀ x5, (∀ s, s < vm (sV S) → pl s < p → ¬ nI (rkW pl (vm (sV S)) s) = x) → WP 102 19 [some (.ref 0), some (.int (nI r)), some (.int x), some (.int (nI (cntP pl (vm (sV S)) p 0))), some (.int (nI p)), x5] [] M1 Q) (by
      intro _ x5 hn
      rw [ordW_none (fun s hs => hn s hs (by have := p2 s hs; omega)) (vm (sV S)) 0 (by omega)] at hkk
      repeat (first | refine wp_s hk rfl rfl ?_ | refine wp_goto hk rfl ?_ | refine wp_geti hk rfl rfl rfl rfl ?_ | refine wp_getr hk rfl rfl rfl rfl ?_)
      refine wp_callV hk rfl rfl rfl rfl rfl rfl ?_
      refine c_skaters CSh1 I1.1 ?_
      refine wp_icgtN (u := vm (sV S) + 1) (v := vm (sV S)) hk rfl rfl rfl (by omega) (by omega) (fun _ => ?_) (fun h => absurd h (by omega))
      repeat (first | refine wp_s hk rfl rfl ?_ | refine wp_goto hk rfl ?_ | refine wp_geti hk rfl rfl rfl rfl ?_ | refine wp_getr hk rfl rfl rfl rfl ?_)
      exact wp_ir hk rfl rfl hkk) (by
      intro p hp ih h1 x5 hn
      have inner := q_dn (n := vm (sV S)) (P := fun t => (∀ s, s < vm (sV S) → (pl s < p ∨ (pl s = p ∧ s < t)) → ¬ nI (rkW pl (vm (sV S)) s) = x) → WP 102 26 [some (.ref 0), some (.int (nI r)), some (.int x), some (.int (nI (cntP pl (vm (sV S)) p t))), some (.int (nI p)), some (.int (nI t))] [] M1 Q) (by
        intro hn2
        repeat (first | refine wp_s hk rfl rfl ?_ | refine wp_goto hk rfl ?_ | refine wp_geti hk rfl rfl rfl rfl ?_ | refine wp_getr hk rfl rfl rfl rfl ?_)
        refine wp_callV hk rfl rfl rfl rfl rfl rfl ?_
        refine c_skaters CSh1 I1.1 ?_
        refine wp_icgeN (u := vm (sV S)) (v := vm (sV S)) hk rfl rfl rfl (by omega) (by omega) (fun _ => ?_) (fun h => absurd h (by omega))
        refine wp_s hk rfl rfl ?_
        refine wp_goto hk rfl ?_
        rw [q_nadd p 1, ← cntP_nx]
        exact ih (by omega) _ (fun s hs h2 => hn2 s hs (by omega))) (by
        intro t ht iht hn2
        repeat (first | refine wp_s hk rfl rfl ?_ | refine wp_goto hk rfl ?_ | refine wp_geti hk rfl rfl rfl rfl ?_ | refine wp_getr hk rfl rfl rfl rfl ?_)
        refine wp_callV hk rfl rfl rfl rfl rfl rfl ?_
        refine c_skaters CSh1 I1.1 ?_
        refine wp_icgeN (u := t) (v := vm (sV S)) hk rfl rfl rfl (by omega) (by omega) (fun h => absurd h (by omega)) (fun _ => ?_)
        repeat (first | refine wp_s hk rfl rfl ?_ | refine wp_goto hk rfl ?_ | refine wp_geti hk rfl rfl rfl rfl ?_ | refine wp_getr hk rfl rfl rfl rfl ?_)
        refine wp_callV hk rfl rfl rfl rfl rfl rfl ?_
        refine hpl t ht _ ?_
        have l1 := p2 t ht
        repeat (first | refine wp_s hk rfl rfl ?_ | refine wp_goto hk rfl ?_ | refine wp_geti hk rfl rfl rfl rfl ?_ | refine wp_getr hk rfl rfl rfl rfl ?_)
        refine wp_icneN (u := pl t) (v := p) hk rfl rfl rfl (by omega) (by omega) (fun h => ?_) (fun h => ?_)
        · refine wp_s hk rfl rfl ?_
          refine wp_goto hk rfl ?_
          rw [q_nadd t 1]
          rw [cntP_out h] at iht
          exact iht (fun s hs h2 => hn2 s hs (by
            rcases h2 with h2 | ⟨h2, h3⟩
            · exact Or.inl h2
            · refine Or.inr ⟨h2, ?_⟩
              by_cases e : s = t
              · subst e; exact absurd h2 h
              · omega))
        · have hp' : pl t = p := Classical.not_not.mp h
          have hr : rkW pl (vm (sV S)) t = cntP pl (vm (sV S)) p t := by rw [cntP_rk, hp']
          rw [cntP_in ht hp'] at iht
          repeat (first | refine wp_s hk rfl rfl ?_ | refine wp_goto hk rfl ?_ | refine wp_geti hk rfl rfl rfl rfl ?_ | refine wp_getr hk rfl rfl rfl rfl ?_)
          refine wp_icne hk rfl (fun y => ?_) (fun y => ?_)
          · refine wp_s hk rfl rfl ?_
            refine wp_s hk rfl rfl ?_
            refine wp_goto hk rfl ?_
            rw [q_nadd t 1, q_nadd _ 1]
            refine iht (fun s hs h2 => ?_)
            by_cases e : s = t
            · subst e; rw [hr]; exact y
            · exact hn2 s hs (by omega)
          · rw [ordW_some h4 ht (by rw [hr]; exact Classical.not_not.mp y) (vm (sV S)) 0 (by omega) (Nat.zero_le _)] at hkk
            repeat (first | refine wp_s hk rfl rfl ?_ | refine wp_goto hk rfl ?_ | refine wp_geti hk rfl rfl rfl rfl ?_ | refine wp_getr hk rfl rfl rfl rfl ?_)
            exact wp_ir hk rfl rfl hkk)
      repeat (first | refine wp_s hk rfl rfl ?_ | refine wp_goto hk rfl ?_ | refine wp_geti hk rfl rfl rfl rfl ?_ | refine wp_getr hk rfl rfl rfl rfl ?_)
      refine wp_callV hk rfl rfl rfl rfl rfl rfl ?_
      refine c_skaters CSh1 I1.1 ?_
      refine wp_icgtN (u := p) (v := vm (sV S)) hk rfl rfl rfl (by omega) (by omega) (fun h => absurd h (by omega)) (fun _ => ?_)
      refine wp_s hk rfl rfl ?_
      refine wp_s hk rfl rfl ?_
      exact inner 0 (Nat.zero_le _) (fun s hs h2 => hn s hs (by omega)))
    have h0 := outer 1 (by omega) (Nat.le_refl _)
    rw [cntP_0 (fun s _ => p1 s)] at h0
    refine wp_s hk rfl rfl ?_
    refine wp_s hk rfl rfl ?_
    refine wp_s hk rfl rfl ?_
    refine wp_s hk rfl rfl ?_
    exact h0 _ (fun s hs h2 => absurd h2 (by have := p1 s; omega))
  · rw [h] at kk
    repeat (first | refine wp_s hk rfl rfl ?_ | refine wp_goto hk rfl ?_ | refine wp_geti hk rfl rfl rfl rfl ?_ | refine wp_getr hk rfl rfl rfl rfl ?_)
    exact wp_ir hk rfl rfl (kk M (Kp.rf _ _))
end PUB4
