/-! the class's minds -/
/-- the least place of a land's skaters, 0 where there are none -/
def lsC (V : Vw) (pl : Nat → Nat) (f : Nat) : Nat → Nat
  | 0 => 0
  | t + 1 => if vs V t = f then (if lsC V pl f t = 0 then pl t else if pl t < lsC V pl f t then pl t else lsC V pl f t) else lsC V pl f t
theorem lsC_eq {V : Vw} {pl : Nat → Nat} {f m : Nat} (hp : ∀ t, t < m → 1 ≤ pl t ∧ pl t ≤ 8) : ∀ {t : Nat}, t ≤ m → (lsC V pl f t = if lstW V pl f t = 9 then 0 else lstW V pl f t) ∧ 1 ≤ lstW V pl f t ∧ lstW V pl f t ≤ 9
  | 0, _ => ⟨rfl, show 1 ≤ 9 by decide, Nat.le_refl 9⟩
  | t + 1, h => by
    obtain ⟨ih, i1, i9⟩ := lsC_eq hp (t := t) (by omega)
    obtain ⟨p1, p8⟩ := hp t (by omega)
    by_cases e : vs V t = f
    · by_cases h9 : lstW V pl f t = 9
      · have eL : lstW V pl f (t + 1) = pl t := by simp only [lstW]; rw [if_pos ⟨e, by omega⟩]
        have eC : lsC V pl f (t + 1) = pl t := by simp only [lsC]; rw [if_pos e, ih, if_pos h9, if_pos rfl]
        rw [eL, eC, if_neg (by omega)]
        exact ⟨rfl, by omega, by omega⟩
      · rw [if_neg h9] at ih
        by_cases hl : pl t < lstW V pl f t
        · have eL : lstW V pl f (t + 1) = pl t := by simp only [lstW]; rw [if_pos ⟨e, hl⟩]
          have eC : lsC V pl f (t + 1) = pl t := by simp only [lsC]; rw [if_pos e, ih, if_neg (by omega), if_pos hl]
          rw [eL, eC, if_neg (by omega)]
          exact ⟨rfl, by omega, by omega⟩
        · have eL : lstW V pl f (t + 1) = lstW V pl f t := by simp only [lstW]; rw [if_neg (fun z => hl z.2)]
          have eC : lsC V pl f (t + 1) = lstW V pl f t := by simp only [lsC]; rw [if_pos e, ih, if_neg (by omega), if_neg hl]
          rw [eL, eC, if_neg h9]
          exact ⟨rfl, by omega, by omega⟩
    · have eL : lstW V pl f (t + 1) = lstW V pl f t := by simp only [lstW]; rw [if_neg (fun z => e z.1)]
      have eC : lsC V pl f (t + 1) = lsC V pl f t := by simp only [lsC]; rw [if_neg e]
      rw [eL, eC]
      exact ⟨ih, by omega, by omega⟩
theorem lsC_lt {V : Vw} {pl pl' : Nat → Nat} {f m : Nat} (hp : ∀ t, t < m → 1 ≤ pl t ∧ pl t ≤ 8) (hp' : ∀ t, t < m → 1 ≤ pl' t ∧ pl' t ≤ 8) : (lsC V pl f m < lsC V pl' f m) ↔ (lstW V pl f m < lstW V pl' f m) := by
  have hany : ∀ t, t ≤ m → (lstW V pl f t = 9 ↔ lstW V pl' f t = 9) := by
    intro t
    induction t with
    | zero => intro _; exact ⟨fun _ => rfl, fun _ => rfl⟩
    | succ t ih =>
      intro ht
      have i0 := ih (by omega)
      obtain ⟨-, a1, a9⟩ := lsC_eq (V := V) (f := f) hp (t := t) (by omega)
      obtain ⟨-, b1, b9⟩ := lsC_eq (V := V) (f := f) hp' (t := t) (by omega)
      obtain ⟨p1, p8⟩ := hp t (by omega)
      obtain ⟨r1, r8⟩ := hp' t (by omega)
      simp only [lstW]
      by_cases e : vs V t = f
      · by_cases c1 : pl t < lstW V pl f t <;> by_cases c2 : pl' t < lstW V pl' f t
        · rw [if_pos ⟨e, c1⟩, if_pos ⟨e, c2⟩]; omega
        · rw [if_pos ⟨e, c1⟩, if_neg (fun z => c2 z.2)]; omega
        · rw [if_neg (fun z => c1 z.2), if_pos ⟨e, c2⟩]; omega
        · rw [if_neg (fun z => c1 z.2), if_neg (fun z => c2 z.2)]; omega
      · rw [if_neg (fun z => e z.1), if_neg (fun z => e z.1)]; exact i0
  obtain ⟨e1, a1, a9⟩ := lsC_eq (V := V) (f := f) hp (Nat.le_refl m)
  obtain ⟨e2, b1, b9⟩ := lsC_eq (V := V) (f := f) hp' (Nat.le_refl m)
  have h := hany m (Nat.le_refl m)
  rw [e1, e2]
  by_cases h9 : lstW V pl f m = 9
  · rw [if_pos h9, if_pos (h.mp h9)]; omega
  · rw [if_neg h9, if_neg (fun z => h9 (h.mpr z))]
section MINDS
variable {M : MM} {V : Vw} {Q : Option Value → MM → Prop}
theorem y_note {set parts : Nat} {w : Nat → Nat → Nat} (H : CardIs M 5 V) (O : VOK V) (W : StW M 20 parts (vm V) w) (hset : set < 128)
    (kk : ∀ M', Kp M M' [70] → (∀ x, (x < 4 * set ∨ 4 * set + 4 ≤ x) → M' 70 x = M 70 x) → (∀ f, f < 4 → M' 70 (4 * set + f) = nI (lsC V (placeW w parts (vm V)) f (vm V))) → Q none M') : Ca 32 [.ref 69, .int (nI set), .ref 5, .ref 20] M Q := by
  have hm4 := O.2.2.2.1
  have hl2 := O.2.2.2.2.2.2.2
  have hls : ∀ f t, t ≤ vm V → lsC V (placeW w parts (vm V)) f t ≤ 5 := by
    intro f t
    induction t with
    | zero => intro _; exact Nat.zero_le _
    | succ t ih =>
      intro ht
      have := ih (by omega)
      have := placeW_le (w := w) (parts := parts) (m := vm V) (s := t)
      simp only [lsC]
      repeat' split
      all_goals omega
  have hk : q_cd 32 = kd_X1_note := rfl
  show WP 32 0 [some (.ref 69), some (.int (nI set)), some (.ref 5), some (.ref 20), none, none, none, none] [] M Q
  have outer := q_dn (n := 4) (P := fun f => ∀ M1 x5 x6 x7, Kp M M1 [70] → (∀ x, (x < 4 * set ∨ 4 * set + f ≤ x) → M1 70 x = M 70 x) → (∀ f', f' < f → M1 70 (4 * set + f') = nI (lsC V (placeW w parts (vm V)) f' (vm V))) → WP 32 4 [some (.ref 69), some (.int (nI set)), some (.ref 5), some (.ref 20), some (.int (nI f)), x5, x6, x7] [.int (nI 4), .int (nI f)] M1 Q) (by
    intro M1 x5 x6 x7 K1 h1 h2
    refine wp_icgeN (u := 4) (v := 4) hk rfl rfl rfl (by omega) (by omega) (fun _ => ?_) (fun y => absurd y (by omega))
    exact wp_vr hk rfl (kk M1 K1 h1 h2)) (by
    intro f hf ih M1 x5 x6 x7 K1 h1 h2
    refine wp_icgeN (u := f) (v := 4) hk rfl rfl rfl (by omega) (by omega) (fun y => absurd y (by omega)) (fun _ => ?_)
    have H1 := H.kp K1 (by decide) (by decide) (by decide) (by decide)
    have W1 := W.kp K1 (by decide) (by decide)
    have inner := q_dn (n := vm V) (P := fun t => ∀ x7, WP 32 9 [some (.ref 69), some (.int (nI set)), some (.ref 5), some (.ref 20), some (.int (nI f)), some (.int (nI (lsC V (placeW w parts (vm V)) f t))), some (.int (nI t)), x7] [] M1 Q) (by
      intro x7
      repeat (first | refine wp_s hk rfl rfl ?_ | refine wp_goto hk rfl ?_ | refine wp_geti hk rfl rfl rfl rfl ?_ | refine wp_getr hk rfl rfl rfl rfl ?_)
      refine wp_callV hk rfl rfl rfl rfl rfl rfl ?_
      refine c_skaters CSh5 H1 ?_
      refine wp_icgeN (u := vm V) (v := vm V) hk rfl rfl rfl (by omega) (by omega) (fun _ => ?_) (fun y => absurd y (by omega))
      repeat (first | refine wp_s hk rfl rfl ?_ | refine wp_goto hk rfl ?_ | refine wp_geti hk rfl rfl rfl rfl ?_ | refine wp_getr hk rfl rfl rfl rfl ?_)
      refine wp_ast (jx := 4 * set + f) hk rfl rfl (by simp only [q_nadd, q_nmul, Nat.mul_comm]) (by omega) ?_
      repeat (first | refine wp_s hk rfl rfl ?_ | refine wp_goto hk rfl ?_ | refine wp_geti hk rfl rfl rfl rfl ?_ | refine wp_getr hk rfl rfl rfl rfl ?_)
      rw [q_nadd f 1]
      refine ih _ _ _ _ (K1.up (by decide)) (fun x hx => ?_) (fun f' hf' => ?_)
      · rw [q_up_at, upd_ne _ _ (by omega)]; exact h1 x (by omega)
      · rw [q_up_at]
        by_cases e : f' = f
        · subst e; rw [upd_at]
        · rw [upd_ne _ _ (by omega)]; exact h2 f' (by omega)) (by
      intro t ht iht x7
      have l2 := hl2 t (by omega)
      have lc := hls f t (by omega)
      have lp := placeW_le (w := w) (parts := parts) (m := vm V) (s := t)
      simp only [lsC] at iht
      repeat (first | refine wp_s hk rfl rfl ?_ | refine wp_goto hk rfl ?_ | refine wp_geti hk rfl rfl rfl rfl ?_ | refine wp_getr hk rfl rfl rfl rfl ?_)
      refine wp_callV hk rfl rfl rfl rfl rfl rfl ?_
      refine c_skaters CSh5 H1 ?_
      refine wp_icgeN (u := t) (v := vm V) hk rfl rfl rfl (by omega) (by omega) (fun y => absurd y (by omega)) (fun _ => ?_)
      repeat (first | refine wp_s hk rfl rfl ?_ | refine wp_goto hk rfl ?_ | refine wp_geti hk rfl rfl rfl rfl ?_ | refine wp_getr hk rfl rfl rfl rfl ?_)
      refine wp_callV hk rfl rfl rfl rfl rfl rfl ?_
      refine c_skaterLand CSh5 H1 (by omega) ?_
      repeat (first | refine wp_s hk rfl rfl ?_ | refine wp_goto hk rfl ?_ | refine wp_geti hk rfl rfl rfl rfl ?_ | refine wp_getr hk rfl rfl rfl rfl ?_)
      refine wp_icneN (u := vs V t) (v := f) hk rfl rfl rfl (by omega) (by omega) (fun y => ?_) (fun y => ?_)
      · rw [if_neg y] at iht
        refine wp_s hk rfl rfl ?_
        refine wp_goto hk rfl ?_
        rw [q_nadd t 1]
        exact iht _
      · rw [if_pos (Classical.not_not.mp y)] at iht
        repeat (first | refine wp_s hk rfl rfl ?_ | refine wp_goto hk rfl ?_ | refine wp_geti hk rfl rfl rfl rfl ?_ | refine wp_getr hk rfl rfl rfl rfl ?_)
        refine wp_callV hk rfl rfl rfl rfl rfl rfl ?_
        refine t_placeOf TSh20 W1 ht ?_
        repeat (first | refine wp_s hk rfl rfl ?_ | refine wp_goto hk rfl ?_ | refine wp_geti hk rfl rfl rfl rfl ?_ | refine wp_getr hk rfl rfl rfl rfl ?_)
        refine wp_ifneN (u := lsC V (placeW w parts (vm V)) f t) hk rfl rfl (by omega) (fun z => ?_) (fun z => ?_)
        · rw [if_neg z] at iht
          repeat (first | refine wp_s hk rfl rfl ?_ | refine wp_goto hk rfl ?_ | refine wp_geti hk rfl rfl rfl rfl ?_ | refine wp_getr hk rfl rfl rfl rfl ?_)
          refine wp_min hk rfl rfl rfl ?_
          have hmin : (if nI (placeW w parts (vm V) t) < nI (lsC V (placeW w parts (vm V)) f t) then nI (placeW w parts (vm V) t) else nI (lsC V (placeW w parts (vm V)) f t)) = nI (if placeW w parts (vm V) t < lsC V (placeW w parts (vm V)) f t then placeW w parts (vm V) t else lsC V (placeW w parts (vm V)) f t) := by
            by_cases c : placeW w parts (vm V) t < lsC V (placeW w parts (vm V)) f t
            · rw [if_pos c, if_pos ((q_nlt (by omega) (by omega)).mpr c)]
            · rw [if_neg c, if_neg (fun q => c ((q_nlt (by omega) (by omega)).mp q))]
          rw [hmin]
          refine wp_s hk rfl rfl ?_
          refine wp_s hk rfl rfl ?_
          refine wp_goto hk rfl ?_
          rw [q_nadd t 1]
          exact iht _
        · rw [if_pos (Classical.not_not.mp z)] at iht
          refine wp_s hk rfl rfl ?_
          refine wp_goto hk rfl ?_
          refine wp_s hk rfl rfl ?_
          refine wp_s hk rfl rfl ?_
          refine wp_goto hk rfl ?_
          rw [q_nadd t 1]
          exact iht _)
    refine wp_s hk rfl rfl ?_
    refine wp_s hk rfl rfl ?_
    refine wp_s hk rfl rfl ?_
    refine wp_s hk rfl rfl ?_
    exact inner 0 (Nat.zero_le _) _)
  repeat (first | refine wp_s hk rfl rfl ?_ | refine wp_goto hk rfl ?_ | refine wp_geti hk rfl rfl rfl rfl ?_ | refine wp_getr hk rfl rfl rfl rfl ?_)
  exact outer 0 (Nat.zero_le _) M _ _ _ (Kp.rf _ _) (fun _ _ => rfl) (fun f' hf' => absurd hf' (Nat.not_lt_zero _))
end MINDS
