/-! the class's standings -/
def TSh (t : Nat) : Prop := q_S[t]? = some (.inr (.inl (6, [some (some (t + 1)), some (some (t + 3)), none, none]))) ∧ SSh (t + 1) ∧ q_S[t + 3]? = some (.inl (false, 12))
theorem TSh16 : TSh 16 := ⟨rfl, SSh17, rfl⟩
theorem TSh20 : TSh 20 := ⟨rfl, SSh21, rfl⟩
def StW (M : MM) (t parts m : Nat) (w : Nat → Nat → Nat) : Prop := M t 2 = nI parts ∧ M t 3 = nI m ∧ parts ≤ 3 ∧ m ≤ 4 ∧ (∀ i, i < parts → ∀ s, s < m → M (t + 3) (4 * i + s) = nI (w i s)) ∧ ∀ i, i < parts → ∀ s, s < m → w i s ≤ 400
section STAND
variable {M : MM} {c t z : Nat} {V : Vw} {R : Ru} {Q : Option Value → MM → Prop}
theorem SchIs.kp {M' : MM} {ids : List Nat} (H : SchIs M z R) (h : Kp M M' ids) (h0 : z ∉ ids) (h1 : z + 1 ∉ ids) (h2 : z + 2 ∉ ids) (h3 : z + 3 ∉ ids) : SchIs M' z R := by
  unfold SchIs
  rw [h z h0, h (z + 1) h1, h (z + 2) h2, h (z + 3) h3]
  exact H
theorem StW.kp {M' : MM} {ids : List Nat} {parts m : Nat} {w : Nat → Nat → Nat} (H : StW M t parts m w) (h : Kp M M' ids) (h0 : t ∉ ids) (h3 : t + 3 ∉ ids) : StW M' t parts m w := by
  unfold StW
  rw [h t h0, h (t + 3) h3]
  exact H
theorem t_take (hc : CSh c) (ht : TSh t) (hz : ZSh z) (hct : c + 3 < t) (hzt : z + 3 < t ∨ t + 3 < z) (H : CardIs M c V) (O : VOK V) (HZ : SchIs M z R) (OZ : RuOK R)
    (kk : ∀ M', Kp M M' [t, t + 2, t + 3] → StW M' t R.1 (vm V) (worthW (vn V) (vm V) (vc V) (vk V) R) → Q none M') : Ca 81 [.ref t, .ref z, .ref c] M Q := by
  have hc' := hc
  have hz' := hz
  have hn7 := O.2.1
  have hm4 := O.2.2.2.1
  have hb := O.2.2.2.2.2.1
  have hp3 := OZ.2.1
  obtain ⟨hS, hA, hB, hC⟩ := hc
  obtain ⟨zS, zA, zB, zC⟩ := hz
  obtain ⟨tS, tG, tW⟩ := ht
  have gS := tG.1
  have cardK : ∀ M', Kp M M' [t, t + 2, t + 3] → CardIs M' c V := fun M' K => H.kp K (by simp; omega) (by simp; omega) (by simp; omega) (by simp; omega)
  have schK : ∀ M', Kp M M' [t, t + 2, t + 3] → SchIs M' z R := fun M' K => HZ.kp K (by simp; omega) (by simp; omega) (by simp; omega) (by simp; omega)
  have hk : q_cd 81 = kd_X6_take := rfl
  show WP 81 0 [some (.ref t), some (.ref z), some (.ref c), none, none] [] M Q
  repeat (first | refine wp_s hk rfl rfl ?_ | refine wp_goto hk rfl ?_ | refine wp_geti hk rfl rfl rfl rfl ?_ | refine wp_getr hk rfl rfl rfl rfl ?_)
  refine wp_callV hk rfl rfl rfl rfl zS rfl ?_
  refine z_parts hz' HZ ?_
  refine wp_put hk rfl tS rfl rfl rfl ?_
  have K0 : Kp M (q_up M t (upd (M t) 2 (nI R.1))) [t, t + 2, t + 3] := (Kp.rf _ _).up (by simp)
  repeat (first | refine wp_s hk rfl rfl ?_ | refine wp_goto hk rfl ?_ | refine wp_geti hk rfl rfl rfl rfl ?_ | refine wp_getr hk rfl rfl rfl rfl ?_)
  refine wp_callV hk rfl rfl rfl rfl hS rfl ?_
  refine c_skaters hc' (cardK _ K0) ?_
  refine wp_put hk rfl tS rfl rfl rfl ?_
  have e2 : (q_up (q_up M t (upd (M t) 2 (nI R.1))) t (upd ((q_up M t (upd (M t) 2 (nI R.1))) t) 3 (nI (vm V)))) t 2 = nI R.1 := by rw [qput, if_neg (by decide), qput, if_pos rfl]
  have e3 : (q_up (q_up M t (upd (M t) 2 (nI R.1))) t (upd ((q_up M t (upd (M t) 2 (nI R.1))) t) 3 (nI (vm V)))) t 3 = nI (vm V) := by rw [qput, if_pos rfl]
  have K2 : Kp M (q_up (q_up M t (upd (M t) 2 (nI R.1))) t (upd ((q_up M t (upd (M t) 2 (nI R.1))) t) 3 (nI (vm V)))) [t, t + 2, t + 3] := K0.up (by simp)
  generalize q_up (q_up M t (upd (M t) 2 (nI R.1))) t (upd ((q_up M t (upd (M t) 2 (nI R.1))) t) 3 (nI (vm V))) = M2 at e2 e3 K2 ⊢
  have g2 : ∀ M', Kp M2 M' [t + 2, t + 3] → M' t 2 = nI R.1 := fun M' K => by rw [K t (by simp)]; exact e2
  have g3 : ∀ M', Kp M2 M' [t + 2, t + 3] → M' t 3 = nI (vm V) := fun M' K => by rw [K t (by simp)]; exact e3
  have outer := q_dn (n := R.1) (P := fun i => ∀ M1 x4, Kp M2 M1 [t + 2, t + 3] → (∀ i', i' < i → ∀ s, s < vm V → M1 (t + 3) (4 * i' + s) = nI (worthW (vn V) (vm V) (vc V) (vk V) R i' s)) → WP 81 13 [some (.ref t), some (.ref z), some (.ref c), some (.int (nI i)), x4] [.int (M1 t 2), .int (nI i)] M1 Q) (by
    intro M1 x4 hK hw
    refine wp_icgeN (u := R.1) (v := R.1) hk rfl rfl (g2 M1 hK) (by omega) (by omega) (fun _ => ?_) (fun h => absurd h (by omega))
    exact wp_vr hk rfl (kk M1 (K2.tr (hK.mono (by simp))) ⟨g2 M1 hK, g3 M1 hK, hp3, hm4, hw, fun i hi s hs => worth_le hn7 hm4 (by omega) hb OZ hi⟩)) (by
    intro i hi ih M1 x4 hK hw
    refine wp_icgeN (u := i) (v := R.1) hk rfl rfl (g2 M1 hK) (by omega) (by omega) (fun h => absurd h (by omega)) (fun _ => ?_)
    have inner := q_dn (n := vm V) (P := fun s => ∀ M3, Kp M2 M3 [t + 2, t + 3] → (∀ i', i' < i → ∀ s, s < vm V → M3 (t + 3) (4 * i' + s) = nI (worthW (vn V) (vm V) (vc V) (vk V) R i' s)) → (∀ s', s' < s → M3 (t + 3) (4 * i + s') = nI (worthW (vn V) (vm V) (vc V) (vk V) R i s')) → WP 81 19 [some (.ref t), some (.ref z), some (.ref c), some (.int (nI i)), some (.int (nI s))] [.int (M3 t 3), .int (nI s)] M3 Q) (by
      intro M3 hK3 hw2 hw3
      refine wp_icgeN (u := vm V) (v := vm V) hk rfl rfl (g3 M3 hK3) (by omega) (by omega) (fun _ => ?_) (fun h => absurd h (by omega))
      repeat (first | refine wp_s hk rfl rfl ?_ | refine wp_goto hk rfl ?_ | refine wp_geti hk rfl rfl rfl rfl ?_ | refine wp_getr hk rfl rfl rfl rfl ?_ | refine wp_geti hk rfl tS rfl rfl ?_ | refine wp_getr hk rfl tS rfl rfl ?_)
      rw [q_nadd i 1]
      refine ih M3 _ hK3 (fun i' hi' s hs => ?_)
      by_cases e : i' = i
      · subst e; exact hw3 s hs
      · exact hw2 i' (by omega) s hs) (by
      intro s hs ihs M3 hK3 hw2 hw3
      refine wp_icgeN (u := s) (v := vm V) hk rfl rfl (g3 M3 hK3) (by omega) (by omega) (fun h => absurd h (by omega)) (fun _ => ?_)
      have K23 : Kp M M3 [t, t + 2, t + 3] := K2.tr (hK3.mono (by simp))
      repeat (first | refine wp_s hk rfl rfl ?_ | refine wp_goto hk rfl ?_ | refine wp_geti hk rfl rfl rfl rfl ?_ | refine wp_getr hk rfl rfl rfl rfl ?_ | refine wp_geti hk rfl tS rfl rfl ?_ | refine wp_getr hk rfl tS rfl rfl ?_)
      refine wp_callV hk rfl rfl rfl rfl gS rfl ?_
      refine g_weigh hc' tG hz' (Or.inl (by omega)) (cardK M3 K23) O (schK M3 K23) OZ hi hs (fun M4 K4 => ?_)
      refine wp_ast (jx := 4 * i + s) hk rfl tW (by simp only [q_nadd, q_nmul, Nat.mul_comm]) (by omega) ?_
      repeat (first | refine wp_s hk rfl rfl ?_ | refine wp_goto hk rfl ?_ | refine wp_geti hk rfl rfl rfl rfl ?_ | refine wp_getr hk rfl rfl rfl rfl ?_ | refine wp_geti hk rfl tS rfl rfl ?_ | refine wp_getr hk rfl tS rfl rfl ?_)
      rw [q_nadd s 1]
      have h98 : M4 (t + 3) = M3 (t + 3) := K4 (t + 3) (by simp)
      refine ihs _ ((hK3.tr (K4.mono (by simp))).up (by simp)) (fun i' hi' s' hs' => ?_) (fun s' hs' => ?_)
      · rw [q_up_at, upd_ne _ _ (by omega), h98]; exact hw2 i' hi' s' hs'
      · rw [q_up_at]
        by_cases e : s' = s
        · subst e; rw [upd_at]
        · rw [upd_ne _ _ (by omega), h98]; exact hw3 s' (by omega))
    repeat (first | refine wp_s hk rfl rfl ?_ | refine wp_goto hk rfl ?_ | refine wp_geti hk rfl rfl rfl rfl ?_ | refine wp_getr hk rfl rfl rfl rfl ?_ | refine wp_geti hk rfl tS rfl rfl ?_ | refine wp_getr hk rfl tS rfl rfl ?_)
    exact inner 0 (Nat.zero_le _) M1 hK hw (fun s' hs' => absurd hs' (Nat.not_lt_zero _)))
  repeat (first | refine wp_s hk rfl rfl ?_ | refine wp_goto hk rfl ?_ | refine wp_geti hk rfl rfl rfl rfl ?_ | refine wp_getr hk rfl rfl rfl rfl ?_ | refine wp_geti hk rfl tS rfl rfl ?_ | refine wp_getr hk rfl tS rfl rfl ?_)
  exact outer 0 (Nat.zero_le _) M2 _ (Kp.rf _ _) (fun i' hi' => absurd hi' (Nat.not_lt_zero _))
theorem t_worthOf {i s parts m : Nat} {w : Nat → Nat → Nat} (ht : TSh t) (H : StW M t parts m w) (hi : i < parts) (hs : s < m) (kk : Q (some (.int (nI (w i s)))) M) : Ca 29 [.ref t, .int (nI i), .int (nI s)] M Q := by
  obtain ⟨tS, tG, tW⟩ := ht
  obtain ⟨hp, hm, hp3, hm4, hw, hl⟩ := H
  have hk : q_cd 29 = kd_X6_worthOf := rfl
  show WP 29 0 [some (.ref t), some (.int (nI i)), some (.int (nI s))] [] M Q
  repeat (first | refine wp_s hk rfl rfl ?_ | refine wp_goto hk rfl ?_ | refine wp_geti hk rfl rfl rfl rfl ?_ | refine wp_getr hk rfl rfl rfl rfl ?_ | refine wp_geti hk rfl tS rfl rfl ?_ | refine wp_getr hk rfl tS rfl rfl ?_)
  refine wp_ald (jx := 4 * i + s) hk rfl tW (by simp only [q_nadd, q_nmul, Nat.mul_comm]) (by omega) ?_
  rw [hw i hi s hs]
  exact wp_ir hk rfl rfl kk
theorem t_ahead {a b parts m : Nat} {w : Nat → Nat → Nat} (ht : TSh t) (H : StW M t parts m w) (ha : a < m) (hb : b < m) (kk : Q (some (.int (nI (b2n (aheadW w a b 0 parts))))) M) : Ca 30 [.ref t, .int (nI a), .int (nI b)] M Q := by
  have ht' := ht
  obtain ⟨tS, tG, tW⟩ := ht
  obtain ⟨hp, hm, hp3, hm4, hw, hl⟩ := id H
  have hk : q_cd 30 = kd_X6_ahead := rfl
  show WP 30 0 [some (.ref t), some (.int (nI a)), some (.int (nI b)), none] [] M Q
  have loop := q_dn (n := parts) (P := fun i => Q (some (.int (nI (b2n (aheadW w a b i (parts - i)))))) M → WP 30 5 [some (.ref t), some (.int (nI a)), some (.int (nI b)), some (.int (nI i))] [.int (M t 2), .int (nI i)] M Q) (by
    intro hQ
    refine wp_icgeN (u := parts) (v := parts) hk rfl rfl hp (by omega) (by omega) (fun _ => ?_) (fun h => absurd h (by omega))
    rw [Nat.sub_self] at hQ
    repeat (first | refine wp_s hk rfl rfl ?_ | refine wp_goto hk rfl ?_ | refine wp_geti hk rfl rfl rfl rfl ?_ | refine wp_getr hk rfl rfl rfl rfl ?_)
    exact wp_ir hk rfl rfl hQ) (by
    intro i hi ih hQ
    refine wp_icgeN (u := i) (v := parts) hk rfl rfl hp (by omega) (by omega) (fun h => absurd h (by omega)) (fun _ => ?_)
    rw [show parts - i = (parts - (i + 1)) + 1 by omega] at hQ
    simp only [aheadW] at hQ
    have b1 := hl i hi a ha
    have b2 := hl i hi b hb
    repeat (first | refine wp_s hk rfl rfl ?_ | refine wp_goto hk rfl ?_ | refine wp_geti hk rfl rfl rfl rfl ?_ | refine wp_getr hk rfl rfl rfl rfl ?_)
    refine wp_callV hk rfl rfl rfl rfl tS rfl ?_
    refine t_worthOf ht' H hi ha ?_
    repeat (first | refine wp_s hk rfl rfl ?_ | refine wp_goto hk rfl ?_ | refine wp_geti hk rfl rfl rfl rfl ?_ | refine wp_getr hk rfl rfl rfl rfl ?_)
    refine wp_callV hk rfl rfl rfl rfl tS rfl ?_
    refine t_worthOf ht' H hi hb ?_
    refine wp_iceqN (u := w i a) (v := w i b) hk rfl rfl rfl (by omega) (by omega) (fun h => ?_) (fun h => ?_)
    · rw [if_pos h] at hQ
      repeat (first | refine wp_s hk rfl rfl ?_ | refine wp_goto hk rfl ?_ | refine wp_geti hk rfl rfl rfl rfl ?_ | refine wp_getr hk rfl rfl rfl rfl ?_ | refine wp_geti hk rfl tS rfl rfl ?_ | refine wp_getr hk rfl tS rfl rfl ?_)
      rw [q_nadd i 1]
      exact ih hQ
    · rw [if_neg h] at hQ
      repeat (first | refine wp_s hk rfl rfl ?_ | refine wp_goto hk rfl ?_ | refine wp_geti hk rfl rfl rfl rfl ?_ | refine wp_getr hk rfl rfl rfl rfl ?_)
      refine wp_callV hk rfl rfl rfl rfl tS rfl ?_
      refine t_worthOf ht' H hi ha ?_
      repeat (first | refine wp_s hk rfl rfl ?_ | refine wp_goto hk rfl ?_ | refine wp_geti hk rfl rfl rfl rfl ?_ | refine wp_getr hk rfl rfl rfl rfl ?_)
      refine wp_callV hk rfl rfl rfl rfl tS rfl ?_
      refine t_worthOf ht' H hi hb ?_
      refine wp_icleN (u := w i a) (v := w i b) hk rfl rfl rfl (by omega) (by omega) (fun h1 => ?_) (fun h1 => ?_)
      · rw [show decide (w i b < w i a) = false from decide_eq_false (by omega)] at hQ
        repeat (first | refine wp_s hk rfl rfl ?_ | refine wp_goto hk rfl ?_ | refine wp_geti hk rfl rfl rfl rfl ?_ | refine wp_getr hk rfl rfl rfl rfl ?_)
        exact wp_ir hk rfl rfl hQ
      · rw [show decide (w i b < w i a) = true from decide_eq_true (by omega)] at hQ
        repeat (first | refine wp_s hk rfl rfl ?_ | refine wp_goto hk rfl ?_ | refine wp_geti hk rfl rfl rfl rfl ?_ | refine wp_getr hk rfl rfl rfl rfl ?_)
        exact wp_ir hk rfl rfl hQ)
  repeat (first | refine wp_s hk rfl rfl ?_ | refine wp_goto hk rfl ?_ | refine wp_geti hk rfl rfl rfl rfl ?_ | refine wp_getr hk rfl rfl rfl rfl ?_ | refine wp_geti hk rfl tS rfl rfl ?_ | refine wp_getr hk rfl tS rfl rfl ?_)
  exact loop 0 (Nat.zero_le _) kk
theorem t_placeOf {s parts m : Nat} {w : Nat → Nat → Nat} (ht : TSh t) (H : StW M t parts m w) (hs : s < m) (kk : Q (some (.int (nI (placeW w parts m s)))) M) : Ca 31 [.ref t, .int (nI s)] M Q := by
  have ht' := ht
  have hm := H.2.1
  have hm4 := H.2.2.2.1
  obtain ⟨tS, tG, tW⟩ := ht
  have hk : q_cd 31 = kd_X6_placeOf := rfl
  show WP 31 0 [some (.ref t), some (.int (nI s)), none, none] [] M Q
  have loop := q_dn (n := m) (P := fun o => WP 31 7 [some (.ref t), some (.int (nI s)), some (.int (nI (placeW w parts o s))), some (.int (nI o))] [.int (M t 3), .int (nI o)] M Q) (by
    refine wp_icgeN (u := m) (v := m) hk rfl rfl hm (by omega) (by omega) (fun _ => ?_) (fun h => absurd h (by omega))
    repeat (first | refine wp_s hk rfl rfl ?_ | refine wp_goto hk rfl ?_ | refine wp_geti hk rfl rfl rfl rfl ?_ | refine wp_getr hk rfl rfl rfl rfl ?_)
    exact wp_ir hk rfl rfl kk) (by
    intro o ho ih
    refine wp_icgeN (u := o) (v := m) hk rfl rfl hm (by omega) (by omega) (fun h => absurd h (by omega)) (fun _ => ?_)
    have e1 : placeW w parts (o + 1) s = placeW w parts o s + (if aheadW w o s 0 parts = true then 1 else 0) := by simp only [placeW, sumN, Nat.add_assoc]
    rw [e1] at ih
    repeat (first | refine wp_s hk rfl rfl ?_ | refine wp_goto hk rfl ?_ | refine wp_geti hk rfl rfl rfl rfl ?_ | refine wp_getr hk rfl rfl rfl rfl ?_)
    refine wp_callV hk rfl rfl rfl rfl tS rfl ?_
    refine t_ahead ht' H ho hs ?_
    refine wp_ifeqB hk rfl rfl (fun h => ?_) (fun h => ?_)
    · rw [if_neg (by rw [h]; exact Bool.false_ne_true), Nat.add_zero] at ih
      repeat (first | refine wp_s hk rfl rfl ?_ | refine wp_goto hk rfl ?_ | refine wp_geti hk rfl rfl rfl rfl ?_ | refine wp_getr hk rfl rfl rfl rfl ?_ | refine wp_geti hk rfl tS rfl rfl ?_ | refine wp_getr hk rfl tS rfl rfl ?_)
      rw [q_nadd o 1]
      exact ih
    · rw [if_pos h] at ih
      repeat (first | refine wp_s hk rfl rfl ?_ | refine wp_goto hk rfl ?_ | refine wp_geti hk rfl rfl rfl rfl ?_ | refine wp_getr hk rfl rfl rfl rfl ?_ | refine wp_geti hk rfl tS rfl rfl ?_ | refine wp_getr hk rfl tS rfl rfl ?_)
      rw [q_nadd o 1, q_nadd]
      exact ih)
  repeat (first | refine wp_s hk rfl rfl ?_ | refine wp_goto hk rfl ?_ | refine wp_geti hk rfl rfl rfl rfl ?_ | refine wp_getr hk rfl rfl rfl rfl ?_ | refine wp_geti hk rfl tS rfl rfl ?_ | refine wp_getr hk rfl tS rfl rfl ?_)
  exact loop 0 (Nat.zero_le _)
theorem t_leaders {parts m : Nat} {w : Nat → Nat → Nat} (ht : TSh t) (H : StW M t parts m w) (kk : Q (some (.int (nI (firstW w parts m m)))) M) : Ca 82 [.ref t] M Q := by
  have ht' := ht
  have hm := H.2.1
  have hm4 := H.2.2.2.1
  obtain ⟨tS, tG, tW⟩ := ht
  have hk : q_cd 82 = kd_X6_leaders := rfl
  show WP 82 0 [some (.ref t), none, none] [] M Q
  have loop := q_dn (n := m) (P := fun s => WP 82 7 [some (.ref t), some (.int (nI (firstW w parts m s))), some (.int (nI s))] [.int (M t 3), .int (nI s)] M Q) (by
    refine wp_icgeN (u := m) (v := m) hk rfl rfl hm (by omega) (by omega) (fun _ => ?_) (fun h => absurd h (by omega))
    repeat (first | refine wp_s hk rfl rfl ?_ | refine wp_goto hk rfl ?_ | refine wp_geti hk rfl rfl rfl rfl ?_ | refine wp_getr hk rfl rfl rfl rfl ?_)
    exact wp_ir hk rfl rfl kk) (by
    intro s hs ih
    refine wp_icgeN (u := s) (v := m) hk rfl rfl hm (by omega) (by omega) (fun h => absurd h (by omega)) (fun _ => ?_)
    have h16 := firstW_lt (w := w) (parts := parts) (m := m) (s := s) (by omega)
    have h17 : 2 ^ s ≤ 2 ^ 3 := Nat.pow_le_pow_right (by omega) (by omega)
    simp only [firstW] at ih
    have hpl : placeW w parts m s ≤ 1 + m := placeW_le
    repeat (first | refine wp_s hk rfl rfl ?_ | refine wp_goto hk rfl ?_ | refine wp_geti hk rfl rfl rfl rfl ?_ | refine wp_getr hk rfl rfl rfl rfl ?_)
    refine wp_callV hk rfl rfl rfl rfl tS rfl ?_
    refine t_placeOf ht' H hs ?_
    repeat (first | refine wp_s hk rfl rfl ?_ | refine wp_goto hk rfl ?_ | refine wp_geti hk rfl rfl rfl rfl ?_ | refine wp_getr hk rfl rfl rfl rfl ?_)
    refine wp_icneN (u := placeW w parts m s) (v := 1) hk rfl rfl rfl (by omega) (by omega) (fun h => ?_) (fun h => ?_)
    · rw [if_neg h, Nat.or_zero] at ih
      repeat (first | refine wp_s hk rfl rfl ?_ | refine wp_goto hk rfl ?_ | refine wp_geti hk rfl rfl rfl rfl ?_ | refine wp_getr hk rfl rfl rfl rfl ?_ | refine wp_geti hk rfl tS rfl rfl ?_ | refine wp_getr hk rfl tS rfl rfl ?_)
      rw [q_nadd s 1]
      exact ih
    · rw [if_pos (Classical.not_not.mp h)] at ih
      repeat (first | refine wp_s hk rfl rfl ?_ | refine wp_goto hk rfl ?_ | refine wp_geti hk rfl rfl rfl rfl ?_ | refine wp_getr hk rfl rfl rfl rfl ?_ | refine wp_geti hk rfl tS rfl rfl ?_ | refine wp_getr hk rfl tS rfl rfl ?_)
      rw [q_nadd s 1, q_shl1 s (by omega), q_nor]
      exact ih)
  repeat (first | refine wp_s hk rfl rfl ?_ | refine wp_goto hk rfl ?_ | refine wp_geti hk rfl rfl rfl rfl ?_ | refine wp_getr hk rfl rfl rfl rfl ?_ | refine wp_geti hk rfl tS rfl rfl ?_ | refine wp_getr hk rfl tS rfl rfl ?_)
  exact loop 0 (Nat.zero_le _)
end STAND
