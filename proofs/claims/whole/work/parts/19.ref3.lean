theorem pt_le (a b : Nat) : pt a b ≤ 2 := by simp only [pt]; split <;> (try split) <;> omega
theorem worth_le {n m : Nat} {cnt : Nat → Bool} {mk : Nat → Nat → Nat} {R : Ru} {i s : Nat} (hn : n ≤ 7) (hm : m ≤ 4) (hs : s < 4) (hb : ∀ j, j < 7 → ∀ s, s < 4 → mk j s ≤ 5) (hR : RuOK R) (hi : i < R.1) : worthW n m cnt mk R i s ≤ 400 := by
  have hk4 := hR.2.2.1 i hi
  have hw := hR.2.2.2.2 i hi
  unfold worthW
  split
  · have := sumN_le (f := fun i_1 => if R.2.2.1 i ≤ i_1 then (srt cnt (fun j => mk j s) n).1 i_1 else 0) (c := 5) (n := (srt cnt (fun j => mk j s) n).2 - R.2.2.1 i) (fun j _ => by
      have := srt_le (cnt := cnt) (col := fun j => mk j s) (c := 5) (j := n) (fun i hi => hb i (by omega) s hs) j
      split <;> omega)
    have h2 := srt_n (cnt := cnt) (col := fun j => mk j s) (j := n)
    unfold wStruck
    omega
  · have h := srt_le (cnt := cnt) (col := fun j => mk j s) (c := 5) (j := n) (fun i hi => hb i (by omega) s hs)
    unfold wMid
    split
    · omega
    · have h1 := h (((srt cnt (fun j => mk j s) n).2 - 1) / 2)
      have h2 := h ((srt cnt (fun j => mk j s) n).2 / 2)
      omega
  · have := sumN_le (f := fun j => if cnt j then sumN (fun o => if o = s then 0 else pt (mk j s) (mk j o)) m else 0) (c := 8) (n := n) (fun j _ => by
      have := sumN_le (f := fun o => if o = s then 0 else pt (mk j s) (mk j o)) (c := 2) (n := m) (fun o _ => by
        have := pt_le (mk j s) (mk j o); split <;> omega)
      split <;> omega)
    unfold wRanks
    omega
  · have := sumN_le (f := fun o => if o = s then 0 else pt (wMore n cnt mk s o) (wMore n cnt mk o s)) (c := 2) (n := m) (fun o _ => by
      have := pt_le (wMore n cnt mk s o) (wMore n cnt mk o s); split <;> omega)
    unfold wPairs
    omega
  · rename_i h0 h1 h2 h3
    have hk : R.2.1 i = 4 := by
      rcases Nat.lt_or_ge (R.2.1 i) 4 with z | z
      · generalize R.2.1 i = q at *
        match q, z with
        | 0, _ => exact absurd rfl h0
        | 1, _ => exact absurd rfl h1
        | 2, _ => exact absurd rfl h2
        | 3, _ => exact absurd rfl h3
      · omega
    have := sumN_le (f := fun j => if cnt j then mk j s * R.2.2.2 i j else 0) (c := 45) (n := n) (fun j hj => by
      have b1 := hb j (by omega) s hs
      have b2 := hw hk j (by omega)
      split
      · exact Nat.mul_le_mul b1 b2
      · omega)
    unfold wWei
    omega
theorem m_worthOf {M : MM} {n m : Nat} {cnt : Nat → Bool} {mk : Nat → Nat → Nat} {R : Ru} {r i s : Nat} {Q : Option Value → MM → Prop} (H : RefV M n m cnt mk) (hr : r ≤ 3) (hR : RefRu M r R) (hO : RuOK R) (hi : i < R.1) (hs : s < m)
    (kk : ∀ M', Kp M M' [99] → Q (some (.int (nI (worthW n m cnt mk R i s)))) M') : Ca 160 [.ref 83, .int (nI r), .int (nI i), .int (nI s)] M Q := by
  have hm4 : m ≤ 4 := H.2.2.2.1
  have hk4 := hO.2.2.1 i hi
  have hi3 : i < 3 := by have := hO.2.1; omega
  obtain ⟨h1, h2, h3, h4⟩ := hR
  have hk : q_cd 160 = kd_X9_worthOf := rfl
  show WP 160 0 [some (.ref 83), some (.int (nI r)), some (.int (nI i)), some (.int (nI s)), none] [] M Q
  repeat (first | refine wp_s hk rfl rfl ?_ | refine wp_goto hk rfl ?_ | refine wp_geti hk rfl rfl rfl rfl ?_ | refine wp_getr hk rfl rfl rfl rfl ?_)
  rw [q_nmul, q_nadd]
  refine wp_ald (jx := 3 * r + i) hk rfl rfl rfl (by omega) ?_
  rw [h2 i hi]
  have hst := h3 i hi
  have hfg := h4 i hi
  have hos := hO.2.2.2.1 i hi
  unfold worthW at kk
  generalize R.2.1 i = kd at *
  match kd, hk4 with
  | 0, _ =>
    refine wp_tab hk rfl rfl rfl ?_
    repeat (first | refine wp_s hk rfl rfl ?_ | refine wp_goto hk rfl ?_ | refine wp_geti hk rfl rfl rfl rfl ?_ | refine wp_getr hk rfl rfl rfl rfl ?_)
    refine wp_ald (jx := 3 * r + i) hk rfl rfl rfl (by omega) ?_
    rw [hst rfl]
    refine wp_callV hk rfl rfl rfl rfl rfl rfl ?_
    refine m_struck H (by omega) (hos rfl) (fun M' hM => ?_)
    exact wp_ir hk rfl rfl (kk M' hM)
  | 1, _ =>
    refine wp_tab hk rfl rfl rfl ?_
    repeat (first | refine wp_s hk rfl rfl ?_ | refine wp_goto hk rfl ?_ | refine wp_geti hk rfl rfl rfl rfl ?_ | refine wp_getr hk rfl rfl rfl rfl ?_)
    refine wp_callV hk rfl rfl rfl rfl rfl rfl ?_
    refine m_middle H (by omega) (fun M' hM => ?_)
    exact wp_ir hk rfl rfl (kk M' hM)
  | 2, _ =>
    refine wp_tab hk rfl rfl rfl ?_
    repeat (first | refine wp_s hk rfl rfl ?_ | refine wp_goto hk rfl ?_ | refine wp_geti hk rfl rfl rfl rfl ?_ | refine wp_getr hk rfl rfl rfl rfl ?_)
    refine wp_callV hk rfl rfl rfl rfl rfl rfl ?_
    refine m_ranks H hs ?_
    exact wp_ir hk rfl rfl (kk M (Kp.rf _ _))
  | 3, _ =>
    refine wp_tab hk rfl rfl rfl ?_
    repeat (first | refine wp_s hk rfl rfl ?_ | refine wp_goto hk rfl ?_ | refine wp_geti hk rfl rfl rfl rfl ?_ | refine wp_getr hk rfl rfl rfl rfl ?_)
    refine wp_callV hk rfl rfl rfl rfl rfl rfl ?_
    refine m_pairs H hs ?_
    exact wp_ir hk rfl rfl (kk M (Kp.rf _ _))
  | 4, _ =>
    refine wp_tab hk rfl rfl rfl ?_
    repeat (first | refine wp_s hk rfl rfl ?_ | refine wp_goto hk rfl ?_ | refine wp_geti hk rfl rfl rfl rfl ?_ | refine wp_getr hk rfl rfl rfl rfl ?_)
    refine wp_callV hk rfl rfl rfl rfl rfl rfl ?_
    refine m_weighed (at_ := 3 * r + i) (fig := R.2.2.2 i) H (by omega) (by omega) (fun j hj => ?_) ?_
    · rw [show 7 * (3 * r + i) + j = 21 * r + 7 * i + j by omega]; exact hfg rfl j hj
    · exact wp_ir hk rfl rfl (kk M (Kp.rf _ _))
/-- the worths lie in their row -/
def RefW (M : MM) (r parts m : Nat) (w : Nat → Nat → Nat) : Prop := M 94 r = nI parts ∧ M 83 2 = nI m ∧ parts ≤ 3 ∧ m ≤ 4 ∧ (∀ i, i < parts → ∀ s, s < m → M 98 (4 * i + s) = nI (w i s)) ∧ ∀ i, i < parts → ∀ s, s < m → w i s ≤ 400
theorem RefRu.kp {M M' : MM} {r : Nat} {R : Ru} {ids : List Nat} (H : RefRu M r R) (h : Kp M M' ids) (h1 : 94 ∉ ids) (h2 : 95 ∉ ids) (h3 : 96 ∉ ids) (h4 : 97 ∉ ids) : RefRu M' r R := by
  unfold RefRu
  rw [h 94 h1, h 95 h2, h 96 h3, h 97 h4]
  exact H
theorem m_lay {M : MM} {n m : Nat} {cnt : Nat → Bool} {mk : Nat → Nat → Nat} {R : Ru} {r : Nat} {Q : Option Value → MM → Prop} (H : RefV M n m cnt mk) (hr : r ≤ 3) (hR : RefRu M r R) (hO : RuOK R)
    (kk : ∀ M', Kp M M' [98, 99] → RefW M' r R.1 m (worthW n m cnt mk R) → Q none M') : Ca 161 [.ref 83, .int (nI r)] M Q := by
  have hm := H.2.1
  have hn7 := H.2.2.1
  have hm4 := H.2.2.2.1
  have hb := H.2.2.2.2.2.2
  have hp := hR.1
  have hp3 := hO.2.1
  have hk : q_cd 161 = kd_X9_lay := rfl
  show WP 161 0 [some (.ref 83), some (.int (nI r)), none, none] [] M Q
  have outer := q_dn (n := R.1) (P := fun i => ∀ M1 x3, Kp M M1 [98, 99] → (∀ i', i' < i → ∀ s, s < m → M1 98 (4 * i' + s) = nI (worthW n m cnt mk R i' s)) → WP 161 7 [some (.ref 83), some (.int (nI r)), some (.int (nI i)), x3] [.int (M1 94 r), .int (nI i)] M1 Q) (by
    intro M1 x3 hK hw
    refine wp_icgeN hk rfl rfl ((congrFun (hK 94 (by decide)) r).trans hp) (by first | omega | decide) (by first | omega | decide) (fun _ => ?_) (fun h => absurd h (by omega))
    exact wp_vr hk rfl (kk M1 hK ⟨(congrFun (hK 94 (by decide)) r).trans hp, (congrFun (hK 83 (by decide)) 2).trans hm, hp3, hm4, hw, fun i hi s hs => worth_le hn7 hm4 (by omega) hb hO hi⟩)) (by
    intro i hi ih M1 x3 hK hw
    refine wp_icgeN hk rfl rfl ((congrFun (hK 94 (by decide)) r).trans hp) (by first | omega | decide) (by first | omega | decide) (fun h => absurd h (by omega)) (fun _ => ?_)
    repeat (first | refine wp_s hk rfl rfl ?_ | refine wp_goto hk rfl ?_ | refine wp_geti hk rfl rfl rfl rfl ?_ | refine wp_getr hk rfl rfl rfl rfl ?_)
    have inner := q_dn (n := m) (P := fun s => ∀ M2, Kp M M2 [98, 99] → (∀ i', i' < i → ∀ s, s < m → M2 98 (4 * i' + s) = nI (worthW n m cnt mk R i' s)) → (∀ s', s' < s → M2 98 (4 * i + s') = nI (worthW n m cnt mk R i s')) → WP 161 13 [some (.ref 83), some (.int (nI r)), some (.int (nI i)), some (.int (nI s))] [.int (M2 83 2), .int (nI s)] M2 Q) (by
      intro M2 hK2 hw2 hw3
      refine wp_icgeN hk rfl rfl ((congrFun (hK2 83 (by decide)) 2).trans hm) (by first | omega | decide) (by first | omega | decide) (fun _ => ?_) (fun h => absurd h (by omega))
      repeat (first | refine wp_s hk rfl rfl ?_ | refine wp_goto hk rfl ?_ | refine wp_geti hk rfl rfl rfl rfl ?_ | refine wp_getr hk rfl rfl rfl rfl ?_)
      rw [q_nadd i 1]
      refine wp_ald (jx := r) hk rfl rfl rfl (by omega) ?_
      refine ih M2 _ hK2 (fun i' hi' s hs => ?_)
      by_cases e : i' = i
      · subst e; exact hw3 s hs
      · exact hw2 i' (by omega) s hs) (by
      intro s hs ihs M2 hK2 hw2 hw3
      refine wp_icgeN hk rfl rfl ((congrFun (hK2 83 (by decide)) 2).trans hm) (by first | omega | decide) (by first | omega | decide) (fun h => absurd h (by omega)) (fun _ => ?_)
      repeat (first | refine wp_s hk rfl rfl ?_ | refine wp_goto hk rfl ?_ | refine wp_geti hk rfl rfl rfl rfl ?_ | refine wp_getr hk rfl rfl rfl rfl ?_)
      refine wp_callV hk rfl rfl rfl rfl rfl rfl ?_
      refine m_worthOf (H.kp hK2 (by decide) (by decide) (by decide)) hr (hR.kp hK2 (by decide) (by decide) (by decide) (by decide)) hO hi hs (fun M3 hK3 => ?_)
      refine wp_ast (jx := 4 * i + s) hk rfl rfl (by simp only [q_nadd, q_nmul]) (by omega) ?_
      repeat (first | refine wp_s hk rfl rfl ?_ | refine wp_goto hk rfl ?_ | refine wp_geti hk rfl rfl rfl rfl ?_ | refine wp_getr hk rfl rfl rfl rfl ?_)
      rw [q_nadd s 1]
      have h98 : M3 98 = M2 98 := hK3 98 (by decide)
      refine ihs _ ((hK2.tr (hK3.mono (by decide))).up (by decide)) (fun i' hi' s' hs' => ?_) (fun s' hs' => ?_)
      · rw [q_up_at, upd_ne _ _ (by omega), h98]; exact hw2 i' hi' s' hs'
      · rw [q_up_at]
        by_cases e : s' = s
        · subst e; rw [upd_at]
        · rw [upd_ne _ _ (by omega), h98]; exact hw3 s' (by omega))
    exact inner 0 (Nat.zero_le _) M1 hK hw (fun s' hs' => absurd hs' (Nat.not_lt_zero _)))
  repeat (first | refine wp_s hk rfl rfl ?_ | refine wp_goto hk rfl ?_ | refine wp_geti hk rfl rfl rfl rfl ?_ | refine wp_getr hk rfl rfl rfl rfl ?_)
  refine wp_ald (jx := r) hk rfl rfl rfl (by omega) ?_
  exact outer 0 (Nat.zero_le _) M _ (Kp.rf _ _) (fun i' hi' => absurd hi' (Nat.not_lt_zero _))
/-- the sign of two skaters -/
def sgW (a b : Bool) : Int32 := if a then nI 1 else if b then Int32.ofInt (.negSucc 0) else nI 0
theorem m_by {M : MM} {r parts m : Nat} {w : Nat → Nat → Nat} {a b : Nat} {Q : Option Value → MM → Prop} (H : RefW M r parts m w) (hr : r ≤ 3) (ha : a < m) (hb : b < m) (kk : Q (some (.int (sgW (aheadW w a b 0 parts) (aheadW w b a 0 parts)))) M) : Ca 162 [.ref 83, .int (nI r), .int (nI a), .int (nI b)] M Q := by
  obtain ⟨hp, hm, hp3, hm4, hw, hl⟩ := H
  have hk : q_cd 162 = kd_X9_by := rfl
  show WP 162 0 [some (.ref 83), some (.int (nI r)), some (.int (nI a)), some (.int (nI b)), none, none] [] M Q
  have loop := q_dn (n := parts) (P := fun i => ∀ x5, Q (some (.int (sgW (aheadW w a b i (parts - i)) (aheadW w b a i (parts - i))))) M → WP 162 7 [some (.ref 83), some (.int (nI r)), some (.int (nI a)), some (.int (nI b)), some (.int (nI i)), x5] [.int (M 94 r), .int (nI i)] M Q) (by
    intro x5 hQ
    refine wp_icgeN hk rfl rfl hp (by first | omega | decide) (by first | omega | decide) (fun _ => ?_) (fun h => absurd h (by omega))
    repeat (first | refine wp_s hk rfl rfl ?_ | refine wp_goto hk rfl ?_ | refine wp_geti hk rfl rfl rfl rfl ?_ | refine wp_getr hk rfl rfl rfl rfl ?_)
    refine wp_ir hk rfl rfl ?_
    rw [Nat.sub_self] at hQ
    exact hQ) (by
    intro i hi ih x5 hQ
    refine wp_icgeN hk rfl rfl hp (by first | omega | decide) (by first | omega | decide) (fun h => absurd h (by omega)) (fun _ => ?_)
    rw [show parts - i = (parts - (i + 1)) + 1 by omega] at hQ
    simp only [aheadW] at hQ
    have b1 := hl i hi a ha
    have b2 := hl i hi b hb
    repeat (first | refine wp_s hk rfl rfl ?_ | refine wp_goto hk rfl ?_ | refine wp_geti hk rfl rfl rfl rfl ?_ | refine wp_getr hk rfl rfl rfl rfl ?_)
    refine wp_ald (jx := 4 * i + a) hk rfl rfl (by simp only [q_nadd, q_nmul]) (by omega) ?_
    rw [hw i hi a ha]
    repeat (first | refine wp_s hk rfl rfl ?_ | refine wp_goto hk rfl ?_ | refine wp_geti hk rfl rfl rfl rfl ?_ | refine wp_getr hk rfl rfl rfl rfl ?_)
    refine wp_ald (jx := 4 * i + b) hk rfl rfl (by simp only [q_nadd, q_nmul]) (by omega) ?_
    rw [hw i hi b hb]
    repeat (first | refine wp_s hk rfl rfl ?_ | refine wp_goto hk rfl ?_ | refine wp_geti hk rfl rfl rfl rfl ?_ | refine wp_getr hk rfl rfl rfl rfl ?_)
    refine wp_ifeqD hk rfl rfl (by omega) (by omega) (fun h => ?_) (fun h => ?_)
    · repeat (first | refine wp_s hk rfl rfl ?_ | refine wp_goto hk rfl ?_ | refine wp_geti hk rfl rfl rfl rfl ?_ | refine wp_getr hk rfl rfl rfl rfl ?_)
      rw [q_nadd i 1]
      refine wp_ald (jx := r) hk rfl rfl rfl (by omega) ?_
      refine ih _ ?_
      rw [if_pos h, if_pos h.symm] at hQ
      exact hQ
    · rw [if_neg h, if_neg (fun z => h z.symm)] at hQ
      repeat (first | refine wp_s hk rfl rfl ?_ | refine wp_goto hk rfl ?_ | refine wp_geti hk rfl rfl rfl rfl ?_ | refine wp_getr hk rfl rfl rfl rfl ?_)
      refine wp_ifleD hk rfl rfl (by omega) (by omega) (fun h1 => ?_) (fun h1 => ?_)
      · repeat (first | refine wp_s hk rfl rfl ?_ | refine wp_goto hk rfl ?_ | refine wp_geti hk rfl rfl rfl rfl ?_ | refine wp_getr hk rfl rfl rfl rfl ?_)
        refine wp_ir hk rfl rfl ?_
        rw [show decide (w i b < w i a) = false from decide_eq_false (by omega), show decide (w i a < w i b) = true from decide_eq_true (by omega)] at hQ
        exact hQ
      · repeat (first | refine wp_s hk rfl rfl ?_ | refine wp_goto hk rfl ?_ | refine wp_geti hk rfl rfl rfl rfl ?_ | refine wp_getr hk rfl rfl rfl rfl ?_)
        refine wp_ir hk rfl rfl ?_
        rw [show decide (w i b < w i a) = true from decide_eq_true (by omega)] at hQ
        exact hQ)
  repeat (first | refine wp_s hk rfl rfl ?_ | refine wp_goto hk rfl ?_ | refine wp_geti hk rfl rfl rfl rfl ?_ | refine wp_getr hk rfl rfl rfl rfl ?_)
  refine wp_ald (jx := r) hk rfl rfl rfl (by omega) ?_
  exact loop 0 (Nat.zero_le _) _ kk
theorem aheadW_irr {w : Nat → Nat → Nat} {a b : Nat} : ∀ {d i : Nat}, aheadW w a b i d = true → aheadW w b a i d = false
  | 0, _, h => by cases h
  | d + 1, i, h => by
    simp only [aheadW] at h ⊢
    by_cases e : w i a = w i b
    · rw [if_pos e] at h; rw [if_pos e.symm]; exact aheadW_irr h
    · rw [if_neg e] at h; rw [if_neg (fun z => e z.symm)]
      have := of_decide_eq_true h
      exact decide_eq_false (by omega)
theorem sgW_gt {a b : Bool} : 0 < sgW a b ↔ a = true := by
  cases a <;> cases b <;> decide
theorem m_placeOf {M : MM} {r parts m : Nat} {w : Nat → Nat → Nat} {s : Nat} {Q : Option Value → MM → Prop} (H : RefW M r parts m w) (hr : r ≤ 3) (hs : s < m) (kk : Q (some (.int (nI (placeW w parts m s)))) M) : Ca 163 [.ref 83, .int (nI r), .int (nI s)] M Q := by
  have hm := H.2.1
  have hm4 := H.2.2.2.1
  have hk : q_cd 163 = kd_X9_placeOf := rfl
  show WP 163 0 [some (.ref 83), some (.int (nI r)), some (.int (nI s)), none, none] [] M Q
  have loop := q_dn (n := m) (P := fun o => WP 163 7 [some (.ref 83), some (.int (nI r)), some (.int (nI s)), some (.int (nI (placeW w parts o s))), some (.int (nI o))] [.int (M 83 2), .int (nI o)] M Q) (by
    refine wp_icgeN hk rfl rfl hm (by first | omega | decide) (by first | omega | decide) (fun _ => ?_) (fun h => absurd h (by omega))
    repeat (first | refine wp_s hk rfl rfl ?_ | refine wp_goto hk rfl ?_ | refine wp_geti hk rfl rfl rfl rfl ?_ | refine wp_getr hk rfl rfl rfl rfl ?_)
    exact wp_ir hk rfl rfl kk) (by
    intro o ho ih
    refine wp_icgeN hk rfl rfl hm (by first | omega | decide) (by first | omega | decide) (fun h => absurd h (by omega)) (fun _ => ?_)
    have e1 : placeW w parts (o + 1) s = placeW w parts o s + (if aheadW w o s 0 parts = true then 1 else 0) := by simp only [placeW, sumN, Nat.add_assoc]
    rw [e1] at ih
    repeat (first | refine wp_s hk rfl rfl ?_ | refine wp_goto hk rfl ?_ | refine wp_geti hk rfl rfl rfl rfl ?_ | refine wp_getr hk rfl rfl rfl rfl ?_)
    refine wp_callV hk rfl rfl rfl rfl rfl rfl ?_
    refine m_by H hr ho hs ?_
    refine wp_ifle hk rfl (fun h => ?_) (fun h => ?_)
    · rw [if_neg (fun z => Int32.not_lt.mpr h (sgW_gt.mpr z))] at ih
      repeat (first | refine wp_s hk rfl rfl ?_ | refine wp_goto hk rfl ?_ | refine wp_geti hk rfl rfl rfl rfl ?_ | refine wp_getr hk rfl rfl rfl rfl ?_)
      rw [q_nadd o 1, nI_0, Int32.add_zero]
      exact ih
    · rw [if_pos (sgW_gt.mp (Int32.not_le.mp h))] at ih
      repeat (first | refine wp_s hk rfl rfl ?_ | refine wp_goto hk rfl ?_ | refine wp_geti hk rfl rfl rfl rfl ?_ | refine wp_getr hk rfl rfl rfl rfl ?_)
      rw [q_nadd o 1, q_nadd]
      exact ih)
  repeat (first | refine wp_s hk rfl rfl ?_ | refine wp_goto hk rfl ?_ | refine wp_geti hk rfl rfl rfl rfl ?_ | refine wp_getr hk rfl rfl rfl rfl ?_)
  exact loop 0 (Nat.zero_le _)
/-- who is at place 1, as bits -/
def firstW (w : Nat → Nat → Nat) (parts m : Nat) : Nat → Nat
  | 0 => 0
  | s + 1 => firstW w parts m s ||| (if placeW w parts m s = 1 then 2 ^ s else 0)
theorem q_or16 : ∀ a, a < 16 → ∀ b, b < 16 → nI a ||| nI b = nI (a ||| b) := by decide +kernel
theorem q_shl4 : ∀ n, n < 8 → nI 1 <<< (nI n &&& 31) = nI (2 ^ n) := q_shl1
theorem firstW_lt {w : Nat → Nat → Nat} {parts m : Nat} : ∀ {s : Nat}, s ≤ 4 → firstW w parts m s < 2 ^ s
  | 0, _ => by simp [firstW]
  | s + 1, h => by
    have h1 := firstW_lt (w := w) (parts := parts) (m := m) (s := s) (by omega)
    simp only [firstW]
    have h2 : 2 ^ s < 2 ^ (s + 1) := Nat.pow_lt_pow_right (by omega) (by omega)
    exact Nat.or_lt_two_pow (by omega) (by split <;> omega)
theorem m_firsts {M : MM} {r parts m : Nat} {w : Nat → Nat → Nat} {Q : Option Value → MM → Prop} (H : RefW M r parts m w) (hr : r ≤ 3) (kk : Q (some (.int (nI (firstW w parts m m)))) M) : Ca 164 [.ref 83, .int (nI r)] M Q := by
  have hm := H.2.1
  have hm4 := H.2.2.2.1
  have hk : q_cd 164 = kd_X9_firsts := rfl
  show WP 164 0 [some (.ref 83), some (.int (nI r)), none, none] [] M Q
  have loop := q_dn (n := m) (P := fun s => WP 164 7 [some (.ref 83), some (.int (nI r)), some (.int (nI (firstW w parts m s))), some (.int (nI s))] [.int (M 83 2), .int (nI s)] M Q) (by
    refine wp_icgeN hk rfl rfl hm (by first | omega | decide) (by first | omega | decide) (fun _ => ?_) (fun h => absurd h (by omega))
    repeat (first | refine wp_s hk rfl rfl ?_ | refine wp_goto hk rfl ?_ | refine wp_geti hk rfl rfl rfl rfl ?_ | refine wp_getr hk rfl rfl rfl rfl ?_)
    exact wp_ir hk rfl rfl kk) (by
    intro s hs ih
    refine wp_icgeN hk rfl rfl hm (by first | omega | decide) (by first | omega | decide) (fun h => absurd h (by omega)) (fun _ => ?_)
    have h16 := firstW_lt (w := w) (parts := parts) (m := m) (s := s) (by omega)
    have h17 : 2 ^ s ≤ 2 ^ 3 := Nat.pow_le_pow_right (by omega) (by omega)
    simp only [firstW] at ih
    repeat (first | refine wp_s hk rfl rfl ?_ | refine wp_goto hk rfl ?_ | refine wp_geti hk rfl rfl rfl rfl ?_ | refine wp_getr hk rfl rfl rfl rfl ?_)
    refine wp_callV hk rfl rfl rfl rfl rfl rfl ?_
    refine m_placeOf H hr hs ?_
    have hpl : placeW w parts m s ≤ 1 + m * 1 := by
      have := sumN_le (f := fun o => if aheadW w o s 0 parts then 1 else 0) (c := 1) (n := m) (fun j _ => by split <;> omega)
      simp only [placeW]; omega
    repeat (first | refine wp_s hk rfl rfl ?_ | refine wp_goto hk rfl ?_ | refine wp_geti hk rfl rfl rfl rfl ?_ | refine wp_getr hk rfl rfl rfl rfl ?_)
    refine wp_icneN (u := placeW w parts m s) (v := 1) hk rfl rfl rfl (by omega) (by omega) (fun h => ?_) (fun h => ?_)
    · rw [if_neg h] at ih
      repeat (first | refine wp_s hk rfl rfl ?_ | refine wp_goto hk rfl ?_ | refine wp_geti hk rfl rfl rfl rfl ?_ | refine wp_getr hk rfl rfl rfl rfl ?_)
      rw [q_nadd s 1, q_or16 _ (by omega) 0 (by omega)]
      exact ih
    · rw [if_pos (by omega)] at ih
      repeat (first | refine wp_s hk rfl rfl ?_ | refine wp_goto hk rfl ?_ | refine wp_geti hk rfl rfl rfl rfl ?_ | refine wp_getr hk rfl rfl rfl rfl ?_)
      rw [q_nadd s 1, q_shl1 s (by omega), q_or16 _ (by omega) _ (by omega)]
      exact ih)
  repeat (first | refine wp_s hk rfl rfl ?_ | refine wp_goto hk rfl ?_ | refine wp_geti hk rfl rfl rfl rfl ?_ | refine wp_getr hk rfl rfl rfl rfl ?_)
  exact loop 0 (Nat.zero_le _)
